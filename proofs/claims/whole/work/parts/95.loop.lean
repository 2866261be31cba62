/-! ===== the law's loop ===== -/
section
variable {I I' : Nat → Nat → Int32} {L L' : Nat → Nat → Int64} {q i : Nat}
variable {F : pm_F} {L0 : Nat} {xs : Nat → Int32}
/-- all is in order, at most q calls made -/
def ST (q : Nat) (I : Nat → Nat → Int32) (L : Nat → Nat → Int64) : Prop := ∃ h n b fa pl C w a sn, GS h n b C w a sn ∧ K1 q h n b fa pl C w a sn I L ∧ K2 h n b fa pl C w a sn I
theorem law_step (hF : pm_fix pt_me pt_Sg (pt_R L0 xs) F) (st : ST i I L) (hi : 6 * i + 6 ≤ L0) (hL : L0 ≤ 3072) {Q : pm_R → Prop} (nx : ∀ I' L', ST (i + 1) I' L' → Q (F 1 18 [some (.ref 203), some (.ref 0), some (.ref 49), some (.int (nI (6*i+6)))] [] (81, pt_G, I', L'))) : Q (F 1 18 [some (.ref 203), some (.ref 0), some (.ref 49), some (.int (nI (6*i)))] [] (81, pt_G, I, L)) := by
  obtain ⟨h, n, b, fa, pl, C, w, a, sn, Z, X, Y⟩ := st
  have hq : i < 1000000 := by omega
  have st0 : ST (i + 1) I L := ⟨h, n, b, fa, pl, C, w, a, sn, Z, X.mono (by omega), Y⟩
  have u0 : nI (6 * i) ≤ (nI L0) - 6 := by
    rw [z_lei, nI_toInt (by omega), show (nI L0 - 6).toInt = (L0 : Int) - (6 : Nat) from pk_sub_toInt (b := 6) (by omega) (by omega)]
    omega
  have u1 : pm_ib (nI (6 * i)) L0 = true := z_ib (by omega) (by omega)
  have a1 : nI (6 * i) + (1 : Int32) = nI (6 * i + 1) := nI_add (6 * i) 1
  have a2 : nI (6 * i) + (2 : Int32) = nI (6 * i + 2) := nI_add (6 * i) 2
  have a3 : nI (6 * i) + (3 : Int32) = nI (6 * i + 3) := nI_add (6 * i) 3
  have a4 : nI (6 * i) + (4 : Int32) = nI (6 * i + 4) := nI_add (6 * i) 4
  have a5 : nI (6 * i) + (5 : Int32) = nI (6 * i + 5) := nI_add (6 * i) 5
  have a6 : nI (6 * i) + (6 : Int32) = nI (6 * i + 6) := nI_add (6 * i) 6
  rw [e1_18 hF, if_pos u0, u1]
  generalize (xs (Int32.toNatClampNeg (nI (6 * i))) &&& 63) = g
  rw [show (∀ A B : pm_R, (bif true then A else B) = A) from fun _ _ => rfl]
  by_cases y : g = nI 0
  · obtain ⟨x, A, K, B, G, h1, h2, st⟩ := s_feed hF Z X Y (xs (6 * i + 1)) (xs (6 * i + 2)) (xs (6 * i + 3)) (xs (6 * i + 4)) (xs (6 * i + 5))
    try dsimp only at h2
    rw [if_pos y, e1_228 hF]
    simp (disch := omega) only [pm_k_i, Option.toList_some, Option.toList_none, List.cons_append, List.nil_append, cond_true, cond_false, ↓reduceIte, reduceCtorEq, z_1, nI_add, z_cl, z_ib, z_lt, z_le, z_eq, z_eq0, z_le0, z_lt0, z_b0, z_b1, z_m1, z_and7, Int32.add_zero, a1, a2, a3, a4, a5, a6, h1, h2, e1_257 hF, e1_286 hF]
    rw [e1_1533 hF, a6]
    exact nx B G st
  rw [if_neg y]
  clear y
  by_cases y : g = nI 1
  · obtain ⟨x, A, K, B, G, h1, h2, st⟩ := s_end hF Z X Y (xs (6 * i + 1))
    try dsimp only at h2
    rw [if_pos y, e1_291 hF]
    simp (disch := omega) only [pm_k_i, Option.toList_some, Option.toList_none, List.cons_append, List.nil_append, cond_true, cond_false, ↓reduceIte, reduceCtorEq, z_1, nI_add, z_cl, z_ib, z_lt, z_le, z_eq, z_eq0, z_le0, z_lt0, z_b0, z_b1, z_m1, z_and7, Int32.add_zero, a1, a2, a3, a4, a5, a6, h1, h2, e1_300 hF, e1_309 hF]
    rw [e1_1533 hF, a6]
    exact nx B G st
  rw [if_neg y]
  clear y
  by_cases y : g = nI 2
  · obtain ⟨x, A, K, B, G, h1, h2, st⟩ := s_house hF Z X Y hq 
    try dsimp only at h2
    rw [if_pos y, e1_314 hF]
    simp (disch := omega) only [pm_k_i, Option.toList_some, Option.toList_none, List.cons_append, List.nil_append, cond_true, cond_false, ↓reduceIte, reduceCtorEq, z_1, nI_add, z_cl, z_ib, z_lt, z_le, z_eq, z_eq0, z_le0, z_lt0, z_b0, z_b1, z_m1, z_and7, Int32.add_zero, a1, a2, a3, a4, a5, a6, h1, h2, e1_318 hF, e1_322 hF]
    rw [e1_1533 hF, a6]
    exact nx B G st
  rw [if_neg y]
  clear y
  by_cases y : g = nI 3
  · obtain ⟨x, A, K, B, G, h1, h2, st⟩ := s_fault hF Z X Y (xs (6 * i + 1))
    try dsimp only at h2
    rw [if_pos y, e1_327 hF]
    simp (disch := omega) only [pm_k_i, Option.toList_some, Option.toList_none, List.cons_append, List.nil_append, cond_true, cond_false, ↓reduceIte, reduceCtorEq, z_1, nI_add, z_cl, z_ib, z_lt, z_le, z_eq, z_eq0, z_le0, z_lt0, z_b0, z_b1, z_m1, z_and7, Int32.add_zero, a1, a2, a3, a4, a5, a6, h1, h2, e1_336 hF, e1_345 hF]
    rw [e1_1533 hF, a6]
    exact nx B G st
  rw [if_neg y]
  clear y
  by_cases y : g = nI 4
  · obtain ⟨x, A, K, B, G, h1, h2, st⟩ := s_party hF Z X Y (xs (6 * i + 1)) (xs (6 * i + 2))
    try dsimp only at h2
    rw [if_pos y, e1_350 hF]
    simp (disch := omega) only [pm_k_i, Option.toList_some, Option.toList_none, List.cons_append, List.nil_append, cond_true, cond_false, ↓reduceIte, reduceCtorEq, z_1, nI_add, z_cl, z_ib, z_lt, z_le, z_eq, z_eq0, z_le0, z_lt0, z_b0, z_b1, z_m1, z_and7, Int32.add_zero, a1, a2, a3, a4, a5, a6, h1, h2, e1_364 hF, e1_378 hF]
    rw [e1_1533 hF, a6]
    exact nx B G st
  rw [if_neg y]
  clear y
  by_cases y : g = nI 5
  · obtain ⟨x, A, K, B, G, h1, h2, st⟩ := s_worth hF Z X Y (xs (6 * i + 1)) (xs (6 * i + 2))
    try dsimp only at h2
    rw [if_pos y, e1_383 hF]
    simp (disch := omega) only [pm_k_i, Option.toList_some, Option.toList_none, List.cons_append, List.nil_append, cond_true, cond_false, ↓reduceIte, reduceCtorEq, z_1, nI_add, z_cl, z_ib, z_lt, z_le, z_eq, z_eq0, z_le0, z_lt0, z_b0, z_b1, z_m1, z_and7, Int32.add_zero, a1, a2, a3, a4, a5, a6, h1, h2, e1_397 hF, e1_411 hF]
    rw [e1_1533 hF, a6]
    exact nx B G st
  rw [if_neg y]
  clear y
  by_cases y : g = nI 6
  · obtain ⟨x, A, K, B, G, h1, h2, st⟩ := s_about hF Z X Y (xs (6 * i + 1))
    try dsimp only at h2
    rw [if_pos y, e1_416 hF]
    simp (disch := omega) only [pm_k_i, Option.toList_some, Option.toList_none, List.cons_append, List.nil_append, cond_true, cond_false, ↓reduceIte, reduceCtorEq, z_1, nI_add, z_cl, z_ib, z_lt, z_le, z_eq, z_eq0, z_le0, z_lt0, z_b0, z_b1, z_m1, z_and7, Int32.add_zero, a1, a2, a3, a4, a5, a6, h1, h2, e1_425 hF, e1_434 hF]
    rw [e1_1533 hF, a6]
    exact nx B G st
  rw [if_neg y]
  clear y
  by_cases y : g = nI 7
  · obtain ⟨x, A, K, B, G, h1, h2, st⟩ := s_turn hF Z X Y (xs (6 * i + 1)) (xs (6 * i + 2))
    try dsimp only at h2
    rw [if_pos y, e1_439 hF]
    simp (disch := omega) only [pm_k_i, Option.toList_some, Option.toList_none, List.cons_append, List.nil_append, cond_true, cond_false, ↓reduceIte, reduceCtorEq, z_1, nI_add, z_cl, z_ib, z_lt, z_le, z_eq, z_eq0, z_le0, z_lt0, z_b0, z_b1, z_m1, z_and7, Int32.add_zero, a1, a2, a3, a4, a5, a6, h1, h2, e1_453 hF, e1_467 hF]
    rw [e1_1533 hF, a6]
    exact nx B G st
  rw [if_neg y]
  clear y
  by_cases y : g = nI 8
  · obtain ⟨x, A, K, B, G, h1, h2, st⟩ := s_turnBy hF Z X Y (xs (6 * i + 1)) (xs (6 * i + 2)) (xs (6 * i + 3)) (xs (6 * i + 4))
    try dsimp only at h2
    rw [if_pos y, e1_472 hF]
    simp (disch := omega) only [pm_k_i, Option.toList_some, Option.toList_none, List.cons_append, List.nil_append, cond_true, cond_false, ↓reduceIte, reduceCtorEq, z_1, nI_add, z_cl, z_ib, z_lt, z_le, z_eq, z_eq0, z_le0, z_lt0, z_b0, z_b1, z_m1, z_and7, Int32.add_zero, a1, a2, a3, a4, a5, a6, h1, h2, e1_496 hF, e1_520 hF]
    rw [e1_1533 hF, a6]
    exact nx B G st
  rw [if_neg y]
  clear y
  by_cases y : g = nI 9
  · obtain ⟨x, A, K, B, G, h1, h2, st⟩ := s_gets hF Z X Y (xs (6 * i + 1)) (xs (6 * i + 2)) (xs (6 * i + 3))
    try dsimp only at h2
    rw [if_pos y, e1_525 hF]
    simp (disch := omega) only [pm_k_i, Option.toList_some, Option.toList_none, List.cons_append, List.nil_append, cond_true, cond_false, ↓reduceIte, reduceCtorEq, z_1, nI_add, z_cl, z_ib, z_lt, z_le, z_eq, z_eq0, z_le0, z_lt0, z_b0, z_b1, z_m1, z_and7, Int32.add_zero, a1, a2, a3, a4, a5, a6, h1, h2, e1_544 hF, e1_563 hF]
    rw [e1_1533 hF, a6]
    exact nx B G st
  rw [if_neg y]
  clear y
  by_cases y : g = nI 10
  · obtain ⟨x, A, K, B, G, h1, h2, st⟩ := s_has hF Z X Y (xs (6 * i + 1)) (xs (6 * i + 2)) (xs (6 * i + 3))
    try dsimp only at h2
    rw [if_pos y, e1_568 hF]
    simp (disch := omega) only [pm_k_i, Option.toList_some, Option.toList_none, List.cons_append, List.nil_append, cond_true, cond_false, ↓reduceIte, reduceCtorEq, z_1, nI_add, z_cl, z_ib, z_lt, z_le, z_eq, z_eq0, z_le0, z_lt0, z_b0, z_b1, z_m1, z_and7, Int32.add_zero, a1, a2, a3, a4, a5, a6, h1, h2, e1_587 hF, e1_606 hF]
    rw [e1_1533 hF, a6]
    exact nx B G st
  rw [if_neg y]
  clear y
  by_cases y : g = nI 11
  · obtain ⟨x, A, K, B, G, h1, h2, st⟩ := s_swaps hF Z X Y (xs (6 * i + 1))
    try dsimp only at h2
    rw [if_pos y, e1_611 hF]
    simp (disch := omega) only [pm_k_i, Option.toList_some, Option.toList_none, List.cons_append, List.nil_append, cond_true, cond_false, ↓reduceIte, reduceCtorEq, z_1, nI_add, z_cl, z_ib, z_lt, z_le, z_eq, z_eq0, z_le0, z_lt0, z_b0, z_b1, z_m1, z_and7, Int32.add_zero, a1, a2, a3, a4, a5, a6, h1, h2, e1_620 hF, e1_629 hF]
    rw [e1_1533 hF, a6]
    exact nx B G st
  rw [if_neg y]
  clear y
  by_cases y : g = nI 12
  · obtain ⟨x, A, K, B, G, h1, h2, st⟩ := s_instead hF Z X Y (xs (6 * i + 1)) (xs (6 * i + 2)) (xs (6 * i + 3))
    try dsimp only at h2
    rw [if_pos y, e1_634 hF]
    simp (disch := omega) only [pm_k_i, Option.toList_some, Option.toList_none, List.cons_append, List.nil_append, cond_true, cond_false, ↓reduceIte, reduceCtorEq, z_1, nI_add, z_cl, z_ib, z_lt, z_le, z_eq, z_eq0, z_le0, z_lt0, z_b0, z_b1, z_m1, z_and7, Int32.add_zero, a1, a2, a3, a4, a5, a6, h1, h2, e1_653 hF, e1_672 hF]
    rw [e1_1533 hF, a6]
    exact nx B G st
  rw [if_neg y]
  clear y
  by_cases y : g = nI 13
  · obtain ⟨x, A, K, B, G, h1, h2, st⟩ := s_middle hF Z X Y (xs (6 * i + 1))
    try dsimp only at h2
    rw [if_pos y, e1_677 hF]
    simp (disch := omega) only [pm_k_i, Option.toList_some, Option.toList_none, List.cons_append, List.nil_append, cond_true, cond_false, ↓reduceIte, reduceCtorEq, z_1, nI_add, z_cl, z_ib, z_lt, z_le, z_eq, z_eq0, z_le0, z_lt0, z_b0, z_b1, z_m1, z_and7, Int32.add_zero, a1, a2, a3, a4, a5, a6, h1, h2, e1_686 hF, e1_695 hF]
    rw [e1_1533 hF, a6]
    exact nx B G st
  rw [if_neg y]
  clear y
  by_cases y : g = nI 14
  · obtain ⟨x, A, K, B, G, h1, h2, st⟩ := s_pay hF Z X Y (xs (6 * i + 1)) (xs (6 * i + 2))
    try dsimp only at h2
    rw [if_pos y, e1_700 hF]
    simp (disch := omega) only [pm_k_i, Option.toList_some, Option.toList_none, List.cons_append, List.nil_append, cond_true, cond_false, ↓reduceIte, reduceCtorEq, z_1, nI_add, z_cl, z_ib, z_lt, z_le, z_eq, z_eq0, z_le0, z_lt0, z_b0, z_b1, z_m1, z_and7, Int32.add_zero, a1, a2, a3, a4, a5, a6, h1, h2, e1_714 hF, e1_728 hF]
    rw [e1_1533 hF, a6]
    exact nx B G st
  rw [if_neg y]
  clear y
  by_cases y : g = nI 15
  · obtain ⟨x, A, K, B, G, h1, h2, st⟩ := s_policy hF Z X Y (xs (6 * i + 1)) (xs (6 * i + 2)) (xs (6 * i + 3))
    try dsimp only at h2
    rw [if_pos y, e1_733 hF]
    simp (disch := omega) only [pm_k_i, Option.toList_some, Option.toList_none, List.cons_append, List.nil_append, cond_true, cond_false, ↓reduceIte, reduceCtorEq, z_1, nI_add, z_cl, z_ib, z_lt, z_le, z_eq, z_eq0, z_le0, z_lt0, z_b0, z_b1, z_m1, z_and7, Int32.add_zero, a1, a2, a3, a4, a5, a6, h1, h2, e1_752 hF, e1_771 hF]
    rw [e1_1533 hF, a6]
    exact nx B G st
  rw [if_neg y]
  clear y
  by_cases y : g = nI 16
  · obtain ⟨x, A, K, B, G, h1, h2, st⟩ := s_grief hF Z X Y (xs (6 * i + 1)) (xs (6 * i + 2)) (xs (6 * i + 3))
    try dsimp only at h2
    rw [if_pos y, e1_776 hF]
    simp (disch := omega) only [pm_k_i, Option.toList_some, Option.toList_none, List.cons_append, List.nil_append, cond_true, cond_false, ↓reduceIte, reduceCtorEq, z_1, nI_add, z_cl, z_ib, z_lt, z_le, z_eq, z_eq0, z_le0, z_lt0, z_b0, z_b1, z_m1, z_and7, Int32.add_zero, a1, a2, a3, a4, a5, a6, h1, h2, e1_795 hF, e1_814 hF]
    rw [e1_1533 hF, a6]
    exact nx B G st
  rw [if_neg y]
  clear y
  by_cases y : g = nI 17
  · obtain ⟨x, A, K, B, G, h1, h2, st⟩ := s_envy hF Z X Y (xs (6 * i + 1)) (xs (6 * i + 2))
    try dsimp only at h2
    rw [if_pos y, e1_819 hF]
    simp (disch := omega) only [pm_k_i, Option.toList_some, Option.toList_none, List.cons_append, List.nil_append, cond_true, cond_false, ↓reduceIte, reduceCtorEq, z_1, nI_add, z_cl, z_ib, z_lt, z_le, z_eq, z_eq0, z_le0, z_lt0, z_b0, z_b1, z_m1, z_and7, Int32.add_zero, a1, a2, a3, a4, a5, a6, h1, h2, e1_833 hF, e1_847 hF]
    rw [e1_1533 hF, a6]
    exact nx B G st
  rw [if_neg y]
  clear y
  by_cases y : g = nI 18
  · obtain ⟨x, A, K, B, G, h1, h2, st⟩ := s_kept hF Z X Y (xs (6 * i + 1)) (xs (6 * i + 2))
    try dsimp only at h2
    rw [if_pos y, e1_852 hF]
    simp (disch := omega) only [pm_k_i, Option.toList_some, Option.toList_none, List.cons_append, List.nil_append, cond_true, cond_false, ↓reduceIte, reduceCtorEq, z_1, nI_add, z_cl, z_ib, z_lt, z_le, z_eq, z_eq0, z_le0, z_lt0, z_b0, z_b1, z_m1, z_and7, Int32.add_zero, a1, a2, a3, a4, a5, a6, h1, h2, e1_866 hF, e1_880 hF]
    rw [e1_1533 hF, a6]
    exact nx B G st
  rw [if_neg y]
  clear y
  by_cases y : g = nI 19
  · obtain ⟨x, A, K, B, G, h1, h2, st⟩ := s_kind hF Z X Y (xs (6 * i + 1))
    try dsimp only at h2
    rw [if_pos y, e1_885 hF]
    simp (disch := omega) only [pm_k_i, Option.toList_some, Option.toList_none, List.cons_append, List.nil_append, cond_true, cond_false, ↓reduceIte, reduceCtorEq, z_1, nI_add, z_cl, z_ib, z_lt, z_le, z_eq, z_eq0, z_le0, z_lt0, z_b0, z_b1, z_m1, z_and7, Int32.add_zero, a1, a2, a3, a4, a5, a6, h1, h2, e1_894 hF, e1_903 hF]
    rw [e1_1533 hF, a6]
    exact nx B G st
  rw [if_neg y]
  clear y
  by_cases y : g = nI 20
  · obtain ⟨x, A, K, B, G, h1, h2, st⟩ := s_many hF Z X Y (xs (6 * i + 1))
    try dsimp only at h2
    rw [if_pos y, e1_908 hF]
    simp (disch := omega) only [pm_k_i, Option.toList_some, Option.toList_none, List.cons_append, List.nil_append, cond_true, cond_false, ↓reduceIte, reduceCtorEq, z_1, nI_add, z_cl, z_ib, z_lt, z_le, z_eq, z_eq0, z_le0, z_lt0, z_b0, z_b1, z_m1, z_and7, Int32.add_zero, a1, a2, a3, a4, a5, a6, h1, h2, e1_917 hF, e1_926 hF]
    rw [e1_1533 hF, a6]
    exact nx B G st
  rw [if_neg y]
  clear y
  by_cases y : g = nI 21
  · obtain ⟨x, A, K, B, G, h1, h2, st⟩ := s_nth hF Z X Y (xs (6 * i + 1)) (xs (6 * i + 2))
    try dsimp only at h2
    rw [if_pos y, e1_931 hF]
    simp (disch := omega) only [pm_k_i, Option.toList_some, Option.toList_none, List.cons_append, List.nil_append, cond_true, cond_false, ↓reduceIte, reduceCtorEq, z_1, nI_add, z_cl, z_ib, z_lt, z_le, z_eq, z_eq0, z_le0, z_lt0, z_b0, z_b1, z_m1, z_and7, Int32.add_zero, a1, a2, a3, a4, a5, a6, h1, h2, e1_945 hF, e1_959 hF]
    rw [e1_1533 hF, a6]
    exact nx B G st
  rw [if_neg y]
  clear y
  by_cases y : g = nI 22
  · obtain ⟨x, A, K, B, G, h1, h2, st⟩ := s_rival hF Z X Y (xs (6 * i + 1))
    try dsimp only at h2
    rw [if_pos y, e1_964 hF]
    simp (disch := omega) only [pm_k_i, Option.toList_some, Option.toList_none, List.cons_append, List.nil_append, cond_true, cond_false, ↓reduceIte, reduceCtorEq, z_1, nI_add, z_cl, z_ib, z_lt, z_le, z_eq, z_eq0, z_le0, z_lt0, z_b0, z_b1, z_m1, z_and7, Int32.add_zero, a1, a2, a3, a4, a5, a6, h1, h2, e1_973 hF, e1_982 hF]
    rw [e1_1533 hF, a6]
    exact nx B G st
  rw [if_neg y]
  clear y
  by_cases y : g = nI 23
  · obtain ⟨x, A, K, B, G, h1, h2, st⟩ := s_beats hF Z X Y (xs (6 * i + 1)) (xs (6 * i + 2))
    try dsimp only at h2
    rw [if_pos y, e1_987 hF]
    simp (disch := omega) only [pm_k_i, Option.toList_some, Option.toList_none, List.cons_append, List.nil_append, cond_true, cond_false, ↓reduceIte, reduceCtorEq, z_1, nI_add, z_cl, z_ib, z_lt, z_le, z_eq, z_eq0, z_le0, z_lt0, z_b0, z_b1, z_m1, z_and7, Int32.add_zero, a1, a2, a3, a4, a5, a6, h1, h2, e1_1001 hF, e1_1015 hF]
    rw [e1_1533 hF, a6]
    exact nx B G st
  rw [if_neg y]
  clear y
  by_cases y : g = nI 24
  · obtain ⟨x, A, K, B, G, h1, h2, st⟩ := s_unbeaten hF Z X Y (xs (6 * i + 1))
    try dsimp only at h2
    rw [if_pos y, e1_1020 hF]
    simp (disch := omega) only [pm_k_i, Option.toList_some, Option.toList_none, List.cons_append, List.nil_append, cond_true, cond_false, ↓reduceIte, reduceCtorEq, z_1, nI_add, z_cl, z_ib, z_lt, z_le, z_eq, z_eq0, z_le0, z_lt0, z_b0, z_b1, z_m1, z_and7, Int32.add_zero, a1, a2, a3, a4, a5, a6, h1, h2, e1_1029 hF, e1_1038 hF]
    rw [e1_1533 hF, a6]
    exact nx B G st
  rw [if_neg y]
  clear y
  by_cases y : g = nI 25
  · obtain ⟨x, A, K, B, G, h1, h2, st⟩ := s_enough hF Z X Y (xs (6 * i + 1)) (xs (6 * i + 2))
    try dsimp only at h2
    rw [if_pos y, e1_1043 hF]
    simp (disch := omega) only [pm_k_i, Option.toList_some, Option.toList_none, List.cons_append, List.nil_append, cond_true, cond_false, ↓reduceIte, reduceCtorEq, z_1, nI_add, z_cl, z_ib, z_lt, z_le, z_eq, z_eq0, z_le0, z_lt0, z_b0, z_b1, z_m1, z_and7, Int32.add_zero, a1, a2, a3, a4, a5, a6, h1, h2, e1_1057 hF, e1_1071 hF]
    rw [e1_1533 hF, a6]
    exact nx B G st
  rw [if_neg y]
  clear y
  by_cases y : g = nI 26
  · obtain ⟨x, A, K, B, G, h1, h2, st⟩ := s_span hF Z X Y (xs (6 * i + 1))
    try dsimp only at h2
    rw [if_pos y, e1_1076 hF]
    simp (disch := omega) only [pm_k_i, Option.toList_some, Option.toList_none, List.cons_append, List.nil_append, cond_true, cond_false, ↓reduceIte, reduceCtorEq, z_1, nI_add, z_cl, z_ib, z_lt, z_le, z_eq, z_eq0, z_le0, z_lt0, z_b0, z_b1, z_m1, z_and7, Int32.add_zero, a1, a2, a3, a4, a5, a6, h1, h2, e1_1085 hF, e1_1094 hF]
    rw [e1_1533 hF, a6]
    exact nx B G st
  rw [if_neg y]
  clear y
  by_cases y : g = nI 27
  · obtain ⟨x, A, K, B, G, h1, h2, st⟩ := s_median hF Z X Y 
    try dsimp only at h2
    rw [if_pos y, e1_1099 hF]
    simp (disch := omega) only [pm_k_i, Option.toList_some, Option.toList_none, List.cons_append, List.nil_append, cond_true, cond_false, ↓reduceIte, reduceCtorEq, z_1, nI_add, z_cl, z_ib, z_lt, z_le, z_eq, z_eq0, z_le0, z_lt0, z_b0, z_b1, z_m1, z_and7, Int32.add_zero, a1, a2, a3, a4, a5, a6, h1, h2, e1_1103 hF, e1_1107 hF]
    rw [e1_1533 hF, a6]
    exact nx B G st
  rw [if_neg y]
  clear y
  by_cases y : g = nI 28
  · obtain ⟨x, A, K, B, G, h1, h2, st⟩ := s_needed hF Z X Y (xs (6 * i + 1))
    try dsimp only at h2
    rw [if_pos y, e1_1112 hF]
    simp (disch := omega) only [pm_k_i, Option.toList_some, Option.toList_none, List.cons_append, List.nil_append, cond_true, cond_false, ↓reduceIte, reduceCtorEq, z_1, nI_add, z_cl, z_ib, z_lt, z_le, z_eq, z_eq0, z_le0, z_lt0, z_b0, z_b1, z_m1, z_and7, Int32.add_zero, a1, a2, a3, a4, a5, a6, h1, h2, e1_1121 hF, e1_1130 hF]
    rw [e1_1533 hF, a6]
    exact nx B G st
  rw [if_neg y]
  clear y
  by_cases y : g = nI 29
  · obtain ⟨x, A, K, B, G, h1, h2, st⟩ := s_pivot hF Z X Y (xs (6 * i + 1))
    try dsimp only at h2
    rw [if_pos y, e1_1135 hF]
    simp (disch := omega) only [pm_k_i, Option.toList_some, Option.toList_none, List.cons_append, List.nil_append, cond_true, cond_false, ↓reduceIte, reduceCtorEq, z_1, nI_add, z_cl, z_ib, z_lt, z_le, z_eq, z_eq0, z_le0, z_lt0, z_b0, z_b1, z_m1, z_and7, Int32.add_zero, a1, a2, a3, a4, a5, a6, h1, h2, e1_1144 hF, e1_1153 hF]
    rw [e1_1533 hF, a6]
    exact nx B G st
  rw [if_neg y]
  clear y
  by_cases y : g = nI 30
  · obtain ⟨x, A, K, B, G, h1, h2, st⟩ := s_joins hF Z X Y (xs (6 * i + 1))
    try dsimp only at h2
    rw [if_pos y, e1_1158 hF]
    simp (disch := omega) only [pm_k_i, Option.toList_some, Option.toList_none, List.cons_append, List.nil_append, cond_true, cond_false, ↓reduceIte, reduceCtorEq, z_1, nI_add, z_cl, z_ib, z_lt, z_le, z_eq, z_eq0, z_le0, z_lt0, z_b0, z_b1, z_m1, z_and7, Int32.add_zero, a1, a2, a3, a4, a5, a6, h1, h2, e1_1167 hF, e1_1176 hF]
    rw [e1_1533 hF, a6]
    exact nx B G st
  rw [if_neg y]
  clear y
  by_cases y : g = nI 31
  · obtain ⟨x, A, K, B, G, h1, h2, st⟩ := s_dream hF Z X Y (xs (6 * i + 1))
    try dsimp only at h2
    rw [if_pos y, e1_1181 hF]
    simp (disch := omega) only [pm_k_i, Option.toList_some, Option.toList_none, List.cons_append, List.nil_append, cond_true, cond_false, ↓reduceIte, reduceCtorEq, z_1, nI_add, z_cl, z_ib, z_lt, z_le, z_eq, z_eq0, z_le0, z_lt0, z_b0, z_b1, z_m1, z_and7, Int32.add_zero, a1, a2, a3, a4, a5, a6, h1, h2, e1_1190 hF, e1_1199 hF]
    rw [e1_1533 hF, a6]
    exact nx B G st
  rw [if_neg y]
  clear y
  by_cases y : g = nI 32
  · obtain ⟨x, A, K, B, G, h1, h2, st⟩ := s_drift hF Z X Y (xs (6 * i + 1)) (xs (6 * i + 2))
    try dsimp only at h2
    rw [if_pos y, e1_1204 hF]
    simp (disch := omega) only [pm_k_i, Option.toList_some, Option.toList_none, List.cons_append, List.nil_append, cond_true, cond_false, ↓reduceIte, reduceCtorEq, z_1, nI_add, z_cl, z_ib, z_lt, z_le, z_eq, z_eq0, z_le0, z_lt0, z_b0, z_b1, z_m1, z_and7, Int32.add_zero, a1, a2, a3, a4, a5, a6, h1, h2, e1_1218 hF, e1_1232 hF]
    rw [e1_1533 hF, a6]
    exact nx B G st
  rw [if_neg y]
  clear y
  by_cases y : g = nI 33
  · obtain ⟨x, A, K, B, G, h1, h2, st⟩ := s_formed hF Z X Y (xs (6 * i + 1))
    try dsimp only at h2
    rw [if_pos y, e1_1237 hF]
    simp (disch := omega) only [pm_k_i, Option.toList_some, Option.toList_none, List.cons_append, List.nil_append, cond_true, cond_false, ↓reduceIte, reduceCtorEq, z_1, nI_add, z_cl, z_ib, z_lt, z_le, z_eq, z_eq0, z_le0, z_lt0, z_b0, z_b1, z_m1, z_and7, Int32.add_zero, a1, a2, a3, a4, a5, a6, h1, h2, e1_1246 hF, e1_1255 hF]
    rw [e1_1533 hF, a6]
    exact nx B G st
  rw [if_neg y]
  clear y
  by_cases y : g = nI 34
  · obtain ⟨x, A, K, B, G, h1, h2, st⟩ := s_tried hF Z X Y (xs (6 * i + 1)) (xs (6 * i + 2))
    try dsimp only at h2
    rw [if_pos y, e1_1260 hF]
    simp (disch := omega) only [pm_k_i, Option.toList_some, Option.toList_none, List.cons_append, List.nil_append, cond_true, cond_false, ↓reduceIte, reduceCtorEq, z_1, nI_add, z_cl, z_ib, z_lt, z_le, z_eq, z_eq0, z_le0, z_lt0, z_b0, z_b1, z_m1, z_and7, Int32.add_zero, a1, a2, a3, a4, a5, a6, h1, h2, e1_1274 hF, e1_1288 hF]
    rw [e1_1533 hF, a6]
    exact nx B G st
  rw [if_neg y]
  clear y
  by_cases y : g = nI 35
  · obtain ⟨x, A, K, B, G, h1, h2, st⟩ := s_hold hF Z X Y (xs (6 * i + 1)) (xs (6 * i + 2))
    try dsimp only at h2
    rw [if_pos y, e1_1293 hF]
    simp (disch := omega) only [pm_k_i, Option.toList_some, Option.toList_none, List.cons_append, List.nil_append, cond_true, cond_false, ↓reduceIte, reduceCtorEq, z_1, nI_add, z_cl, z_ib, z_lt, z_le, z_eq, z_eq0, z_le0, z_lt0, z_b0, z_b1, z_m1, z_and7, Int32.add_zero, a1, a2, a3, a4, a5, a6, h1, h2, e1_1307 hF, e1_1321 hF]
    rw [e1_1533 hF, a6]
    exact nx B G st
  rw [if_neg y]
  clear y
  by_cases y : g = nI 36
  · obtain ⟨x, A, K, B, G, h1, h2, st⟩ := s_now hF Z X Y (xs (6 * i + 1))
    try dsimp only at h2
    rw [if_pos y, e1_1326 hF]
    simp (disch := omega) only [pm_k_i, Option.toList_some, Option.toList_none, List.cons_append, List.nil_append, cond_true, cond_false, ↓reduceIte, reduceCtorEq, z_1, nI_add, z_cl, z_ib, z_lt, z_le, z_eq, z_eq0, z_le0, z_lt0, z_b0, z_b1, z_m1, z_and7, Int32.add_zero, a1, a2, a3, a4, a5, a6, h1, h2, e1_1335 hF, e1_1344 hF]
    rw [e1_1533 hF, a6]
    exact nx B G st
  rw [if_neg y]
  clear y
  by_cases y : g = nI 37
  · obtain ⟨x, A, K, B, G, h1, h2, st⟩ := s_leave hF Z X Y (xs (6 * i + 1))
    try dsimp only at h2
    rw [if_pos y, e1_1349 hF]
    simp (disch := omega) only [pm_k_i, Option.toList_some, Option.toList_none, List.cons_append, List.nil_append, cond_true, cond_false, ↓reduceIte, reduceCtorEq, z_1, nI_add, z_cl, z_ib, z_lt, z_le, z_eq, z_eq0, z_le0, z_lt0, z_b0, z_b1, z_m1, z_and7, Int32.add_zero, a1, a2, a3, a4, a5, a6, h1, h2, e1_1358 hF, e1_1367 hF]
    rw [e1_1533 hF, a6]
    exact nx B G st
  rw [if_neg y]
  clear y
  by_cases y : g = nI 38
  · obtain ⟨x, A, K, B, G, h1, h2, st⟩ := s_payNow hF Z X Y (xs (6 * i + 1))
    try dsimp only at h2
    rw [if_pos y, e1_1372 hF]
    simp (disch := omega) only [pm_k_i, Option.toList_some, Option.toList_none, List.cons_append, List.nil_append, cond_true, cond_false, ↓reduceIte, reduceCtorEq, z_1, nI_add, z_cl, z_ib, z_lt, z_le, z_eq, z_eq0, z_le0, z_lt0, z_b0, z_b1, z_m1, z_and7, Int32.add_zero, a1, a2, a3, a4, a5, a6, h1, h2, e1_1381 hF, e1_1390 hF]
    rw [e1_1533 hF, a6]
    exact nx B G st
  rw [if_neg y]
  clear y
  by_cases y : g = nI 39
  · obtain ⟨x, A, K, B, G, h1, h2, st⟩ := s_crisis hF Z X Y 
    try dsimp only at h2
    rw [if_pos y, e1_1395 hF]
    simp (disch := omega) only [pm_k_i, Option.toList_some, Option.toList_none, List.cons_append, List.nil_append, cond_true, cond_false, ↓reduceIte, reduceCtorEq, z_1, nI_add, z_cl, z_ib, z_lt, z_le, z_eq, z_eq0, z_le0, z_lt0, z_b0, z_b1, z_m1, z_and7, Int32.add_zero, a1, a2, a3, a4, a5, a6, h1, h2, e1_1399 hF, e1_1403 hF]
    rw [e1_1533 hF, a6]
    exact nx B G st
  rw [if_neg y]
  clear y
  by_cases y : g = nI 40
  · obtain ⟨x, A, K, B, G, h1, h2, st⟩ := s_trade hF Z X Y (xs (6 * i + 1)) (xs (6 * i + 2))
    try dsimp only at h2
    rw [if_pos y, e1_1408 hF]
    simp (disch := omega) only [pm_k_i, Option.toList_some, Option.toList_none, List.cons_append, List.nil_append, cond_true, cond_false, ↓reduceIte, reduceCtorEq, z_1, nI_add, z_cl, z_ib, z_lt, z_le, z_eq, z_eq0, z_le0, z_lt0, z_b0, z_b1, z_m1, z_and7, Int32.add_zero, a1, a2, a3, a4, a5, a6, h1, h2, e1_1422 hF, e1_1436 hF]
    rw [e1_1533 hF, a6]
    exact nx B G st
  rw [if_neg y]
  clear y
  by_cases y : g = nI 41
  · obtain ⟨x, A, K, B, G, h1, h2, st⟩ := s_seats hF Z X Y hq (xs (6 * i + 1)) (xs (6 * i + 2))
    try dsimp only at h2
    rw [if_pos y, e1_1441 hF]
    simp (disch := omega) only [pm_k_i, Option.toList_some, Option.toList_none, List.cons_append, List.nil_append, cond_true, cond_false, ↓reduceIte, reduceCtorEq, z_1, nI_add, z_cl, z_ib, z_lt, z_le, z_eq, z_eq0, z_le0, z_lt0, z_b0, z_b1, z_m1, z_and7, Int32.add_zero, a1, a2, a3, a4, a5, a6, h1, h2, e1_1455 hF, e1_1469 hF]
    rw [e1_1533 hF, a6]
    exact nx B G st
  rw [if_neg y]
  clear y
  by_cases y : g = nI 42
  · obtain ⟨x, A, K, B, G, h1, h2, st⟩ := s_above hF Z X Y 
    try dsimp only at h2
    rw [if_pos y, e1_1474 hF]
    simp (disch := omega) only [pm_k_i, Option.toList_some, Option.toList_none, List.cons_append, List.nil_append, cond_true, cond_false, ↓reduceIte, reduceCtorEq, z_1, nI_add, z_cl, z_ib, z_lt, z_le, z_eq, z_eq0, z_le0, z_lt0, z_b0, z_b1, z_m1, z_and7, Int32.add_zero, a1, a2, a3, a4, a5, a6, h1, h2, e1_1478 hF, e1_1482 hF]
    rw [e1_1533 hF, a6]
    exact nx B G st
  rw [if_neg y]
  clear y
  by_cases y : g = nI 43
  · obtain ⟨x, A, K, B, G, h1, h2, st⟩ := s_undo hF Z X Y hq 
    try dsimp only at h2
    rw [if_pos y, e1_1487 hF]
    simp (disch := omega) only [pm_k_i, Option.toList_some, Option.toList_none, List.cons_append, List.nil_append, cond_true, cond_false, ↓reduceIte, reduceCtorEq, z_1, nI_add, z_cl, z_ib, z_lt, z_le, z_eq, z_eq0, z_le0, z_lt0, z_b0, z_b1, z_m1, z_and7, Int32.add_zero, a1, a2, a3, a4, a5, a6, h1, h2, e1_1491 hF, e1_1495 hF]
    rw [e1_1533 hF, a6]
    exact nx B G st
  rw [if_neg y]
  clear y
  by_cases y : g = nI 44
  · obtain ⟨x, A, K, B, G, h1, h2, st⟩ := s_judge hF Z X Y (xs (6 * i + 1)) (xs (6 * i + 2))
    try dsimp only at h2
    rw [if_pos y, e1_1500 hF]
    simp (disch := omega) only [pm_k_i, Option.toList_some, Option.toList_none, List.cons_append, List.nil_append, cond_true, cond_false, ↓reduceIte, reduceCtorEq, z_1, nI_add, z_cl, z_ib, z_lt, z_le, z_eq, z_eq0, z_le0, z_lt0, z_b0, z_b1, z_m1, z_and7, Int32.add_zero, a1, a2, a3, a4, a5, a6, h1, h2, e1_1514 hF, e1_1528 hF]
    rw [e1_1533 hF, a6]
    exact nx B G st
  rw [if_neg y]
  clear y
  rw [e1_1533 hF, a6]
  exact nx I L st0
theorem law_loop (hF : pm_fix pt_me pt_Sg (pt_R L0 xs) F) (hL : L0 ≤ 3072) : ∀ d i I L, d + i = L0 / 6 → ST i I L → ∃ I' L', (F 1 18 [some (.ref 203), some (.ref 0), some (.ref 49), some (.int (nI (6*i)))] [] (81, pt_G, I, L)) = some (some (.int 1), (81, pt_G, I', L')) := by
  intro d
  induction d with
  | zero =>
    intro i I L hd st
    refine ⟨I, L, ?_⟩
    rw [e1_18 hF, if_neg]
    rw [z_lei, nI_toInt (by omega), show (nI L0 - 6).toInt = (L0 : Int) - (6 : Nat) from pk_sub_toInt (b := 6) (by omega) (by omega)]
    omega
  | succ d ih =>
    intro i I L hd st
    exact law_step (Q := fun r => ∃ I' L', r = some (some (.int 1), (81, pt_G, I', L'))) hF st (by omega) hL (fun I' L' s => ih (i + 1) I' L' (by omega) s)
end
