/-! ===== the law's loop ===== -/
section
variable {I I' : Nat → Nat → Int32} {L L' : Nat → Nat → Int64} {q i : Nat}
variable {F : pm_F} {L0 : Nat} {xs : Nat → Int32}
/-- all is in order, at most q calls made -/
def ST (q : Nat) (I : Nat → Nat → Int32) (L : Nat → Nat → Int64) : Prop := ∃ h n b fa pl C w a sn, GS h n b C w a sn ∧ K1 q h n b fa pl C w a sn I L ∧ K2 h n b fa pl C w a sn I
theorem law_step (hF : pm_fix pt_me pt_Sg (pt_R L0 xs) F) (st : ST i I L) (hi : 6 * i + 6 ≤ L0) (hL : L0 ≤ 3072) {Q : pm_R → Prop} (nx : ∀ I' L', ST (i + 1) I' L' → Q (F 1 18 [some (.ref 203), some (.ref 0), some (.ref 49), some (.int (nI (6*i+6)))] [] (81, pt_G, I', L'))) : Q (F 1 18 [some (.ref 203), some (.ref 0), some (.ref 49), some (.int (nI (6*i)))] [] (81, pt_G, I, L)) := by
  obtain ⟨h, n, b, fa, pl, C, w, a, sn, Z, X, Y⟩ := st
  have hq : i < 1000000 := by omega
  have st0 : ST (i + 1) I L := ⟨h, n, b, fa, pl, C, w, a, sn, Z, X.mono (by omega), Y⟩
  have u0 : nI (6 * i) ≤ (nI L0) - 6 := by
    rw [z_lei, nI_toInt (by omega), show (nI L0 - 6).toInt = (L0 : Int) - (6 : Nat) from pk_sub_toInt (b := 6) (by omega) (by omega)]
    omega
  have u1 : pm_ib (nI (6 * i)) L0 = true := z_ib (by omega) (by omega)
  have a1 : nI (6 * i) + (1 : Int32) = nI (6 * i + 1) := nI_add (6 * i) 1
  have a2 : nI (6 * i) + (2 : Int32) = nI (6 * i + 2) := nI_add (6 * i) 2
  have a3 : nI (6 * i) + (3 : Int32) = nI (6 * i + 3) := nI_add (6 * i) 3
  have a4 : nI (6 * i) + (4 : Int32) = nI (6 * i + 4) := nI_add (6 * i) 4
  have a5 : nI (6 * i) + (5 : Int32) = nI (6 * i + 5) := nI_add (6 * i) 5
  have a6 : nI (6 * i) + (6 : Int32) = nI (6 * i + 6) := nI_add (6 * i) 6
  rw [e1_18 hF, if_pos u0, u1]
  generalize (xs (Int32.toNatClampNeg (nI (6 * i))) &&& 63) = g
  rw [show (∀ A B : pm_R, (bif true then A else B) = A) from fun _ _ => rfl]
  by_cases y : g = nI 0
  · obtain ⟨x, A, K, B, G, h1, h2, st⟩ := s_feed hF Z X Y (xs (6 * i + 1)) (xs (6 * i + 2)) (xs (6 * i + 3)) (xs (6 * i + 4)) (xs (6 * i + 5))
    try dsimp only at h2
    rw [if_pos y]
    simp (disch := omega) only [pm_k_i, Option.toList_some, Option.toList_none, List.cons_append, List.nil_append, cond_true, cond_false, ↓reduceIte, reduceCtorEq, z_1, nI_add, z_cl, z_ib, z_lt, z_le, z_eq, z_eq0, z_le0, z_lt0, z_b0, z_b1, z_m1, z_and7, Int32.add_zero, a1, a2, a3, a4, a5, a6, h1, h2, e1_257 hF, e1_286 hF]
    exact nx B G st
  rw [if_neg y]
  clear y
  by_cases y : g = nI 1
  · obtain ⟨x, A, K, B, G, h1, h2, st⟩ := s_end hF Z X Y (xs (6 * i + 1))
    try dsimp only at h2
    rw [if_pos y]
    simp (disch := omega) only [pm_k_i, Option.toList_some, Option.toList_none, List.cons_append, List.nil_append, cond_true, cond_false, ↓reduceIte, reduceCtorEq, z_1, nI_add, z_cl, z_ib, z_lt, z_le, z_eq, z_eq0, z_le0, z_lt0, z_b0, z_b1, z_m1, z_and7, Int32.add_zero, a1, a2, a3, a4, a5, a6, h1, h2, e1_300 hF, e1_309 hF]
    exact nx B G st
  rw [if_neg y]
  clear y
  by_cases y : g = nI 2
  · obtain ⟨x, A, K, B, G, h1, h2, st⟩ := s_house hF Z X Y hq 
    try dsimp only at h2
    rw [if_pos y]
    simp (disch := omega) only [pm_k_i, Option.toList_some, Option.toList_none, List.cons_append, List.nil_append, cond_true, cond_false, ↓reduceIte, reduceCtorEq, z_1, nI_add, z_cl, z_ib, z_lt, z_le, z_eq, z_eq0, z_le0, z_lt0, z_b0, z_b1, z_m1, z_and7, Int32.add_zero, a1, a2, a3, a4, a5, a6, h1, h2, e1_318 hF, e1_322 hF]
    exact nx B G st
  rw [if_neg y]
  clear y
  by_cases y : g = nI 3
  · obtain ⟨x, A, K, B, G, h1, h2, st⟩ := s_fault hF Z X Y (xs (6 * i + 1))
    try dsimp only at h2
    rw [if_pos y]
    simp (disch := omega) only [pm_k_i, Option.toList_some, Option.toList_none, List.cons_append, List.nil_append, cond_true, cond_false, ↓reduceIte, reduceCtorEq, z_1, nI_add, z_cl, z_ib, z_lt, z_le, z_eq, z_eq0, z_le0, z_lt0, z_b0, z_b1, z_m1, z_and7, Int32.add_zero, a1, a2, a3, a4, a5, a6, h1, h2, e1_336 hF, e1_345 hF]
    exact nx B G st
  rw [if_neg y]
  clear y
  by_cases y : g = nI 4
  · obtain ⟨x, A, K, B, G, h1, h2, st⟩ := s_party hF Z X Y (xs (6 * i + 1)) (xs (6 * i + 2))
    try dsimp only at h2
    rw [if_pos y]
    simp (disch := omega) only [pm_k_i, Option.toList_some, Option.toList_none, List.cons_append, List.nil_append, cond_true, cond_false, ↓reduceIte, reduceCtorEq, z_1, nI_add, z_cl, z_ib, z_lt, z_le, z_eq, z_eq0, z_le0, z_lt0, z_b0, z_b1, z_m1, z_and7, Int32.add_zero, a1, a2, a3, a4, a5, a6, h1, h2, e1_364 hF, e1_378 hF]
    exact nx B G st
  rw [if_neg y]
  clear y
  by_cases y : g = nI 5
  · obtain ⟨x, A, K, B, G, h1, h2, st⟩ := s_worth hF Z X Y (xs (6 * i + 1)) (xs (6 * i + 2))
    try dsimp only at h2
    rw [if_pos y]
    simp (disch := omega) only [pm_k_i, Option.toList_some, Option.toList_none, List.cons_append, List.nil_append, cond_true, cond_false, ↓reduceIte, reduceCtorEq, z_1, nI_add, z_cl, z_ib, z_lt, z_le, z_eq, z_eq0, z_le0, z_lt0, z_b0, z_b1, z_m1, z_and7, Int32.add_zero, a1, a2, a3, a4, a5, a6, h1, h2, e1_397 hF, e1_411 hF]
    exact nx B G st
  rw [if_neg y]
  clear y
  by_cases y : g = nI 6
  · obtain ⟨x, A, K, B, G, h1, h2, st⟩ := s_about hF Z X Y (xs (6 * i + 1))
    try dsimp only at h2
    rw [if_pos y]
    simp (disch := omega) only [pm_k_i, Option.toList_some, Option.toList_none, List.cons_append, List.nil_append, cond_true, cond_false, ↓reduceIte, reduceCtorEq, z_1, nI_add, z_cl, z_ib, z_lt, z_le, z_eq, z_eq0, z_le0, z_lt0, z_b0, z_b1, z_m1, z_and7, Int32.add_zero, a1, a2, a3, a4, a5, a6, h1, h2, e1_425 hF, e1_434 hF]
    exact nx B G st
  rw [if_neg y]
  clear y
  by_cases y : g = nI 7
  · obtain ⟨x, A, K, B, G, h1, h2, st⟩ := s_turn hF Z X Y (xs (6 * i + 1)) (xs (6 * i + 2))
    try dsimp only at h2
    rw [if_pos y]
    simp (disch := omega) only [pm_k_i, Option.toList_some, Option.toList_none, List.cons_append, List.nil_append, cond_true, cond_false, ↓reduceIte, reduceCtorEq, z_1, nI_add, z_cl, z_ib, z_lt, z_le, z_eq, z_eq0, z_le0, z_lt0, z_b0, z_b1, z_m1, z_and7, Int32.add_zero, a1, a2, a3, a4, a5, a6, h1, h2, e1_453 hF, e1_467 hF]
    exact nx B G st
  rw [if_neg y]
  clear y
  by_cases y : g = nI 8
  · obtain ⟨x, A, K, B, G, h1, h2, st⟩ := s_turnBy hF Z X Y (xs (6 * i + 1)) (xs (6 * i + 2)) (xs (6 * i + 3)) (xs (6 * i + 4))
    try dsimp only at h2
    rw [if_pos y]
    simp (disch := omega) only [pm_k_i, Option.toList_some, Option.toList_none, List.cons_append, List.nil_append, cond_true, cond_false, ↓reduceIte, reduceCtorEq, z_1, nI_add, z_cl, z_ib, z_lt, z_le, z_eq, z_eq0, z_le0, z_lt0, z_b0, z_b1, z_m1, z_and7, Int32.add_zero, a1, a2, a3, a4, a5, a6, h1, h2, e1_496 hF, e1_520 hF]
    exact nx B G st
  rw [if_neg y]
  clear y
  by_cases y : g = nI 9
  · obtain ⟨x, A, K, B, G, h1, h2, st⟩ := s_gets hF Z X Y (xs (6 * i + 1)) (xs (6 * i + 2)) (xs (6 * i + 3))
    try dsimp only at h2
    rw [if_pos y]
    simp (disch := omega) only [pm_k_i, Option.toList_some, Option.toList_none, List.cons_append, List.nil_append, cond_true, cond_false, ↓reduceIte, reduceCtorEq, z_1, nI_add, z_cl, z_ib, z_lt, z_le, z_eq, z_eq0, z_le0, z_lt0, z_b0, z_b1, z_m1, z_and7, Int32.add_zero, a1, a2, a3, a4, a5, a6, h1, h2, e1_544 hF, e1_563 hF]
    exact nx B G st
  rw [if_neg y]
  clear y
  by_cases y : g = nI 10
  · obtain ⟨x, A, K, B, G, h1, h2, st⟩ := s_has hF Z X Y (xs (6 * i + 1)) (xs (6 * i + 2)) (xs (6 * i + 3))
    try dsimp only at h2
    rw [if_pos y]
    simp (disch := omega) only [pm_k_i, Option.toList_some, Option.toList_none, List.cons_append, List.nil_append, cond_true, cond_false, ↓reduceIte, reduceCtorEq, z_1, nI_add, z_cl, z_ib, z_lt, z_le, z_eq, z_eq0, z_le0, z_lt0, z_b0, z_b1, z_m1, z_and7, Int32.add_zero, a1, a2, a3, a4, a5, a6, h1, h2, e1_587 hF, e1_606 hF]
    exact nx B G st
  rw [if_neg y]
  clear y
  by_cases y : g = nI 11
  · obtain ⟨x, A, K, B, G, h1, h2, st⟩ := s_swaps hF Z X Y (xs (6 * i + 1))
    try dsimp only at h2
    rw [if_pos y]
    simp (disch := omega) only [pm_k_i, Option.toList_some, Option.toList_none, List.cons_append, List.nil_append, cond_true, cond_false, ↓reduceIte, reduceCtorEq, z_1, nI_add, z_cl, z_ib, z_lt, z_le, z_eq, z_eq0, z_le0, z_lt0, z_b0, z_b1, z_m1, z_and7, Int32.add_zero, a1, a2, a3, a4, a5, a6, h1, h2, e1_620 hF, e1_629 hF]
    exact nx B G st
  rw [if_neg y]
  clear y
  by_cases y : g = nI 12
  · obtain ⟨x, A, K, B, G, h1, h2, st⟩ := s_instead hF Z X Y (xs (6 * i + 1)) (xs (6 * i + 2)) (xs (6 * i + 3))
    try dsimp only at h2
    rw [if_pos y]
    simp (disch := omega) only [pm_k_i, Option.toList_some, Option.toList_none, List.cons_append, List.nil_append, cond_true, cond_false, ↓reduceIte, reduceCtorEq, z_1, nI_add, z_cl, z_ib, z_lt, z_le, z_eq, z_eq0, z_le0, z_lt0, z_b0, z_b1, z_m1, z_and7, Int32.add_zero, a1, a2, a3, a4, a5, a6, h1, h2, e1_653 hF, e1_672 hF]
    exact nx B G st
  rw [if_neg y]
  clear y
  by_cases y : g = nI 13
  · obtain ⟨x, A, K, B, G, h1, h2, st⟩ := s_middle hF Z X Y (xs (6 * i + 1))
    try dsimp only at h2
    rw [if_pos y]
    simp (disch := omega) only [pm_k_i, Option.toList_some, Option.toList_none, List.cons_append, List.nil_append, cond_true, cond_false, ↓reduceIte, reduceCtorEq, z_1, nI_add, z_cl, z_ib, z_lt, z_le, z_eq, z_eq0, z_le0, z_lt0, z_b0, z_b1, z_m1, z_and7, Int32.add_zero, a1, a2, a3, a4, a5, a6, h1, h2, e1_686 hF, e1_695 hF]
    exact nx B G st
  rw [if_neg y]
  clear y
  by_cases y : g = nI 14
  · obtain ⟨x, A, K, B, G, h1, h2, st⟩ := s_pay hF Z X Y (xs (6 * i + 1)) (xs (6 * i + 2))
    try dsimp only at h2
    rw [if_pos y]
    simp (disch := omega) only [pm_k_i, Option.toList_some, Option.toList_none, List.cons_append, List.nil_append, cond_true, cond_false, ↓reduceIte, reduceCtorEq, z_1, nI_add, z_cl, z_ib, z_lt, z_le, z_eq, z_eq0, z_le0, z_lt0, z_b0, z_b1, z_m1, z_and7, Int32.add_zero, a1, a2, a3, a4, a5, a6, h1, h2, e1_714 hF, e1_728 hF]
    exact nx B G st
  rw [if_neg y]
  clear y
  by_cases y : g = nI 15
  · obtain ⟨x, A, K, B, G, h1, h2, st⟩ := s_policy hF Z X Y (xs (6 * i + 1)) (xs (6 * i + 2)) (xs (6 * i + 3))
    try dsimp only at h2
    rw [if_pos y]
    simp (disch := omega) only [pm_k_i, Option.toList_some, Option.toList_none, List.cons_append, List.nil_append, cond_true, cond_false, ↓reduceIte, reduceCtorEq, z_1, nI_add, z_cl, z_ib, z_lt, z_le, z_eq, z_eq0, z_le0, z_lt0, z_b0, z_b1, z_m1, z_and7, Int32.add_zero, a1, a2, a3, a4, a5, a6, h1, h2, e1_752 hF, e1_771 hF]
    exact nx B G st
  rw [if_neg y]
  clear y
  by_cases y : g = nI 16
  · obtain ⟨x, A, K, B, G, h1, h2, st⟩ := s_grief hF Z X Y (xs (6 * i + 1)) (xs (6 * i + 2)) (xs (6 * i + 3))
    try dsimp only at h2
    rw [if_pos y]
    simp (disch := omega) only [pm_k_i, Option.toList_some, Option.toList_none, List.cons_append, List.nil_append, cond_true, cond_false, ↓reduceIte, reduceCtorEq, z_1, nI_add, z_cl, z_ib, z_lt, z_le, z_eq, z_eq0, z_le0, z_lt0, z_b0, z_b1, z_m1, z_and7, Int32.add_zero, a1, a2, a3, a4, a5, a6, h1, h2, e1_795 hF, e1_814 hF]
    exact nx B G st
  rw [if_neg y]
  clear y
  by_cases y : g = nI 17
  · obtain ⟨x, A, K, B, G, h1, h2, st⟩ := s_envy hF Z X Y (xs (6 * i + 1)) (xs (6 * i + 2))
    try dsimp only at h2
    rw [if_pos y]
    simp (disch := omega) only [pm_k_i, Option.toList_some, Option.toList_none, List.cons_append, List.nil_append, cond_true, cond_false, ↓reduceIte, reduceCtorEq, z_1, nI_add, z_cl, z_ib, z_lt, z_le, z_eq, z_eq0, z_le0, z_lt0, z_b0, z_b1, z_m1, z_and7, Int32.add_zero, a1, a2, a3, a4, a5, a6, h1, h2, e1_833 hF, e1_847 hF]
    exact nx B G st
  rw [if_neg y]
  clear y
  by_cases y : g = nI 18
  · obtain ⟨x, A, K, B, G, h1, h2, st⟩ := s_kept hF Z X Y (xs (6 * i + 1)) (xs (6 * i + 2))
    try dsimp only at h2
    rw [if_pos y]
    simp (disch := omega) only [pm_k_i, Option.toList_some, Option.toList_none, List.cons_append, List.nil_append, cond_true, cond_false, ↓reduceIte, reduceCtorEq, z_1, nI_add, z_cl, z_ib, z_lt, z_le, z_eq, z_eq0, z_le0, z_lt0, z_b0, z_b1, z_m1, z_and7, Int32.add_zero, a1, a2, a3, a4, a5, a6, h1, h2, e1_866 hF, e1_880 hF]
    exact nx B G st
  rw [if_neg y]
  clear y
  by_cases y : g = nI 19
  · obtain ⟨x, A, K, B, G, h1, h2, st⟩ := s_kind hF Z X Y (xs (6 * i + 1))
    try dsimp only at h2
    rw [if_pos y]
    simp (disch := omega) only [pm_k_i, Option.toList_some, Option.toList_none, List.cons_append, List.nil_append, cond_true, cond_false, ↓reduceIte, reduceCtorEq, z_1, nI_add, z_cl, z_ib, z_lt, z_le, z_eq, z_eq0, z_le0, z_lt0, z_b0, z_b1, z_m1, z_and7, Int32.add_zero, a1, a2, a3, a4, a5, a6, h1, h2, e1_894 hF, e1_903 hF]
    exact nx B G st
  rw [if_neg y]
  clear y
  by_cases y : g = nI 20
  · obtain ⟨x, A, K, B, G, h1, h2, st⟩ := s_many hF Z X Y (xs (6 * i + 1))
    try dsimp only at h2
    rw [if_pos y]
    simp (disch := omega) only [pm_k_i, Option.toList_some, Option.toList_none, List.cons_append, List.nil_append, cond_true, cond_false, ↓reduceIte, reduceCtorEq, z_1, nI_add, z_cl, z_ib, z_lt, z_le, z_eq, z_eq0, z_le0, z_lt0, z_b0, z_b1, z_m1, z_and7, Int32.add_zero, a1, a2, a3, a4, a5, a6, h1, h2, e1_917 hF, e1_926 hF]
    exact nx B G st
  rw [if_neg y]
  clear y
  by_cases y : g = nI 21
  · obtain ⟨x, A, K, B, G, h1, h2, st⟩ := s_nth hF Z X Y (xs (6 * i + 1)) (xs (6 * i + 2))
    try dsimp only at h2
    rw [if_pos y]
    simp (disch := omega) only [pm_k_i, Option.toList_some, Option.toList_none, List.cons_append, List.nil_append, cond_true, cond_false, ↓reduceIte, reduceCtorEq, z_1, nI_add, z_cl, z_ib, z_lt, z_le, z_eq, z_eq0, z_le0, z_lt0, z_b0, z_b1, z_m1, z_and7, Int32.add_zero, a1, a2, a3, a4, a5, a6, h1, h2, e1_945 hF, e1_959 hF]
    exact nx B G st
  rw [if_neg y]
  clear y
  by_cases y : g = nI 22
  · obtain ⟨x, A, K, B, G, h1, h2, st⟩ := s_rival hF Z X Y (xs (6 * i + 1))
    try dsimp only at h2
    rw [if_pos y]
    simp (disch := omega) only [pm_k_i, Option.toList_some, Option.toList_none, List.cons_append, List.nil_append, cond_true, cond_false, ↓reduceIte, reduceCtorEq, z_1, nI_add, z_cl, z_ib, z_lt, z_le, z_eq, z_eq0, z_le0, z_lt0, z_b0, z_b1, z_m1, z_and7, Int32.add_zero, a1, a2, a3, a4, a5, a6, h1, h2, e1_973 hF, e1_982 hF]
    exact nx B G st
  rw [if_neg y]
  clear y
  by_cases y : g = nI 23
  · obtain ⟨x, A, K, B, G, h1, h2, st⟩ := s_beats hF Z X Y (xs (6 * i + 1)) (xs (6 * i + 2))
    try dsimp only at h2
    rw [if_pos y]
    simp (disch := omega) only [pm_k_i, Option.toList_some, Option.toList_none, List.cons_append, List.nil_append, cond_true, cond_false, ↓reduceIte, reduceCtorEq, z_1, nI_add, z_cl, z_ib, z_lt, z_le, z_eq, z_eq0, z_le0, z_lt0, z_b0, z_b1, z_m1, z_and7, Int32.add_zero, a1, a2, a3, a4, a5, a6, h1, h2, e1_1001 hF, e1_1015 hF]
    exact nx B G st
  rw [if_neg y]
  clear y
  by_cases y : g = nI 24
  · obtain ⟨x, A, K, B, G, h1, h2, st⟩ := s_unbeaten hF Z X Y (xs (6 * i + 1))
    try dsimp only at h2
    rw [if_pos y]
    simp (disch := omega) only [pm_k_i, Option.toList_some, Option.toList_none, List.cons_append, List.nil_append, cond_true, cond_false, ↓reduceIte, reduceCtorEq, z_1, nI_add, z_cl, z_ib, z_lt, z_le, z_eq, z_eq0, z_le0, z_lt0, z_b0, z_b1, z_m1, z_and7, Int32.add_zero, a1, a2, a3, a4, a5, a6, h1, h2, e1_1029 hF, e1_1038 hF]
    exact nx B G st
  rw [if_neg y]
  clear y
  by_cases y : g = nI 25
  · obtain ⟨x, A, K, B, G, h1, h2, st⟩ := s_enough hF Z X Y (xs (6 * i + 1)) (xs (6 * i + 2))
    try dsimp only at h2
    rw [if_pos y]
    simp (disch := omega) only [pm_k_i, Option.toList_some, Option.toList_none, List.cons_append, List.nil_append, cond_true, cond_false, ↓reduceIte, reduceCtorEq, z_1, nI_add, z_cl, z_ib, z_lt, z_le, z_eq, z_eq0, z_le0, z_lt0, z_b0, z_b1, z_m1, z_and7, Int32.add_zero, a1, a2, a3, a4, a5, a6, h1, h2, e1_1057 hF, e1_1071 hF]
    exact nx B G st
  rw [if_neg y]
  clear y
  by_cases y : g = nI 26
  · obtain ⟨x, A, K, B, G, h1, h2, st⟩ := s_span hF Z X Y (xs (6 * i + 1))
    try dsimp only at h2
    rw [if_pos y]
    simp (disch := omega) only [pm_k_i, Option.toList_some, Option.toList_none, List.cons_append, List.nil_append, cond_true, cond_false, ↓reduceIte, reduceCtorEq, z_1, nI_add, z_cl, z_ib, z_lt, z_le, z_eq, z_eq0, z_le0, z_lt0, z_b0, z_b1, z_m1, z_and7, Int32.add_zero, a1, a2, a3, a4, a5, a6, h1, h2, e1_1085 hF, e1_1094 hF]
    exact nx B G st
  rw [if_neg y]
  clear y
  by_cases y : g = nI 27
  · obtain ⟨x, A, K, B, G, h1, h2, st⟩ := s_median hF Z X Y 
    try dsimp only at h2
    rw [if_pos y]
    simp (disch := omega) only [pm_k_i, Option.toList_some, Option.toList_none, List.cons_append, List.nil_append, cond_true, cond_false, ↓reduceIte, reduceCtorEq, z_1, nI_add, z_cl, z_ib, z_lt, z_le, z_eq, z_eq0, z_le0, z_lt0, z_b0, z_b1, z_m1, z_and7, Int32.add_zero, a1, a2, a3, a4, a5, a6, h1, h2, e1_1103 hF, e1_1107 hF]
    exact nx B G st
  rw [if_neg y]
  clear y
  by_cases y : g = nI 28
  · obtain ⟨x, A, K, B, G, h1, h2, st⟩ := s_needed hF Z X Y (xs (6 * i + 1))
    try dsimp only at h2
    rw [if_pos y]
    simp (disch := omega) only [pm_k_i, Option.toList_some, Option.toList_none, List.cons_append, List.nil_append, cond_true, cond_false, ↓reduceIte, reduceCtorEq, z_1, nI_add, z_cl, z_ib, z_lt, z_le, z_eq, z_eq0, z_le0, z_lt0, z_b0, z_b1, z_m1, z_and7, Int32.add_zero, a1, a2, a3, a4, a5, a6, h1, h2, e1_1121 hF, e1_1130 hF]
    exact nx B G st
  rw [if_neg y]
  clear y
  by_cases y : g = nI 29
  · obtain ⟨x, A, K, B, G, h1, h2, st⟩ := s_pivot hF Z X Y (xs (6 * i + 1))
    try dsimp only at h2
    rw [if_pos y]
    simp (disch := omega) only [pm_k_i, Option.toList_some, Option.toList_none, List.cons_append, List.nil_append, cond_true, cond_false, ↓reduceIte, reduceCtorEq, z_1, nI_add, z_cl, z_ib, z_lt, z_le, z_eq, z_eq0, z_le0, z_lt0, z_b0, z_b1, z_m1, z_and7, Int32.add_zero, a1, a2, a3, a4, a5, a6, h1, h2, e1_1144 hF, e1_1153 hF]
    exact nx B G st
  rw [if_neg y]
  clear y
  by_cases y : g = nI 30
  · obtain ⟨x, A, K, B, G, h1, h2, st⟩ := s_joins hF Z X Y (xs (6 * i + 1))
    try dsimp only at h2
    rw [if_pos y]
    simp (disch := omega) only [pm_k_i, Option.toList_some, Option.toList_none, List.cons_append, List.nil_append, cond_true, cond_false, ↓reduceIte, reduceCtorEq, z_1, nI_add, z_cl, z_ib, z_lt, z_le, z_eq, z_eq0, z_le0, z_lt0, z_b0, z_b1, z_m1, z_and7, Int32.add_zero, a1, a2, a3, a4, a5, a6, h1, h2, e1_1167 hF, e1_1176 hF]
    exact nx B G st
  rw [if_neg y]
  clear y
  by_cases y : g = nI 31
  · obtain ⟨x, A, K, B, G, h1, h2, st⟩ := s_dream hF Z X Y (xs (6 * i + 1))
    try dsimp only at h2
    rw [if_pos y]
    simp (disch := omega) only [pm_k_i, Option.toList_some, Option.toList_none, List.cons_append, List.nil_append, cond_true, cond_false, ↓reduceIte, reduceCtorEq, z_1, nI_add, z_cl, z_ib, z_lt, z_le, z_eq, z_eq0, z_le0, z_lt0, z_b0, z_b1, z_m1, z_and7, Int32.add_zero, a1, a2, a3, a4, a5, a6, h1, h2, e1_1190 hF, e1_1199 hF]
    exact nx B G st
  rw [if_neg y]
  clear y
  by_cases y : g = nI 32
  · obtain ⟨x, A, K, B, G, h1, h2, st⟩ := s_drift hF Z X Y (xs (6 * i + 1)) (xs (6 * i + 2))
    try dsimp only at h2
    rw [if_pos y]
    simp (disch := omega) only [pm_k_i, Option.toList_some, Option.toList_none, List.cons_append, List.nil_append, cond_true, cond_false, ↓reduceIte, reduceCtorEq, z_1, nI_add, z_cl, z_ib, z_lt, z_le, z_eq, z_eq0, z_le0, z_lt0, z_b0, z_b1, z_m1, z_and7, Int32.add_zero, a1, a2, a3, a4, a5, a6, h1, h2, e1_1218 hF, e1_1232 hF]
    exact nx B G st
  rw [if_neg y]
  clear y
  by_cases y : g = nI 33
  · obtain ⟨x, A, K, B, G, h1, h2, st⟩ := s_formed hF Z X Y (xs (6 * i + 1))
    try dsimp only at h2
    rw [if_pos y]
    simp (disch := omega) only [pm_k_i, Option.toList_some, Option.toList_none, List.cons_append, List.nil_append, cond_true, cond_false, ↓reduceIte, reduceCtorEq, z_1, nI_add, z_cl, z_ib, z_lt, z_le, z_eq, z_eq0, z_le0, z_lt0, z_b0, z_b1, z_m1, z_and7, Int32.add_zero, a1, a2, a3, a4, a5, a6, h1, h2, e1_1246 hF, e1_1255 hF]
    exact nx B G st
  rw [if_neg y]
  clear y
  by_cases y : g = nI 34
  · obtain ⟨x, A, K, B, G, h1, h2, st⟩ := s_tried hF Z X Y (xs (6 * i + 1)) (xs (6 * i + 2))
    try dsimp only at h2
    rw [if_pos y]
    simp (disch := omega) only [pm_k_i, Option.toList_some, Option.toList_none, List.cons_append, List.nil_append, cond_true, cond_false, ↓reduceIte, reduceCtorEq, z_1, nI_add, z_cl, z_ib, z_lt, z_le, z_eq, z_eq0, z_le0, z_lt0, z_b0, z_b1, z_m1, z_and7, Int32.add_zero, a1, a2, a3, a4, a5, a6, h1, h2, e1_1274 hF, e1_1288 hF]
    exact nx B G st
  rw [if_neg y]
  clear y
  by_cases y : g = nI 35
  · obtain ⟨x, A, K, B, G, h1, h2, st⟩ := s_hold hF Z X Y (xs (6 * i + 1)) (xs (6 * i + 2))
    try dsimp only at h2
    rw [if_pos y]
    simp (disch := omega) only [pm_k_i, Option.toList_some, Option.toList_none, List.cons_append, List.nil_append, cond_true, cond_false, ↓reduceIte, reduceCtorEq, z_1, nI_add, z_cl, z_ib, z_lt, z_le, z_eq, z_eq0, z_le0, z_lt0, z_b0, z_b1, z_m1, z_and7, Int32.add_zero, a1, a2, a3, a4, a5, a6, h1, h2, e1_1307 hF, e1_1321 hF]
    exact nx B G st
  rw [if_neg y]
  clear y
  by_cases y : g = nI 36
  · obtain ⟨x, A, K, B, G, h1, h2, st⟩ := s_now hF Z X Y (xs (6 * i + 1))
    try dsimp only at h2
    rw [if_pos y]
    simp (disch := omega) only [pm_k_i, Option.toList_some, Option.toList_none, List.cons_append, List.nil_append, cond_true, cond_false, ↓reduceIte, reduceCtorEq, z_1, nI_add, z_cl, z_ib, z_lt, z_le, z_eq, z_eq0, z_le0, z_lt0, z_b0, z_b1, z_m1, z_and7, Int32.add_zero, a1, a2, a3, a4, a5, a6, h1, h2, e1_1335 hF, e1_1344 hF]
    exact nx B G st
  rw [if_neg y]
  clear y
  by_cases y : g = nI 37
  · obtain ⟨x, A, K, B, G, h1, h2, st⟩ := s_leave hF Z X Y (xs (6 * i + 1))
    try dsimp only at h2
    rw [if_pos y]
    simp (disch := omega) only [pm_k_i, Option.toList_some, Option.toList_none, List.cons_append, List.nil_append, cond_true, cond_false, ↓reduceIte, reduceCtorEq, z_1, nI_add, z_cl, z_ib, z_lt, z_le, z_eq, z_eq0, z_le0, z_lt0, z_b0, z_b1, z_m1, z_and7, Int32.add_zero, a1, a2, a3, a4, a5, a6, h1, h2, e1_1358 hF, e1_1367 hF]
    exact nx B G st
  rw [if_neg y]
  clear y
  by_cases y : g = nI 38
  · obtain ⟨x, A, K, B, G, h1, h2, st⟩ := s_payNow hF Z X Y (xs (6 * i + 1))
    try dsimp only at h2
    rw [if_pos y]
    simp (disch := omega) only [pm_k_i, Option.toList_some, Option.toList_none, List.cons_append, List.nil_append, cond_true, cond_false, ↓reduceIte, reduceCtorEq, z_1, nI_add, z_cl, z_ib, z_lt, z_le, z_eq, z_eq0, z_le0, z_lt0, z_b0, z_b1, z_m1, z_and7, Int32.add_zero, a1, a2, a3, a4, a5, a6, h1, h2, e1_1381 hF, e1_1390 hF]
    exact nx B G st
  rw [if_neg y]
  clear y
  by_cases y : g = nI 39
  · obtain ⟨x, A, K, B, G, h1, h2, st⟩ := s_crisis hF Z X Y 
    try dsimp only at h2
    rw [if_pos y]
    simp (disch := omega) only [pm_k_i, Option.toList_some, Option.toList_none, List.cons_append, List.nil_append, cond_true, cond_false, ↓reduceIte, reduceCtorEq, z_1, nI_add, z_cl, z_ib, z_lt, z_le, z_eq, z_eq0, z_le0, z_lt0, z_b0, z_b1, z_m1, z_and7, Int32.add_zero, a1, a2, a3, a4, a5, a6, h1, h2, e1_1399 hF, e1_1403 hF]
    exact nx B G st
  rw [if_neg y]
  clear y
  by_cases y : g = nI 40
  · obtain ⟨x, A, K, B, G, h1, h2, st⟩ := s_trade hF Z X Y (xs (6 * i + 1)) (xs (6 * i + 2))
    try dsimp only at h2
    rw [if_pos y]
    simp (disch := omega) only [pm_k_i, Option.toList_some, Option.toList_none, List.cons_append, List.nil_append, cond_true, cond_false, ↓reduceIte, reduceCtorEq, z_1, nI_add, z_cl, z_ib, z_lt, z_le, z_eq, z_eq0, z_le0, z_lt0, z_b0, z_b1, z_m1, z_and7, Int32.add_zero, a1, a2, a3, a4, a5, a6, h1, h2, e1_1422 hF, e1_1436 hF]
    exact nx B G st
  rw [if_neg y]
  clear y
  by_cases y : g = nI 41
  · obtain ⟨x, A, K, B, G, h1, h2, st⟩ := s_seats hF Z X Y hq (xs (6 * i + 1)) (xs (6 * i + 2))
    try dsimp only at h2
    rw [if_pos y]
    simp (disch := omega) only [pm_k_i, Option.toList_some, Option.toList_none, List.cons_append, List.nil_append, cond_true, cond_false, ↓reduceIte, reduceCtorEq, z_1, nI_add, z_cl, z_ib, z_lt, z_le, z_eq, z_eq0, z_le0, z_lt0, z_b0, z_b1, z_m1, z_and7, Int32.add_zero, a1, a2, a3, a4, a5, a6, h1, h2, e1_1455 hF, e1_1469 hF]
    exact nx B G st
  rw [if_neg y]
  clear y
  by_cases y : g = nI 42
  · obtain ⟨x, A, K, B, G, h1, h2, st⟩ := s_above hF Z X Y 
    try dsimp only at h2
    rw [if_pos y]
    simp (disch := omega) only [pm_k_i, Option.toList_some, Option.toList_none, List.cons_append, List.nil_append, cond_true, cond_false, ↓reduceIte, reduceCtorEq, z_1, nI_add, z_cl, z_ib, z_lt, z_le, z_eq, z_eq0, z_le0, z_lt0, z_b0, z_b1, z_m1, z_and7, Int32.add_zero, a1, a2, a3, a4, a5, a6, h1, h2, e1_1478 hF, e1_1482 hF]
    exact nx B G st
  rw [if_neg y]
  clear y
  by_cases y : g = nI 43
  · obtain ⟨x, A, K, B, G, h1, h2, st⟩ := s_undo hF Z X Y hq 
    try dsimp only at h2
    rw [if_pos y]
    simp (disch := omega) only [pm_k_i, Option.toList_some, Option.toList_none, List.cons_append, List.nil_append, cond_true, cond_false, ↓reduceIte, reduceCtorEq, z_1, nI_add, z_cl, z_ib, z_lt, z_le, z_eq, z_eq0, z_le0, z_lt0, z_b0, z_b1, z_m1, z_and7, Int32.add_zero, a1, a2, a3, a4, a5, a6, h1, h2, e1_1491 hF, e1_1495 hF]
    exact nx B G st
  rw [if_neg y]
  clear y
  by_cases y : g = nI 44
  · obtain ⟨x, A, K, B, G, h1, h2, st⟩ := s_judge hF Z X Y (xs (6 * i + 1)) (xs (6 * i + 2))
    try dsimp only at h2
    rw [if_pos y]
    simp (disch := omega) only [pm_k_i, Option.toList_some, Option.toList_none, List.cons_append, List.nil_append, cond_true, cond_false, ↓reduceIte, reduceCtorEq, z_1, nI_add, z_cl, z_ib, z_lt, z_le, z_eq, z_eq0, z_le0, z_lt0, z_b0, z_b1, z_m1, z_and7, Int32.add_zero, a1, a2, a3, a4, a5, a6, h1, h2, e1_1514 hF, e1_1528 hF]
    exact nx B G st
  rw [if_neg y]
  clear y
  rw [a6]
  exact nx I L st0
theorem law_loop (hF : pm_fix pt_me pt_Sg (pt_R L0 xs) F) (hL : L0 ≤ 3072) : ∀ d i I L, d + i = L0 / 6 → ST i I L → ∃ I' L', (F 1 18 [some (.ref 203), some (.ref 0), some (.ref 49), some (.int (nI (6*i)))] [] (81, pt_G, I, L)) = some (some (.int 1), (81, pt_G, I', L')) := by
  intro d
  induction d with
  | zero =>
    intro i I L hd st
    refine ⟨I, L, ?_⟩
    rw [e1_18 hF, if_neg]
    rw [z_lei, nI_toInt (by omega), show (nI L0 - 6).toInt = (L0 : Int) - (6 : Nat) from pk_sub_toInt (b := 6) (by omega) (by omega)]
    omega
  | succ d ih =>
    intro i I L hd st
    exact law_step (Q := fun r => ∃ I' L', r = some (some (.int 1), (81, pt_G, I', L'))) hF st (by omega) hL (fun I' L' s => ih (i + 1) I' L' (by omega) s)
end
