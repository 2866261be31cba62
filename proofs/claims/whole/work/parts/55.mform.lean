/-! ===== the model: forming ===== -/
section
variable {h : Nat → Nat → Nat} {I I' : Nat → Nat → Int32} {L L' : Nat → Nat → Int64} {e v : Nat}
variable {F : pm_F} {L0 : Nat} {xs : Nat → Int32}
theorem lfo_irr (x : Nat) : lfo h x x = false := decide_eq_false (by omega)
theorem lfo_tr {x y z : Nat} (a : lfo h x y = true) (b : lfo h y z = true) : lfo h x z = true := by
  have a := of_decide_eq_true a
  have b := of_decide_eq_true b
  exact decide_eq_true (by omega)
/-- those sorted so far -/
def OS (h : Nat → Nat → Nat) (k : Nat) (o : Nat → Nat) : Prop := (∀ i, i < k → o i < k) ∧ (∀ i j, i < j → j < k → lfo h (o i) (o j) = true) ∧ ∀ x, x < k → ∃ i, i < k ∧ o i = x
/-- k put in at i, the later ones moved -/
def mv (o : Nat → Nat) (k i : Nat) : Nat → Nat := fun j => if j < i then o j else if j = i then k else o (j - 1)
theorem OS_mv {k i : Nat} {o : Nat → Nat} (hs : OS h k o) (hi : i ≤ k) (h1 : ∀ j, j < i → lfo h (o j) k = true) (h2 : ∀ j, i ≤ j → j < k → lfo h k (o j) = true) : OS h (k + 1) (mv o k i) := by
  obtain ⟨s1, s2, s3⟩ := hs
  refine ⟨fun j hj => ?_, fun a b hab hb => ?_, fun x hx => ?_⟩
  · unfold mv
    split
    · have := s1 j (by omega); omega
    · split
      · omega
      · have := s1 (j - 1) (by omega); omega
  · unfold mv
    by_cases a1 : a < i
    · rw [if_pos a1]
      by_cases b1 : b < i
      · rw [if_pos b1]; exact s2 a b hab (by omega)
      · rw [if_neg b1]
        by_cases b2 : b = i
        · rw [if_pos b2]; exact h1 a a1
        · rw [if_neg b2]; exact s2 a (b - 1) (by omega) (by omega)
    · rw [if_neg a1, if_neg (show ¬ b < i by omega), if_neg (show ¬ b = i by omega)]
      by_cases a2 : a = i
      · rw [if_pos a2]; exact h2 (b - 1) (by omega) (by omega)
      · rw [if_neg a2]; exact s2 (a - 1) (b - 1) (by omega) (by omega)
  · by_cases q : x = k
    · exact ⟨i, by omega, by unfold mv; rw [if_neg (by omega), if_pos rfl, q]⟩
    · obtain ⟨j, j1, j2⟩ := s3 x (by omega)
      by_cases w : j < i
      · exact ⟨j, by omega, by unfold mv; rw [if_pos w]; exact j2⟩
      · exact ⟨j + 1, by omega, by unfold mv; rw [if_neg (by omega), if_neg (by omega), Nat.add_sub_cancel]; exact j2⟩
theorem m_ordersFormers (hF : pm_fix pt_me pt_Sg (pt_R L0 xs) F) (W : WF h) (H : MH h I) : ∃ I', (F 1310 0 [some (.ref 49), none, none] [] (81, pt_G, I, L)) = some (none, (81, pt_G, I', L)) ∧ (∀ r k, r ≠ 80 → I' r k = I r k) ∧ ∀ n, n < h 0 0 → I' 80 n = nI (fo h n) := by
  have hP := W.P
  rw [e1310_0 hF]
  refine wl (Q := fun x => ∃ I', x = some (none, (81, pt_G, I', L)) ∧ (∀ r k, r ≠ 80 → I' r k = I r k) ∧ ∀ n, n < h 0 0 → I' 80 n = nI (fo h n)) (G := fun k J => (F 1310 2 [some (.ref 49), some (.int (nI k)), none] [] (81, pt_G, J, L))) (P := fun k J => (∀ r k, r ≠ 80 → J r k = I r k) ∧ ∃ o, OS h k o ∧ ∀ i, i < k → J 80 i = nI (o i)) (n := h 0 0) (fun k J hk hJ go => ?_) (fun J hJ => ?_) 0 I (Nat.zero_le _) ⟨fun _ _ _ => rfl, fun _ => 0, ⟨fun i hi => by omega, fun i j _ hj => by omega, fun x hx => by omega⟩, fun i hi => by omega⟩
  · obtain ⟨j1, o, o1, o2⟩ := hJ
    have HJ : MH h J := H.of (fun k a b => j1 49 k (by omega)) (fun r a b k => j1 r k (by omega)) (fun k a => j1 64 k (by omega))
    try dsimp only
    rw [e1310_2 hF]
    simp (disch := omega) only [pm_k_i, Option.toList_some, Option.toList_none, List.cons_append, List.nil_append, cond_true, cond_false, ↓reduceIte, reduceCtorEq, z_1, nI_add, z_cl, z_ib, z_lt, z_le, z_eq, z_eq0, z_le0, z_lt0, z_b0, z_b1, z_m1, z_and7, Int32.add_zero, HJ.P, hk]
    -- moves: from the place k down
    refine wl (Q := fun x => ∃ I', x = some (none, (81, pt_G, I', L)) ∧ (∀ r k, r ≠ 80 → I' r k = I r k) ∧ ∀ n, n < h 0 0 → I' 80 n = nI (fo h n)) (G := fun m N => (F 1310 12 [some (.ref 49), some (.int (nI k)), some (.int (nI (k - m)))] [] (81, pt_G, N, L))) (P := fun m N => (∀ r k, r ≠ 80 → N r k = I r k) ∧ (∀ j, j < k - m → N 80 j = nI (o j)) ∧ (∀ j, k - m < j → j ≤ k → N 80 j = nI (o (j - 1))) ∧ ∀ j, k - m ≤ j → j < k → lfo h k (o j) = true) (n := k) (fun m N hm hN go2 => ?_) (fun N hN => ?_) 0 J (Nat.zero_le _) ⟨j1, fun j hj => o2 j (by omega), fun j a b => by omega, fun j a b => by omega⟩
    · obtain ⟨n1, n2, n3, n4⟩ := hN
      have HN : MH h N := H.of (fun k a b => n1 49 k (by omega)) (fun r a b k => n1 r k (by omega)) (fun k a => n1 64 k (by omega))
      have ol := o1.1 (k - m - 1) (by omega)
      have nv := n2 (k - m - 1) (by omega)
      have p1 := W.seats (o (k - m - 1))
      have p2 := W.seats k
      have e0 : nI (k - m) - 1 = nI (k - m - 1) := z_s1 (by omega)
      try dsimp only
      rw [e1310_12 hF]
      simp (disch := omega) only [pm_k_i, Option.toList_some, Option.toList_none, List.cons_append, List.nil_append, cond_true, cond_false, ↓reduceIte, reduceCtorEq, z_1, nI_add, z_cl, z_ib, z_lt, z_le, z_eq, z_eq0, z_le0, z_lt0, z_b0, z_b1, z_m1, z_and7, Int32.add_zero, show (k - m = 0) = False from propext ⟨fun hh => by omega, False.elim⟩, e0, nv, m_seatsOf hF W HN, e1310_28 hF, e1310_33 hF]
      by_cases q : h 1 (o (k - m - 1)) < h 1 k
      · rw [if_pos q]
        have e1 : nI (k - m) + (-1) = nI (k - (m + 1)) := by rw [sb_m1 (by omega)]; rfl
        rw [e1]
        refine go2 _ ⟨fun r j a => by rw [z_ur a]; exact n1 r j a, fun j hj => by rw [z_uk (by omega)]; exact n2 j (by omega), fun j a b => ?_, fun j a b => ?_⟩
        · by_cases w : j = k - m
          · subst w; rw [z_ue]
          · rw [z_uk w]; exact n3 j (by omega) b
        · by_cases w : j = k - m - 1
          · rw [w]; exact decide_eq_true (by omega)
          · exact n4 j (by omega) b
      · rw [if_neg q]
        refine go _ ⟨fun r j a => by rw [z_ur a]; exact n1 r j a, mv o k (k - m), OS_mv o1 (by omega) (fun j hj => ?_) n4, fun i hi => ?_⟩
        · by_cases w : j = k - m - 1
          · rw [w]; exact decide_eq_true (by omega)
          · have l := of_decide_eq_true (o1.2.1 j (k - m - 1) (by omega) (by omega))
            have := o1.1 j (by omega)
            exact decide_eq_true (by omega)
        · unfold mv
          by_cases w : i = k - m
          · subst w; rw [z_ue, if_neg (by omega), if_pos rfl]
          · rw [z_uk w]
            by_cases w2 : i < k - m
            · rw [if_pos w2]; exact n2 i w2
            · rw [if_neg w2, if_neg w]; exact n3 i (by omega) (by omega)
    · obtain ⟨n1, n2, n3, n4⟩ := hN
      have e0 : k - k = 0 := Nat.sub_self k
      try dsimp only
      rw [e0] at n2 n3 n4 ⊢
      rw [e1310_12 hF]
      simp (disch := omega) only [pm_k_i, Option.toList_some, Option.toList_none, List.cons_append, List.nil_append, cond_true, cond_false, ↓reduceIte, reduceCtorEq, z_1, nI_add, z_cl, z_ib, z_lt, z_le, z_eq, z_eq0, z_le0, z_lt0, z_b0, z_b1, z_m1, z_and7, Int32.add_zero]
      refine go _ ⟨fun r j a => by rw [z_ur a]; exact n1 r j a, mv o k 0, OS_mv o1 (by omega) (fun j hj => by omega) n4, fun i hi => ?_⟩
      unfold mv
      by_cases w : i = 0
      · subst w; rw [z_ue, if_neg (by omega), if_pos rfl]
      · rw [z_uk w, if_neg (by omega), if_neg w]; exact n3 i (by omega) (by omega)
  · obtain ⟨j1, o, ⟨o1, o2, o3⟩, o4⟩ := hJ
    have HJP : J 49 30 = nI (h 0 0) := by rw [j1 49 30 (by omega)]; exact H.P
    try dsimp only
    rw [e1310_2 hF]
    simp (disch := omega) only [pm_k_i, Option.toList_some, Option.toList_none, List.cons_append, List.nil_append, cond_true, cond_false, ↓reduceIte, reduceCtorEq, z_1, nI_add, z_cl, z_ib, z_lt, z_le, z_eq, z_eq0, z_le0, z_lt0, z_b0, z_b1, z_m1, z_and7, Int32.add_zero, HJP, Nat.lt_irrefl]
    exact ⟨J, rfl, j1, fun n hn => by rw [o4 n hn, fo_uniq W o1 o2 o3 n hn]⟩
theorem m_bestFor (hF : pm_fix pt_me pt_Sg (pt_R L0 xs) F) (W : WF h) (H : MH h I) (Y : LYs h I) {sp : Nat → Bool} (hs : ∀ x, x < 128 → I 76 x = nI (sp x).toNat) {p : Nat} (hp : p < h 0 0) : (F 1311 0 [some (.ref 49), some (.int (nI p)), none, none, none] [] (81, pt_G, I, L)) = some (some (.int (nI (bch h sp p))), (81, pt_G, I, L)) := by
  have hE := ev_lt W
  have hP := W.P
  rw [e1311_0 hF]
  refine ((lpI (G := fun k b => (F 1311 4 [some (.ref 49), some (.int (nI p)), some (.int (nI b)), some (.int (nI (k + 1))), none] [] (81, pt_G, I, L))) (f := bc1 h sp p) (P := fun k b => b ≤ k) (n := ev h) (a := 0) (Nat.le_refl _) (fun k b hk hb => ⟨?_, ?_⟩)).1).trans ?_
  · have hsk := hs (k + 1) (by omega)
    have p1 := pc_le8 (show k + 1 < 256 by omega)
    have p2 := pc_le8 (show b < 256 by omega)
    try dsimp only
    rw [e1311_4 hF]
    simp (disch := omega) only [pm_k_i, Option.toList_some, Option.toList_none, List.cons_append, List.nil_append, cond_true, cond_false, ↓reduceIte, reduceCtorEq, z_1, nI_add, z_cl, z_ib, z_lt, z_le, z_eq, z_eq0, z_le0, z_lt0, z_b0, z_b1, z_m1, z_and7, Int32.add_zero, m_everyone hF W H, e1311_9 hF, show (k + 1 ≤ ev h) = True from propext ⟨fun _ => trivial, fun _ => by omega⟩, m_holds hF, e1311_17 hF]
    unfold bc1
    cases (k + 1).testBit p
    · simp (disch := omega) only [pm_k_i, Option.toList_some, Option.toList_none, List.cons_append, List.nil_append, cond_true, cond_false, ↓reduceIte, reduceCtorEq, z_1, nI_add, z_cl, z_ib, z_lt, z_le, z_eq, z_eq0, z_le0, z_lt0, z_b0, z_b1, z_m1, z_and7, Int32.add_zero, Bool.false_and]
    · simp (disch := omega) only [pm_k_i, Option.toList_some, Option.toList_none, List.cons_append, List.nil_append, cond_true, cond_false, ↓reduceIte, reduceCtorEq, z_1, nI_add, z_cl, z_ib, z_lt, z_le, z_eq, z_eq0, z_le0, z_lt0, z_b0, z_b1, z_m1, z_and7, Int32.add_zero, hsk, Bool.true_and]
      cases sp (k + 1)
      · simp (disch := omega) only [pm_k_i, Option.toList_some, Option.toList_none, List.cons_append, List.nil_append, cond_true, cond_false, ↓reduceIte, reduceCtorEq, z_1, nI_add, z_cl, z_ib, z_lt, z_le, z_eq, z_eq0, z_le0, z_lt0, z_b0, z_b1, z_m1, z_and7, Int32.add_zero, m_can hF W H, e1311_34 hF, Bool.not_false, Bool.true_and]
        cases g : can h (k + 1) with
        | false => simp (disch := omega) only [pm_k_i, Option.toList_some, Option.toList_none, List.cons_append, List.nil_append, cond_true, cond_false, ↓reduceIte, reduceCtorEq, z_1, nI_add, z_cl, z_ib, z_lt, z_le, z_eq, z_eq0, z_le0, z_lt0, z_b0, z_b1, z_m1, z_and7, Int32.add_zero, Bool.false_and]
        | true =>
          simp (disch := omega) only [pm_k_i, Option.toList_some, Option.toList_none, List.cons_append, List.nil_append, cond_true, cond_false, ↓reduceIte, reduceCtorEq, z_1, nI_add, z_cl, z_ib, z_lt, z_le, z_eq, z_eq0, z_le0, z_lt0, z_b0, z_b1, z_m1, z_and7, Int32.add_zero, Bool.true_and]
          by_cases z : b = 0
          · rw [if_pos z, if_neg (by decide), z]; rfl
          · rw [if_neg z, beq_f z, Bool.false_or]
            simp (disch := omega) only [pm_k_i, Option.toList_some, Option.toList_none, List.cons_append, List.nil_append, cond_true, cond_false, ↓reduceIte, reduceCtorEq, z_1, nI_add, z_cl, z_ib, z_lt, z_le, z_eq, z_eq0, z_le0, z_lt0, z_b0, z_b1, z_m1, z_and7, Int32.add_zero, z_7m, (Y (k + 1) (by omega) (by omega) p hp).1, (Y b (by omega) (by omega) p hp).1]
            unfold lk
            by_cases q : 0 < pyc h (k + 1) p - pyc h b p
            · rw [if_neg (Int32.not_le.mpr q), decide_eq_true q]; rfl
            · rw [if_pos (Int32.not_lt.mp q), decide_eq_false q]
              by_cases z2 : pyc h (k + 1) p - pyc h b p = 0
              · rw [if_pos z2, decide_eq_true z2]
                simp (disch := omega) only [pm_k_i, Option.toList_some, Option.toList_none, List.cons_append, List.nil_append, cond_true, cond_false, ↓reduceIte, reduceCtorEq, z_1, nI_add, z_cl, z_ib, z_lt, z_le, z_eq, z_eq0, z_le0, z_lt0, z_b0, z_b1, z_m1, z_and7, Int32.add_zero, m_ones hF, e1311_87 hF, e1311_91 hF, Bool.false_or, Bool.true_and]
                by_cases w : pc (k + 1) < pc b
                · rw [if_pos w, decide_eq_true w]; rfl
                · rw [if_neg w, decide_eq_false w]; rfl
              · rw [if_neg z2, decide_eq_false z2]; rfl
      · simp (disch := omega) only [pm_k_i, Option.toList_some, Option.toList_none, List.cons_append, List.nil_append, cond_true, cond_false, ↓reduceIte, reduceCtorEq, z_1, nI_add, z_cl, z_ib, z_lt, z_le, z_eq, z_eq0, z_le0, z_lt0, z_b0, z_b1, z_m1, z_and7, Int32.add_zero, Bool.not_true, Bool.false_and]
  · unfold bc1
    cases (((k + 1).testBit p && (!sp (k + 1) && can h (k + 1))) && (Nat.beq b 0 || lk h p (k + 1) b))
    · show b ≤ _; omega
    · exact Nat.le_refl _
  · try dsimp only
    rw [e1311_4 hF]
    simp (disch := omega) only [pm_k_i, Option.toList_some, Option.toList_none, List.cons_append, List.nil_append, cond_true, cond_false, ↓reduceIte, reduceCtorEq, z_1, nI_add, z_cl, z_ib, z_lt, z_le, z_eq, z_eq0, z_le0, z_lt0, z_b0, z_b1, z_m1, z_and7, Int32.add_zero, m_everyone hF W H, e1311_9 hF, show (ev h + 1 ≤ ev h) = False from propext ⟨fun hh => by omega, False.elim⟩]
    rfl
theorem m_walkOut (hF : pm_fix pt_me pt_Sg (pt_R L0 xs) F) (W : WF h) (H : MH h I) (Y : LYs h I) {c r : Nat} (c0 : 0 < c) (hc : c ≤ ev h) : (F 1312 0 [some (.ref 49), some (.int (nI c)), some (.int (nI r)), none, none] [] (81, pt_G, I, L)) = some (some (.int (nI (wkr h c r))), (81, pt_G, I, L)) := by
  have hE := ev_lt W
  have hP := W.P
  rw [e1312_0 hF]
  refine ((lpI (G := fun k a => (F 1312 5 [some (.ref 49), some (.int (nI c)), some (.int (nI r)), some (.int (nI a)), some (.int (nI k))] [] (81, pt_G, I, L))) (f := fun p a => bif c.testBit p && decide (pyc h c p < nI (h 3 p) - nI (h 0 7 * r)) then ad a p else a) (P := fun _ a => a < 128) (n := h 0 0) (a := 0) (Nat.zero_lt_succ 127) (fun k a hk ha => ⟨?_, ?_⟩)).1).trans ?_
  · try dsimp only
    rw [e1312_5 hF]
    simp (disch := omega) only [pm_k_i, Option.toList_some, Option.toList_none, List.cons_append, List.nil_append, cond_true, cond_false, ↓reduceIte, reduceCtorEq, z_1, nI_add, z_cl, z_ib, z_lt, z_le, z_eq, z_eq0, z_le0, z_lt0, z_b0, z_b1, z_m1, z_and7, Int32.add_zero, H.P, hk, m_holds hF, e1312_20 hF]
    cases c.testBit k
    · simp (disch := omega) only [pm_k_i, Option.toList_some, Option.toList_none, List.cons_append, List.nil_append, cond_true, cond_false, ↓reduceIte, reduceCtorEq, z_1, nI_add, z_cl, z_ib, z_lt, z_le, z_eq, z_eq0, z_le0, z_lt0, z_b0, z_b1, z_m1, z_and7, Int32.add_zero, Bool.false_and]
    · simp (disch := omega) only [pm_k_i, Option.toList_some, Option.toList_none, List.cons_append, List.nil_append, cond_true, cond_false, ↓reduceIte, reduceCtorEq, z_1, nI_add, z_cl, z_ib, z_lt, z_le, z_eq, z_eq0, z_le0, z_lt0, z_b0, z_b1, z_m1, z_and7, Int32.add_zero, z_7m, (Y c c0 hc k hk).1, H.walk, H.tire, pk_mul, Bool.true_and]
      by_cases q : pyc h c k < nI (h 3 k) - nI (h 0 7 * r)
      · rw [if_pos q, decide_eq_true q, z_ad a (by omega) k (by omega)]; rfl
      · rw [if_neg q, decide_eq_false q]; rfl
  · cases (c.testBit k && decide (pyc h c k < nI (h 3 k) - nI (h 0 7 * r)))
    · exact ha
    · exact ad_128 a ha k (by omega)
  · try dsimp only
    rw [e1312_5 hF]
    simp (disch := omega) only [pm_k_i, Option.toList_some, Option.toList_none, List.cons_append, List.nil_append, cond_true, cond_false, ↓reduceIte, reduceCtorEq, z_1, nI_add, z_cl, z_ib, z_lt, z_le, z_eq, z_eq0, z_le0, z_lt0, z_b0, z_b1, z_m1, z_and7, Int32.add_zero, H.P, Nat.lt_irrefl]
    rfl
/-- the model holds that state -/
def MS0 (s : fst') (J : Nat → Nat → Int32) : Prop := J 49 63 = nI s.2.1 ∧ J 49 65 = nI s.2.2.2 ∧ (s.2.2.2 < 128) ∧ ∀ i, i < s.2.1 → J 77 i = nI (s.2.2.1 i).1 ∧ J 78 i = nI (s.2.2.1 i).2.1 ∧ J 79 i = nI (s.2.2.1 i).2.2
def MS (s : fst') (J : Nat → Nat → Int32) : Prop := (∀ x, x < 128 → J 76 x = nI (s.1 x).toNat) ∧ MS0 s J
theorem m_round (hF : pm_fix pt_me pt_Sg (pt_R L0 xs) F) (W : WF h) (H : MH h I) (Y : LYs h I) (ho : ∀ n, n < h 0 0 → I 80 n = nI (fo h n)) {s : fst'} (hs : MS0 s I) (h0 : s.2.2.2 = 0) {r : Nat} (hr : I 49 64 = nI r) (hr9 : r < 9) (hc : s.2.1 + 63 ≤ 567) : ∃ I', (F 1314 0 [some (.ref 49), none, none, none] [] (81, pt_G, I, L)) = some (none, (81, pt_G, I', L)) ∧ (∀ x k, (x = 49 → k < 63 ∨ 65 < k) → x ≠ 76 → x ≠ 77 → x ≠ 78 → x ≠ 79 → I' x k = I x k) ∧ MS0 (rnd h r (h 0 0) s) I' ∧ I' 49 64 = nI (r + 1) := by
  have hE := ev_lt W
  have hP := W.P
  have ht := W.tries
  rw [e1314_0 hF, hr, z_1]
  refine wl (Q := fun x => ∃ I', x = some (none, (81, pt_G, I', L)) ∧ (∀ x k, (x = 49 → k < 63 ∨ 65 < k) → x ≠ 76 → x ≠ 77 → x ≠ 78 → x ≠ 79 → I' x k = I x k) ∧ MS0 (rnd h r (h 0 0) s) I' ∧ I' 49 64 = nI (r + 1)) (G := fun k J => (F 1314 12 [some (.ref 49), some (.int (nI k)), none, none] [] (81, pt_G, J, L))) (P := fun k J => (∀ x j, x ≠ 76 → J x j = pm_ui I 49 64 (nI (r + 1)) x j) ∧ ∀ x, x < k → J 76 x = 0) (n := 128) (fun k J hk hJ go => ?_) (fun J hJ => ?_) 0 _ (Nat.zero_le _) ⟨fun _ _ _ => rfl, fun x hx => by omega⟩
  · rw [e1314_12 hF, show (128 : Int32) = nI 128 from rfl]
    simp (disch := omega) only [pm_k_i, Option.toList_some, Option.toList_none, List.cons_append, List.nil_append, cond_true, cond_false, ↓reduceIte, reduceCtorEq, z_1, nI_add, z_cl, z_ib, z_lt, z_le, z_eq, z_eq0, z_le0, z_lt0, z_b0, z_b1, z_m1, z_and7, Int32.add_zero, hk, vb0]
    refine go _ ⟨fun x j a => by rw [z_ur a]; exact hJ.1 x j a, fun x hx => ?_⟩
    by_cases q : x = k
    · subst q; rw [z_ue]
    · rw [z_uk q]; exact hJ.2 x (by omega)
  · obtain ⟨j1, j2⟩ := hJ
    rw [e1314_12 hF, if_neg (by decide)]
    have jI : ∀ x k, (x = 49 → k < 63 ∨ 65 < k) → x ≠ 76 → x ≠ 77 → x ≠ 78 → x ≠ 79 → J x k = I x k := fun x k a b _ _ _ => by
      rw [j1 x k b]
      by_cases y : x = 49
      · have := a y; rw [y, z_uk (by omega)]
      · rw [z_ur y]
    refine wl (Q := fun x => ∃ I', x = some (none, (81, pt_G, I', L)) ∧ (∀ x k, (x = 49 → k < 63 ∨ 65 < k) → x ≠ 76 → x ≠ 77 → x ≠ 78 → x ≠ 79 → I' x k = I x k) ∧ MS0 (rnd h r (h 0 0) s) I' ∧ I' 49 64 = nI (r + 1)) (G := fun f N => (F 1314 34 [some (.ref 49), some (.int (nI f)), none, none] [] (81, pt_G, N, L))) (P := fun f N => (∀ x k, (x = 49 → k < 63 ∨ 65 < k) → x ≠ 76 → x ≠ 77 → x ≠ 78 → x ≠ 79 → N x k = I x k) ∧ MS (rnd h r f s) N ∧ (rnd h r f s).2.2.2 = 0 ∧ N 49 64 = nI (r + 1)) (n := h 0 0) (fun f N hf hN go => ?_) (fun N hN => ?_) 0 J (Nat.zero_le _) ⟨jI, ⟨fun x hx => j2 x hx, ?_⟩, h0, by rw [j1 49 64 (by omega), z_ue]⟩
    · obtain ⟨n1, n2, n3, n4⟩ := hN
      have NP : N 49 30 = nI (h 0 0) := by rw [n1 49 30 (fun _ => by omega) (by omega) (by omega) (by omega) (by omega)]; exact H.P
      have c0 := rnd_cnt (h := h) r f s
      have m1 : f * h 0 6 + h 0 6 ≤ 63 := by
        have : (f + 1) * h 0 6 ≤ 7 * 9 := Nat.mul_le_mul (by omega) ht.2
        rw [Nat.succ_mul] at this
        omega
      try dsimp only
      rw [e1314_34 hF]
      simp (disch := omega) only [pm_k_i, Option.toList_some, Option.toList_none, List.cons_append, List.nil_append, cond_true, cond_false, ↓reduceIte, reduceCtorEq, z_1, nI_add, z_cl, z_ib, z_lt, z_le, z_eq, z_eq0, z_le0, z_lt0, z_b0, z_b1, z_m1, z_and7, Int32.add_zero, NP, hf]
      have nx : rnd h r (f + 1) s = trs h r (fo h f) (h 0 6) (rnd h r f s) := rfl
      refine wl (Q := fun x => ∃ I', x = some (none, (81, pt_G, I', L)) ∧ (∀ x k, (x = 49 → k < 63 ∨ 65 < k) → x ≠ 76 → x ≠ 77 → x ≠ 78 → x ≠ 79 → I' x k = I x k) ∧ MS0 (rnd h r (h 0 0) s) I' ∧ I' 49 64 = nI (r + 1)) (G := fun t M => (F 1314 44 [some (.ref 49), some (.int (nI f)), some (.int (nI t)), none] [] (81, pt_G, M, L))) (P := fun t M => (∀ x k, (x = 49 → k < 63 ∨ 65 < k) → x ≠ 76 → x ≠ 77 → x ≠ 78 → x ≠ 79 → M x k = I x k) ∧ MS (trs h r (fo h f) t (rnd h r f s)) M ∧ (trs h r (fo h f) t (rnd h r f s)).2.2.2 = 0 ∧ M 49 64 = nI (r + 1)) (n := h 0 6) (fun t M ht' hM go2 => ?_) (fun M hM => ?_) 0 N (Nat.zero_le _) ⟨n1, n2, n3, n4⟩
      · obtain ⟨m2, m3, m4, m5⟩ := hM
        obtain ⟨s1, s2, s3, s4, s5⟩ := id m3
        have c1 := trs_cnt (h := h) r (fo h f) t (rnd h r f s)
        have HM : MH h M := H.of (fun k a b => m2 49 k (fun _ => by omega) (by omega) (by omega) (by omega) (by omega)) (fun r a b k => m2 r k (fun _ => by omega) (by omega) (by omega) (by omega) (by omega)) (fun k a => m2 64 k (fun _ => by omega) (by omega) (by omega) (by omega) (by omega))
        have YM : LYs h M := Y.of (fun x k a => m2 x k (fun _ => by omega) (by omega) (by omega) (by omega) (by omega))
        have M80 : M 80 f = nI (fo h f) := by rw [m2 80 f (fun _ => by omega) (by omega) (by omega) (by omega) (by omega)]; exact ho f hf
        have fl := (fo_ok W hf).2.1
        obtain ⟨b1, b2⟩ := bch_ok (h := h) (trs h r (fo h f) t (rnd h r f s)).1 (fo h f)
        try dsimp only
        rw [e1314_44 hF, HM.tries]
        simp (disch := omega) only [pm_k_i, Option.toList_some, Option.toList_none, List.cons_append, List.nil_append, cond_true, cond_false, ↓reduceIte, reduceCtorEq, z_1, nI_add, z_cl, z_ib, z_lt, z_le, z_eq, z_eq0, z_le0, z_lt0, z_b0, z_b1, z_m1, z_and7, Int32.add_zero, ht', M80, m_bestFor hF W HM YM s1 fl, e1314_62 hF]
        by_cases z : bch h (trs h r (fo h f) t (rnd h r f s)).1 (fo h f) = 0
        · rw [if_pos z]
          have e1 : trs h r (fo h f) (t + 1) (rnd h r f s) = trs h r (fo h f) t (rnd h r f s) := tr1_none z
          rw [← e1] at m3 m4
          exact go2 M ⟨m2, m3, m4, m5⟩
        · rw [if_neg z]
          have e1 : trs h r (fo h f) (t + 1) (rnd h r f s) = (fun x => Nat.beq x (bch h (trs h r (fo h f) t (rnd h r f s)).1 (fo h f)) || (trs h r (fo h f) t (rnd h r f s)).1 x, (trs h r (fo h f) t (rnd h r f s)).2.1 + 1, fun i => if i = (trs h r (fo h f) t (rnd h r f s)).2.1 then (fo h f, bch h (trs h r (fo h f) t (rnd h r f s)).1 (fo h f), wkr h (bch h (trs h r (fo h f) t (rnd h r f s)).1 (fo h f)) r) else (trs h r (fo h f) t (rnd h r f s)).2.2.1 i, bif Nat.beq (wkr h (bch h (trs h r (fo h f) t (rnd h r f s)).1 (fo h f)) r) 0 then bch h (trs h r (fo h f) t (rnd h r f s)).1 (fo h f) else 0) := by
            show tr1 h r (fo h f) (trs h r (fo h f) t (rnd h r f s)) = _
            unfold tr1
            rw [m4, beq_f z]
            rfl
          generalize hS : trs h r (fo h f) t (rnd h r f s) = S at *
          generalize hB : bch h S.1 (fo h f) = B at *
          have w1 := wkr_lt W B r
          have H2 : MH h (pm_ui (pm_ui M 77 S.2.1 (nI (fo h f))) 78 S.2.1 (nI B)) := HM.of (fun k a b => by rw [z_ur (by omega), z_ur (by omega)]) (fun r a b k => by rw [z_ur (by omega), z_ur (by omega)]) (fun k a => by rw [z_ur (by omega), z_ur (by omega)])
          have Y2 : LYs h (pm_ui (pm_ui M 77 S.2.1 (nI (fo h f))) 78 S.2.1 (nI B)) := YM.of (fun x k a => by rw [z_ur (by omega), z_ur (by omega)])
          have r1 : nI (r + 1) - 1 = nI r := z_p1 r
          have cp1 : nI (S.2.1 + 1) - 1 = nI S.2.1 := z_p1 _
          have fin : ∀ N' : Nat → Nat → Int32, (∀ x k, (x = 49 → k ≠ 65) → N' x k = pm_ui (pm_ui (pm_ui (pm_ui (pm_ui M 77 S.2.1 (nI (fo h f))) 78 S.2.1 (nI B)) 79 S.2.1 (nI (wkr h B r))) 76 B 1) 49 63 (nI (S.2.1 + 1)) x k) → N' 49 65 = nI (bif Nat.beq (wkr h B r) 0 then B else 0) → (∀ x k, (x = 49 → k < 63 ∨ 65 < k) → x ≠ 76 → x ≠ 77 → x ≠ 78 → x ≠ 79 → N' x k = I x k) ∧ MS (trs h r (fo h f) (t + 1) (rnd h r f s)) N' ∧ N' 49 64 = nI (r + 1) := by
            intro N' k1 k2
            rw [e1]
            refine ⟨fun x k a b c d g => ?_, ⟨fun x hx => ?_, ?_, k2, ?_, fun i hi => ?_⟩, ?_⟩
            · rw [k1 x k (fun q => by have := a q; omega)]
              have e2 : pm_ui (pm_ui (pm_ui (pm_ui (pm_ui M 77 S.2.1 (nI (fo h f))) 78 S.2.1 (nI B)) 79 S.2.1 (nI (wkr h B r))) 76 B 1) 49 63 (nI (S.2.1 + 1)) x k = M x k := by
                by_cases y : x = 49
                · have := a y; rw [y, z_uk (by omega), z_ur (by omega), z_ur (by omega), z_ur (by omega), z_ur (by omega)]
                · rw [z_ur y, z_ur b, z_ur g, z_ur d, z_ur c]
              rw [e2]
              exact m2 x k a b c d g
            · rw [k1 76 x (fun q => by omega), z_ur (by omega)]
              show _ = nI (Nat.beq x B || S.1 x).toNat
              by_cases y : x = B
              · rw [y, z_ue, Nat.beq_refl]; rfl
              · rw [z_uk y, z_ur (by omega), z_ur (by omega), z_ur (by omega), beq_f y, Bool.false_or]; exact s1 x hx
            · rw [k1 49 63 (fun _ => by omega), z_ue]
            · show (bif Nat.beq (wkr h B r) 0 then B else 0) < 128
              cases Nat.beq (wkr h B r) 0
              · show 0 < 128; omega
              · show B < 128; omega
            · have hi : i < S.2.1 + 1 := hi
              rw [k1 77 i (fun q => by omega), k1 78 i (fun q => by omega), k1 79 i (fun q => by omega)]
              show _ = nI (if i = S.2.1 then ((fo h f, B, wkr h B r) : Nat × Nat × Nat) else S.2.2.1 i).1 ∧ _ = nI (if i = S.2.1 then ((fo h f, B, wkr h B r) : Nat × Nat × Nat) else S.2.2.1 i).2.1 ∧ _ = nI (if i = S.2.1 then ((fo h f, B, wkr h B r) : Nat × Nat × Nat) else S.2.2.1 i).2.2
              by_cases y : i = S.2.1
              · rw [if_pos y, y]
                simp (disch := omega) only [z_ur, z_ue]
                exact ⟨trivial, trivial, trivial⟩
              · rw [if_neg y]
                simp (disch := omega) only [z_ur, z_uk]
                exact s5 i (by omega)
            · rw [k1 49 64 (fun _ => by omega), z_uk (by omega), z_ur (by omega), z_ur (by omega), z_ur (by omega), z_ur (by omega)]
              exact m5
          rw [e1313_0 hF]
          simp (disch := omega) only [pm_k_i, Option.toList_some, Option.toList_none, List.cons_append, List.nil_append, cond_true, cond_false, ↓reduceIte, reduceCtorEq, z_1, nI_add, z_cl, z_ib, z_lt, z_le, z_eq, z_eq0, z_le0, z_lt0, z_b0, z_b1, z_m1, z_and7, Int32.add_zero, s2, m5, r1, m_walkOut hF W H2 Y2 (show 0 < B by omega) b1, e1313_39 hF, z_ur, z_uk, z_ue, cp1, vb1, s3, m4, show (B = 0) = False from propext ⟨fun hh => z hh, False.elim⟩]
          by_cases y : wkr h B r = 0
          · rw [if_pos y]
            simp (disch := omega) only [pm_k_i, Option.toList_some, Option.toList_none, List.cons_append, List.nil_append, cond_true, cond_false, ↓reduceIte, reduceCtorEq, z_1, nI_add, z_cl, z_ib, z_lt, z_le, z_eq, z_eq0, z_le0, z_lt0, z_b0, z_b1, z_m1, z_and7, Int32.add_zero, e1314_78 hF]
            rw [if_neg (by decide)]
            obtain ⟨g1, g2, g3⟩ := fin (pm_ui (pm_ui (pm_ui (pm_ui (pm_ui (pm_ui M 77 S.2.1 (nI (fo h f))) 78 S.2.1 (nI B)) 79 S.2.1 (nI (wkr h B r))) 76 B 1) 49 63 (nI (S.2.1 + 1))) 49 65 (nI B)) (fun x k a => by
              by_cases u : x = 49
              · rw [u, z_uk (a u)]
              · rw [z_ur u]) (by rw [z_ue, y]; rfl)
            have res : (trs h r (fo h f) (t + 1) (rnd h r f s)).2.2.2 ≠ 0 := by
              rw [e1, y]
              show B ≠ 0
              exact z
            have d1 : trs h r (fo h f) (h 0 6) (rnd h r f s) = trs h r (fo h f) (t + 1) (rnd h r f s) := lp_fix (show t + 1 ≤ h 0 6 by omega) rfl (fun _ _ _ => tr1_done res)
            have d2 : rnd h r (h 0 0) s = rnd h r (f + 1) s := rnd_done (by omega) (by rw [nx, d1]; exact res)
            rw [d2, nx, d1]
            exact ⟨_, rfl, g1, g2.2, g3⟩
          · rw [if_neg y]
            simp (disch := omega) only [pm_k_i, Option.toList_some, Option.toList_none, List.cons_append, List.nil_append, cond_true, cond_false, ↓reduceIte, reduceCtorEq, z_1, nI_add, z_cl, z_ib, z_lt, z_le, z_eq, z_eq0, z_le0, z_lt0, z_b0, z_b1, z_m1, z_and7, Int32.add_zero, e1314_78 hF]
            try rw [if_pos (by decide)]
            obtain ⟨g1, g2, g3⟩ := fin (pm_ui (pm_ui (pm_ui (pm_ui (pm_ui M 77 S.2.1 (nI (fo h f))) 78 S.2.1 (nI B)) 79 S.2.1 (nI (wkr h B r))) 76 B 1) 49 63 (nI (S.2.1 + 1))) (fun x k a => rfl) (by
              rw [z_uk (by omega), z_ur (by omega), z_ur (by omega), z_ur (by omega), z_ur (by omega), s3, m4, beq_f y]; rfl)
            refine go2 _ ⟨g1, g2, ?_, g3⟩
            rw [e1, beq_f y]
            rfl
      · obtain ⟨m2, m3, m4, m5⟩ := hM
        have MT : M 49 36 = nI (h 0 6) := by rw [m2 49 36 (fun _ => by omega) (by omega) (by omega) (by omega) (by omega)]; exact H.tries
        try dsimp only
        rw [e1314_44 hF]
        simp (disch := omega) only [pm_k_i, Option.toList_some, Option.toList_none, List.cons_append, List.nil_append, cond_true, cond_false, ↓reduceIte, reduceCtorEq, z_1, nI_add, z_cl, z_ib, z_lt, z_le, z_eq, z_eq0, z_le0, z_lt0, z_b0, z_b1, z_m1, z_and7, Int32.add_zero, MT, Nat.lt_irrefl]
        exact go M ⟨m2, m3, m4, m5⟩
    · obtain ⟨n1, n2, n3, n4⟩ := hN
      have NP : N 49 30 = nI (h 0 0) := by rw [n1 49 30 (fun _ => by omega) (by omega) (by omega) (by omega) (by omega)]; exact H.P
      try dsimp only
      rw [e1314_34 hF]
      simp (disch := omega) only [pm_k_i, Option.toList_some, Option.toList_none, List.cons_append, List.nil_append, cond_true, cond_false, ↓reduceIte, reduceCtorEq, z_1, nI_add, z_cl, z_ib, z_lt, z_le, z_eq, z_eq0, z_le0, z_lt0, z_b0, z_b1, z_m1, z_and7, Int32.add_zero, NP, Nat.lt_irrefl]
      exact ⟨N, rfl, n1, n2.2, n4⟩
    · obtain ⟨a1, a2, a3, a4⟩ := hs
      refine ⟨by rw [j1 49 63 (by omega), z_uk (by omega)]; exact a1, by rw [j1 49 65 (by omega), z_uk (by omega)]; exact a2, a3, fun i hi => ?_⟩
      rw [j1 77 i (by omega), j1 78 i (by omega), j1 79 i (by omega), z_ur (by omega), z_ur (by omega), z_ur (by omega)]
      exact a4 i hi
theorem fmr_open {n : Nat} (hs : (fmr h n).2.2.2.2 = 0) : (fmr h n).1 = n := by
  induction n with
  | zero => rfl
  | succ n ih =>
    by_cases q : (fmr h n).2.2.2.2 = 0
    · have e1 : fmr h (n + 1) = ((fmr h n).1 + 1, rnd h n (h 0 0) (fmr h n).2) := by
        show (bif Nat.beq (fmr h n).2.2.2.2 0 then _ else _) = _
        rw [q]
        rfl
      rw [e1]
      show (fmr h n).1 + 1 = n + 1
      rw [ih q]
    · rw [fmr_done (Nat.le_succ n) q] at hs
      exact absurd hs q
theorem m_forms (hF : pm_fix pt_me pt_Sg (pt_R L0 xs) F) (W : WF h) (X : MX h I) : ∃ I', (F 1315 0 [some (.ref 49)] [] (81, pt_G, I, L)) = some (none, (81, pt_G, I', L)) ∧ FM I I' ∧ MX h I' ∧ MS0 (fmr h 9).2 I' ∧ I' 49 64 = nI (fmr h 9).1 := by
  have hE := ev_lt W
  have hP := W.P
  obtain ⟨J, a1, a2, a3, a4, a5⟩ := m_laysAll (L := L) hF W X
  obtain ⟨N, b1, b2, b3⟩ := m_ordersFormers (L := L) hF W a3.1
  rw [e1315_0 hF, a1]
  simp (disch := omega) only [pm_k_i, Option.toList_some, Option.toList_none, List.cons_append, List.nil_append, cond_true, cond_false, ↓reduceIte, reduceCtorEq, z_1, nI_add, z_cl, z_ib, z_lt, z_le, z_eq, z_eq0, z_le0, z_lt0, z_b0, z_b1, z_m1, z_and7, Int32.add_zero, e1315_4 hF, b1, e1315_8 hF]
  refine wl (Q := fun x => ∃ I', x = some (none, (81, pt_G, I', L)) ∧ FM I I' ∧ MX h I' ∧ MS0 (fmr h 9).2 I' ∧ I' 49 64 = nI (fmr h 9).1) (G := fun r M => (F 1315 23 [some (.ref 49)] [] (81, pt_G, M, L))) (P := fun r M => (∀ x k, (x = 49 → k < 63 ∨ 65 < k) → x ≠ 76 → x ≠ 77 → x ≠ 78 → x ≠ 79 → M x k = N x k) ∧ MS0 (fmr h r).2 M ∧ M 49 64 = nI (fmr h r).1) (n := 9) (fun r M hr hM go => ?_) (fun M hM => ?_) 0 _ (Nat.zero_le _) ⟨fun x k a b c d g => ?_, ⟨?_, ?_, Nat.zero_lt_succ 127, fun i hi => absurd hi (Nat.not_lt_zero i)⟩, ?_⟩
  · obtain ⟨m1, m2, m3⟩ := hM
    obtain ⟨s2, s3, s4, s5⟩ := id m2
    have HM : MH h M := a3.1.of (fun k a b => by rw [m1 49 k (fun _ => by omega) (by omega) (by omega) (by omega) (by omega)]; exact b2 49 k (by omega)) (fun r a b k => by rw [m1 r k (fun _ => by omega) (by omega) (by omega) (by omega) (by omega)]; exact b2 r k (by omega)) (fun k a => by rw [m1 64 k (fun _ => by omega) (by omega) (by omega) (by omega) (by omega)]; exact b2 64 k (by omega))
    have YM : LYs h M := a4.1.of (fun x k a => by rw [m1 x k (fun _ => by omega) (by omega) (by omega) (by omega) (by omega)]; exact b2 x k (by omega))
    have cn := fmr_cnt W r
    have fb := fmr_b (h := h) (n := r)
    have done : (¬ (fmr h r).2.2.2.2 = 0 ∨ r = 9) → ∃ I', (some (none, (81, pt_G, M, L)) : pm_R) = some (none, (81, pt_G, I', L)) ∧ FM I I' ∧ MX h I' ∧ MS0 (fmr h 9).2 I' ∧ I' 49 64 = nI (fmr h 9).1 := by
      intro hh
      have e1 : fmr h 9 = fmr h r := by
        rcases hh with hh | hh
        · exact fmr_done (by omega) hh
        · rw [hh]
      refine ⟨M, rfl, fun x k hx => ?_, ⟨HM, Or.inr ⟨?_, YM, fun c c0 c1 => ?_⟩⟩, by rw [e1]; exact m2, by rw [e1]; exact m3⟩
      · rw [m1 x k (fun q => by unfold mc at hx; omega) (by unfold mc at hx; omega) (by unfold mc at hx; omega) (by unfold mc at hx; omega) (by unfold mc at hx; omega), b2 x k (by unfold mc at hx; omega)]
        exact a2 x k hx
      · rw [m1 49 57 (fun _ => by omega) (by omega) (by omega) (by omega) (by omega), b2 49 57 (by omega)]; exact a5
      · rw [m1 75 c (fun _ => by omega) (by omega) (by omega) (by omega) (by omega), b2 75 c (by omega)]; exact a4.2 c c0 c1
    try dsimp only
    rw [e1315_23 hF, m3, s3, show (9 : Int32) = nI 9 from rfl]
    by_cases q : (fmr h r).2.2.2.2 = 0
    · have e0 := fmr_open q
      have ho : ∀ n, n < h 0 0 → M 80 n = nI (fo h n) := fun n hn => by rw [m1 80 n (fun _ => by omega) (by omega) (by omega) (by omega) (by omega)]; exact b3 n hn
      rw [e0] at m3 ⊢
      obtain ⟨M', w1, w2, w3, w4⟩ := m_round (L := L) hF W HM YM ho m2 q m3 hr (by omega)
      have e1 : fmr h (r + 1) = ((fmr h r).1 + 1, rnd h r (h 0 0) (fmr h r).2) := by
        show (bif Nat.beq (fmr h r).2.2.2.2 0 then _ else _) = _
        rw [q]
        rfl
      simp (disch := omega) only [pm_k_i, Option.toList_some, Option.toList_none, List.cons_append, List.nil_append, cond_true, cond_false, ↓reduceIte, reduceCtorEq, z_1, nI_add, z_cl, z_ib, z_lt, z_le, z_eq, z_eq0, z_le0, z_lt0, z_b0, z_b1, z_m1, z_and7, Int32.add_zero, hr, q, w1, e1315_43 hF]
      refine go M' ⟨fun x k a b c d g => by rw [w2 x k a b c d g]; exact m1 x k a b c d g, by rw [e1]; exact w3, by rw [e1, w4, e0]⟩
    · simp (disch := omega) only [pm_k_i, Option.toList_some, Option.toList_none, List.cons_append, List.nil_append, cond_true, cond_false, ↓reduceIte, reduceCtorEq, z_1, nI_add, z_cl, z_ib, z_lt, z_le, z_eq, z_eq0, z_le0, z_lt0, z_b0, z_b1, z_m1, z_and7, Int32.add_zero, q]
      by_cases u : (fmr h r).1 < 9
      · rw [if_pos u]
        exact done (Or.inl q)
      · rw [if_neg u]
        exact done (Or.inl q)
  · obtain ⟨m1, m2, m3⟩ := hM
    obtain ⟨s2, s3, s4, s5⟩ := id m2
    have HM : MH h M := a3.1.of (fun k a b => by rw [m1 49 k (fun _ => by omega) (by omega) (by omega) (by omega) (by omega)]; exact b2 49 k (by omega)) (fun r a b k => by rw [m1 r k (fun _ => by omega) (by omega) (by omega) (by omega) (by omega)]; exact b2 r k (by omega)) (fun k a => by rw [m1 64 k (fun _ => by omega) (by omega) (by omega) (by omega) (by omega)]; exact b2 64 k (by omega))
    have YM : LYs h M := a4.1.of (fun x k a => by rw [m1 x k (fun _ => by omega) (by omega) (by omega) (by omega) (by omega)]; exact b2 x k (by omega))
    have fb := fmr_b (h := h) (n := 9)
    have fin : ∃ I', (some (none, (81, pt_G, M, L)) : pm_R) = some (none, (81, pt_G, I', L)) ∧ FM I I' ∧ MX h I' ∧ MS0 (fmr h 9).2 I' ∧ I' 49 64 = nI (fmr h 9).1 := by
      refine ⟨M, rfl, fun x k hx => ?_, ⟨HM, Or.inr ⟨?_, YM, fun c c0 c1 => ?_⟩⟩, m2, m3⟩
      · rw [m1 x k (fun q => by unfold mc at hx; omega) (by unfold mc at hx; omega) (by unfold mc at hx; omega) (by unfold mc at hx; omega) (by unfold mc at hx; omega), b2 x k (by unfold mc at hx; omega)]
        exact a2 x k hx
      · rw [m1 49 57 (fun _ => by omega) (by omega) (by omega) (by omega) (by omega), b2 49 57 (by omega)]; exact a5
      · rw [m1 75 c (fun _ => by omega) (by omega) (by omega) (by omega) (by omega), b2 75 c (by omega)]; exact a4.2 c c0 c1
    try dsimp only
    rw [e1315_23 hF, m3, s3, show (9 : Int32) = nI 9 from rfl]
    by_cases q : (fmr h 9).2.2.2.2 = 0
    · have e0 := fmr_open q
      rw [e0]
      simp (disch := omega) only [pm_k_i, Option.toList_some, Option.toList_none, List.cons_append, List.nil_append, cond_true, cond_false, ↓reduceIte, reduceCtorEq, z_1, nI_add, z_cl, z_ib, z_lt, z_le, z_eq, z_eq0, z_le0, z_lt0, z_b0, z_b1, z_m1, z_and7, Int32.add_zero, Nat.lt_irrefl]
      rw [e0] at fin
      exact fin
    · simp (disch := omega) only [pm_k_i, Option.toList_some, Option.toList_none, List.cons_append, List.nil_append, cond_true, cond_false, ↓reduceIte, reduceCtorEq, z_1, nI_add, z_cl, z_ib, z_lt, z_le, z_eq, z_eq0, z_le0, z_lt0, z_b0, z_b1, z_m1, z_and7, Int32.add_zero, q]
      by_cases u : (fmr h 9).1 < 9
      · rw [if_pos u]; exact fin
      · rw [if_neg u]; exact fin
  · by_cases y : x = 49
    · have := a y; rw [y, z_uk (by omega), z_uk (by omega), z_uk (by omega)]
    · rw [z_ur y, z_ur y, z_ur y]
  · rw [z_uk (by omega), z_uk (by omega), z_ue]; rfl
  · rw [z_ue]; rfl
  · rw [z_uk (by omega), z_ue]; rfl
end
