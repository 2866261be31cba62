/-! ===== the class reads: tokens, what must stand ===== -/
section
variable {I I' : Nat → Nat → Int32} {L L' : Nat → Nat → Int64}
variable {F : pm_F} {L0 : Nat} {xs : Nat → Int32}
variable {n q f : Nat} {b : Nat → Nat}
theorem vl_le (hn : n ≤ 900) (hq : q ≤ n) (hd : dln n b q ≤ 3) : vl n b q < 1000 := by
  have r := (rn_ok isD (b := b) isD_6 hn hq).2.1
  have hh : ∀ m, m ≤ dln n b q → lp (fun k a => 10 * a + (cb n b (q + k) - 48)) m 0 < 10 ^ m := by
    intro m
    induction m with
    | zero => intro _; show 0 < 1; omega
    | succ m ih =>
      intro hm
      have i := ih (by omega)
      have c := isD_c (r m (by unfold dln at hm; omega)).1
      show 10 * lp (fun k a => 10 * a + (cb n b (q + k) - 48)) m 0 + (cb n b (q + m) - 48) < 10 ^ (m + 1)
      rw [Nat.pow_succ]
      omega
  have h1 := hh (dln n b q) (Nat.le_refl _)
  have p : 10 ^ dln n b q ≤ 10 ^ 3 := Nat.pow_le_pow_right (by decide) hd
  have : vl n b q < 10 ^ dln n b q := h1
  omega
theorem kd_2 (hk : kd n b q = 2) : dln n b q ≤ 3 ∧ q < n := by
  unfold kd at hk
  by_cases c : n ≤ q
  · rw [if_pos c] at hk; cases hk
  · rw [if_neg c] at hk
    cases x : isL (cb n b q) with
    | true =>
      rw [x] at hk
      have hk : (if wln n b q ≤ 8 then 1 else 4) = 2 := hk
      split at hk <;> cases hk
    | false =>
      rw [x] at hk
      cases y : isD (cb n b q) with
      | true =>
        rw [y] at hk
        have hk : (if dln n b q ≤ 3 then (bif isL (cb n b (q + dln n b q)) then 4 else 2) else 4) = 2 := hk
        by_cases d : dln n b q ≤ 3
        · exact ⟨d, by omega⟩
        · rw [if_neg d] at hk; cases hk
      | false =>
        rw [y] at hk
        have hk : (if cb n b q = 59 then 3 else 4) = 2 := hk
        split at hk <;> cases hk
theorem kd_1 (hk : kd n b q = 1) : isL (cb n b q) = true ∧ wln n b q ≤ 8 ∧ q < n ∧ en n b q = q + wln n b q := by
  unfold kd at hk
  by_cases c : n ≤ q
  · rw [if_pos c] at hk; cases hk
  · rw [if_neg c] at hk
    cases x : isL (cb n b q) with
    | true =>
      rw [x] at hk
      have hk : (if wln n b q ≤ 8 then 1 else 4) = 1 := hk
      refine ⟨rfl, ?_, by omega, by unfold en; rw [if_neg c, x]; rfl⟩
      by_cases d : wln n b q ≤ 8
      · exact d
      · rw [if_neg d] at hk; cases hk
    | false =>
      rw [x] at hk
      cases y : isD (cb n b q) with
      | true =>
        rw [y] at hk
        have hk : (if dln n b q ≤ 3 then (bif isL (cb n b (q + dln n b q)) then 4 else 2) else 4) = 1 := hk
        by_cases d : dln n b q ≤ 3
        · rw [if_pos d] at hk
          cases z : isL (cb n b (q + dln n b q)) <;> (rw [z] at hk; cases hk)
        · rw [if_neg d] at hk; cases hk
      | false =>
        rw [y] at hk
        have hk : (if cb n b q = 59 then 3 else 4) = 1 := hk
        split at hk <;> cases hk
theorem kd_le : kd n b q ≤ 4 := by
  unfold kd
  split
  · omega
  · cases isL (cb n b q)
    · cases isD (cb n b q)
      · show (if cb n b q = 59 then 3 else 4) ≤ 4
        split <;> omega
      · show (if dln n b q ≤ 3 then (bif isL (cb n b (q + dln n b q)) then 4 else 2) else 4) ≤ 4
        split
        · cases isL (cb n b (q + dln n b q))
          · show 2 ≤ 4; omega
          · show 4 ≤ 4; omega
        · omega
    · show (if wln n b q ≤ 8 then 1 else 4) ≤ 4
      split <;> omega
theorem c_takeNumber (hF : pm_fix pt_me pt_Sg (pt_R L0 xs) F) (hb : ∀ i, b i < 256) (X : TC n b I) (hq : q < n) (h10 : I 10 10 = nI q) (h11 : I 10 11 = nI q) (h15 : I 10 15 = -1) (hl : isL (cb n b q) = false) (hd : isD (cb n b q) = true) : ∃ I', (F 723 0 [some (.ref 10)] [] (49, pt_G, I, L)) = some (none, (49, pt_G, I', L)) ∧ FT0 I I' L L ∧ CK n b q I' L := by
  have hn := X.2.1
  obtain ⟨r1, r2, r3⟩ := rn_ok isD (b := b) isD_6 hn (show q ≤ n by omega)
  have ek : kd n b q = if dln n b q ≤ 3 then (bif isL (cb n b (q + dln n b q)) then 4 else 2) else 4 := by unfold kd; rw [if_neg (by omega), hl, hd]; rfl
  have ee : en n b q = q + dln n b q := by unfold en; rw [if_neg (by omega), hl, hd]; rfl
  have eR : rn isD n b q = dln n b q := rfl
  rw [eR] at r1 r2 r3
  rw [e723_0 hF]
  refine wl (Q := fun x => ∃ I', x = some (none, (49, pt_G, I', L)) ∧ FT0 I I' L L ∧ CK n b q I' L) (G := fun k J => (F 723 5 [some (.ref 10)] [] (49, pt_G, J, L))) (P := fun k J => FT0 I J L L ∧ J 10 10 = nI (q + k) ∧ J 10 11 = nI q ∧ J 10 15 = -1 ∧ J 10 13 = nI (lp (fun k a => 10 * a + (cb n b (q + k) - 48)) k 0)) (n := dln n b q) (fun k J hk hJ go => ?_) (fun J hJ => ?_) 0 _ (Nat.zero_le _) ⟨⟨fun r j a => ?_, fun _ _ _ => rfl⟩, by rw [z_uk (by omega)]; exact h10, by rw [z_uk (by omega)]; exact h11, by rw [z_uk (by omega)]; exact h15, by rw [z_ue]; rfl⟩
  · obtain ⟨j1, j2, j3, j4, j5⟩ := hJ
    obtain ⟨a1, a2⟩ := r2 k hk
    obtain ⟨c1, c2⟩ := isD_c a1
    have XJ := j1.tc X
    have lx : nI (cb n b (q + k)) - 48 = nI (cb n b (q + k) - 48) := by rw [show (48 : Int32) = nI 48 from rfl, pk_sub (by omega)]
    have il := c_isDigit (I := J) (L := L) (n := n) (i := q + k) hF hb
    rw [cI_at a2] at il
    try dsimp only
    rw [e723_5 hF, j2]
    simp (disch := omega) only [pm_k_i, Option.toList_some, Option.toList_none, List.cons_append, List.nil_append, cond_true, cond_false, ↓reduceIte, reduceCtorEq, z_1, nI_add, z_cl, z_ib, z_lt, z_le, z_eq, z_eq0, z_le0, z_lt0, z_b0, z_b1, z_m1, z_and7, Int32.add_zero, c_length hF XJ, e723_16 hF, a2, c_byteAt' hF XJ, e723_30 hF, il, a1, e723_33 hF, e723_55 hF, cI_at a2, j2, j5, lx]
    rw [show (10 : Int32) = nI 10 from rfl, pk_mul, nI_add, Nat.mul_comm _ 10]
    refine go _ ⟨j1.tr ⟨fun r j a => ?_, fun _ _ _ => rfl⟩, by rw [z_ue]; rfl, ?_, ?_, ?_⟩
    · by_cases z : r = 10
      · have := a z; rw [z, z_uk (by omega), z_uk (by omega)]
      · rw [z_ur z, z_ur z]
    · rw [z_uk (by omega), z_uk (by omega)]; exact j3
    · rw [z_uk (by omega), z_uk (by omega)]; exact j4
    · rw [z_uk (by omega), z_ue]; rfl
  · obtain ⟨j1, j2, j3, j4, j5⟩ := hJ
    have XJ := j1.tc X
    have s0 : nI (q + dln n b q) - nI q = nI (dln n b q) := by rw [pk_sub (by omega), Nat.add_sub_cancel_left]
    have il := c_isLetter (I := J) (L := L) (n := n) (i := q + dln n b q) hF hb
    have done : ∀ m, m = kd n b q → FT0 I (pm_ui J 10 12 (nI m)) L L ∧ CK n b q (pm_ui J 10 12 (nI m)) L := by
      intro m hm
      refine ⟨j1.tr ⟨fun r j a => ?_, fun _ _ _ => rfl⟩, ?_, ?_, ?_, ?_, fun z => ?_, fun z => ?_⟩
      · by_cases z : r = 10
        · have := a z; rw [z, z_uk (by omega)]
        · rw [z_ur z]
      · rw [z_uk (by omega), ee]; exact j2
      · rw [z_uk (by omega)]; exact j3
      · rw [z_ue, hm]
      · rw [z_uk (by omega), j4, if_neg (fun z => by have := (kd_1 z).1; rw [hl] at this; cases this)]
      · rw [z_uk (by omega)]; exact j5
      · have := (kd_1 z).1; rw [hl] at this; cases this
    have fin : ∃ I', (if nI (dln n b q) ≤ 3 then pm_k (F 1003 0 [some (.ref 1), some (.int (nI (q + dln n b q)))] [] (49, pt_G, J, L)) (fun v S => F 723 100 [some (.ref 10)] (v.toList ++ [.ref 10]) S) else some (none, (49, pt_G, pm_ui J 10 12 4, L))) = some (none, (49, pt_G, I', L)) ∧ FT0 I I' L L ∧ CK n b q I' L := by
      rw [show (3 : Int32) = nI 3 from rfl]
      by_cases c : dln n b q ≤ 3
      · rw [if_pos c] at ek
        simp (disch := omega) only [pm_k_i, Option.toList_some, Option.toList_none, List.cons_append, List.nil_append, cond_true, cond_false, ↓reduceIte, reduceCtorEq, z_1, nI_add, z_cl, z_ib, z_lt, z_le, z_eq, z_eq0, z_le0, z_lt0, z_b0, z_b1, z_m1, z_and7, Int32.add_zero, c, c_byteAt' hF XJ, e723_100 hF, il, e723_103 hF]
        cases x : isL (cb n b (q + dln n b q)) with
        | true =>
          rw [x] at ek
          simp (disch := omega) only [pm_k_i, Option.toList_some, Option.toList_none, List.cons_append, List.nil_append, cond_true, cond_false, ↓reduceIte, reduceCtorEq, z_1, nI_add, z_cl, z_ib, z_lt, z_le, z_eq, z_eq0, z_le0, z_lt0, z_b0, z_b1, z_m1, z_and7, Int32.add_zero]
          exact ⟨_, rfl, done 4 ek.symm⟩
        | false =>
          rw [x] at ek
          simp (disch := omega) only [pm_k_i, Option.toList_some, Option.toList_none, List.cons_append, List.nil_append, cond_true, cond_false, ↓reduceIte, reduceCtorEq, z_1, nI_add, z_cl, z_ib, z_lt, z_le, z_eq, z_eq0, z_le0, z_lt0, z_b0, z_b1, z_m1, z_and7, Int32.add_zero]
          exact ⟨_, rfl, done 2 ek.symm⟩
      · rw [if_neg c] at ek
        simp (disch := omega) only [pm_k_i, Option.toList_some, Option.toList_none, List.cons_append, List.nil_append, cond_true, cond_false, ↓reduceIte, reduceCtorEq, z_1, nI_add, z_cl, z_ib, z_lt, z_le, z_eq, z_eq0, z_le0, z_lt0, z_b0, z_b1, z_m1, z_and7, Int32.add_zero, c]
        exact ⟨_, rfl, done 4 ek.symm⟩
    try dsimp only
    rw [e723_5 hF, j2]
    by_cases c : q + dln n b q < n
    · have il := c_isDigit (I := J) (L := L) (n := n) (i := q + dln n b q) hF hb
      simp (disch := omega) only [pm_k_i, Option.toList_some, Option.toList_none, List.cons_append, List.nil_append, cond_true, cond_false, ↓reduceIte, reduceCtorEq, z_1, nI_add, z_cl, z_ib, z_lt, z_le, z_eq, z_eq0, z_le0, z_lt0, z_b0, z_b1, z_m1, z_and7, Int32.add_zero, c_length hF XJ, e723_16 hF, c, e723_30 hF, c_byteAt' hF XJ, il, r3, e723_33 hF, j2, j3, s0]
      simp (disch := omega) only [pm_k_i, Option.toList_some, Option.toList_none, List.cons_append, List.nil_append, cond_true, cond_false, ↓reduceIte, reduceCtorEq, z_1, nI_add, z_cl, z_ib, z_lt, z_le, z_eq, z_eq0, z_le0, z_lt0, z_b0, z_b1, z_m1, z_and7, Int32.add_zero, c_byteAt' hF XJ] at fin
      exact fin
    · simp (disch := omega) only [pm_k_i, Option.toList_some, Option.toList_none, List.cons_append, List.nil_append, cond_true, cond_false, ↓reduceIte, reduceCtorEq, z_1, nI_add, z_cl, z_ib, z_lt, z_le, z_eq, z_eq0, z_le0, z_lt0, z_b0, z_b1, z_m1, z_and7, Int32.add_zero, c_length hF XJ, e723_16 hF, c, j2, j3, s0]
      exact fin
  · by_cases z : r = 10
    · have := a z; rw [z, z_uk (by omega)]
    · rw [z_ur z]
theorem cI_m1 (hb : ∀ i, b i < 256) : (cI n b q = -1) = (n ≤ q) := by
  have := hb q
  unfold cI
  by_cases c : q < n
  · rw [if_pos c, z_m1 (by omega)]
    exact propext ⟨False.elim, fun z => by omega⟩
  · rw [if_neg c]
    exact propext ⟨fun _ => by omega, fun _ => rfl⟩
theorem cI_59 (hb : ∀ i, b i < 256) : (cI n b q = 59) = (cb n b q = 59) := by
  have := hb q
  unfold cI cb
  by_cases c : q < n
  · rw [if_pos c, if_pos c, show (59 : Int32) = nI 59 from rfl, z_eq (by omega) (by omega)]
  · rw [if_neg c, if_neg c]
    exact propext ⟨fun z => absurd z (by decide), fun z => absurd z (by decide)⟩
theorem c_advance (hF : pm_fix pt_me pt_Sg (pt_R L0 xs) F) (G : LG L) {p : Nat} (hb : ∀ i, b i < 256) (X : TC n b I) (hp : p ≤ n) (h8 : I 10 8 = 0) (h10 : I 10 10 = nI p) : ∃ I' L', (F 721 0 [some (.ref 10), none] [] (49, pt_G, I, L)) = some (none, (49, pt_G, I', L')) ∧ FT0 I I' L L' ∧ CK n b (skp n b p) I' L' := by
  have hn := X.2.1
  obtain ⟨r1, r2, r3⟩ := rn_ok isB (b := b) isB_6 hn hp
  rw [e721_0 hF, h8, if_pos rfl]
  refine wl (Q := fun x => ∃ I' L', x = some (none, (49, pt_G, I', L')) ∧ FT0 I I' L L' ∧ CK n b (skp n b p) I' L') (G := fun k J => (F 721 8 [some (.ref 10), none] [] (49, pt_G, J, L))) (P := fun k J => FT0 I J L L ∧ J 10 10 = nI (p + k)) (n := rn isB n b p) (fun k J hk hJ go => ?_) (fun J hJ => ?_) 0 _ (Nat.zero_le _) ⟨FT0.rf, h10⟩
  · obtain ⟨j1, j2⟩ := hJ
    obtain ⟨a1, a2⟩ := r2 k hk
    have XJ := j1.tc X
    have il := c_isBlank (I := J) (L := L) (n := n) (i := p + k) hF hb
    try dsimp only
    rw [e721_8 hF, j2]
    simp (disch := omega) only [pm_k_i, Option.toList_some, Option.toList_none, List.cons_append, List.nil_append, cond_true, cond_false, ↓reduceIte, reduceCtorEq, z_1, nI_add, z_cl, z_ib, z_lt, z_le, z_eq, z_eq0, z_le0, z_lt0, z_b0, z_b1, z_m1, z_and7, Int32.add_zero, c_length hF XJ, e721_19 hF, a2, j2, c_byteAt' hF XJ, e721_33 hF, il, a1, e721_36 hF]
    refine go _ ⟨j1.tr ⟨fun r j a => ?_, fun _ _ _ => rfl⟩, by rw [z_ue]; rfl⟩
    by_cases z : r = 10
    · have := a z; rw [z, z_uk (by omega)]
    · rw [z_ur z]
  · obtain ⟨j1, j2⟩ := hJ
    have XJ := j1.tc X
    have es : skp n b p = p + rn isB n b p := rfl
    rw [es]
    generalize p + rn isB n b p = q at *
    have il := c_isBlank (I := J) (L := L) (n := n) (i := q) hF hb
    have XK : TC n b (pm_ui (pm_ui J 10 11 (nI q)) 10 15 (-1)) := XJ.of (by rw [z_ur (by omega), z_ur (by omega)]) (fun i => by rw [z_ur (by omega), z_ur (by omega)])
    have j1K : FT0 I (pm_ui (pm_ui J 10 11 (nI q)) 10 15 (-1)) L L := j1.tr ⟨fun r j a => by
      by_cases z : r = 10
      · have := a z; rw [z, z_uk (by omega), z_uk (by omega)]
      · rw [z_ur z, z_ur z], fun _ _ _ => rfl⟩
    have k10 : (pm_ui (pm_ui J 10 11 (nI q)) 10 15 (-1)) 10 10 = nI q := by rw [z_uk (by omega), z_uk (by omega)]; exact j2
    have k11 : (pm_ui (pm_ui J 10 11 (nI q)) 10 15 (-1)) 10 11 = nI q := by rw [z_uk (by omega), z_ue]
    have k15 : (pm_ui (pm_ui J 10 11 (nI q)) 10 15 (-1)) 10 15 = -1 := by rw [z_ue]
    have fin : ∃ I' L', pm_k (F 1003 0 [some (.ref 1), some (.int (nI q))] [] (49, pt_G, (pm_ui (pm_ui J 10 11 (nI q)) 10 15 (-1)), L)) (fun v S => F 721 76 [some (.ref 10), none] (v.toList ++ []) S) = some (none, (49, pt_G, I', L')) ∧ FT0 I I' L L' ∧ CK n b q I' L' := by
      generalize pm_ui (pm_ui J 10 11 (nI q)) 10 15 (-1) = K at *
      have i1 := c_isLetter (I := K) (L := L) (n := n) (i := q) hF hb
      have i2 := c_isDigit (I := K) (L := L) (n := n) (i := q) hF hb
      simp (disch := omega) only [pm_k_i, Option.toList_some, Option.toList_none, List.cons_append, List.nil_append, cond_true, cond_false, ↓reduceIte, reduceCtorEq, z_1, nI_add, z_cl, z_ib, z_lt, z_le, z_eq, z_eq0, z_le0, z_lt0, z_b0, z_b1, z_m1, z_and7, Int32.add_zero, c_byteAt' hF XK, e721_76 hF, cI_m1 hb]
      by_cases c : n ≤ q
      · rw [if_pos c]
        have ek : kd n b q = 0 := by unfold kd; rw [if_pos c]
        have ee : en n b q = q := by unfold en; rw [if_pos c]
        refine ⟨_, _, rfl, j1K.tr ⟨fun r j a => ?_, fun _ _ _ => rfl⟩, ?_, ?_, ?_, ?_, fun z => ?_, fun z => ?_⟩
        · by_cases z : r = 10
          · have := a z; rw [z, z_uk (by omega)]
          · rw [z_ur z]
        · rw [z_uk (by omega), ee]; exact k10
        · rw [z_uk (by omega)]; exact k11
        · rw [z_ue, ek]; rfl
        · rw [z_uk (by omega), ek, if_neg (by decide)]; exact k15
        · omega
        · omega
      · rw [if_neg c]
        simp (disch := omega) only [pm_k_i, Option.toList_some, Option.toList_none, List.cons_append, List.nil_append, cond_true, cond_false, ↓reduceIte, reduceCtorEq, z_1, nI_add, z_cl, z_ib, z_lt, z_le, z_eq, z_eq0, z_le0, z_lt0, z_b0, z_b1, z_m1, z_and7, Int32.add_zero, i1, e721_94 hF]
        cases x : isL (cb n b q) with
        | true =>
          obtain ⟨N, K', n1, n2, n3⟩ := c_takeWord hF G hb XK (by omega) k10 k11 k15 x
          simp (disch := omega) only [pm_k_i, Option.toList_some, Option.toList_none, List.cons_append, List.nil_append, cond_true, cond_false, ↓reduceIte, reduceCtorEq, z_1, nI_add, z_cl, z_ib, z_lt, z_le, z_eq, z_eq0, z_le0, z_lt0, z_b0, z_b1, z_m1, z_and7, Int32.add_zero, n1, e721_101 hF]
          exact ⟨N, K', rfl, j1K.tr n2, n3⟩
        | false =>
          simp (disch := omega) only [pm_k_i, Option.toList_some, Option.toList_none, List.cons_append, List.nil_append, cond_true, cond_false, ↓reduceIte, reduceCtorEq, z_1, nI_add, z_cl, z_ib, z_lt, z_le, z_eq, z_eq0, z_le0, z_lt0, z_b0, z_b1, z_m1, z_and7, Int32.add_zero, i2, e721_108 hF]
          cases y : isD (cb n b q) with
          | true =>
            obtain ⟨N, n1, n2, n3⟩ := c_takeNumber (L := L) hF hb XK (by omega) k10 k11 k15 x y
            simp (disch := omega) only [pm_k_i, Option.toList_some, Option.toList_none, List.cons_append, List.nil_append, cond_true, cond_false, ↓reduceIte, reduceCtorEq, z_1, nI_add, z_cl, z_ib, z_lt, z_le, z_eq, z_eq0, z_le0, z_lt0, z_b0, z_b1, z_m1, z_and7, Int32.add_zero, n1, e721_115 hF]
            exact ⟨N, L, rfl, j1K.tr n2, n3⟩
          | false =>
            have ek : kd n b q = if cb n b q = 59 then 3 else 4 := by unfold kd; rw [if_neg c, x, y]; rfl
            have ee : en n b q = q + 1 := by unfold en; rw [if_neg c, x, y]; rfl
            have done : ∀ m, m = kd n b q → FT0 I (pm_ui (pm_ui K 10 12 (nI m)) 10 10 (nI (q + 1))) L L ∧ CK n b q (pm_ui (pm_ui K 10 12 (nI m)) 10 10 (nI (q + 1))) L := by
              intro m hm
              have km : m = 3 ∨ m = 4 := by rw [hm, ek]; split <;> omega
              refine ⟨j1K.tr ⟨fun r j a => ?_, fun _ _ _ => rfl⟩, ?_, ?_, ?_, ?_, fun z => ?_, fun z => ?_⟩
              · by_cases z : r = 10
                · have := a z; rw [z, z_uk (by omega), z_uk (by omega)]
                · rw [z_ur z, z_ur z]
              · rw [z_ue, ee]
              · rw [z_uk (by omega), z_uk (by omega)]; exact k11
              · rw [z_uk (by omega), z_ue, hm]
              · rw [z_uk (by omega), z_uk (by omega), k15, if_neg (by omega)]
              · omega
              · omega
            simp (disch := omega) only [pm_k_i, Option.toList_some, Option.toList_none, List.cons_append, List.nil_append, cond_true, cond_false, ↓reduceIte, reduceCtorEq, z_1, nI_add, z_cl, z_ib, z_lt, z_le, z_eq, z_eq0, z_le0, z_lt0, z_b0, z_b1, z_m1, z_and7, Int32.add_zero, k10, cI_59 hb]
            by_cases z : cb n b q = 59
            · rw [if_pos z] at ek ⊢
              exact ⟨_, _, rfl, done 3 ek.symm⟩
            · rw [if_neg z] at ek ⊢
              exact ⟨_, _, rfl, done 4 ek.symm⟩
    try dsimp only
    rw [e721_8 hF, j2]
    by_cases c : q < n
    · simp (disch := omega) only [pm_k_i, Option.toList_some, Option.toList_none, List.cons_append, List.nil_append, cond_true, cond_false, ↓reduceIte, reduceCtorEq, z_1, nI_add, z_cl, z_ib, z_lt, z_le, z_eq, z_eq0, z_le0, z_lt0, z_b0, z_b1, z_m1, z_and7, Int32.add_zero, c_length hF XJ, e721_19 hF, c, j2, c_byteAt' hF XJ, e721_33 hF, il, r3, e721_36 hF]
      exact fin
    · simp (disch := omega) only [pm_k_i, Option.toList_some, Option.toList_none, List.cons_append, List.nil_append, cond_true, cond_false, ↓reduceIte, reduceCtorEq, z_1, nI_add, z_cl, z_ib, z_lt, z_le, z_eq, z_eq0, z_le0, z_lt0, z_b0, z_b1, z_m1, z_and7, Int32.add_zero, c_length hF XJ, e721_19 hF, c, j2]
      exact fin
end
