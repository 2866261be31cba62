/-! ===== the law, whole ===== -/
section
variable {S S' S0 S1 : qm_S} {F : qm_F} {J L0 : Nat} {xs : List Int32} {G : qm_R → Prop}
variable {h h0 : Nat → Nat → Nat} {q n C a x s y k5 a0 e3 i : Nat} {b w : Nat → Nat} {sn : Nat → SN}
theorem l_80 (hF : qm_fix cO qt_me qt_qs (qt_C L0 xs) J F) (hL : L0 < 2147483648) (h1 : 1 ≤ h0 0 0) (h4 : h0 0 0 ≤ 4) (h5 : h0 0 1 ≤ 5) (hy : y < S0.1) (hS : 1001 ≤ S0.1) (hP : qr_i S0 1 y 0 = nI (h0 0 0)) (hQ : qr_i S0 1 y 1 = nI (h0 0 1)) (hk : ∀ a S, LVs h0 5 a S → FRM S0.1 S0 S → S.1 ≤ S0.1 + 825 → S.2.1 ≤ S0.2.1 + 5100 → G (F 6 337 [some (.inr (2, a0)), some (.inr (1, y)), some (.inr (0, 6)), some (.inr (22, e3)), some (.inl (nI a)), some (.inl (nI a - 1)), none, none, none] [] S)) : ∀ (d i a : Nat) (S : qm_S), i + d = 5 → LVs h0 i a S → FRM S0.1 S0 S → S.1 ≤ S0.1 + 165 * i → S.2.1 ≤ S0.2.1 + 1020 * i → G (F 6 80 [some (.inr (2, a0)), some (.inr (1, y)), some (.inr (0, 6)), some (.inr (22, e3)), some (.inl (nI a)), some (.inl (nI i)), none, none, none] [] S) := by
  intro d
  induction d with
  | zero =>
    intro i a S jd V f b1 b2
    have ie : i = 5 := by omega
    subst ie
    rw [q6_80 hF, if_neg (by decide)]
    exact hk a S V f b1 b2
  | succ d ih =>
    intro i a S jd V f b1 b2
    have i5 : nI i < 5 := by rw [show (5 : Int32) = nI 5 from rfl, z_lt (by omega) (by omega)]; omega
    obtain ⟨q, h, b, C, w, sn, X, L⟩ := V
    have L : LPs h0 i a q h C sn := L
    have hp := L.P
    have fs := f.2.2.2.1
    obtain ⟨S1, e1, ⟨b', X1⟩, f1, c1, c2⟩ := j_holds (z := 6) (y := y) (S := S) hF (by rw [hp.1]; exact h1) (by rw [hp.1]; exact h4) (by rw [hp.2]; exact h5) (by omega) (by omega) (by rw [hp.1]; exact (f.1 1 y 0 hy).trans hP) (by rw [hp.2]; exact (f.1 1 y 1 hy).trans hQ) ⟨b, X⟩
    have f2 : FRM S0.1 S0 S1 := f.tr (f1.mono fs)
    have V1 : LVs h0 i a S1 := ⟨q, h, b', C, w, sn, X1, L⟩
    have fin : ∀ a' Y, LVs h0 (i + 1) a' (qm_sC S1 Y) → G (F 6 80 [some (.inr (2, a0)), some (.inr (1, y)), some (.inr (0, 6)), some (.inr (22, e3)), some (.inl (nI a')), some (.inl (nI (i + 1))), none, none, none] [] (qm_sC S1 Y)) := fun a' Y V' => ih (i + 1) a' (qm_sC S1 Y) (by omega) V' f2.sC (by have : (qm_sC S1 Y).1 = S1.1 := rfl; omega) (by have : (qm_sC S1 Y).2.1 = S1.2.1 := rfl; omega)
    have hP1 := (f2.1 1 y 0 hy).trans hP
    have hQ1 := (f2.1 1 y 1 hy).trans hQ
    rw [q6_80 hF, if_pos i5, e1]
    simp only [qm_k_n, Option.toList_some, Option.toList_none, List.cons_append, List.nil_append, List.append_nil]
    rw [q6_91 hF, if_neg (by decide), show (300 : Int32) + nI i = nI (300 + i) from nI_add 300 i, show (1000 : Int32) = nI 1000 from rfl, j_pick hF hL (by omega) (by decide) (by decide)]
    simp only [qm_k_n, Option.toList_some, Option.toList_none, List.cons_append, List.nil_append, List.append_nil]
    rw [q6_109 hF, show (310 : Int32) + nI i = nI (310 + i) from nI_add 310 i, show (1000 : Int32) = nI 1000 from rfl, j_pick hF hL (by omega) (by decide) (by decide)]
    simp only [qm_k_n, Option.toList_some, Option.toList_none, List.cons_append, List.nil_append, List.append_nil]
    rw [q6_124 hF]
    by_cases c0 : i = 0
    · rw [if_pos (show nI i = 0 by rw [c0]; rfl)]
      exact l_146 hF h1 h4 h5 (by omega) (wpk_lt (by decide)) (wpk_lt (by decide)) (k := 0) (by decide) hP1 hQ1 V1 fin
    · rw [if_neg (nI_ne0 (by omega) (by omega)), show (320 : Int32) + nI i = nI (320 + i) from nI_add 320 i, show (5 : Int32) = nI 5 from rfl, j_pick hF hL (by omega) (by decide) (by decide)]
      simp only [qm_k_n, Option.toList_some, Option.toList_none, List.cons_append, List.nil_append, List.append_nil]
      exact l_146 hF h1 h4 h5 (by omega) (wpk_lt (by decide)) (wpk_lt (by decide)) (wpk_lt (by decide)) hP1 hQ1 V1 fin
theorem l_337 (hF : qm_fix cO qt_me qt_qs (qt_C L0 xs) J F) {x4 : Int32} (hk : ∀ Y, LVs h0 10 0 (qm_sC S Y) → G (qm_k (F 5 0 [some (.inr (0, 6)), some (.inr (1, y)), none, none, none] [] (qm_sC S Y)) (fun v U => F 6 364 [some (.inr (2, a0)), some (.inr (1, y)), some (.inr (0, 6)), some (.inr (22, e3)), some (.inl x4), some (.inl (nI 0 - 1)), none, none, none] (v.toList ++ []) U))) : ∀ (a i : Nat) (Y : pm_S), i + a ≤ 10 → LVs h0 i a (qm_sC S Y) → G (F 6 337 [some (.inr (2, a0)), some (.inr (1, y)), some (.inr (0, 6)), some (.inr (22, e3)), some (.inl x4), some (.inl (nI a - 1)), none, none, none] [] (qm_sC S Y)) := by
  intro a
  induction a with
  | zero =>
    intro i Y ia V
    rw [q6_337 hF, if_pos (by decide)]
    obtain ⟨q, h, b, C, w, sn, X, l1, l2, l3, l4, l5⟩ := V
    exact hk Y ⟨q, h, b, C, w, sn, X, by omega, l2, l3, l4, by omega⟩
  | succ a ih =>
    intro i Y ia V
    obtain ⟨q, h, b, C, w, sn, X, l1, ⟨T, l2⟩, l3, l4, l5⟩ := V
    obtain ⟨Y1, X1, e1⟩ := qa_undo (J := J) (z := 6) X (by omega)
    have l40 := l4 (by omega)
    have V1 : LVs h0 (i + 1) a (qm_sC S Y1) := ⟨q + 1, _, b, _, _, sn, X1, by omega, ⟨_, by rw [l2, sS_sS]⟩, fun z => by
      subst z
      exact ⟨l40.1, by rw [l2, sS_sS, l40.2, sS_same]⟩, fun _ => l40, by omega⟩
    have nx := ih (i + 1) Y1 (by omega) V1
    have e0 : nI (a + 1) - 1 = nI a := z_s1 (Nat.succ_pos a)
    have e2 : nI a + (-1) = nI a - 1 := by grind
    rw [e0, q6_337 hF, if_neg (nI_pos (by omega)), e1]
    simp only [Option.toList_some, Option.toList_none, List.cons_append, List.nil_append, List.append_nil]
    rw [q6_346 hF, if_pos rfl, e2]
    exact nx
/-- all is as it was -/
theorem l_369 (hF : qm_fix cO qt_me qt_qs (qt_C L0 xs) J F) {x4 : Int32} {e5 l : Nat} (hl : l < 1000) (n3 : qr_n S e3 = l) (n5 : qr_n S e5 = l) (hr : ∀ k, k < l → qr_i S 22 e5 k = qr_i S 22 e3 k) (X : KQ q h 0 b 0 w 0 sn S) (hk : ∀ Y, G (some (some (.inl 1), qm_sC S Y))) (o1 : h 0 0 ≤ 7) (o2 : h 0 1 ≤ 8) : ∀ (d k : Nat), k + d = l → G (F 6 369 [some (.inr (2, a0)), some (.inr (1, y)), some (.inr (0, 6)), some (.inr (22, e3)), some (.inl x4), some (.inr (22, e5)), some (.inl (nI k)), none, none] [] S) := by
  intro d
  induction d with
  | zero =>
    intro k kd
    obtain ⟨Y1, X1, e1⟩ := qa_undo0 (J := J) (z := 6) X
    obtain ⟨Y2, X2, e2⟩ := qa_leave0 (J := J) (z := 6) (S := qm_sC S Y1) (x := -1) X1 (show vP (h 0 0) (-1) = false from decide_eq_false (by
      rw [show (-1 : Int32).toInt = -1 by decide]
      omega))
    obtain ⟨Y3, X3, e3'⟩ := qa_trade0 (J := J) (z := 6) (S := qm_sC (qm_sC S Y1) Y2) (x := 0) (y := 0) X2 (fun _ _ z => absurd rfl z)
    obtain ⟨Y4, X4, e4⟩ := qa_seats0 (J := J) (z := 6) (S := qm_sC (qm_sC (qm_sC S Y1) Y2) Y3) (x := 0) (y := 0) X3 (by rw [show vS 0 = false by decide +kernel, Bool.and_false])
    rw [q6_369 hF, n5, if_neg (by rw [z_lt (by omega) (by omega)]; omega), e1]
    simp only [Option.toList_some, Option.toList_none, List.cons_append, List.nil_append, List.append_nil]
    rw [q6_401 hF, if_pos rfl, e2]
    simp only [Option.toList_some, Option.toList_none, List.cons_append, List.nil_append, List.append_nil]
    rw [q6_410 hF, if_pos rfl, e3']
    simp only [Option.toList_some, Option.toList_none, List.cons_append, List.nil_append, List.append_nil]
    rw [q6_420 hF, if_pos rfl, e4]
    simp only [Option.toList_some, Option.toList_none, List.cons_append, List.nil_append, List.append_nil]
    rw [q6_431 hF, if_pos rfl]
    exact hk _
  | succ d ih =>
    intro k kd
    rw [q6_369 hF, n5, if_pos (by rw [z_lt (by omega) (by omega)]; omega), n3, z_ib (by omega) (by omega), z_cl (by omega), hr k (by omega)]
    simp only [cond_true, if_true]
    rw [z_1]
    exact ih (k + 1) (by omega)
/-- from the class made on -/
theorem l_16 (hF : qm_fix cO qt_me qt_qs (qt_C L0 xs) J F) (hL : L0 < 2147483648) {P Q tx : Nat} {ls : List LN} (hT : GT P Q 10 0 0 ls) (hp : 1 ≤ P ∧ P ≤ 4) (hq : Q ≤ 5) (t0 : 0 < tx) (ht : qr_g S 1 y 14 = tx) (hs : STR S tx (TXT ls)) (hP : qr_i S 1 y 0 = nI P) (hQ : qr_i S 1 y 1 = nI Q) (hy : y < S.1) (hS : 1001 ≤ S.1) (hX : S.2.2.2.2.2.2 = (49, pt_G, kIZ, kLZ)) : ∃ S', F 6 16 [some (.inr (2, a0)), some (.inr (1, y)), none, none, none, none, none, none, none] [.inr (0, 6)] S = some (some (.inl 1), S') ∧ S'.1 ≤ S.1 + 1000 ∧ S'.2.1 ≤ S.2.1 + 10000 := by
  have tl := (GT.len hp.2 hq hT).1
  have tl : (TXT ls).length ≤ 846 := tl
  have vc : vC d00 1 = false := by decide +kernel
  obtain ⟨Y1, X1, e1⟩ := qa_kind0 (J := J) (z := 6) (S := S) (x := 1) (by show KS _ _ _ _ _ _ _ _ S.2.2.2.2.2.2; rw [hX]; exact ks_start) vc
  obtain ⟨Y2, X2, e2⟩ := qa_hold0 (J := J) (z := 6) (S := qm_sC S Y1) (x := 1) (y := 0) X1 vc
  obtain ⟨Y3, X3, e3'⟩ := qa_undo0 (J := J) (z := 6) (S := qm_sC (qm_sC S Y1) Y2) X2
  obtain ⟨S4, b4, e4, ⟨X4, f4, c4, d4⟩, hb⟩ := j_feeds (z := 6) (S := qm_sC (qm_sC (qm_sC S Y1) Y2) Y3) hF (t := TXT ls) (y := tx) hs (by omega) X3
  have g4 := f4.2.2.2.1
  have s4 : S4.1 ≤ S.1 + 50 := c4
  have s4' : S4.2.1 ≤ S.2.1 + 250 := d4
  have s5 : S.1 ≤ S4.1 := g4
  obtain ⟨r1, r2, r3⟩ := GT.whole hp.2 hq hT (by omega) rfl hb
  obtain ⟨Y5, X5, e5⟩ := qa_house (J := J) (z := 6) X4 (by decide) r1
  generalize (rdn (TXT ls).length b4 900).2.2 = h0 at X5 e5 r2 r3
  have hP5 : qr_i (qm_sC S4 Y5) 1 y 0 = nI (h0 0 0) := by rw [r2]; exact (f4.1 1 y 0 hy).trans hP
  have hQ5 : qr_i (qm_sC S4 Y5) 1 y 1 = nI (h0 0 1) := by rw [r3]; exact (f4.1 1 y 1 hy).trans hQ
  obtain ⟨S6, e6, A6⟩ := j_all (z := 6) (S := qm_sC S4 Y5) hF (by omega) (by omega) (by omega) X5 (by show y < S4.1; omega) hP5 hQ5
  obtain ⟨X6, f6, c6, d6, n6, r6⟩ := id A6
  have c6 : S6.1 = S4.1 + 1 := c6
  have d6 : S6.2.1 = S4.2.1 + AVl h0 := d6
  have hE := ev16 (h := h0) (by omega)
  have al : AVl h0 ≤ 50 := by unfold AVl; omega
  have hP6 := (f6.1 1 y 0 (show y < S4.1 by omega)).trans hP5
  have hQ6 := (f6.1 1 y 1 (show y < S4.1 by omega)).trans hQ5
  rw [q6_16 hF, e1]
  simp only [Option.toList_some, Option.toList_none, List.cons_append, List.nil_append, List.append_nil]
  rw [q6_22 hF, if_pos rfl, e2]
  simp only [Option.toList_some, Option.toList_none, List.cons_append, List.nil_append, List.append_nil]
  rw [q6_32 hF, if_pos rfl, e3']
  simp only [Option.toList_some, Option.toList_none, List.cons_append, List.nil_append, List.append_nil]
  rw [q6_40 hF, if_pos rfl, show qr_g (qm_sC (qm_sC (qm_sC S Y1) Y2) Y3) 1 y 14 = tx from ht, bl0 t0, e4]
  show ∃ S', F 6 52 [some (.inr (2, a0)), some (.inr (1, y)), some (.inr (0, 6)), none, none, none, none, none, none] [.inl 1] S4 = _ ∧ _
  rw [q6_52 hF, if_neg (by decide), e5]
  simp only [Option.toList_some, Option.toList_none, List.cons_append, List.nil_append, List.append_nil]
  rw [q6_59 hF, hP5, if_pos rfl, e6]
  simp only [qm_k_n, Option.toList_some, Option.toList_none, List.cons_append, List.nil_append, List.append_nil]
  rw [q6_73 hF]
  refine l_80 (G := fun r => ∃ S', r = some (some (.inl 1), S') ∧ S'.1 ≤ S.1 + 1000 ∧ S'.2.1 ≤ S.2.1 + 10000) (S0 := S6) (e3 := S4.1) hF hL (by omega) (by omega) (by omega) (by omega) (by omega) hP6 hQ6 (fun a S7 V7 f7 c7 d7 => ?_) 5 0 0 S6 (by omega) ⟨0 + 1, h0, b4, 0, fun _ => 0, _, X6, by omega, sS_h h0, fun _ => ⟨rfl, rfl⟩, fun z => absurd z (Nat.lt_irrefl 0), by omega⟩ FRM.rf (by omega) (by omega)
  have V7' := V7
  obtain ⟨_, _, _, _, _, _, _, _, _, _, _, a5⟩ := V7'
  have g7 := f7.2.2.2.1
  refine l_337 (G := fun r => ∃ S', r = some (some (.inl 1), S') ∧ S'.1 ≤ S.1 + 1000 ∧ S'.2.1 ≤ S.2.1 + 10000) (S := S7) (e3 := S4.1) (h0 := h0) hF (fun Y V8 => ?_) a 5 S7.2.2.2.2.2.2 (by omega) V7
  obtain ⟨q8, h8, b8, C8, w8, sn8, X8, l1, l2, l3, l4, l5⟩ := V8
  obtain ⟨rfl, rfl⟩ := l3 rfl
  have hP8 : qr_i (qm_sC S7 Y) 1 y 0 = nI (h8 0 0) := (f7.1 1 y 0 (by omega)).trans hP6
  have hQ8 : qr_i (qm_sC S7 Y) 1 y 1 = nI (h8 0 1) := (f7.1 1 y 1 (by omega)).trans hQ6
  obtain ⟨S9, e9, A9⟩ := j_all (z := 6) (S := qm_sC S7 Y) hF (by omega) (by omega) (by omega) X8 (by show y < S7.1; omega) hP8 hQ8
  obtain ⟨X9, f9, c9, d9, n9, r9⟩ := id A9
  have c9 : S9.1 = S7.1 + 1 := c9
  have d9 : S9.2.1 = S7.2.1 + AVl h8 := d9
  have n9 : qr_n S9 S7.1 = AVl h8 := n9
  have n3 : qr_n S9 S4.1 = AVl h8 := (f9.2.2.1 S4.1 (show S4.1 < S7.1 by omega)).trans ((f7.2.2.1 S4.1 (by omega)).trans n6)
  rw [e9]
  simp only [qm_k_n, Option.toList_some, Option.toList_none, List.cons_append, List.nil_append, List.append_nil]
  rw [q6_364 hF]
  refine l_369 (G := fun r => ∃ S', r = some (some (.inl 1), S') ∧ S'.1 ≤ S.1 + 1000 ∧ S'.2.1 ≤ S.2.1 + 10000) hF (e3 := S4.1) (e5 := S7.1) (l := AVl h8) (by omega) n3 n9 (fun k hk => ?_) X9 (fun Y9 => ⟨_, rfl, by show S9.1 ≤ _; omega, by show S9.2.1 ≤ _; omega⟩) (by omega) (by omega) (AVl h8) 0 (by omega)
  exact (r9 k hk).trans (((f9.1 22 S4.1 k (show S4.1 < S7.1 by omega)).trans ((f7.1 22 S4.1 k (by omega)).trans (r6 k hk))).symm)
end
