/-! ===== what holds: all coalitions; what is formed; who is needed ===== -/
section
variable {S S' S0 S1 : qm_S} {F : qm_F} {J L0 : Nat} {xs : List Int32} {G : qm_R → Prop}
variable {h : Nat → Nat → Nat} {q C a c x s y z k5 : Nat} {w : Nat → Nat} {sn : Nat → SN} {x2 x3 : Int32}
theorem HZ.f (H : HZ q h C w a sn k5 S0 x s S) : S0.1 ≤ S.1 := H.2.1.2.2.2.1
theorem h_step (hF : qm_fix cO qt_me qt_qs (qt_C L0 xs) J F) (h1 : 1 ≤ h 0 0) (h4 : h 0 0 ≤ 4) (h5 : h 0 1 ≤ 5) (c0 : 0 < c) (cl : c ≤ ev h) (hy : y < S.1) (hS : 1001 ≤ S.1) (hP : qr_i S 1 y 0 = nI (h 0 0)) (hQ : qr_i S 1 y 1 = nI (h 0 1)) (hX : ∃ b, KQ q h 0 b C w a sn S) (hk : ∀ S', HZ q h C w a sn S.1 S 11 68 S' → G (F 8 78 [some (.inr (0, z)), some (.inr (1, y)), some (.inl x2), some (.inl x3), some (.inl (nI (c + 1))), none, none, none, none, none] [] S')) : G (F 8 78 [some (.inr (0, z)), some (.inr (1, y)), some (.inl x2), some (.inl x3), some (.inl (nI c)), none, none, none, none, none] [] S) := by
  have hE := ev16 h4
  have U1 : (qm_mk S 18 (h 0 0)).1 = S.1 + 1 := rfl
  have U2 : (qm_mk S 18 (h 0 0)).2.1 = S.2.1 + h 0 0 := rfl
  have hP0 : qr_i (qm_mk S 18 (h 0 0)) 1 y 0 = nI (h 0 0) := by rw [qi_mk, if_neg (fun z => by omega)]; exact hP
  have hQ0 : qr_i (qm_mk S 18 (h 0 0)) 1 y 1 = nI (h 0 1) := by rw [qi_mk, if_neg (fun z => by omega)]; exact hQ
  have HU : HZ q h C w a sn S.1 S 1 4 (qm_mk S 18 (h 0 0)) := ⟨hX, FRM.rf.mk (Nat.le_refl _), Nat.le_refl _, by omega⟩
  have H0 : HZ q h C w a sn S.1 (qm_mk S 18 (h 0 0)) 0 0 (qm_mk S 18 (h 0 0)) := ⟨hX, FRM.rf, Nat.le_refl _, Nat.le_refl _⟩
  rw [q8_78 hF, j_all1 hF hP h4]
  show G (F 8 84 [some (.inr (0, z)), some (.inr (1, y)), some (.inl x2), some (.inl x3), some (.inl (nI c)), none, none, none, none, none] [.inl (nI (ev h)), .inl (nI c)] S)
  rw [q8_84 hF, if_pos (by rw [z_le (by omega) (by omega)]; exact cl), hP, dlt0 (by omega), z_cl (by omega), show Nat.ble (h 0 0) 100000 = true from Nat.ble_eq_true_of_le (by omega)]
  refine h_98 hF h4 h5 c0 cl (S0 := qm_mk S 18 (h 0 0)) (m := S.1) (k5 := S.1) (x := 0) (s := 0) hy (Nat.le_refl _) hQ0 (fun S1 H1 R5 => ?_) (h 0 1) 0 (qm_mk S 18 (h 0 0)) (by omega) H0 ⟨by rw [qn_mk, if_pos rfl], fun p hp => by rw [qi_mk, if_pos ⟨rfl, rfl⟩]; rfl⟩
  have g1 := H1.f
  have hP1 := H1.P hy hP0
  have hQ1 := H1.P hy hQ0
  have H2 : HZ q h C w a sn S1.1 S1 0 0 S1 := ⟨H1.1, FRM.rf, Nat.le_refl _, Nat.le_refl _⟩
  refine h_131 hF h4 h5 c0 cl (S0 := S1) (m := S1.1) (x := 0) (s := 0) (by omega) (by omega) (Nat.le_refl _) hP1 hQ1 (fun S2 H3 => ?_) 3 0 S1 (by omega) H2 R5
  refine h_240 hF h4 h5 c0 cl (by omega) hQ1 (fun S3 H4 => ?_) (h 0 1) 0 S2 (by omega) H3
  refine h_306 hF h4 c0 cl (by omega) hP1 (fun S4 H5 => ?_) (h 0 0) 0 S3 (by omega) H4
  obtain ⟨b, X⟩ := H5.1
  have g5 := H5.f
  obtain ⟨S6, b6, e1, X6, f1, f2, f3⟩ := j_settled hF (z := z) (y := y) h4 h5 c0 cl X (by omega) (H5.P (by omega) hQ1)
  have H6 : HZ q h C w a sn S1.1 S1 4 17 S6 := ⟨⟨b6, X6⟩, H5.2.1.tr (f1.mono (by omega)), by have := H5.2.2.1; omega, by have := H5.2.2.2; omega⟩
  rw [e1]
  simp only [qm_k_n, Option.toList_some, Option.toList_none, List.cons_append, List.nil_append, List.append_nil]
  obtain ⟨Y1, X7, e2⟩ := qa_kind (J := J) (z := z) (c := c) X6 c0 cl
  obtain ⟨Y2, X8, e3⟩ := qa_rival (J := J) (z := z) (S := qm_sC S6 Y1) (c := c) X7 c0 cl
  rw [q8_351 hF, if_neg (by decide), e2]
  simp only [Option.toList_some, Option.toList_none, List.cons_append, List.nil_append, List.append_nil]
  rw [q8_362 hF, e3]
  simp only [Option.toList_some, Option.toList_none, List.cons_append, List.nil_append, List.append_nil]
  refine h_370 hF h4 c0 cl (S0 := S1) (m := S1.1) (x := 4) (s := 17) (by omega) (by omega) (Nat.le_refl _) hP1 (fun S9 H9 => ?_) ((H6.sC X7).sC X8)
  exact hk S9 ((HU.then (Nat.le_refl _) (H1.then (by omega) H9)).le (by omega) (by omega))
/-- what is formed -/
theorem h_tail (hF : qm_fix cO qt_me qt_qs (qt_C L0 xs) J F) (h1 : 1 ≤ h 0 0) (h4 : h 0 0 ≤ 4) {m : Nat} (hP : qr_i S 1 y 0 = nI (h 0 0)) (H : HZ q h C w a sn m S0 x s S) (hk : ∀ S', HZ q h C w a sn m S0 x s S' → G (some (some (.inl 1), S'))) : G (F 8 78 [some (.inr (0, z)), some (.inr (1, y)), some (.inl x2), some (.inl x3), some (.inl (nI (ev h + 1))), none, none, none, none, none] [] S) := by
  have hE := ev16 h4
  obtain ⟨b, X⟩ := H.1
  have W := X.W
  obtain ⟨FI, nine⟩ := fmr_FI (h := h) 9
  have cnt := fmr_cnt W 9
  rw [q8_78 hF, j_all1 hF hP h4]
  show G (F 8 84 [some (.inr (0, z)), some (.inr (1, y)), some (.inl x2), some (.inl x3), some (.inl (nI (ev h + 1))), none, none, none, none, none] [.inl (nI (ev h)), .inl (nI (ev h + 1))] S)
  obtain ⟨Y1, X1, e1⟩ := qa_formed0 (J := J) (z := z) X h1
  rw [q8_84 hF, if_neg (by rw [z_le (by omega) (by omega)]; omega), e1]
  simp only [Option.toList_some, Option.toList_none, List.cons_append, List.nil_append, List.append_nil]
  by_cases f0 : (fmr h 9).2.2.2.2 = 0
  · obtain ⟨Y2, X2, e2⟩ := qa_formed2 (J := J) (z := z) (S := qm_sC S Y1) X1 h1
    rw [q8_585 hF, f0, if_pos (by decide), if_pos (by decide), e2]
    simp only [Option.toList_some, Option.toList_none, List.cons_append, List.nil_append, List.append_nil]
    rw [q8_648 hF, nine f0, if_pos (by decide)]
    exact hk _ ((H.sC X1).sC X2)
  · obtain ⟨k1, k2, k3, k4, k5'⟩ := FI f0
    obtain ⟨b16, b3, b4, b1⟩ := kin_b (h := h) (fmr h 9).2.2.2.2
    obtain ⟨Y2, X2, e2⟩ := qa_kind (J := J) (z := z) (S := qm_sC S Y1) (c := (fmr h 9).2.2.2.2) X1 (by omega) k2
    obtain ⟨Y3, X3, e3⟩ := qa_formed1 (J := J) (z := z) (S := qm_sC (qm_sC S Y1) Y2) X2 h1
    obtain ⟨Y4, X4, e4⟩ := qa_tried2 (J := J) (z := z) (S := qm_sC (qm_sC (qm_sC S Y1) Y2) Y3) (i := (fmr h 9).2.2.1 - 1) X3 (by omega)
    obtain ⟨Y5, X5, e5⟩ := qa_formed1 (J := J) (z := z) (S := qm_sC (qm_sC (qm_sC (qm_sC S Y1) Y2) Y3) Y4) X4 h1
    obtain ⟨Y6, X6, e6⟩ := qa_tried1 (J := J) (z := z) (S := qm_sC (qm_sC (qm_sC (qm_sC (qm_sC S Y1) Y2) Y3) Y4) Y5) (i := (fmr h 9).2.2.1 - 1) X5 (by omega)
    have s1 : nI (fmr h 9).2.2.1 - 1 = nI ((fmr h 9).2.2.1 - 1) := z_s1 k3
    rw [q8_585 hF, if_neg (nI_nle (by omega) (by omega)), e2]
    simp only [Option.toList_some, Option.toList_none, List.cons_append, List.nil_append, List.append_nil]
    rw [q8_598 hF, if_pos (b3.mpr k1), e3]
    simp only [Option.toList_some, Option.toList_none, List.cons_append, List.nil_append, List.append_nil]
    rw [q8_610 hF, s1, e4]
    simp only [Option.toList_some, Option.toList_none, List.cons_append, List.nil_append, List.append_nil]
    rw [q8_616 hF, k5', if_pos (show nI 0 = 0 from rfl), e5]
    simp only [Option.toList_some, Option.toList_none, List.cons_append, List.nil_append, List.append_nil]
    rw [q8_625 hF, s1, e6]
    simp only [Option.toList_some, Option.toList_none, List.cons_append, List.nil_append, List.append_nil]
    rw [q8_631 hF, k4, if_pos rfl, if_neg (nI_nle (by omega) (by omega))]
    exact hk _ ((((((H.sC X1).sC X2).sC X3).sC X4).sC X5).sC X6)
theorem h_loop (hF : qm_fix cO qt_me qt_qs (qt_C L0 xs) J F) (h1 : 1 ≤ h 0 0) (h4 : h 0 0 ≤ 4) (h5 : h 0 1 ≤ 5) (hy : y < S0.1) (hS : 1001 ≤ S0.1) (hP : qr_i S0 1 y 0 = nI (h 0 0)) (hQ : qr_i S0 1 y 1 = nI (h 0 1)) (hk : ∀ S', HZ q h C w a sn S0.1 S0 165 1020 S' → G (some (some (.inl 1), S'))) : ∀ (d c : Nat) (S : qm_S), c + d = ev h + 1 → 1 ≤ c → HZ q h C w a sn S0.1 S0 (11 * (c - 1)) (68 * (c - 1)) S → G (F 8 78 [some (.inr (0, z)), some (.inr (1, y)), some (.inl x2), some (.inl x3), some (.inl (nI c)), none, none, none, none, none] [] S) := by
  have hE := ev16 h4
  intro d
  induction d with
  | zero =>
    intro c S cd c1 H
    have ce : c = ev h + 1 := by omega
    subst ce
    exact h_tail hF h1 h4 (H.P hy hP) (H.le (by omega) (by omega)) hk
  | succ d ih =>
    intro c S cd c1 H
    have g := H.f
    refine h_step hF h1 h4 h5 (by omega) (by omega) (by omega) (by omega) (H.P hy hP) (H.P hy hQ) H.1 (fun S' H' => ?_)
    exact ih (c + 1) S' (by omega) (by omega) ((H.then (by omega) H').le (by omega) (by omega))
theorem fac_s (p : Nat) : fac (p + 1) = fac p * (p + 1) := rfl
theorem nI_mulx (u v : Nat) : nI u * nI v = nI (u * v) := (Int32.ofNat_mul u v).symm
/-- who is needed, all together -/
theorem h_7 (hF : qm_fix cO qt_me qt_qs (qt_C L0 xs) J F) (h1 : 1 ≤ h 0 0) (h4 : h 0 0 ≤ 4) {m : Nat} (hy : y < m) (hP : qr_i S0 1 y 0 = nI (h 0 0)) (hk : ∀ S', HZ q h C w a sn m S0 x s S' → G (F 8 78 [some (.inr (0, z)), some (.inr (1, y)), some (.inl (nI (lp (fun p a => a + pvC h p) (h 0 0) 0))), some (.inl (nI (fac (h 0 0)))), some (.inl (nI 1)), none, none, none, none, none] [] S')) : ∀ (d p : Nat) (S : qm_S), p + d = h 0 0 → HZ q h C w a sn m S0 x s S → G (F 8 7 [some (.inr (0, z)), some (.inr (1, y)), some (.inl (nI (lp (fun p a => a + pvC h p) p 0))), some (.inl (nI (fac p))), some (.inl (nI p)), none, none, none, none, none] [] S) := by
  have hE := ev16 h4
  intro d
  induction d with
  | zero =>
    intro p S pd H
    have pe : p = h 0 0 := by omega
    subst pe
    obtain ⟨b, X⟩ := H.1
    have W := X.W
    have sl := sIn_le W (ev h)
    have nl := need_le W
    have pv := pv_sum W h1 h4
    obtain ⟨Y1, X1, e1⟩ := qa_about6 (J := J) (z := z) X
    obtain ⟨Y2, X2, e2⟩ := qa_about2 (J := J) (z := z) (S := qm_sC S Y1) X1
    obtain ⟨Y3, X3, e3⟩ := qa_many (J := J) (z := z) (S := qm_sC (qm_sC S Y1) Y2) X2
    have hP3 : qr_i (qm_sC (qm_sC (qm_sC S Y1) Y2) Y3) 1 y 0 = nI (h 0 0) := H.P hy hP
    have go : G (F 8 66 [some (.inr (0, z)), some (.inr (1, y)), some (.inl (nI (lp (fun p a => a + pvC h p) (h 0 0) 0))), some (.inl (nI (fac (h 0 0)))), some (.inl (nI (h 0 0))), none, none, none, none, none] [.inl (nI (cntP h (kp h 0)))] (qm_sC (qm_sC (qm_sC S Y1) Y2) Y3)) := by
      rw [q8_66 hF, j_all1 hF hP3 h4]
      show G (F 8 70 [some (.inr (0, z)), some (.inr (1, y)), some (.inl (nI (lp (fun p a => a + pvC h p) (h 0 0) 0))), some (.inl (nI (fac (h 0 0)))), some (.inl (nI (h 0 0))), none, none, none, none, none] [.inl (nI (ev h)), .inl (nI (cntP h (kp h 0)))] (qm_sC (qm_sC (qm_sC S Y1) Y2) Y3))
      rw [q8_70 hF, cnt_all, if_pos rfl]
      exact hk _ (((H.sC X1).sC X2).sC X3)
    rw [q8_7 hF, H.P hy hP, if_neg (by rw [z_lt (by omega) (by omega)]; omega), e1]
    simp only [Option.toList_some, Option.toList_none, List.cons_append, List.nil_append, List.append_nil]
    rw [q8_45 hF, e2]
    simp only [Option.toList_some, Option.toList_none, List.cons_append, List.nil_append, List.append_nil]
    rw [q8_50 hF]
    by_cases le : need h ≤ sIn h (ev h)
    · have lv : led h (ev h) = true := decide_eq_true le
      rw [if_neg (by rw [z_lt (by omega) (by omega)]; omega), pv, lv, if_pos (show nI (bif true then fac (h 0 0) else 0) = nI (fac (h 0 0)) from rfl), e3]
      simp only [Option.toList_some, Option.toList_none, List.cons_append, List.nil_append, List.append_nil]
      rw [pv, lv] at go
      exact go
    · have lv : led h (ev h) = false := decide_eq_false le
      rw [if_pos (by rw [z_lt (by omega) (by omega)]; omega), pv, lv, if_pos (show nI (bif false then fac (h 0 0) else 0) = 0 from rfl), e3]
      simp only [Option.toList_some, Option.toList_none, List.cons_append, List.nil_append, List.append_nil]
      rw [pv, lv] at go
      exact go
  | succ d ih =>
    intro p S pd H
    obtain ⟨b, X⟩ := H.1
    obtain ⟨Y1, X1, e1⟩ := qa_pivot (J := J) (z := z) (p := p) X (by omega)
    have := ih (p + 1) _ (by omega) (H.sC X1)
    rw [q8_7 hF, H.P hy hP, if_pos (by rw [z_lt (by omega) (by omega)]; omega), e1]
    simp only [Option.toList_some, Option.toList_none, List.cons_append, List.nil_append, List.append_nil]
    rw [q8_23 hF, z_1, nI_add, nI_mulx]
    exact this
theorem j_holds (hF : qm_fix cO qt_me qt_qs (qt_C L0 xs) J F) (h1 : 1 ≤ h 0 0) (h4 : h 0 0 ≤ 4) (h5 : h 0 1 ≤ 5) (hy : y < S.1) (hS : 1001 ≤ S.1) (hP : qr_i S 1 y 0 = nI (h 0 0)) (hQ : qr_i S 1 y 1 = nI (h 0 1)) (hX : ∃ b, KQ q h 0 b C w a sn S) : ∃ S', F 8 0 [some (.inr (0, z)), some (.inr (1, y)), none, none, none, none, none, none, none, none] [] S = some (some (.inl 1), S') ∧ HZ q h C w a sn S.1 S 165 1020 S' := by
  have H0 : HZ q h C w a sn S.1 S 0 0 S := ⟨hX, FRM.rf, Nat.le_refl _, Nat.le_refl _⟩
  rw [q8_0 hF]
  exact h_7 (G := fun r => ∃ S', r = some (some (.inl 1), S') ∧ HZ q h C w a sn S.1 S 165 1020 S') hF h1 h4 hy hP (fun S1 H1 => h_loop (G := fun r => ∃ S', r = some (some (.inl 1), S') ∧ HZ q h C w a sn S.1 S 165 1020 S') hF h1 h4 h5 hy hS hP hQ (fun S2 H2 => ⟨S2, rfl, H2⟩) (ev h) 1 S1 (by omega) (Nat.le_refl _) H1) (h 0 0) 0 S (by omega) H0
end
