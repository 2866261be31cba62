/-! ===== what holds, one coalition: turns, picks, one office instead, settled ===== -/
section
variable {S S' S0 S1 : qm_S} {F : qm_F} {J L0 : Nat} {xs : List Int32} {G : qm_R → Prop}
variable {h : Nat → Nat → Nat} {q C a c x s y z k5 : Nat} {w : Nat → Nat} {sn : Nat → SN} {x2 x3 : Int32}
/-- the class is so, cells that were there are as they were, so much was made -/
def HZ (q : Nat) (h : Nat → Nat → Nat) (C : Nat) (w : Nat → Nat) (a : Nat) (sn : Nat → SN) (m : Nat) (S0 : qm_S) (x s : Nat) (S : qm_S) : Prop := (∃ b, KQ q h 0 b C w a sn S) ∧ FRM m S0 S ∧ S.1 ≤ S0.1 + x ∧ S.2.1 ≤ S0.2.1 + s
section
variable {m : Nat}
theorem HZ.sC {Y : pm_S} {b : Nat → Nat} (H : HZ q h C w a sn m S0 x s S) (X : KS q h 0 b C w a sn Y) : HZ q h C w a sn m S0 x s (qm_sC S Y) := ⟨⟨b, X⟩, H.2⟩
theorem HZ.i {t e k : Nat} {v : Int32} (H : HZ q h C w a sn m S0 x s S) (he : m ≤ e) : HZ q h C w a sn m S0 x s (qu_i S t e k v) := ⟨H.1, H.2.1.i he, H.2.2⟩
theorem HZ.mk {t l x' s' : Nat} (H : HZ q h C w a sn m S0 x s S) (hm : m ≤ S.1) (hx : x + 1 ≤ x') (hs : s + l ≤ s') : HZ q h C w a sn m S0 x' s' (qm_mk S t l) := ⟨H.1, H.2.1.mk hm, by show S.1 + 1 ≤ _; have := H.2.2.1; omega, by show S.2.1 + l ≤ _; have := H.2.2.2; omega⟩
theorem HZ.le {x' s' : Nat} (H : HZ q h C w a sn m S0 x s S) (hx : x ≤ x') (hs : s ≤ s') : HZ q h C w a sn m S0 x' s' S := ⟨H.1, H.2.1, by have := H.2.2.1; omega, by have := H.2.2.2; omega⟩
theorem HZ.W (H : HZ q h C w a sn m S0 x s S) : WF h := H.1.choose_spec.W
theorem HZ.P (H : HZ q h C w a sn m S0 x s S) {e k : Nat} {v : Int32} (he : e < m) (hv : qr_i S0 1 e k = v) : qr_i S 1 e k = v := (H.2.1.1 1 e k he).trans hv
theorem HZ.then (H : HZ q h C w a sn m S0 x s S) {m' x' s' : Nat} (hm : m ≤ m') (H2 : HZ q h C w a sn m' S x' s' S') : HZ q h C w a sn m S0 (x + x') (s + s') S' := ⟨H2.1, H.2.1.tr (H2.2.1.mono hm), by have := H.2.2.1; have := H2.2.2.1; omega, by have := H.2.2.2; have := H2.2.2.2; omega⟩
end
/-- a row of counts -/
def CNr (t e P : Nat) (f : Nat → Nat) (S : qm_S) : Prop := qr_n S e = P ∧ ∀ p, p < P → qr_i S t e p = nI (f p)
theorem CNr.frm {t e P m : Nat} {f : Nat → Nat} (H : CNr t e P f S) (g : FRM m S S') (he : e < m) : CNr t e P f S' := ⟨(g.2.2.1 e he).trans H.1, fun p hp => (g.1 t e p he).trans (H.2 p hp)⟩
theorem CNr.other {t e P t' e' k : Nat} {f : Nat → Nat} {v : Int32} (H : CNr t e P f S) (ht : t ≠ t' ∨ e ≠ e') : CNr t e P f (qu_i S t' e' k v) := ⟨H.1, fun p hp => by rw [qi_i, if_neg (fun z => by omega)]; exact H.2 p hp⟩
theorem CNr.one {t e P k : Nat} {v : Nat → Nat} {Y : pm_S} (H : CNr t e P (cnw v k) S) (hk : v k < P) : CNr t e P (cnw v (k + 1)) (qu_i (qm_sC S Y) t e (v k) (qr_i S t e (v k) + 1)) := by
  refine ⟨H.1, fun p hp => ?_⟩
  rw [qi_i, cnw_s]
  by_cases z : p = v k
  · rw [if_pos ⟨rfl, z, rfl⟩, if_pos z, H.2 _ hk, z_1, z]
  · rw [if_neg (fun y => z y.2.1), if_neg z]
    exact H.2 p hp
/-- settled is no less for each -/
theorem h_306 (hF : qm_fix cO qt_me qt_qs (qt_C L0 xs) J F) (h4 : h 0 0 ≤ 4) (c0 : 0 < c) (cl : c ≤ ev h) {m : Nat} (hy : y < m) (hP : qr_i S0 1 y 0 = nI (h 0 0)) (hk : ∀ S, HZ q h C w a sn m S0 x s S → G (qm_k (F 9 0 [some (.inr (0, z)), some (.inr (1, y)), some (.inl (nI c)), none, none] [] S) (fun v U => F 8 351 [some (.inr (0, z)), some (.inr (1, y)), some (.inl x2), some (.inl x3), some (.inl (nI c)), some (.inr (18, k5)), some (.inl (nI (h 0 0))), none, none, none] (v.toList ++ []) U))) : ∀ (d k : Nat) (S : qm_S), k + d = h 0 0 → HZ q h C w a sn m S0 x s S → G (F 8 306 [some (.inr (0, z)), some (.inr (1, y)), some (.inl x2), some (.inl x3), some (.inl (nI c)), some (.inr (18, k5)), some (.inl (nI k)), none, none, none] [] S) := by
  intro d
  induction d with
  | zero =>
    intro k S kd H
    have kq : k = h 0 0 := by omega
    subst kq
    rw [q8_306 hF, H.P hy hP, if_neg (by rw [z_lt (by omega) (by omega)]; omega)]
    exact hk S H
  | succ d ih =>
    intro k S kd H
    obtain ⟨b, X⟩ := H.1
    have W := X.W
    obtain ⟨Y1, X1, e1⟩ := qa_has (J := J) (z := z) (c := c) (y := 2) (p := k) X c0 cl (by decide) (by omega)
    obtain ⟨Y2, X2, e2⟩ := qa_has (J := J) (z := z) (S := qm_sC S Y1) (c := c) (y := 1) (p := k) X1 c0 cl (by decide) (by omega)
    have l2 := pw_own2 W c k
    have l3 := own_le7 W (pw h c 2) k k
    rw [q8_306 hF, H.P hy hP, if_pos (by rw [z_lt (by omega) (by omega)]; omega), show (2 : Int32) = nI 2 from rfl, e1]
    simp only [Option.toList_some, Option.toList_none, List.cons_append, List.nil_append, List.append_nil]
    rw [q8_324 hF, show (1 : Int32) = nI 1 from rfl, e2]
    simp only [Option.toList_some, Option.toList_none, List.cons_append, List.nil_append, List.append_nil]
    rw [q8_333 hF, if_neg (by rw [z_lt (by omega) (by omega)]; omega), z_1]
    exact ih (k + 1) _ (by omega) ((H.sC X1).sC X2)
/-- no office instead is better -/
theorem h_252 (hF : qm_fix cO qt_me qt_qs (qt_C L0 xs) J F) (h4 : h 0 0 ≤ 4) (h5 : h 0 1 ≤ 5) (c0 : 0 < c) (cl : c ≤ ev h) {m i : Nat} (hi : i < h 0 1) (hy : y < m) (hQ : qr_i S0 1 y 1 = nI (h 0 1)) (hk : ∀ S, HZ q h C w a sn m S0 x s S → G (F 8 240 [some (.inr (0, z)), some (.inr (1, y)), some (.inl x2), some (.inl x3), some (.inl (nI c)), some (.inr (18, k5)), some (.inl (nI (i + 1))), none, none, none] [] S)) : ∀ (d k : Nat) (S : qm_S), k + d = h 0 1 → HZ q h C w a sn m S0 x s S → G (F 8 252 [some (.inr (0, z)), some (.inr (1, y)), some (.inl x2), some (.inl x3), some (.inl (nI c)), some (.inr (18, k5)), some (.inl (nI i)), some (.inl (nI k)), none, none] [] S) := by
  intro d
  induction d with
  | zero =>
    intro k S kd H
    rw [q8_252 hF, H.P hy hQ, if_neg (by rw [z_lt (by omega) (by omega)]; omega), z_1]
    exact hk S H
  | succ d ih =>
    intro k S kd H
    obtain ⟨b, X⟩ := H.1
    have W := X.W
    have d := du_ok W c0 cl
    have t0 := (d.2.1 i hi).1
    obtain ⟨Y1, X1, e1⟩ := qa_instead (J := J) (z := z) (c := c) (i := i) (o := k) X c0 cl hi (by omega)
    obtain ⟨Y2, X2, e2⟩ := qa_turn (J := J) (z := z) (S := qm_sC S Y1) (c := c) (i := i) X1 c0 cl hi
    obtain ⟨Y3, X3, e3⟩ := qa_has (J := J) (z := z) (S := qm_sC (qm_sC S Y1) Y2) (c := c) (y := 1) (p := du h c i) X2 c0 cl (by decide) t0
    rw [q8_252 hF, H.P hy hQ, if_pos (by rw [z_lt (by omega) (by omega)]; omega), e1]
    simp only [Option.toList_some, Option.toList_none, List.cons_append, List.nil_append, List.append_nil]
    rw [q8_271 hF, e2]
    simp only [Option.toList_some, Option.toList_none, List.cons_append, List.nil_append, List.append_nil]
    rw [q8_283 hF, show (1 : Int32) = nI 1 from rfl, e3]
    simp only [Option.toList_some, Option.toList_none, List.cons_append, List.nil_append, List.append_nil]
    rw [q8_286 hF, if_pos (inv_le W c0 cl hi (by omega)), z_1]
    exact ih (k + 1) _ (by omega) (((H.sC X1).sC X2).sC X3)
theorem h_240 (hF : qm_fix cO qt_me qt_qs (qt_C L0 xs) J F) (h4 : h 0 0 ≤ 4) (h5 : h 0 1 ≤ 5) (c0 : 0 < c) (cl : c ≤ ev h) {m : Nat} (hy : y < m) (hQ : qr_i S0 1 y 1 = nI (h 0 1)) (hk : ∀ S, HZ q h C w a sn m S0 x s S → G (F 8 306 [some (.inr (0, z)), some (.inr (1, y)), some (.inl x2), some (.inl x3), some (.inl (nI c)), some (.inr (18, k5)), some (.inl (nI 0)), none, none, none] [] S)) : ∀ (d k : Nat) (S : qm_S), k + d = h 0 1 → HZ q h C w a sn m S0 x s S → G (F 8 240 [some (.inr (0, z)), some (.inr (1, y)), some (.inl x2), some (.inl x3), some (.inl (nI c)), some (.inr (18, k5)), some (.inl (nI k)), none, none, none] [] S) := by
  intro d
  induction d with
  | zero =>
    intro k S kd H
    rw [q8_240 hF, H.P hy hQ, if_neg (by rw [z_lt (by omega) (by omega)]; omega)]
    exact hk S H
  | succ d ih =>
    intro k S kd H
    rw [q8_240 hF, H.P hy hQ, if_pos (by rw [z_lt (by omega) (by omega)]; omega)]
    exact h_252 hF h4 h5 c0 cl (i := k) (by omega) hy hQ (fun S' H' => ih (k + 1) S' (by omega) H') (h 0 1) 0 S (by omega) H
/-- counts are alike -/
theorem h_183 (hF : qm_fix cO qt_me qt_qs (qt_C L0 xs) J F) (h4 : h 0 0 ≤ 4) (h5 : h 0 1 ≤ 5) (c0 : 0 < c) (cl : c ≤ ev h) {m k7 u : Nat} (hu : u < 3) (hy : y < m) (hP : qr_i S0 1 y 0 = nI (h 0 0)) (H : HZ q h C w a sn m S0 x s S) (R5 : CNr 18 k5 (h 0 0) (cnw (du h c) (h 0 1)) S) (R7 : CNr 19 k7 (h 0 0) (cnw (pw h c u) (h 0 1)) S) : ∀ (d k : Nat), k + d = h 0 0 → F 8 183 [some (.inr (0, z)), some (.inr (1, y)), some (.inl x2), some (.inl x3), some (.inl (nI c)), some (.inr (18, k5)), some (.inl (nI u)), some (.inr (19, k7)), some (.inl (nI k)), none] [] S = F 8 131 [some (.inr (0, z)), some (.inr (1, y)), some (.inl x2), some (.inl x3), some (.inl (nI c)), some (.inr (18, k5)), some (.inl (nI (u + 1))), none, none, none] [] S := by
  have hE := ev16 h4
  have W := H.W
  intro d
  induction d with
  | zero =>
    intro k kd
    rw [q8_183 hF, H.P hy hP, if_neg (by rw [z_lt (by omega) (by omega)]; omega), z_1]
  | succ d ih =>
    intro k kd
    have cn := cnw_le (du h c) (h 0 1) k
    rw [q8_183 hF, H.P hy hP, if_pos (by rw [z_lt (by omega) (by omega)]; omega), R7.1, R5.1, z_ib (by omega) (by omega), z_cl (by omega), R7.2 k (by omega), R5.2 k (by omega), pw_cnt W c0 cl u k]
    show (if _ = _ then (if _ ≤ _ then _ else if _ = _ then _ else _) else _) = _
    rw [if_pos rfl]
    by_cases e : cnw (du h c) (h 0 1) k = 0
    · rw [if_pos (by rw [e]; decide), z_1]
      exact ih (k + 1) (by omega)
    · rw [if_neg (nI_nle (by omega) (by omega)), tb_shr c (by omega) k (by omega), du_in W c0 cl (by omega), if_neg (by decide), z_1]
      exact ih (k + 1) (by omega)
/-- offices counted -/
theorem h_148 (hF : qm_fix cO qt_me qt_qs (qt_C L0 xs) J F) (h4 : h 0 0 ≤ 4) (h5 : h 0 1 ≤ 5) (c0 : 0 < c) (cl : c ≤ ev h) {m k7 u : Nat} (hu : u < 3) (hy : y < m) (hm : m ≤ k7) (h57 : k5 < m) (hQ : qr_i S0 1 y 1 = nI (h 0 1)) (hk : ∀ S, HZ q h C w a sn m S0 x s S → CNr 18 k5 (h 0 0) (cnw (du h c) (h 0 1)) S → CNr 19 k7 (h 0 0) (cnw (pw h c u) (h 0 1)) S → G (F 8 183 [some (.inr (0, z)), some (.inr (1, y)), some (.inl x2), some (.inl x3), some (.inl (nI c)), some (.inr (18, k5)), some (.inl (nI u)), some (.inr (19, k7)), some (.inl (nI 0)), none] [] S)) : ∀ (d k : Nat) (S : qm_S), k + d = h 0 1 → HZ q h C w a sn m S0 x s S → CNr 18 k5 (h 0 0) (cnw (du h c) (h 0 1)) S → CNr 19 k7 (h 0 0) (cnw (pw h c u) k) S → G (F 8 148 [some (.inr (0, z)), some (.inr (1, y)), some (.inl x2), some (.inl x3), some (.inl (nI c)), some (.inr (18, k5)), some (.inl (nI u)), some (.inr (19, k7)), some (.inl (nI k)), none] [] S) := by
  intro d
  induction d with
  | zero =>
    intro k S kd H R5 R7
    have kq : k = h 0 1 := by omega
    subst kq
    rw [q8_148 hF, H.P hy hQ, if_neg (by rw [z_lt (by omega) (by omega)]; omega)]
    exact hk S H R5 R7
  | succ d ih =>
    intro k S kd H R5 R7
    obtain ⟨b, X⟩ := H.1
    have W := X.W
    have wk := (pw_ok W c0 cl u).2 k (by omega)
    obtain ⟨Y, X1, e1⟩ := qa_gets (J := J) (z := z) (c := c) (y := u) (i := k) X c0 cl hu (by omega)
    rw [q8_148 hF, H.P hy hQ, if_pos (by rw [z_lt (by omega) (by omega)]; omega), e1]
    simp only [Option.toList_some, Option.toList_none, List.cons_append, List.nil_append, List.append_nil]
    rw [q8_169 hF, show qr_n (qm_sC S Y) k7 = h 0 0 from R7.1, z_ib wk (by omega), z_cl (by omega), z_1]
    exact ih (k + 1) _ (by omega) ((H.sC X1).i hm) ((show CNr 18 k5 (h 0 0) (cnw (du h c) (h 0 1)) (qm_sC S Y) from R5).other (Or.inl (by decide))) (R7.one (Y := Y) wk)
theorem h_131 (hF : qm_fix cO qt_me qt_qs (qt_C L0 xs) J F) (h4 : h 0 0 ≤ 4) (h5 : h 0 1 ≤ 5) (c0 : 0 < c) (cl : c ≤ ev h) {m : Nat} (hy : y < m) (h57 : k5 < m) (hm : m ≤ S0.1) (hP : qr_i S0 1 y 0 = nI (h 0 0)) (hQ : qr_i S0 1 y 1 = nI (h 0 1)) (hk : ∀ S, HZ q h C w a sn m S0 (x + 3) (s + 12) S → G (F 8 240 [some (.inr (0, z)), some (.inr (1, y)), some (.inl x2), some (.inl x3), some (.inl (nI c)), some (.inr (18, k5)), some (.inl (nI 0)), none, none, none] [] S)) : ∀ (d u : Nat) (S : qm_S), u + d = 3 → HZ q h C w a sn m S0 (x + u) (s + 4 * u) S → CNr 18 k5 (h 0 0) (cnw (du h c) (h 0 1)) S → G (F 8 131 [some (.inr (0, z)), some (.inr (1, y)), some (.inl x2), some (.inl x3), some (.inl (nI c)), some (.inr (18, k5)), some (.inl (nI u)), none, none, none] [] S) := by
  intro d
  induction d with
  | zero =>
    intro u S ud H R5
    have kq : u = 3 := by omega
    subst kq
    rw [q8_131 hF, if_neg (by decide)]
    exact hk S H
  | succ d ih =>
    intro u S ud H R5
    have u3 : nI u < 3 := by rw [show (3 : Int32) = nI 3 from rfl, z_lt (by omega) (by omega)]; omega
    have mS : m ≤ S.1 := Nat.le_trans hm H.2.1.2.2.2.1
    rw [q8_131 hF, if_pos u3, H.P hy hP, dlt0 (by omega), z_cl (by omega), show Nat.ble (h 0 0) 100000 = true from Nat.ble_eq_true_of_le (by omega)]
    refine h_148 hF h4 h5 c0 cl (k7 := S.1) (u := u) (x := x + u + 1) (s := s + 4 * u + 4) (by omega) hy mS h57 hQ (fun S' H' R5' R7' => ?_) (h 0 1) 0 (qm_mk S 19 (h 0 0)) (by omega) (H.mk mS (by omega) (by omega)) (R5.frm ((FRM.rf (m := m)).mk (s := 19) mS) h57) ⟨by rw [qn_mk, if_pos rfl], fun p hp => by rw [qi_mk, if_pos ⟨rfl, rfl⟩]; rfl⟩
    rw [h_183 hF h4 h5 c0 cl (by omega) hy hP H' R5' R7' (h 0 0) 0 (by omega)]
    exact ih (u + 1) S' (by omega) (H'.le (by omega) (by omega)) R5' 
/-- turns counted -/
theorem h_98 (hF : qm_fix cO qt_me qt_qs (qt_C L0 xs) J F) (h4 : h 0 0 ≤ 4) (h5 : h 0 1 ≤ 5) (c0 : 0 < c) (cl : c ≤ ev h) {m : Nat} (hy : y < m) (hm : m ≤ k5) (hQ : qr_i S0 1 y 1 = nI (h 0 1)) (hk : ∀ S, HZ q h C w a sn m S0 x s S → CNr 18 k5 (h 0 0) (cnw (du h c) (h 0 1)) S → G (F 8 131 [some (.inr (0, z)), some (.inr (1, y)), some (.inl x2), some (.inl x3), some (.inl (nI c)), some (.inr (18, k5)), some (.inl (nI 0)), none, none, none] [] S)) : ∀ (d k : Nat) (S : qm_S), k + d = h 0 1 → HZ q h C w a sn m S0 x s S → CNr 18 k5 (h 0 0) (cnw (du h c) k) S → G (F 8 98 [some (.inr (0, z)), some (.inr (1, y)), some (.inl x2), some (.inl x3), some (.inl (nI c)), some (.inr (18, k5)), some (.inl (nI k)), none, none, none] [] S) := by
  intro d
  induction d with
  | zero =>
    intro k S kd H R5
    have kq : k = h 0 1 := by omega
    subst kq
    rw [q8_98 hF, H.P hy hQ, if_neg (by rw [z_lt (by omega) (by omega)]; omega)]
    exact hk S H R5
  | succ d ih =>
    intro k S kd H R5
    obtain ⟨b, X⟩ := H.1
    have W := X.W
    have wk := ((du_ok W c0 cl).2.1 k (by omega)).1
    obtain ⟨Y, X1, e1⟩ := qa_turn (J := J) (z := z) (c := c) (i := k) X c0 cl (by omega)
    rw [q8_98 hF, H.P hy hQ, if_pos (by rw [z_lt (by omega) (by omega)]; omega), e1]
    simp only [Option.toList_some, Option.toList_none, List.cons_append, List.nil_append, List.append_nil]
    rw [q8_117 hF, show qr_n (qm_sC S Y) k5 = h 0 0 from R5.1, z_ib wk (by omega), z_cl (by omega), z_1]
    exact ih (k + 1) _ (by omega) ((H.sC X1).i hm) (R5.one (Y := Y) wk)
end
