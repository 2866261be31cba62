/-! ===== the law's machine: references lead where they should ===== -/
section
variable {qs : Nat → qm_K} {T : qm_T} {J base : Nat} {so : Nat → Nat → Prop} {st : Nat → Nat → Nat} {fv : Value} {ρ : Nat → Nat}
/-- nothing that was made changes its kind -/
def qm_mo (J : Nat) (S S' : qm_S) : Prop := S.1 ≤ S'.1 ∧ S.2.1 ≤ S'.2.1 ∧ ∀ a, a < S.1 → S'.2.2.1 a = S.2.2.1 a ∧ qm_bk J S' a = qm_bk J S a
theorem qm_mo.rf {S : qm_S} : qm_mo J S S := ⟨Nat.le_refl _, Nat.le_refl _, fun _ _ => ⟨rfl, rfl⟩⟩
theorem qm_mo.tr {S S1 S2 : qm_S} (h1 : qm_mo J S S1) (h2 : qm_mo J S1 S2) : qm_mo J S S2 := ⟨Nat.le_trans h1.1 h2.1, Nat.le_trans h1.2.1 h2.2.1, fun a ha => ⟨(h2.2.2 a (Nat.lt_of_lt_of_le ha h1.1)).1.trans (h1.2.2 a ha).1, (h2.2.2 a (Nat.lt_of_lt_of_le ha h1.1)).2.trans (h1.2.2 a ha).2⟩⟩
theorem qm_mo.dv {S S' : qm_S} {s a : Nat} (h : qm_mo J S S') (hd : qm_dv J S s a) : qm_dv J S' s a := by
  obtain ⟨h1, h2, h3, h4⟩ := hd
  obtain ⟨e1, e2⟩ := h.2.2 a h2
  exact ⟨h1, Nat.lt_of_lt_of_le h2 h.1, by rw [e2]; exact h3, by rw [e1]; exact h4⟩
theorem qm_mo.vr {S S' : qm_S} {s a : Nat} (h : qm_mo J S S') (hd : qm_vr so J S s a) : qm_vr so J S' s a := hd.imp id h.dv
theorem qm_mo.vv {S S' : qm_S} (h : qm_mo J S S') {v : qm_V} (hd : qm_vv so J S v) : qm_vv so J S' v := by
  rcases v with x | ⟨s, a⟩
  · trivial
  · rcases hd with hd | hd | ⟨h3, hd⟩
    · exact Or.inl hd
    · exact Or.inr (Or.inl hd)
    · exact Or.inr (Or.inr ⟨h3, h.vr hd⟩)
def qm_sv (so : Nat → Nat → Prop) (J : Nat) (S : qm_S) (st : List qm_V) : Prop := ∀ v ∈ st, qm_vv so J S v
def qm_lv (so : Nat → Nat → Prop) (J : Nat) (S : qm_S) (ls : qm_L) : Prop := ∀ (i : Nat) (v : qm_V), ls[i]? = some (some v) → qm_vv so J S v
theorem qm_mo.sv {S S' : qm_S} (h : qm_mo J S S') {l : List qm_V} (hd : qm_sv so J S l) : qm_sv so J S' l := fun v hv => h.vv (hd v hv)
theorem qm_mo.lv {S S' : qm_S} (h : qm_mo J S S') {l : qm_L} (hd : qm_lv so J S l) : qm_lv so J S' l := fun i v hv => h.vv (hd i v hv)
theorem qm_vv_i {S : qm_S} {x : Int32} : qm_vv so J S (.inl x) = True := rfl
theorem qm_sv_c {S : qm_S} {v : qm_V} {l : List qm_V} : qm_sv so J S (v :: l) ↔ qm_vv so J S v ∧ qm_sv so J S l := List.forall_mem_cons
theorem qm_lv.set {S : qm_S} {ls ls' : qm_L} {i : Nat} {v : qm_V} (h : qm_lv so J S ls) (hv : qm_vv so J S v) (hs : qm_st1 ls i v = some ls') : qm_lv so J S ls' := by
  obtain ⟨hi, rfl⟩ := qm_st1_lt hs
  intro j w hj
  by_cases e : j = i
  · rw [e, List.getElem?_set_self hi] at hj
    cases hj
    exact hv
  · rw [List.getElem?_set_ne (Ne.symm e)] at hj
    exact h j w hj
theorem qm_pop_eq : ∀ (n : Nat) {acc st as rest : List qm_V}, qm_pop n acc st = some (as, rest) → ∃ xs, as = xs.reverse ++ acc ∧ st = xs ++ rest ∧ xs.length = n := by
  intro n
  induction n with
  | zero => intro acc st as rest h; cases h; exact ⟨[], rfl, rfl, rfl⟩
  | succ n ih =>
    intro acc st as rest h
    cases st with
    | nil => cases h
    | cons v st =>
      obtain ⟨xs, h1, h2, h3⟩ := ih h
      exact ⟨v :: xs, by rw [h1]; simp, by rw [h2]; rfl, by simp [h3]⟩
theorem qm_pop_sv {S : qm_S} {n : Nat} {st as rest : List qm_V} (h : qm_pop n [] st = some (as, rest)) (hs : qm_sv so J S st) : qm_sv so J S as ∧ qm_sv so J S rest := by
  obtain ⟨xs, h1, h2, -⟩ := qm_pop_eq n h
  subst h1 h2
  exact ⟨fun v hv => hs v (List.mem_append_left _ (by simpa using hv)), fun v hv => hs v (List.mem_append_right _ hv)⟩
theorem qm_bk_old {S S' : qm_S} {a : Nat} (h : S'.2.2.2.2.2.2.1 = S.2.2.2.2.2.2.1) : qm_bk J S' a = qm_bk J S a := by unfold qm_bk; rw [h]
/-- the static ones that a place has which isn't static -/
theorem qm_so24 (h3 : qm_E3 qs T so base J st fv ρ) {s a : Nat} (h : so s a) (hs : T.2.2 s = false) : s = 24 ∧ a = 2 := by
  rcases (h3.2.1 s a h).2.2.2 with h | h
  · rw [h] at hs; cases hs
  · exact h
theorem qm_dvs {S : qm_S} (hok : qm_ok qs T so J S) {s a : Nat} (h : qm_dv J S s a) : T.2.2 s = false := (hok.2.2.2 s a h).1
/-- one reference written -/
theorem qm_ok.sG {S : qm_S} (hok : qm_ok qs T so J S) {s a k b : Nat} (hb : b = 0 ∨ ∀ u, (match qs s with | .inl (_, v) => v = u | .inr (_, ks) => ks[k]? = some (3, u)) → qm_vr so J S u b) : qm_ok qs T so J (qm_sG S (qm_ug S.2.2.2.2.1 s a k b)) := by
  obtain ⟨h1, h2, h3, h4⟩ := hok
  refine ⟨h1, h2, h3, fun s' a' hd => ?_⟩
  have hd0 : qm_dv J S s' a' := hd
  obtain ⟨g1, g2⟩ := h4 s' a' hd0
  refine ⟨g1, ?_⟩
  have key : ∀ (u j : Nat), (match qs s' with | .inl (_, v) => v = u | .inr (_, ks) => ks[j]? = some (3, u)) → (S.2.2.2.2.1 s' a' j = 0 ∨ qm_vr so J S u (S.2.2.2.2.1 s' a' j)) → (qm_ug S.2.2.2.2.1 s a k b s' a' j = 0 ∨ qm_vr so J S u (qm_ug S.2.2.2.2.1 s a k b s' a' j)) := by
    intro u j hu ho
    unfold qm_ug
    cases hc : Nat.beq s' s && (Nat.beq j k && Nat.beq a' a) with
    | false => exact ho
    | true =>
      simp only [Bool.and_eq_true] at hc
      obtain ⟨e1, e2, e3⟩ := hc
      have e1 := Nat.eq_of_beq_eq_true e1
      have e2 := Nat.eq_of_beq_eq_true e2
      subst e1 e2
      exact hb.imp id fun h => h u hu
  split at g2
  · rename_i t u hq
    try rw [hq]
    rw [hq] at key
    exact fun h4t j => key u j rfl (g2 h4t j)
  · rename_i c ks hq
    try rw [hq]
    rw [hq] at key
    exact fun j u hj => key u j hj (g2 j u hj)
theorem qm_cg_at {G : Nat → Nat → Nat → Nat} {s n a : Nat} (h : a ≠ n) (s' : Nat) : qm_cg G s n s' a = G s' a := by
  funext j
  unfold qm_cg
  rw [pm_bf h, Bool.and_false]
  rfl
theorem qm_cg_s {G : Nat → Nat → Nat → Nat} {s n : Nat} (j : Nat) : qm_cg G s n s n j = 0 := by
  unfold qm_cg
  rw [pm_bt, pm_bt]
  rfl
theorem qm_un_at {f : Nat → Nat} {n v a : Nat} (h : a ≠ n) : qm_un f n v a = f a := by
  unfold qm_un
  rw [pm_bf h]
  rfl
theorem qm_un_s {f : Nat → Nat} {n v : Nat} : qm_un f n v n = v := by
  unfold qm_un
  rw [pm_bt]
  rfl
/-- a cell more, of zeroes, whatever its length and its ints -/
theorem qm_ok.mk {S : qm_S} (hok : qm_ok qs T so J S) {s w : Nat} {N' : Nat → Nat} {I' : Nat → Nat → Nat → Int32} (hs : T.2.2 s = false) : qm_ok qs T so J (S.1 + 1, S.2.1 + w, qm_un S.2.2.1 S.1 s, N', qm_cg S.2.2.2.2.1 s S.1, I', S.2.2.2.2.2.2) ∧ qm_mo J S (S.1 + 1, S.2.1 + w, qm_un S.2.2.1 S.1 s, N', qm_cg S.2.2.2.2.1 s S.1, I', S.2.2.2.2.2.2) ∧ (qm_dv J (S.1 + 1, S.2.1 + w, qm_un S.2.2.1 S.1 s, N', qm_cg S.2.2.2.2.1 s S.1, I', S.2.2.2.2.2.2) s S.1) := by
  obtain ⟨h1, h2, h3, h4⟩ := hok
  have hmo : qm_mo J S (S.1 + 1, S.2.1 + w, qm_un S.2.2.1 S.1 s, N', qm_cg S.2.2.2.2.1 s S.1, I', S.2.2.2.2.2.2) := ⟨Nat.le_succ _, Nat.le_add_right _ _, fun a ha => ⟨qm_un_at (Nat.ne_of_lt ha), rfl⟩⟩
  have hdv : qm_dv J (S.1 + 1, S.2.1 + w, qm_un S.2.2.1 S.1 s, N', qm_cg S.2.2.2.2.1 s S.1, I', S.2.2.2.2.2.2) s S.1 := by
    refine ⟨h1, Nat.lt_succ_self _, ?_, qm_un_s⟩
    show (Nat.ble (1001 + J) S.1 && Nat.blt S.1 (1001 + J + S.2.2.2.2.2.2.1)) = false
    by_cases hc : 0 < S.2.2.2.2.2.2.1
    · have : Nat.blt S.1 (1001 + J + S.2.2.2.2.2.2.1) = false := by
        have := h3 hc
        cases hb : Nat.blt S.1 (1001 + J + S.2.2.2.2.2.2.1) with
        | false => rfl
        | true =>
          have : S.1 < 1001 + J + S.2.2.2.2.2.2.1 := by simpa [Nat.blt_eq] using hb
          omega
      rw [this, Bool.and_false]
    · cases hb : Nat.ble (1001 + J) S.1 with
      | false => rfl
      | true =>
        have h5 := Nat.le_of_ble_eq_true hb
        have : Nat.blt S.1 (1001 + J + S.2.2.2.2.2.2.1) = false := by
          cases hb2 : Nat.blt S.1 (1001 + J + S.2.2.2.2.2.2.1) with
          | false => rfl
          | true =>
            have : S.1 < 1001 + J + S.2.2.2.2.2.2.1 := by simpa [Nat.blt_eq] using hb2
            omega
        rw [this]
        rfl
  refine ⟨⟨Nat.le_succ_of_le h1, h2, fun h => Nat.le_succ_of_le (h3 h), fun s' a' hd => ?_⟩, hmo, hdv⟩
  by_cases e : a' = S.1
  · have hs' : s' = s := by
      have := hd.2.2.2
      rw [e] at this
      exact this.symm.trans qm_un_s
    subst hs'
    refine ⟨hs, ?_⟩
    rw [e]
    split
    · exact fun _ j => Or.inl (qm_cg_s j)
    · exact fun k u _ => Or.inl (qm_cg_s k)
  · have hd0 : qm_dv J S s' a' := by
      obtain ⟨d1, d2, d3, d4⟩ := hd
      have d2 : a' < S.1 + 1 := d2
      exact ⟨d1, by omega, d3, (qm_un_at e).symm.trans d4⟩
    obtain ⟨g1, g2⟩ := h4 s' a' hd0
    refine ⟨g1, ?_⟩
    have e1 : ∀ j, qm_cg S.2.2.2.2.1 s S.1 s' a' j = S.2.2.2.2.1 s' a' j := fun j => congrFun (qm_cg_at e s') j
    split at g2
    · rename_i t u hq
      try rw [hq]
      intro h4t j
      show qm_cg S.2.2.2.2.1 s S.1 s' a' j = 0 ∨ qm_vr so J _ u (qm_cg S.2.2.2.2.1 s S.1 s' a' j)
      rw [e1]
      exact (g2 h4t j).imp id hmo.vr
    · rename_i c ks hq
      try rw [hq]
      intro j u hj
      show qm_cg S.2.2.2.2.1 s S.1 s' a' j = 0 ∨ qm_vr so J _ u (qm_cg S.2.2.2.2.1 s S.1 s' a' j)
      rw [e1]
      exact (g2 j u hj).imp id hmo.vr
theorem qm_bwf {a b n : Nat} : (Nat.blt a b && Nat.ble b (a + n)) = true ↔ a < b ∧ b ≤ a + n := by
  rw [Bool.and_eq_true, Nat.blt_eq]
  exact ⟨fun h => ⟨h.1, Nat.le_of_ble_eq_true h.2⟩, fun h => ⟨h.1, Nat.ble_eq_true_of_le h.2⟩⟩
/-- rows of rows more -/
theorem qm_ok.mm {S : qm_S} (hok : qm_ok qs T so J S) {s t n k ty ty' u' : Nat} (hs : T.2.2 s = false) (ht : T.2.2 t = false) (hq : qs s = .inl (ty, t)) (hq' : qs t = .inl (ty', u')) (ht' : ty' < 4) (hne : s ≠ t) : qm_ok qs T so J (qm_mm S s t n k) ∧ qm_mo J S (qm_mm S s t n k) ∧ qm_dv J (qm_mm S s t n k) s S.1 := by
  obtain ⟨h1, h2, h3, h4⟩ := hok
  have hK : ∀ a, a < S.1 → (qm_mm S s t n k).2.2.1 a = S.2.2.1 a := by
    intro a ha
    show qm_mn (qm_un S.2.2.1 S.1 s) S.1 n t a = _
    unfold qm_mn
    rw [show Nat.blt S.1 a = false from by
      cases hb : Nat.blt S.1 a with
      | false => rfl
      | true => have : S.1 < a := by simpa [Nat.blt_eq] using hb
                omega]
    exact qm_un_at (Nat.ne_of_lt ha)
  have hK0 : (qm_mm S s t n k).2.2.1 S.1 = s := by
    show qm_mn (qm_un S.2.2.1 S.1 s) S.1 n t S.1 = _
    unfold qm_mn
    rw [show Nat.blt S.1 S.1 = false from by
      cases hb : Nat.blt S.1 S.1 with
      | false => rfl
      | true => have : S.1 < S.1 := by simpa [Nat.blt_eq] using hb
                omega]
    exact qm_un_s
  have hK1 : ∀ a, S.1 < a → a ≤ S.1 + n → (qm_mm S s t n k).2.2.1 a = t := by
    intro a q1 q2
    show qm_mn (qm_un S.2.2.1 S.1 s) S.1 n t a = _
    unfold qm_mn
    rw [qm_bwf.mpr ⟨q1, q2⟩]
    rfl
  have hbk : ∀ a, S.1 ≤ a → qm_bk J (qm_mm S s t n k) a = false := by
    intro a ha
    show (Nat.ble (1001 + J) a && Nat.blt a (1001 + J + S.2.2.2.2.2.2.1)) = false
    cases hb : Nat.ble (1001 + J) a && Nat.blt a (1001 + J + S.2.2.2.2.2.2.1) with
    | false => rfl
    | true =>
      rw [Bool.and_eq_true] at hb
      have q1 := Nat.le_of_ble_eq_true hb.1
      have q2 : a < 1001 + J + S.2.2.2.2.2.2.1 := by simpa [Nat.blt_eq] using hb.2
      have := h3 (by omega)
      omega
  have hmo : qm_mo J S (qm_mm S s t n k) := ⟨by show S.1 ≤ S.1 + 1 + n; omega, Nat.le_add_right _ _, fun a ha => ⟨hK a ha, rfl⟩⟩
  have hdv0 : qm_dv J (qm_mm S s t n k) s S.1 := ⟨h1, by show S.1 < S.1 + 1 + n; omega, hbk _ (Nat.le_refl _), hK0⟩
  have hdv1 : ∀ j, j < n → qm_dv J (qm_mm S s t n k) t (S.1 + 1 + j) := fun j hj => ⟨by omega, by show S.1 + 1 + j < S.1 + 1 + n; omega, hbk _ (by omega), hK1 _ (by omega) (by omega)⟩
  refine ⟨⟨by show 1001 ≤ S.1 + 1 + n; omega, h2, fun h => Nat.le_trans (h3 h) hmo.1, fun s' a' hd => ?_⟩, hmo, hdv0⟩
  obtain ⟨d1, d2, d3, d4⟩ := id hd
  have d2 : a' < S.1 + 1 + n := d2
  by_cases e : a' = S.1
  · subst e
    have hs' : s' = s := d4.symm.trans hK0
    subst hs'
    refine ⟨hs, ?_⟩
    try rw [hq]
    intro _ j
    show qm_mg S.2.2.2.2.1 s' S.1 n s' S.1 j = 0 ∨ qm_vr so J (qm_mm S s' t n k) t (qm_mg S.2.2.2.2.1 s' S.1 n s' S.1 j)
    unfold qm_mg
    rw [pm_bt, pm_bt]
    simp only [Bool.and_self, cond_true]
    cases hj : Nat.blt j n with
    | false => exact Or.inl rfl
    | true => exact Or.inr (Or.inr (hdv1 j (by simpa [Nat.blt_eq] using hj)))
  · by_cases e2 : S.1 < a'
    · have hs' : s' = t := d4.symm.trans (hK1 a' e2 (by omega))
      subst hs'
      refine ⟨ht, ?_⟩
      rw [hq']
      intro h9
      omega
    · have hd0 : qm_dv J S s' a' := ⟨d1, by omega, d3, (hK a' (by omega)).symm.trans d4⟩
      obtain ⟨g1, g2⟩ := h4 s' a' hd0
      refine ⟨g1, ?_⟩
      have e1 : ∀ j, (qm_mm S s t n k).2.2.2.2.1 s' a' j = S.2.2.2.2.1 s' a' j := by
        intro j
        show qm_mg S.2.2.2.2.1 s S.1 n s' a' j = _
        unfold qm_mg
        rw [pm_bf e, Bool.and_false]
        rfl
      split at g2
      · rename_i ty2 u hq2
        try rw [hq2]
        intro h4t j
        rw [e1]
        exact (g2 h4t j).imp id hmo.vr
      · rename_i c ks hq2
        try rw [hq2]
        intro j u hj
        rw [e1]
        exact (g2 j u hj).imp id hmo.vr
/-- the class' first cell -/
theorem qm_ok.c0 {S : qm_S} (hok : qm_ok qs T so J S) {w : Nat} {C : pm_S} (hn : S.1 = 1001 + J) (hc : S.2.2.2.2.2.2.1 = 0) (hC : C.1 = 1) : qm_ok qs T so J (S.1 + 1, S.2.1 + w, S.2.2.1, S.2.2.2.1, S.2.2.2.2.1, S.2.2.2.2.2.1, C) ∧ qm_mo J S (S.1 + 1, S.2.1 + w, S.2.2.1, S.2.2.2.1, S.2.2.2.2.1, S.2.2.2.2.2.1, C) := by
  obtain ⟨h1, h2, h3, h4⟩ := hok
  have hbk : ∀ a, a < S.1 → qm_bk J (S.1 + 1, S.2.1 + w, S.2.2.1, S.2.2.2.1, S.2.2.2.2.1, S.2.2.2.2.2.1, C) a = qm_bk J S a := by
    intro a ha
    show (Nat.ble (1001 + J) a && _) = (Nat.ble (1001 + J) a && _)
    rw [show Nat.ble (1001 + J) a = false from by
      cases hb : Nat.ble (1001 + J) a with
      | false => rfl
      | true => have := Nat.le_of_ble_eq_true hb; omega]
    rfl
  have hmo : qm_mo J S (S.1 + 1, S.2.1 + w, S.2.2.1, S.2.2.2.1, S.2.2.2.2.1, S.2.2.2.2.2.1, C) := ⟨Nat.le_succ _, Nat.le_add_right _ _, fun a ha => ⟨rfl, hbk a ha⟩⟩
  refine ⟨⟨Nat.le_succ_of_le h1, by show C.1 ≤ 49; omega, fun _ => by show 1001 + J + C.1 ≤ S.1 + 1; omega, fun s' a' hd => ?_⟩, hmo⟩
  obtain ⟨d1, d2, d3, d4⟩ := hd
  have d2 : a' < S.1 + 1 := d2
  have hlt : a' < S.1 := by
    rcases Nat.lt_or_ge a' S.1 with h | h
    · exact h
    · exfalso
      have e : a' = 1001 + J := by omega
      have d3 : (Nat.ble (1001 + J) a' && Nat.blt a' (1001 + J + C.1)) = false := d3
      rw [e, hC] at d3
      rw [show Nat.ble (1001 + J) (1001 + J) = true from Nat.ble_eq_true_of_le (Nat.le_refl _), show Nat.blt (1001 + J) (1001 + J + 1) = true from by simp [Nat.blt_eq]] at d3
      cases d3
  have hd0 : qm_dv J S s' a' := ⟨d1, hlt, by rw [← hbk a' hlt]; exact d3, d4⟩
  obtain ⟨g1, g2⟩ := h4 s' a' hd0
  refine ⟨g1, ?_⟩
  split at g2
  · rename_i t u hq
    try rw [hq]
    exact fun h4t j => (g2 h4t j).imp id hmo.vr
  · rename_i c ks hq
    try rw [hq]
    exact fun j u hj => (g2 j u hj).imp id hmo.vr
/-- the class was asked -/
theorem qm_ok.oS {S : qm_S} (hok : qm_ok qs T so J S) {C : pm_S} (hg : (Nat.beq S.2.2.2.2.2.2.1 49 || (Nat.beq S.2.2.2.2.2.2.1 1 && Nat.beq S.1 (1002 + J))) = true) (hle : S.2.2.2.2.2.2.1 ≤ C.1) (hC : C.1 ≤ 49) : qm_ok qs T so J (qm_oS S C) ∧ qm_mo J S (qm_oS S C) := by
  obtain ⟨h1, h2, h3, h4⟩ := hok
  have hcase : (S.2.2.2.2.2.2.1 = 49 ∧ C.1 = 49) ∨ (S.2.2.2.2.2.2.1 = 1 ∧ S.1 = 1002 + J) := by
    rw [Bool.or_eq_true, Bool.and_eq_true] at hg
    rcases hg with hg | ⟨g1, g2⟩
    · have := Nat.eq_of_beq_eq_true hg
      exact Or.inl ⟨this, by omega⟩
    · exact Or.inr ⟨Nat.eq_of_beq_eq_true g1, Nat.eq_of_beq_eq_true g2⟩
  have hbk : ∀ a, a < S.1 → qm_bk J (qm_oS S C) a = qm_bk J S a := by
    intro a ha
    show (Nat.ble (1001 + J) a && Nat.blt a (1001 + J + C.1)) = (Nat.ble (1001 + J) a && Nat.blt a (1001 + J + S.2.2.2.2.2.2.1))
    rcases hcase with ⟨e1, e2⟩ | ⟨e1, e2⟩
    · rw [e1, e2]
    · cases hb : Nat.ble (1001 + J) a with
      | false => rfl
      | true =>
        have q := Nat.le_of_ble_eq_true hb
        have ea : a = 1001 + J := by omega
        rw [show Nat.blt a (1001 + J + C.1) = true from by simp [Nat.blt_eq]; omega, show Nat.blt a (1001 + J + S.2.2.2.2.2.2.1) = true from by simp [Nat.blt_eq]; omega]
  have hn : S.1 ≤ (qm_oS S C).1 := Nat.le_add_right _ _
  have hmo : qm_mo J S (qm_oS S C) := ⟨hn, Nat.le_add_right _ _, fun a ha => ⟨rfl, hbk a ha⟩⟩
  refine ⟨⟨Nat.le_trans h1 hn, hC, fun _ => ?_, fun s' a' hd => ?_⟩, hmo⟩
  · show 1001 + J + C.1 ≤ S.1 + (C.1 - S.2.2.2.2.2.2.1)
    have := h3 (by omega)
    omega
  · obtain ⟨d1, d2, d3, d4⟩ := hd
    have d2 : a' < S.1 + (C.1 - S.2.2.2.2.2.2.1) := d2
    have hlt : a' < S.1 := by
      rcases hcase with ⟨e1, e2⟩ | ⟨e1, e2⟩
      · omega
      · rcases Nat.lt_or_ge a' S.1 with h | h
        · exact h
        · exfalso
          have d3 : (Nat.ble (1001 + J) a' && Nat.blt a' (1001 + J + C.1)) = false := d3
          rw [show Nat.ble (1001 + J) a' = true from Nat.ble_eq_true_of_le (by omega), show Nat.blt a' (1001 + J + C.1) = true from by simp [Nat.blt_eq]; omega] at d3
          cases d3
    have hd0 : qm_dv J S s' a' := ⟨d1, hlt, by rw [← hbk a' hlt]; exact d3, d4⟩
    obtain ⟨g1, g2⟩ := h4 s' a' hd0
    refine ⟨g1, ?_⟩
    split at g2
    · rename_i t u hq
      try rw [hq]
      exact fun h4t j => (g2 h4t j).imp id hmo.vr
    · rename_i c ks hq
      try rw [hq]
      exact fun j u hj => (g2 j u hj).imp id hmo.vr
/-- what an instruction leaves in order -/
def qm_ko (qs : Nat → qm_K) (T : qm_T) (so : Nat → Nat → Prop) (J : Nat) (S : qm_S) (ls : qm_L) : qm_C → Prop
  | .inl (_, ls', st', S') => qm_mo J S S' ∧ qm_ok qs T so J S' ∧ qm_sv so J S' st' ∧ qm_lv so J S' ls'
  | .inr (.inl (_, _, _, _, _, ls', st', S')) => S' = S ∧ ls' = ls ∧ qm_sv so J S st'
  | .inr (.inr (.inl (_, _, _, ls', st', S'))) => S' = S ∧ ls' = ls ∧ qm_sv so J S st'
  | .inr (.inr (.inr (.inl (_, _, as, _, ls', st', S')))) => S' = S ∧ ls' = ls ∧ qm_sv so J S as ∧ qm_sv so J S st'
  | .inr (.inr (.inr (.inr (v, S')))) => S' = S ∧ ∀ w, v = some w → qm_vv so J S w
theorem qm_ko_n {S S' : qm_S} {ls ls' : qm_L} {st' : List qm_V} {pc : Nat} {g : Bool} {z : qm_C} (h : qm_n g pc ls' st' S' = some (true, z)) (hk : g = true → qm_mo J S S' ∧ qm_ok qs T so J S' ∧ qm_sv so J S' st' ∧ qm_lv so J S' ls') : qm_ko qs T so J S ls z := by
  unfold qm_n at h
  cases h
  exact hk rfl
theorem qm_ko_b {S : qm_S} {ls : qm_L} {st' : List qm_V} {o t e : Nat} {x y : Int32} {z : qm_C} (h : qm_b o x y t e ls st' S = some (true, z)) (hk : qm_sv so J S st') : qm_ko qs T so J S ls z := by
  unfold qm_b at h
  cases h
  exact ⟨rfl, rfl, hk⟩
theorem qm_ko_w {S : qm_S} {ls : qm_L} {st' : List qm_V} {d : Nat} {ts : List Nat} {x : Int32} {z : qm_C} (h : qm_w x d ts ls st' S = some (true, z)) (hk : qm_sv so J S st') : qm_ko qs T so J S ls z := by
  unfold qm_w at h
  cases h
  exact ⟨rfl, rfl, hk⟩
theorem qm_ko_j {S : qm_S} {ls : qm_L} {as st' : List qm_V} {cl : Bool} {mj nx : Nat} {z : qm_C} (h : qm_j cl mj as nx ls st' S = some (true, z)) (h1 : qm_sv so J S as) (hk : qm_sv so J S st') : qm_ko qs T so J S ls z := by
  unfold qm_j at h
  cases h
  exact ⟨rfl, rfl, h1, hk⟩
theorem qm_ko_e {S : qm_S} {ls : qm_L} {g : Bool} {v : Option qm_V} {z : qm_C} (h : qm_e g v S = some (true, z)) (hk : ∀ w, v = some w → qm_vv so J S w) : qm_ko qs T so J S ls z := by
  unfold qm_e at h
  cases h
  exact ⟨rfl, hk⟩
theorem qm_ko_call {S : qm_S} {ls : qm_L} {st : List qm_V} {cl : Bool} {nx : Nat} {xs : List Nat} {z : qm_C} (hst : qm_sv so J S st) (h : qm_call cl nx xs ls st S = some (true, z)) : qm_ko qs T so J S ls z := by
  unfold qm_call at h
  split at h
  · rename_i as rest hp
    obtain ⟨h1, h2⟩ := qm_pop_sv hp hst
    exact qm_ko_j (pm_cond h).2 h1 h2
  · cases h
theorem qm_ko_callV {S : qm_S} {ls : qm_L} {st : List qm_V} {nx : Nat} {xs : List Nat} {z : qm_C} (hst : qm_sv so J S st) (h : qm_callV nx xs ls st S = some (true, z)) : qm_ko qs T so J S ls z := by
  unfold qm_callV at h
  split at h
  · rename_i as rest hp
    obtain ⟨h1, h2⟩ := qm_pop_sv hp hst
    exact qm_ko_j (pm_cond h).2 h1 h2
  · cases h
theorem qm_vr_of {S : qm_S} {s a : Nat} (h : qm_vv so J S (.inr (s, a))) (hs : s < 30) : qm_vr so J S s a := by
  rcases h with h | h | h
  · omega
  · omega
  · exact h.2
theorem qm_getD3 {ks : List (Nat × Nat)} {k : Nat} (h : (ks.getD k (9, 9)).1 = 3) : ks[k]? = some (3, (ks.getD k (9, 9)).2) := by
  rw [List.getD_eq_getElem?_getD] at h ⊢
  cases hk : ks[k]? with
  | none => rw [hk] at h; cases h
  | some kd =>
    rw [hk] at h
    obtain ⟨a, b⟩ := kd
    have h : a = 3 := h
    subst h
    rfl
set_option maxHeartbeats 4000000 in
theorem qm_x_ok (h3 : qm_E3 qs T so base J st fv ρ) {ret : Option FieldType} {q : pm_Q} {ls : qm_L} {sk : List qm_V} {S : qm_S} {z : qm_C} (hok : qm_ok qs T so J S) (hst : qm_sv so J S sk) (hls : qm_lv so J S ls) (h : qm_x qs T J ret q ls sk S = some (true, z)) : qm_ko qs T so J S ls z := by
  obtain ⟨e1, e2, e3, ⟨e4, e4'⟩, e5, ⟨s24, s26, s28, s29, s06, s25, s16⟩, e7, ⟨t14, t15, q14, q15, q0, so06⟩, e9⟩ := id h3
  obtain ⟨pc, ins, nx, w, xs, ci, cj⟩ := q
  have hp : qm_sv so J S sk → ∀ {st'}, qm_sv so J S st' → qm_mo J S S ∧ qm_ok qs T so J S ∧ qm_sv so J S st' ∧ qm_lv so J S ls := fun _ _ h => ⟨qm_mo.rf, hok, h, hls⟩
  cases ins
  case iload n =>
    simp only [qm_x] at h
    split at h
    · exact qm_ko_n h fun _ => hp hst (by simp only [qm_sv_c, qm_vv_i, true_and]; exact hst)
    · cases h
  case iload_n n =>
    simp only [qm_x] at h
    split at h
    · exact qm_ko_n h fun _ => hp hst (by simp only [qm_sv_c, qm_vv_i, true_and]; exact hst)
    · cases h
  case aload n =>
    simp only [qm_x] at h
    split at h
    · rename_i s a hx
      obtain ⟨h30, h⟩ := pm_cond h
      exact qm_ko_n h fun _ => hp hst (qm_sv_c.mpr ⟨hls _ _ (qm_gd hx), hst⟩)
    · cases h
  case aload_n n =>
    simp only [qm_x] at h
    split at h
    · rename_i s a hx
      obtain ⟨h30, h⟩ := pm_cond h
      exact qm_ko_n h fun _ => hp hst (qm_sv_c.mpr ⟨hls _ _ (qm_gd hx), hst⟩)
    · cases h
  case istore n =>
    simp only [qm_x] at h
    split at h
    · rw [qm_sv_c] at hst
      split at h
      · rename_i ls' hs
        exact qm_ko_n h fun _ => ⟨qm_mo.rf, hok, hst.2, hls.set hst.1 hs⟩
      · cases h
    · cases h
  case istore_n n =>
    simp only [qm_x] at h
    split at h
    · rw [qm_sv_c] at hst
      split at h
      · rename_i ls' hs
        exact qm_ko_n h fun _ => ⟨qm_mo.rf, hok, hst.2, hls.set hst.1 hs⟩
      · cases h
    · cases h
  case astore n =>
    simp only [qm_x] at h
    split at h
    · rw [qm_sv_c] at hst
      obtain ⟨h30, h⟩ := pm_cond h
      split at h
      · rename_i ls' hs
        exact qm_ko_n h fun _ => ⟨qm_mo.rf, hok, hst.2, hls.set hst.1 hs⟩
      · cases h
    · cases h
  case astore_n n =>
    simp only [qm_x] at h
    split at h
    · rw [qm_sv_c] at hst
      obtain ⟨h30, h⟩ := pm_cond h
      split at h
      · rename_i ls' hs
        exact qm_ko_n h fun _ => ⟨qm_mo.rf, hok, hst.2, hls.set hst.1 hs⟩
      · cases h
    · cases h
  case iinc i n =>
    simp only [qm_x] at h
    split at h
    · split at h
      · rename_i ls' hs
        exact qm_ko_n h fun _ => ⟨qm_mo.rf, hok, hst, hls.set (v := .inl _) trivial hs⟩
      · cases h
    · cases h
  case iconst n =>
    simp only [qm_x] at h
    exact qm_ko_n h fun _ => hp hst (by simp only [qm_sv_c, qm_vv_i, true_and]; exact hst)
  case bipush n =>
    simp only [qm_x] at h
    exact qm_ko_n h fun _ => hp hst (by simp only [qm_sv_c, qm_vv_i, true_and]; exact hst)
  case sipush n =>
    simp only [qm_x] at h
    exact qm_ko_n h fun _ => hp hst (by simp only [qm_sv_c, qm_vv_i, true_and]; exact hst)
  case ldc_w n =>
    simp only [qm_x] at h
    exact qm_ko_n h fun _ => hp hst (by simp only [qm_sv_c, qm_vv_i, true_and]; exact hst)
  case ldc n =>
    simp only [qm_x] at h
    split at h
    · exact qm_ko_n h fun _ => hp hst (by simp only [qm_sv_c, qm_vv_i, true_and]; exact hst)
    · rename_i a _
      obtain ⟨hg, h⟩ := pm_cond h
      rw [Bool.and_eq_true] at hg
      have g1 := Nat.le_of_ble_eq_true hg.1
      have g2 : a < 29 := by simpa [Nat.blt_eq] using hg.2
      refine qm_ko_n h fun _ => hp hst (qm_sv_c.mpr ⟨Or.inr (Or.inr ⟨by decide, Or.inl ?_⟩), hst⟩)
      have := s16 (a - 11) (by omega)
      rwa [show a - 11 + 11 = a by omega] at this
  case aconst_null =>
    simp only [qm_x] at h
    exact qm_ko_n h fun _ => hp hst (qm_sv_c.mpr ⟨Or.inr (Or.inl rfl), hst⟩)
  case iadd =>
    simp only [qm_x] at h
    split at h
    · exact qm_ko_n h fun _ => hp hst (by simp only [qm_sv_c, qm_vv_i, true_and] at hst ⊢; exact hst)
    · cases h
  case isub =>
    simp only [qm_x] at h
    split at h
    · exact qm_ko_n h fun _ => hp hst (by simp only [qm_sv_c, qm_vv_i, true_and] at hst ⊢; exact hst)
    · cases h
  case imul =>
    simp only [qm_x] at h
    split at h
    · exact qm_ko_n h fun _ => hp hst (by simp only [qm_sv_c, qm_vv_i, true_and] at hst ⊢; exact hst)
    · cases h
  case idiv =>
    simp only [qm_x] at h
    split at h
    · exact qm_ko_n h fun _ => hp hst (by simp only [qm_sv_c, qm_vv_i, true_and] at hst ⊢; exact hst)
    · cases h
  case irem =>
    simp only [qm_x] at h
    split at h
    · exact qm_ko_n h fun _ => hp hst (by simp only [qm_sv_c, qm_vv_i, true_and] at hst ⊢; exact hst)
    · cases h
  case iand =>
    simp only [qm_x] at h
    split at h
    · exact qm_ko_n h fun _ => hp hst (by simp only [qm_sv_c, qm_vv_i, true_and] at hst ⊢; exact hst)
    · cases h
  case ior =>
    simp only [qm_x] at h
    split at h
    · exact qm_ko_n h fun _ => hp hst (by simp only [qm_sv_c, qm_vv_i, true_and] at hst ⊢; exact hst)
    · cases h
  case ishl =>
    simp only [qm_x] at h
    split at h
    · exact qm_ko_n h fun _ => hp hst (by simp only [qm_sv_c, qm_vv_i, true_and] at hst ⊢; exact hst)
    · cases h
  case ishr =>
    simp only [qm_x] at h
    split at h
    · exact qm_ko_n h fun _ => hp hst (by simp only [qm_sv_c, qm_vv_i, true_and] at hst ⊢; exact hst)
    · cases h
  case iushr =>
    simp only [qm_x] at h
    split at h
    · exact qm_ko_n h fun _ => hp hst (by simp only [qm_sv_c, qm_vv_i, true_and] at hst ⊢; exact hst)
    · cases h
  case ineg =>
    simp only [qm_x] at h
    split at h
    · exact qm_ko_n h fun _ => hp hst (by simp only [qm_sv_c, qm_vv_i, true_and] at hst ⊢; exact hst)
    · cases h
  case i2b =>
    simp only [qm_x] at h
    split at h
    · exact qm_ko_n h fun _ => hp hst (by simp only [qm_sv_c, qm_vv_i, true_and] at hst ⊢; exact hst)
    · cases h
  case i2c =>
    simp only [qm_x] at h
    split at h
    · exact qm_ko_n h fun _ => hp hst (by simp only [qm_sv_c, qm_vv_i, true_and] at hst ⊢; exact hst)
    · cases h
  case dup =>
    simp only [qm_x] at h
    split at h
    · rw [qm_sv_c] at hst
      exact qm_ko_n h fun _ => ⟨qm_mo.rf, hok, qm_sv_c.mpr ⟨hst.1, qm_sv_c.mpr hst⟩, hls⟩
    · cases h
  case dup_x1 =>
    simp only [qm_x] at h
    split at h
    · rw [qm_sv_c, qm_sv_c] at hst
      exact qm_ko_n h fun _ => ⟨qm_mo.rf, hok, qm_sv_c.mpr ⟨hst.1, qm_sv_c.mpr ⟨hst.2.1, qm_sv_c.mpr ⟨hst.1, hst.2.2⟩⟩⟩, hls⟩
    · cases h
  case dup2 =>
    simp only [qm_x] at h
    split at h
    · rw [qm_sv_c, qm_sv_c] at hst
      exact qm_ko_n h fun _ => ⟨qm_mo.rf, hok, qm_sv_c.mpr ⟨hst.1, qm_sv_c.mpr ⟨hst.2.1, qm_sv_c.mpr ⟨hst.1, qm_sv_c.mpr hst.2⟩⟩⟩, hls⟩
    · cases h
  case pop =>
    simp only [qm_x] at h
    split at h
    · rw [qm_sv_c] at hst
      exact qm_ko_n h fun _ => ⟨qm_mo.rf, hok, hst.2, hls⟩
    · cases h
  case ifCond cnd o => cases cnd <;> (simp only [qm_x] at h; split at h <;> first | exact qm_ko_b h (by simp only [qm_sv_c, qm_vv_i, true_and] at hst ⊢; exact hst) | cases h)
  case if_icmp cnd o => cases cnd <;> (simp only [qm_x] at h; split at h <;> first | exact qm_ko_b h (by simp only [qm_sv_c, qm_vv_i, true_and] at hst ⊢; exact hst) | cases h)
  case if_acmp cnd o =>
    cases cnd
    case eq =>
      simp only [qm_x] at h
      split at h
      · rw [qm_sv_c, qm_sv_c] at hst
        obtain ⟨-, h⟩ := pm_cond h
        exact qm_ko_n h fun _ => ⟨qm_mo.rf, hok, hst.2.2, hls⟩
      · cases h
    all_goals (simp only [qm_x] at h; cases h)
  case ifnonnull o =>
    simp only [qm_x] at h
    split at h
    · rw [qm_sv_c] at hst
      obtain ⟨-, h⟩ := pm_cond h
      exact qm_ko_n h fun _ => ⟨qm_mo.rf, hok, hst.2, hls⟩
    · cases h
  case goto o =>
    simp only [qm_x] at h
    exact qm_ko_n h fun _ => ⟨qm_mo.rf, hok, hst, fun i v hv => hls i v (qm_clr_at.2 i v hv)⟩
  case tableswitch d lo hi offs =>
    simp only [qm_x] at h
    split at h
    · rw [qm_sv_c] at hst
      exact qm_ko_w h hst.2
    · cases h
  case getfield idx =>
    simp only [qm_x] at h
    split at h
    · rename_i s a r
      rw [qm_sv_c] at hst
      split at h
      · rename_i c ks hq
        obtain ⟨hc, h⟩ := pm_cond h
        split at h
        · rename_i g v hv
          refine qm_ko_n h fun hg => ⟨qm_mo.rf, hok, qm_sv_c.mpr ⟨?_, hst.2⟩, hls⟩
          unfold qm_fv at hv
          split at hv
          · cases hv; trivial
          · cases hv; trivial
          · cases hv; trivial
          · rename_i hk3
            have hk := qm_getD3 hk3
            cases hT : T.2.2 s with
            | true =>
              rw [hT] at hv
              cases hv
              rcases hst.1 with h0 | h0 | ⟨hs30, h0 | h0⟩
              · rw [e9 s (by omega)] at hq; cases hq
              · rw [e9 s (by omega)] at hq; cases hq
              · obtain ⟨g1, g2⟩ := e5 s a c ks _ _ h0 hq hk
                exact Or.inr (Or.inr ⟨g1, Or.inl g2⟩)
              · rw [qm_dvs hok h0] at hT; cases hT
            | false =>
              rw [hT] at hv
              cases hv
              have hlt : s < 30 := (e7 s hT).2.1
              rcases qm_vr_of hst.1 hlt with h0 | h0
              · obtain ⟨g1, g2⟩ := qm_so24 h3 h0 hT
                rw [g1, e4'] at hq
                cases hq
              · have h8 := e7 s hT
                have h9 := (hok.2.2.2 s a h0).2
                rw [hq] at h8 h9
                have g1 := h8.2.2 _ _ hk
                have g2 := h9 _ _ hk
                rcases g2 with g2 | g2
                · rw [g2] at hg; cases hg
                · exact Or.inr (Or.inr ⟨g1, g2⟩)
          · cases hv
        · cases h
      · cases h
    · cases h
  case putfield idx =>
    simp only [qm_x] at h
    split at h
    · rename_i x s a r
      simp only [qm_sv_c, qm_vv_i, true_and] at hst
      cases hT : T.2.2 s with
      | true => rw [hT] at h; cases h
      | false =>
        rw [hT] at h
        simp only [cond_false] at h
        split at h
        · obtain ⟨hc, h⟩ := pm_cond h
          split at h <;> first | exact qm_ko_n h (fun _ => ⟨qm_mo.rf, hok, hst.2, hls⟩) | cases h
        · cases h
    · rename_i t b s a r
      rw [qm_sv_c, qm_sv_c] at hst
      cases hT : T.2.2 s with
      | true => rw [hT] at h; cases h
      | false =>
        rw [hT] at h
        simp only [cond_false] at h
        split at h
        · rename_i c ks hq
          obtain ⟨hc, h⟩ := pm_cond h
          simp only [Bool.and_eq_true] at hc
          obtain ⟨-, ht30, hk3, hkt⟩ := hc
          have ht30 : t < 30 := by simpa [Nat.blt_eq] using ht30
          have hk := qm_getD3 (Nat.eq_of_beq_eq_true hk3)
          have hkt := Nat.eq_of_beq_eq_true hkt
          have hvr := qm_vr_of hst.1 ht30
          refine qm_ko_n h fun _ => ⟨qm_mo.rf, hok.sG (Or.inr fun u hu => ?_), hst.2.2, hls⟩
          rw [hq] at hu
          have hu : ks[xs.getD 2 0]? = some (3, u) := hu
          rw [hk, hkt] at hu
          cases hu
          exact hvr
        · cases h
    · cases h
  case getstatic idx =>
    simp only [qm_x] at h
    split at h
    · exact qm_ko_n h fun _ => hp hst (qm_sv_c.mpr ⟨trivial, hst⟩)
    · exact qm_ko_n h fun _ => hp hst (qm_sv_c.mpr ⟨Or.inl rfl, hst⟩)
    · exact qm_ko_n h fun _ => hp hst (qm_sv_c.mpr ⟨Or.inr (Or.inr ⟨by decide, Or.inl s24⟩), hst⟩)
    · exact qm_ko_n h fun _ => hp hst (qm_sv_c.mpr ⟨Or.inr (Or.inr ⟨by decide, Or.inl s26⟩), hst⟩)
    · exact qm_ko_n h fun _ => hp hst (qm_sv_c.mpr ⟨trivial, hst⟩)
    · exact qm_ko_n h fun _ => hp hst (qm_sv_c.mpr ⟨Or.inr (Or.inr ⟨by decide, Or.inl s28⟩), hst⟩)
    · exact qm_ko_n h fun _ => hp hst (qm_sv_c.mpr ⟨Or.inr (Or.inr ⟨by decide, Or.inl s29⟩), hst⟩)
    · cases h
  case iaload =>
    simp only [qm_x] at h
    split at h
    · simp only [qm_sv_c, qm_vv_i, true_and] at hst
      split at h
      · exact qm_ko_n h fun _ => ⟨qm_mo.rf, hok, qm_sv_c.mpr ⟨trivial, hst.2⟩, hls⟩
      · cases h
    · cases h
  case baload =>
    simp only [qm_x] at h
    split at h
    · simp only [qm_sv_c, qm_vv_i, true_and] at hst
      split at h
      · exact qm_ko_n h fun _ => ⟨qm_mo.rf, hok, qm_sv_c.mpr ⟨trivial, hst.2⟩, hls⟩
      · cases h
    · cases h
  case aaload =>
    simp only [qm_x] at h
    split at h
    · rename_i i s a r
      simp only [qm_sv_c, qm_vv_i, true_and] at hst
      split at h
      · rename_i t u hq
        obtain ⟨ht4, h⟩ := pm_cond h
        rw [Bool.and_eq_true] at ht4
        have ht7 := Nat.le_of_ble_eq_true ht4.2
        have ht4 := Nat.le_of_ble_eq_true ht4.1
        cases hT : T.2.2 s with
        | true =>
          rw [hT] at h
          simp only [cond_true] at h
          refine qm_ko_n h fun hg => ⟨qm_mo.rf, hok, qm_sv_c.mpr ⟨?_, hst.2⟩, hls⟩
          have hin := pm_ib_of hg
          unfold qm_len at hin
          rw [hT] at hin
          simp only [cond_true] at hin
          rcases hst.1 with h0 | h0 | ⟨hs30, h0 | h0⟩
          · rw [e9 s (by omega)] at hq; cases hq; omega
          · rw [e9 s (by omega)] at hq; cases hq; omega
          · rcases e3 s a t u h0 hT hq with g | g | ⟨g1, g2, g3, g4⟩
            · omega
            · omega
            · subst g2 g3
              rw [g4] at hin
              have hi : i.toNatClampNeg < 256 := Nat.not_le.mp fun q => hin (Or.inr q)
              exact Or.inr (Or.inr ⟨by decide, Or.inl (s25 _ hi)⟩)
          · rw [qm_dvs hok h0] at hT; cases hT
        | false =>
          rw [hT] at h
          simp only [cond_false] at h
          refine qm_ko_n h fun hg => ⟨qm_mo.rf, hok, qm_sv_c.mpr ⟨?_, hst.2⟩, hls⟩
          rw [Bool.and_eq_true] at hg
          have hlt : s < 30 := (e7 s hT).2.1
          rcases qm_vr_of hst.1 hlt with h0 | h0
          · obtain ⟨g1, g2⟩ := qm_so24 h3 h0 hT
            have hin := pm_ib_of hg.1
            unfold qm_len at hin
            rw [hT, g1, g2] at hin
            exact absurd (Or.inr (Nat.zero_le _)) hin
          · have h8 := e7 s hT
            have h9 := (hok.2.2.2 s a h0).2
            rw [hq] at h8 h9
            have g1 := h8.2.2.2.2 ht4
            rcases h9 ht4 i.toNatClampNeg with g2 | g2
            · rw [g2] at hg; cases hg.2
            · exact Or.inr (Or.inr ⟨g1, g2⟩)
      · cases h
    · cases h
  case iastore =>
    simp only [qm_x] at h
    split at h
    · simp only [qm_sv_c, qm_vv_i, true_and] at hst
      rename_i x i s a r
      cases hT : T.2.2 s with
      | true => rw [hT] at h; cases h
      | false =>
        rw [hT] at h
        simp only [cond_false] at h
        split at h <;> first | exact qm_ko_n h (fun _ => ⟨qm_mo.rf, hok, hst.2, hls⟩) | cases h
    · cases h
  case bastore =>
    simp only [qm_x] at h
    split at h
    · simp only [qm_sv_c, qm_vv_i, true_and] at hst
      rename_i x i s a r
      cases hT : T.2.2 s with
      | true => rw [hT] at h; cases h
      | false =>
        rw [hT] at h
        simp only [cond_false] at h
        split at h <;> first | exact qm_ko_n h (fun _ => ⟨qm_mo.rf, hok, hst.2, hls⟩) | cases h
    · cases h
  case aastore =>
    simp only [qm_x] at h
    split at h
    · rename_i u b i s a r
      simp only [qm_sv_c, qm_vv_i, true_and] at hst
      cases hT : T.2.2 s with
      | true => rw [hT] at h; cases h
      | false =>
        rw [hT] at h
        simp only [cond_false] at h
        split at h
        · rename_i v hq
          obtain ⟨hc, h⟩ := pm_cond h
          rw [Bool.and_eq_true] at hc
          have g1 := Nat.eq_of_beq_eq_true hc.1
          have g2 := Nat.eq_of_beq_eq_true hc.2
          have hvr := qm_vr_of hst.1 (by omega)
          refine qm_ko_n h fun _ => ⟨qm_mo.rf, hok.sG (Or.inr fun u' hu => ?_), hst.2.2, hls⟩
          rw [hq] at hu
          have hu : v = u' := hu
          rw [← hu, ← g1]
          exact hvr
        · cases h
    · cases h
  case arraylength =>
    simp only [qm_x] at h
    split at h
    · rw [qm_sv_c] at hst
      split at h
      · obtain ⟨-, h⟩ := pm_cond h
        exact qm_ko_n h fun _ => ⟨qm_mo.rf, hok, qm_sv_c.mpr ⟨trivial, hst.2⟩, hls⟩
      · cases h
    · cases h
  case newarray n =>
    simp only [qm_x] at h
    split at h
    · rename_i x r
      rw [qm_sv_c] at hst
      split at h
      · obtain ⟨hc, h⟩ := pm_cond h
        rw [Bool.and_eq_true] at hc
        have hT : T.2.2 (xs.getD 0 99) = false := by simpa using hc.2
        obtain ⟨k1, k2, k3⟩ := hok.mk (s := xs.getD 0 99) (w := x.toNatClampNeg) (N' := qm_un S.2.2.2.1 S.1 x.toNatClampNeg) (I' := qm_ci S.2.2.2.2.2.1 (xs.getD 0 99) S.1) hT
        exact qm_ko_n h fun _ => ⟨k2, k1, qm_sv_c.mpr ⟨Or.inr (Or.inr ⟨(e7 _ hT).2.1, Or.inr k3⟩), k2.sv hst.2⟩, k2.lv hls⟩
      · cases h
    · cases h
  case anewarray n =>
    simp only [qm_x] at h
    split at h
    · rename_i x r
      rw [qm_sv_c] at hst
      split at h
      · obtain ⟨hc, h⟩ := pm_cond h
        rw [Bool.and_eq_true] at hc
        have hT : T.2.2 (xs.getD 0 99) = false := by simpa using hc.2
        obtain ⟨k1, k2, k3⟩ := hok.mk (s := xs.getD 0 99) (w := x.toNatClampNeg) (N' := qm_un S.2.2.2.1 S.1 x.toNatClampNeg) (I' := qm_ci S.2.2.2.2.2.1 (xs.getD 0 99) S.1) hT
        exact qm_ko_n h fun _ => ⟨k2, k1, qm_sv_c.mpr ⟨Or.inr (Or.inr ⟨(e7 _ hT).2.1, Or.inr k3⟩), k2.sv hst.2⟩, k2.lv hls⟩
      · cases h
    · cases h
  case multianewarray n m =>
    simp only [qm_x] at h
    split at h
    · simp only [qm_sv_c, qm_vv_i, true_and] at hst
      split at h
      · rename_i y x r _ _ t u t' u' hq hq'
        obtain ⟨hc, h⟩ := pm_cond h
        simp only [Bool.and_eq_true] at hc
        obtain ⟨c1, c2, c3, c4, c5, c6⟩ := hc
        have c1 := Nat.eq_of_beq_eq_true c1
        have hT : T.2.2 (xs.getD 0 99) = false := by simpa using c4
        have hT' : T.2.2 (xs.getD 1 99) = false := by simpa using c5
        have hne : xs.getD 0 99 ≠ xs.getD 1 99 := by
          intro e
          rw [e, pm_bt] at c6
          cases c6
        have ht' : t' < 4 := by simpa [Nat.blt_eq] using c3.2
        obtain ⟨k1, k2, k3⟩ := hok.mm (s := xs.getD 0 99) (t := xs.getD 1 99) (n := x.toNatClampNeg) (k := y.toNatClampNeg) hT hT' (by rw [hq, c1]) hq' ht' hne
        exact qm_ko_n h fun _ => ⟨k2, k1, qm_sv_c.mpr ⟨Or.inr (Or.inr ⟨(e7 _ hT).2.1, Or.inr k3⟩), k2.sv hst⟩, k2.lv hls⟩
      · cases h
    · cases h
  case new idx =>
    simp only [qm_x] at h
    cases h0 : Nat.beq (xs.getD 0 99) 0 with
    | true =>
      rw [h0] at h
      simp only [cond_true] at h
      refine qm_ko_n h fun hg => ?_
      rw [Bool.and_eq_true] at hg
      obtain ⟨k1, k2⟩ := hok.c0 (w := pm_sz (pt_Sg 0)) (C := (1, pm_cg S.2.2.2.2.2.2.2.1 0, pm_ci S.2.2.2.2.2.2.2.2.1 0, pm_cl S.2.2.2.2.2.2.2.2.2 0)) (Nat.eq_of_beq_eq_true hg.1) (Nat.eq_of_beq_eq_true hg.2) rfl
      exact ⟨k2, k1, qm_sv_c.mpr ⟨Or.inr (Or.inr ⟨by decide, Or.inl s06⟩), k2.sv hst⟩, k2.lv hls⟩
    | false =>
      rw [h0] at h
      simp only [cond_false] at h
      split at h
      · rename_i c ks hq
        obtain ⟨hc, h⟩ := pm_cond h
        rw [Bool.and_eq_true] at hc
        have hT : T.2.2 (xs.getD 0 99) = false := by simpa using hc.2
        obtain ⟨k1, k2, k3⟩ := hok.mk (s := xs.getD 0 99) (w := ks.length) (N' := qm_un S.2.2.2.1 S.1 ks.length) (I' := qm_ci S.2.2.2.2.2.1 (xs.getD 0 99) S.1) hT
        exact qm_ko_n h fun _ => ⟨k2, k1, qm_sv_c.mpr ⟨Or.inr (Or.inr ⟨(e7 _ hT).2.1, Or.inr k3⟩), k2.sv hst⟩, k2.lv hls⟩
      · cases h
  case checkcast idx =>
    simp only [qm_x] at h
    split at h
    · obtain ⟨-, h⟩ := pm_cond h
      exact qm_ko_n h fun _ => ⟨qm_mo.rf, hok, hst, hls⟩
    · cases h
  case invokespecial idx =>
    simp only [qm_x] at h
    split at h
    · split at h
      · rw [qm_sv_c] at hst
        obtain ⟨-, h⟩ := pm_cond h
        exact qm_ko_n h fun _ => ⟨qm_mo.rf, hok, hst.2, hls⟩
      · cases h
    · exact qm_ko_callV hst h
  case invokevirtual idx =>
    simp only [qm_x] at h
    cases h0 : Nat.beq (xs.getD 0 0) 9002 with
    | true =>
      rw [h0] at h
      simp only [cond_true] at h
      split at h
      · rename_i s a r
        rw [qm_sv_c] at hst
        obtain ⟨-, h⟩ := pm_cond h
        obtain ⟨k1, k2, k3⟩ := hok.mk (s := 15) (w := S.2.2.2.1 a) (N' := qm_un S.2.2.2.1 S.1 (S.2.2.2.1 a)) (I' := qm_cw S.2.2.2.2.2.1 s a 15 S.1) t15
        exact qm_ko_n h fun _ => ⟨k2, k1, qm_sv_c.mpr ⟨Or.inr (Or.inr ⟨by decide, Or.inr k3⟩), k2.sv hst.2⟩, k2.lv hls⟩
      · cases h
    | false =>
      rw [h0] at h
      exact qm_ko_callV hst h
  case invokestatic idx =>
    simp only [qm_x] at h
    cases h0 : Nat.beq (xs.getD 0 0) 9001 with
    | true =>
      rw [h0] at h
      simp only [cond_true] at h
      split at h
      · simp only [qm_sv_c, qm_vv_i, true_and] at hst
        obtain ⟨-, h⟩ := pm_cond h
        split at h
        · rename_i s a r _ _ _ _ _ _
          simp only [Bool.cond_eq_ite] at h
          split at h <;> exact qm_ko_n h (fun _ => ⟨qm_mo.rf, hok, hst.2.2, hls⟩)
        · cases h
      · cases h
    | false =>
      rw [h0] at h
      exact qm_ko_call hst h
  case invokeinterface idx cnt =>
    simp only [qm_x] at h
    exact qm_ko_callV hst h
  case ireturn =>
    simp only [qm_x] at h
    split at h
    · split at h <;> first | exact qm_ko_e h (fun w hw => by cases hw; trivial) | cases h
    · cases h
  case areturn =>
    simp only [qm_x] at h
    split at h
    · rw [qm_sv_c] at hst
      obtain ⟨-, h⟩ := pm_cond h
      split at h <;> first | exact qm_ko_e h (fun w hw => by cases hw; exact hst.1) | cases h
    · cases h
  case return_ =>
    simp only [qm_x] at h
    split at h
    · split at h <;> first | exact qm_ko_e h (fun w hw => by cases hw) | cases h
    · cases h
  all_goals (simp only [qm_x] at h; cases h)
end
