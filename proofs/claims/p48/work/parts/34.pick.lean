/-! ===== picks: turn by turn ===== -/
section
variable {h : Nat → Nat → Nat}
/-- what is left and who holds what, behind so many turns; c says which office is picked -/
def pkS (h : Nat → Nat → Nat) (t : Nat → Nat) (c : Nat → Nat → Nat) (n : Nat) : Nat × (Nat → Nat) := lp (fun i st => (rm st.1 (c i st.1), up st.2 (c i st.1) (t i))) n (2 ^ h 0 1 - 1, fun _ => 0)
def pks (h : Nat → Nat → Nat) (t : Nat → Nat) (c : Nat → Nat → Nat) : Nat → Nat := (pkS h t c (h 0 1)).2
/-- by what is worth most itself, by what is foreseen -/
def cS (h : Nat → Nat → Nat) (t : Nat → Nat) (i l : Nat) : Nat := (dst h (t i) l).getD 0
def cF (h : Nat → Nat → Nat) (t : Nat → Nat) (_ l : Nat) : Nat := fch h t l
/-- picks pick what is left -/
def PK (h : Nat → Nat → Nat) (c : Nat → Nat → Nat) : Prop := ∀ i l, i < h 0 1 → 0 < l → l < 2 ^ h 0 1 → c i l < h 0 1 ∧ l.testBit (c i l) = true
theorem PK_S (W : WF h) (t : Nat → Nat) : PK h (cS h t) := by
  intro i l hi h0 hl
  have hO := W.O
  obtain ⟨p, a, b⟩ := set_ex (h 0 1) (by omega) l hl h0
  obtain ⟨q, hq⟩ := amx_some (val := fun o => h 5 (8 * t i + o)) a b
  unfold cS
  rw [dst_amx, hq]
  exact amx_in hq
theorem dst_cS (W : WF h) (t : Nat → Nat) (i : Nat) {l : Nat} (h0 : 0 < l) (hl : l < 2 ^ h 0 1) : dst h (t i) l = some (cS h t i l) := by
  have hO := W.O
  obtain ⟨p, a, b⟩ := set_ex (h 0 1) (by omega) l hl h0
  obtain ⟨q, hq⟩ := amx_some (val := fun o => h 5 (8 * t i + o)) a b
  unfold cS
  rw [dst_amx, hq]
  rfl
theorem fsT_keep (t : Nat → Nat) {l : Nat} : ∀ {n m : Nat}, l ≤ n → n ≤ m → (fsT h t m).1 l = (fsT h t n).1 l := by
  intro n m hl hm
  induction m with
  | zero => rw [show n = 0 by omega]
  | succ m ih =>
    by_cases e : n = m + 1
    · rw [e]
    · rw [← ih (by omega)]
      show (fs1 h t m (fsT h t m)).1 l = _
      rw [fs1_1]
      unfold up
      rw [if_neg (by omega)]
theorem fch_eq (W : WF h) (t : Nat → Nat) {l : Nat} (h0 : 0 < l) (hl : l < 2 ^ h 0 1) : fch h t l = fc h t (fsT h t (l - 1)).2 l := by
  obtain ⟨k, rfl⟩ : ∃ k, l = k + 1 := ⟨l - 1, by omega⟩
  unfold fch
  rw [fsT_keep t (n := k + 1) (Nat.le_refl _) (by omega)]
  show (fs1 h t k (fsT h t k)).1 (k + 1) = _
  rw [fs1_1]
  exact if_pos rfl
theorem PK_F (W : WF h) (t : Nat → Nat) : PK h (cF h t) := by
  intro i l hi h0 hl
  unfold cF
  rw [fch_eq W t h0 hl]
  obtain ⟨a, b, _⟩ := fc_in W t (fsT h t (l - 1)).2 h0 hl
  exact ⟨a, b⟩
/-- behind n turns -/
theorem pkS_inv (W : WF h) {t : Nat → Nat} (ht : ∀ i, i < h 0 1 → t i < h 0 0) {c : Nat → Nat → Nat} (hc : PK h c) {n : Nat} (hn : n ≤ h 0 1) : (pkS h t c n).1 < 2 ^ h 0 1 ∧ pc (pkS h t c n).1 = h 0 1 - n ∧ K8 (pkS h t c n).2 ∧ ∀ o, o < h 0 1 → (pkS h t c n).1.testBit o = false → (pkS h t c n).2 o < h 0 0 := by
  have hO := W.O
  have hP := W.P
  have h2 := o256 W
  induction n with
  | zero =>
    refine ⟨by show 2 ^ h 0 1 - 1 < _; omega, pc_all (h 0 1) (by omega), K8.z, fun o ho hb => ?_⟩
    have hb : (2 ^ h 0 1 - 1).testBit o = false := hb
    rw [all_tb (h 0 1) (by omega) o (by omega), decide_eq_true ho] at hb
    cases hb
  | succ n ih =>
    obtain ⟨i1, i2, i3, i4⟩ := ih (by omega)
    have h0 : 0 < (pkS h t c n).1 := by
      rcases Nat.eq_zero_or_pos (pkS h t c n).1 with e | e
      · rw [e, show pc 0 = 0 from by decide +kernel] at i2; omega
      · exact e
    obtain ⟨c1, c2⟩ := hc n _ (by omega) h0 i1
    have c3 := ht n (by omega)
    have c4 := pc_rm _ (show (pkS h t c n).1 < 256 by omega) _ (show c n (pkS h t c n).1 < 8 by omega) c2
    have k8 : K8 (up (pkS h t c n).2 (c n (pkS h t c n).1) (t n)) := i3.up (by omega) (by omega)
    refine ⟨rm_sub (h 0 1) (by omega) _ i1 _ c1, ?_, k8, fun o ho hb => ?_⟩
    · show pc (rm (pkS h t c n).1 (c n (pkS h t c n).1)) = _
      omega
    · show (up (pkS h t c n).2 (c n (pkS h t c n).1) (t n)) o < _
      have hb : (rm (pkS h t c n).1 (c n (pkS h t c n).1)).testBit o = false := hb
      rw [z_rmb _ (by omega) _ (by omega) _ (by omega)] at hb
      unfold up
      split
      · exact c3
      · rename_i e
        rw [beq_f e, Bool.not_false, Bool.and_true] at hb
        exact i4 o ho hb
theorem pkS_pos (W : WF h) {t : Nat → Nat} (ht : ∀ i, i < h 0 1 → t i < h 0 0) {c : Nat → Nat → Nat} (hc : PK h c) {n : Nat} (hn : n < h 0 1) : 0 < (pkS h t c n).1 := by
  obtain ⟨i1, i2, i3, i4⟩ := pkS_inv W ht hc (n := n) (by omega)
  rcases Nat.eq_zero_or_pos (pkS h t c n).1 with e | e
  · rw [e, show pc 0 = 0 from by decide +kernel] at i2; omega
  · exact e
/-- all of them -/
theorem pks_ok (W : WF h) {t : Nat → Nat} (ht : ∀ i, i < h 0 1 → t i < h 0 0) {c : Nat → Nat → Nat} (hc : PK h c) : K8 (pks h t c) ∧ ∀ o, o < h 0 1 → pks h t c o < h 0 0 := by
  have h2 := o256 W
  obtain ⟨i1, i2, i3, i4⟩ := pkS_inv W ht hc (n := h 0 1) (Nat.le_refl _)
  have e := pc_0 (pkS h t c (h 0 1)).1 (by omega) (by omega)
  refine ⟨i3, fun o ho => i4 o ho ?_⟩
  rw [e]
  exact Nat.zero_testBit o
/-- whatever turns have in common, who holds has -/
theorem pks_all (W : WF h) {t : Nat → Nat} (ht : ∀ i, i < h 0 1 → t i < h 0 0) {c : Nat → Nat → Nat} (hc : PK h c) {A : Nat → Prop} (hA : ∀ i, i < h 0 1 → A (t i)) : ∀ o, o < h 0 1 → A (pks h t c o) := by
  have hO := W.O
  have h2 := o256 W
  have key : ∀ n, n ≤ h 0 1 → ∀ o, o < h 0 1 → (pkS h t c n).1.testBit o = false → A ((pkS h t c n).2 o) := by
    intro n
    induction n with
    | zero =>
      intro _ o ho hb
      have hb : (2 ^ h 0 1 - 1).testBit o = false := hb
      rw [all_tb (h 0 1) (by omega) o (by omega), decide_eq_true ho] at hb
      cases hb
    | succ n ih =>
      intro hn o ho hb
      obtain ⟨i1, _⟩ := pkS_inv W ht hc (n := n) (by omega)
      obtain ⟨c1, c2⟩ := hc n _ (by omega) (pkS_pos W ht hc (by omega)) i1
      have hb : (rm (pkS h t c n).1 (c n (pkS h t c n).1)).testBit o = false := hb
      rw [z_rmb _ (by omega) _ (by omega) _ (by omega)] at hb
      show A ((up (pkS h t c n).2 (c n (pkS h t c n).1) (t n)) o)
      unfold up
      split
      · exact hA n (by omega)
      · rename_i e
        rw [beq_f e, Bool.not_false, Bool.and_true] at hb
        exact ih (by omega) o ho hb
  obtain ⟨i1, i2, i3, i4⟩ := pkS_inv W ht hc (n := h 0 1) (Nat.le_refl _)
  intro o ho
  have e := pc_0 (pkS h t c (h 0 1)).1 (by omega) (by omega)
  refine key _ (Nat.le_refl _) o ho ?_
  rw [e]
  exact Nat.zero_testBit o
variable {F : pm_F} {L0 : Nat} {xs : Nat → Int32} {I : Nat → Nat → Int32} {L : Nat → Nat → Int64}
theorem c_allOffices (hF : pm_fix pt_me pt_Sg (pt_R L0 xs) F) (W : WF h) (H : CH h I) : (F 606 0 [some (.ref 23)] [] (49, pt_G, I, L)) = some (some (.int (nI (2 ^ h 0 1 - 1))), (49, pt_G, I, L)) := by
  have hO := W.O
  have h2 := z_2p (h 0 1) (by omega)
  rw [e606_0 hF, H.O, z_sh1 _ (by omega), z_s1 h2.1]
theorem c_pickShort (hF : pm_fix pt_me pt_Sg (pt_R L0 xs) F) (W : WF h) (H : CH h I) {t : Nat → Nat} (kt : K8 t) (ht : ∀ i, i < h 0 1 → t i < h 0 0) : (F 603 0 [some (.ref 23), some (.int (nI (hp t))), none, none, none, none, none] [] (49, pt_G, I, L)) = some (some (.int (nI (hp (pks h t (cS h t))))), (49, pt_G, I, L)) := by
  have hO := W.O
  have hP := W.P
  have h2 := o256 W
  have hlt := hp_lt kt
  rw [e603_0 hF]
  simp (disch := omega) only [pm_k_i, Option.toList_some, Option.toList_none, List.cons_append, List.nil_append, cond_true, cond_false, ↓reduceIte, reduceCtorEq, z_1, nI_add, z_cl, z_ib, z_lt, z_le, z_eq, z_eq0, z_le0, z_lt0, z_b0, z_b1, z_m1, z_and7, Int32.add_zero, c_allOffices hF W H, e603_6 hF]
  refine Eq.trans ?_ ((stE (G := fun k => (F 603 10 [some (.ref 23), some (.int (nI (hp t))), some (.int (nI (hp (pkS h t (cS h t) k).2))), some (.int (nI (pkS h t (cS h t) k).1)), some (.int (nI k)), none, none] [] (49, pt_G, I, L))) (n := h 0 1) (fun k hk => ?_)).trans ?_)
  · show _ = (F 603 10 [some (.ref 23), some (.int (nI (hp t))), some (.int (nI (hp fun _ => 0))), some (.int (nI (2 ^ h 0 1 - 1))), some (.int (nI 0)), none, none] [] (49, pt_G, I, L))
    rw [hp_z]
    rfl
  · try dsimp only
    obtain ⟨i1, i2, i3, i4⟩ := pkS_inv W ht (PK_S W t) (n := k) (by omega)
    have i5 := pkS_pos W ht (PK_S W t) (n := k) hk
    obtain ⟨c1, c2⟩ := PK_S W t k _ hk i5 i1
    have c3 := dst_cS W t k i5 i1
    have c4 := ht k hk
    rw [e603_10 hF]
    simp (disch := omega) only [pm_k_i, Option.toList_some, Option.toList_none, List.cons_append, List.nil_append, cond_true, cond_false, ↓reduceIte, reduceCtorEq, z_1, nI_add, z_cl, z_ib, z_lt, z_le, z_eq, z_eq0, z_le0, z_lt0, z_b0, z_b1, z_m1, z_and7, Int32.add_zero, H.O, hk, c_get hF hlt, gs_hp kt, e603_28 hF, c_dearest hF W H, c3, oI, e603_40 hF, c_with hF (hp_lt i3), e603_50 hF, z_rm, hp_ws i3]
    rfl
  · try dsimp only
    rw [e603_10 hF]
    simp (disch := omega) only [pm_k_i, Option.toList_some, Option.toList_none, List.cons_append, List.nil_append, cond_true, cond_false, ↓reduceIte, reduceCtorEq, z_1, nI_add, z_cl, z_ib, z_lt, z_le, z_eq, z_eq0, z_le0, z_lt0, z_b0, z_b1, z_m1, z_and7, Int32.add_zero, H.O, Nat.lt_irrefl]
    rfl
theorem c_pickForeseen (hF : pm_fix pt_me pt_Sg (pt_R L0 xs) F) (W : WF h) (H : CH h I) {t : Nat → Nat} (kt : K8 t) (ht : ∀ i, i < h 0 1 → t i < h 0 0) (h24 : ∀ l, 0 < l → l < 2 ^ h 0 1 → I 24 l = nI (fch h t l)) : (F 604 0 [some (.ref 23), some (.int (nI (hp t))), none, none, none, none] [] (49, pt_G, I, L)) = some (some (.int (nI (hp (pks h t (cF h t))))), (49, pt_G, I, L)) := by
  have hO := W.O
  have hP := W.P
  have h2 := o256 W
  have hlt := hp_lt kt
  rw [e604_0 hF]
  simp (disch := omega) only [pm_k_i, Option.toList_some, Option.toList_none, List.cons_append, List.nil_append, cond_true, cond_false, ↓reduceIte, reduceCtorEq, z_1, nI_add, z_cl, z_ib, z_lt, z_le, z_eq, z_eq0, z_le0, z_lt0, z_b0, z_b1, z_m1, z_and7, Int32.add_zero, c_allOffices hF W H, e604_6 hF]
  refine Eq.trans ?_ ((stE (G := fun k => (F 604 10 [some (.ref 23), some (.int (nI (hp t))), some (.int (nI (hp (pkS h t (cF h t) k).2))), some (.int (nI (pkS h t (cF h t) k).1)), some (.int (nI k)), none] [] (49, pt_G, I, L))) (n := h 0 1) (fun k hk => ?_)).trans ?_)
  · show _ = (F 604 10 [some (.ref 23), some (.int (nI (hp t))), some (.int (nI (hp fun _ => 0))), some (.int (nI (2 ^ h 0 1 - 1))), some (.int (nI 0)), none] [] (49, pt_G, I, L))
    rw [hp_z]
    rfl
  · try dsimp only
    obtain ⟨i1, i2, i3, i4⟩ := pkS_inv W ht (PK_F W t) (n := k) (by omega)
    have i5 := pkS_pos W ht (PK_F W t) (n := k) hk
    obtain ⟨c1, c2⟩ := PK_F W t k _ hk i5 i1
    have c3 := h24 _ i5 i1
    have c4 := ht k hk
    have c5 : fch h t (pkS h t (cF h t) k).1 < 8 := Nat.lt_of_lt_of_le c1 hO
    rw [e604_10 hF]
    simp (disch := omega) only [pm_k_i, Option.toList_some, Option.toList_none, List.cons_append, List.nil_append, cond_true, cond_false, ↓reduceIte, reduceCtorEq, z_1, nI_add, z_cl, z_ib, z_lt, z_le, z_eq, z_eq0, z_le0, z_lt0, z_b0, z_b1, z_m1, z_and7, Int32.add_zero, H.O, hk, z_and255, c_get hF hlt, gs_hp kt, c3, e604_43 hF, c_with hF (hp_lt i3), e604_46 hF, z_rm, hp_ws i3]
    rfl
  · try dsimp only
    rw [e604_10 hF]
    simp (disch := omega) only [pm_k_i, Option.toList_some, Option.toList_none, List.cons_append, List.nil_append, cond_true, cond_false, ↓reduceIte, reduceCtorEq, z_1, nI_add, z_cl, z_ib, z_lt, z_le, z_eq, z_eq0, z_le0, z_lt0, z_b0, z_b1, z_m1, z_and7, Int32.add_zero, H.O, Nat.lt_irrefl]
    rfl
end
