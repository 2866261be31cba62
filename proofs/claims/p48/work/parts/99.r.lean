/-! ===== the law, from its start ===== -/
section
variable {L0 : Nat} {xs : List Int32}
def qm_S0 : qm_S := (1001, 0, fun _ => 0, fun _ => 0, fun _ _ _ => 0, fun _ _ _ => 0, (0, kG0, kI0, kL0))
theorem cO_HO : qm_HO cO (pt_R 8 pt_ord) := by
  intro mj as C v C' h
  unfold cO at h
  obtain ⟨h1, h2⟩ := pm_cond h
  exact ⟨h1, pm_sem_iff.mp h2⟩
theorem cO_Rt : ∀ r x, pt_R 8 pt_ord r = some x → 200 ≤ r ∧ r ≠ 204 ∧ x.1 ≤ 3 := by
  intro r x h
  unfold pt_R at h
  split at h
  · cases h; exact ⟨by decide, by decide, by decide⟩
  · cases h; exact ⟨by decide, by decide, by decide⟩
  · cases h; exact ⟨by decide, by decide, Nat.zero_le _⟩
  · cases h
theorem kcls0 : Nat.beq (qm_mk qm_S0 1 17).2.2.2.2.2.2.1 0 = true := rfl
theorem law_one (hL : L0 < 2147483648) : ∃ J S', qm_sem cO qt_me qt_qs (qt_C L0 xs) J 6 0 [some (.inr (2, 1)), none, none, none, none, none, none, none, none] [] qm_S0 = some (some (.inl 1), S') ∧ S'.1 ≤ 10000 ∧ S'.2.1 ≤ 100000 := by
  obtain ⟨S1, P, Q, ls, e1, hT, hp, hq, t0, hs, hP, hQ, hy, hX, b1, b2⟩ := ph0 (J := 1000000) (F := qm_sem cO qt_me qt_qs (qt_C L0 xs) 1000000) (S := qm_mk qm_S0 1 17) (w := 1001) (qm_sem_fix _ _ _ _ _) hL (by decide) rfl
  have b1 : S1.1 ≤ 1002 + 102 + 2002 := b1
  have b2 : S1.2.1 ≤ 17 + 204 + 5000 := b2
  obtain ⟨n, hn⟩ := qm_sem_iff.mp e1
  obtain ⟨J, hJ⟩ : ∃ J, S1.1 = 1001 + J := ⟨S1.1 - 1001, by omega⟩
  have h3 : qm_E3 qt_qs (qt_C L0 xs) qt_so 0 1000000 (fun _ _ => 0 + 1000000) .null (fun a => 0 + 1000000 + a) := qt_E3 (fun _ _ => rfl) (Or.inl rfl) rfl
  have hdv : qm_dv 1000000 (qm_mk qm_S0 1 17) 1 1001 := ⟨by decide, by decide, by decide, rfl⟩
  have hok : qm_ok qt_qs (qt_C L0 xs) qt_so 1000000 (qm_mk qm_S0 1 17) := by
    refine ⟨by decide, by decide, fun h => absurd h (by decide), fun s a h => ?_⟩
    obtain ⟨g1, g2, g3, g4⟩ := h
    have g2 : a < 1002 := g2
    have ha : a = 1001 := by omega
    subst ha
    have g4 : 1 = s := g4
    subst g4
    refine ⟨rfl, ?_⟩
    intro k u _
    exact Or.inl rfl
  have hlv : qm_lv qt_so 1000000 (qm_mk qm_S0 1 17) [some (.inr (1, 1001)), some (.inr (2, 1)), none, none, none, none, none, none, none, none] := by
    intro i v h
    match i, h with
    | 0, h => cases h; exact Or.inr (Or.inr ⟨by decide, Or.inr hdv⟩)
    | 1, h => cases h; exact Or.inr (Or.inr ⟨by decide, Or.inl (Or.inl ⟨rfl, rfl⟩)⟩)
    | 2, h => cases h
    | 3, h => cases h
    | 4, h => cases h
    | 5, h => cases h
    | 6, h => cases h
    | 7, h => cases h
    | 8, h => cases h
    | 9, h => cases h
    | i + 10, h => cases h
  have e2 := qm_sem_iff.mpr ⟨n, qm_run_J (J' := J) h3 cO_HO n hn hok (fun _ h => by cases h) hlv (by omega)⟩
  have hF := qm_sem_fix cO qt_me qt_qs (qt_C L0 xs) J
  generalize hFe : qm_sem cO qt_me qt_qs (qt_C L0 xs) J = F at e2 hF
  have hU : (qm_oS (qu_o S1) (49, pt_G, kIZ, kLZ)).1 = S1.1 + 49 := by
    show S1.1 + 1 + (49 - 1) = _
    omega
  have hcls : (qu_o S1).2.2.2.2.2.2 = (1, kG1, kI1, kL1) := by
    show (1, pm_cg S1.2.2.2.2.2.2.2.1 0, pm_ci S1.2.2.2.2.2.2.2.2.1 0, pm_cl S1.2.2.2.2.2.2.2.2.2 0) = _
    rw [hX]
    rfl
  have hV : (qm_oS (qu_o S1) (49, pt_G, kIZ, kLZ)).2.1 ≤ S1.2.1 + 20000 := by
    have : (qm_oS (qu_o S1) (49, pt_G, kIZ, kLZ)).2.1 = S1.2.1 + pm_sz (pt_Sg 0) + (pm_ss pt_Sg 49 - pm_ss pt_Sg (qu_o S1).2.2.2.2.2.2.1) := rfl
    have h1 : (qu_o S1).2.2.2.2.2.2.1 = 1 := rfl
    rw [this, h1]
    have := cl_slots
    omega
  have hs' : STR (qm_oS (qu_o S1) (49, pt_G, kIZ, kLZ)) (qr_g S1 1 1001 14) (TXT ls) := by
    obtain ⟨v, s1, s2, s3, s4, s5⟩ := hs
    exact ⟨v, s1, s2, by omega, by omega, s5⟩
  obtain ⟨S', e3, c1, c2⟩ := l_16 (S := qm_oS (qu_o S1) (49, pt_G, kIZ, kLZ)) (y := 1001) (a0 := 1) hF hL hT hp hq t0 rfl hs' hP hQ (by omega) (by omega) rfl
  refine ⟨J, S', ?_, by omega, by omega⟩
  rw [hFe, q6_0 hF, show ((.inr (1, qm_S0.1)) : qm_V) = .inr (1, 1001) from rfl, e2]
  simp only [qm_k_n, Option.toList_some, Option.toList_none, List.cons_append, List.nil_append, List.append_nil]
  rw [q6_8 hF, hX, hJ, Nat.beq_refl]
  simp only [kcls0, Bool.and_self, cond_true]
  rw [qa_made hcls (by show S1.1 + 1 = _; omega)]
  simp only [Option.toList_some, Option.toList_none, List.cons_append, List.nil_append, List.append_nil]
  exact e3
end
