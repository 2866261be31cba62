/-! ===== the law: acts, taken back ===== -/
section
variable {S S' S0 S1 : qm_S} {F : qm_F} {J L0 : Nat} {xs : List Int32} {G : qm_R → Prop}
variable {h h0 : Nat → Nat → Nat} {q n C a x s y k5 a0 e3 i : Nat} {b w : Nat → Nat} {sn : Nat → SN}
theorem kLG : LG kLZ := by
  unfold LG
  decide +kernel
theorem kIZ3 : ∀ k, k < 8 → kIZ 3 k = nI (d00 0 k) := by decide +kernel
theorem kIc : kIZ 3 8 = 0 ∧ kIZ 3 9 = 0 ∧ kIZ 23 6 = 0 ∧ kIZ 23 5 = -1 ∧ kIZ 30 13 = -1 ∧ kIZ 30 14 = -1 ∧ kIZ 41 7 = -1 ∧ kIZ 1 1 = 0 ∧ kIZ 10 8 = 0 ∧ kIZ 10 9 = -1 ∧ kIZ 44 5 = 0 ∧ kIZ 44 7 = 0 := by decide +kernel
theorem m1_nI (n : Nat) (hn : n < 2147483648) : (-1 : Int32) ≠ nI n := by
  intro z
  have := congrArg Int32.toInt z
  rw [nI_toInt hn] at this
  have d : (-1 : Int32).toInt = -1 := by decide
  omega
theorem ks_start : KS 0 d00 0 (fun _ => 0) 0 (fun _ => 0) 0 (fun _ => (0, fun _ => 0, fun _ => 0)) (49, pt_G, kIZ, kLZ) := by
  obtain ⟨c1, c2, c3, c4, c5, c6, c7, c8, c9, c10, c11, c12⟩ := kIc
  refine ⟨0, -1, kIZ, kLZ, rfl, ⟨(d00_ok (n := 0) (b := fun _ => 0)).1, ⟨Nat.zero_le _, fun z => absurd rfl z⟩, by omega, fun i hi => absurd hi (by omega), by omega, fun _ => by show 0 < 256; omega⟩, ⟨0, 0, by omega, by omega, ?_, ?_⟩, ?_⟩
  · refine ⟨⟨kIZ3, fun p hp => absurd hp (Nat.not_lt_zero _), fun p hp => absurd hp (Nat.not_lt_zero _), fun p hp => absurd hp (Nat.not_lt_zero _), fun p hp => absurd hp (Nat.not_lt_zero _), fun p o hp => absurd hp (Nat.not_lt_zero _), fun p o hp => absurd hp (Nat.not_lt_zero _)⟩, c1, c2, by omega, by omega, ⟨0, by omega, c3⟩, fun t k _ z => ?_, Or.inl c5, fun z => ?_, Or.inl c6, fun z => ?_⟩
    · rw [c4] at z
      exact absurd z (m1_nI _ (by have := hp_lt k; omega))
    · rw [c5] at z
      exact absurd z (m1_nI 0 (by omega))
    · rw [c6] at z
      exact absurd z (m1_nI 0 (by omega))
  · exact ⟨Or.inl c7, fun z => by rw [c7] at z; exact absurd z (m1_nI 0 (by omega))⟩
  · exact ⟨⟨c8, by omega, fun i hi => absurd hi (by omega)⟩, kLG, c9, c10, c11, fun z => absurd rfl z, c12, by omega, fun i hi => absurd hi (by omega)⟩
theorem qa_made (h1 : S.2.2.2.2.2.2 = (1, kG1, kI1, kL1)) (hJ : S.1 = 1002 + J) : ∀ k, qm_o cO J 101 [.inr (0, 6)] S k = k none (qm_oS S (49, pt_G, kIZ, kLZ)) := by
  intro k
  have e : cO 101 ([.inr (0, 6)].map qm_av) (1, kG1, kI1, kL1) = some (none, (49, pt_G, kIZ, kLZ)) := k_made cQ_fix
  unfold qm_o
  rw [h1, e, hJ]
  show (bif (Nat.beq 1 49 || (Nat.beq 1 1 && Nat.beq (1002 + J) (1002 + J))) && true then _ else _) = _
  rw [Nat.beq_refl (1002 + J)]
  unfold qm_oS
  rw [h1, hJ]
  rfl
theorem cl_slots : pm_sz (pt_Sg 0) + (pm_ss pt_Sg 49 - pm_ss pt_Sg 1) ≤ 20000 := by decide +kernel
theorem sS_sS (T U : Nat → Nat) : sS (sS h T) U = sS h U := by
  funext u v
  match u with
  | 0 => rfl
  | 1 => rfl
  | u + 2 => rfl
theorem hct_le (w : Nat → Nat) : hct h w ≤ h 0 0 := by
  have := lp_le (f := fun p n => bif Nat.beq (fro h w p) 0 then n else n + 1) (n := h 0 0) (c := 1) (fun p n _ => by
    cases Nat.beq (fro h w p) 0
    · exact Nat.le_refl _
    · exact Nat.le_succ _) 0
  unfold hct
  omega
theorem pc_16 (u : Nat) : pc u ≤ 16 := by
  have := lp_le (f := fun k a => a + (u.testBit k).toNat) (n := 16) (c := 1) (fun k a _ => by
    cases u.testBit k
    · exact Nat.le_succ _
    · exact Nat.le_refl _) 0
  unfold pc
  omega
theorem cgo_8 (W : WF h) (hc : CAB h C w) : cgo h C w < 8 := (ff_some (cgo_some W hc)).1
theorem xch_no (W : WF h) (w : Nat → Nat) (o p : Nat) : xch h w o p ≠ -1000000 := by
  have l1 := wal_le W (xw w o p)
  have l2 := wal_le W w
  unfold xch
  generalize wal h (xw w o p) = u at l1
  generalize wal h w = v at l2
  have : ∀ u, u < 793 → ∀ v, v < 793 → (nI u - nI v).toInt = (u : Int) - v := by
    intro u hu v hv
    rw [Int32.toInt_sub, nI_toInt (by omega), nI_toInt (by omega)]
    exact Int.bmod_eq_of_le (by omega) (by omega)
  intro e
  have e2 := congrArg Int32.toInt e
  rw [this u (by omega) v (by omega), show (-1000000 : Int32).toInt = -1000000 by decide] at e2
  omega
/-- between acts -/
def LVs (h0 : Nat → Nat → Nat) (i a : Nat) (S : qm_S) : Prop := ∃ q h b C w sn, KQ q h 0 b C w a sn S ∧ q ≤ 1 + i ∧ (∃ T, h = sS h0 T) ∧ (a = 0 → C = 0 ∧ h = h0) ∧ (0 < a → (sn 0).1 = 0 ∧ (sn 0).2.2 = h0 1) ∧ a ≤ i
/-- the same of one class -/
def LPs (h0 : Nat → Nat → Nat) (i a q : Nat) (h : Nat → Nat → Nat) (C : Nat) (sn : Nat → SN) : Prop := q ≤ 1 + i ∧ (∃ T, h = sS h0 T) ∧ (a = 0 → C = 0 ∧ h = h0) ∧ (0 < a → (sn 0).1 = 0 ∧ (sn 0).2.2 = h0 1) ∧ a ≤ i
theorem LVs.no {Y : pm_S} (L : LPs h0 i a q h C sn) (X : KS q h 0 b C w a sn Y) : LVs h0 (i + 1) a (qm_sC S Y) := by
  obtain ⟨l1, l2, l3, l4, l5⟩ := L
  exact ⟨q, h, b, C, w, sn, X, by omega, l2, l3, l4, by omega⟩
theorem LVs.act {Y : pm_S} {q' C' : Nat} {h' : Nat → Nat → Nat} {w' : Nat → Nat} (L : LPs h0 i a q h C sn) (i5 : i < 12) (hq : q' ≤ q + 1) (hh : ∃ T, h' = sS h T) (X : KS q' h' 0 b C' w' (acm a + 1) (psh a sn (C, w, h 1)) Y) : LVs h0 (i + 1) (a + 1) (qm_sC S Y) := by
  obtain ⟨l1, ⟨T, l2⟩, l3, l4, l5⟩ := L
  have ea : acm a = a := if_pos (by omega)
  obtain ⟨T', hh⟩ := hh
  refine ⟨q', h', b, C', w', psh a sn (C, w, h 1), by show KS q' h' 0 b C' w' (a + 1) _ Y; rw [ea] at X; exact X, by omega, ⟨T', by rw [hh, l2, sS_sS]⟩, fun z => by omega, fun _ => ?_, by omega⟩
  unfold psh acs
  rw [ea, if_pos (show a < 12 by omega)]
  by_cases z : a = 0
  · rw [if_pos z.symm]
    exact ⟨(l3 z).1, by show h 1 = h0 1; rw [(l3 z).2]⟩
  · rw [if_neg (fun e => z e.symm)]
    exact l4 (by omega)
theorem sS_h (h : Nat → Nat → Nat) : ∃ T, h = sS h T := ⟨h 1, sS_same.symm⟩
theorem LPs.P (L : LPs h0 i a q h C sn) : h 0 0 = h0 0 0 ∧ h 0 1 = h0 0 1 := by
  obtain ⟨T, e⟩ := L.2.1
  rw [e]
  exact ⟨rfl, rfl⟩
/-- how many acts there are then, and the office -/
theorem l_310 (hF : qm_fix cO qt_me qt_qs (qt_C L0 xs) J F) (h4 : h0 0 0 ≤ 4) (h5 : h0 0 1 ≤ 5) {i' a' : Nat} {x6 x7 x8 x4 : Int32} (ex : x4 = nI a') (hQ : qr_i S 1 y 1 = nI (h0 0 1)) (V : LVs h0 i' a' S) (hk : ∀ Y, LVs h0 i' a' (qm_sC S Y) → G (F 6 80 [some (.inr (2, a0)), some (.inr (1, y)), some (.inr (0, 6)), some (.inr (22, e3)), some (.inl (nI a')), some (.inl (nI (i + 1))), none, none, none] [] (qm_sC S Y))) : G (qm_o cO J 108 [.inr (0, 6), .inl 7] S (fun v U => F 6 310 [some (.inr (2, a0)), some (.inr (1, y)), some (.inr (0, 6)), some (.inr (22, e3)), some (.inl x4), some (.inl (nI i)), some (.inl x6), some (.inl x7), some (.inl x8)] (v.toList ++ []) U)) := by
  subst ex
  obtain ⟨q, h, b, C, w, sn, X, L⟩ := V
  have hp := LPs.P L
  obtain ⟨Y1, X1, e1⟩ := qa_about7 (J := J) (z := 6) X
  obtain ⟨Y2, e2, X2⟩ := j_office (z := 6) (y := y) (S := qm_sC S Y1) hF (by rw [hp.1]; exact h4) (by rw [hp.2]; exact h5) X1 (by rw [hp.2]; exact hQ)
  rw [e1]
  simp only [Option.toList_some, Option.toList_none, List.cons_append, List.nil_append, List.append_nil]
  rw [q6_310 hF, if_pos rfl, e2]
  simp only [qm_k_n, Option.toList_some, Option.toList_none, List.cons_append, List.nil_append, List.append_nil]
  rw [q6_320 hF, if_neg (by decide), z_1]
  exact hk _ ⟨q, h, b, C, w, sn, X2, L⟩
theorem l_yes (hF : qm_fix cO qt_me qt_qs (qt_C L0 xs) J F) (h4 : h0 0 0 ≤ 4) (h5 : h0 0 1 ≤ 5) {x6 x7 x8 : Int32} (hQ : qr_i S 1 y 1 = nI (h0 0 1)) (V : LVs h0 (i + 1) (a + 1) S) (hk : ∀ a' Y, LVs h0 (i + 1) a' (qm_sC S Y) → G (F 6 80 [some (.inr (2, a0)), some (.inr (1, y)), some (.inr (0, 6)), some (.inr (22, e3)), some (.inl (nI a')), some (.inl (nI (i + 1))), none, none, none] [] (qm_sC S Y))) : G (qm_o cO J 108 [.inr (0, 6), .inl 7] S (fun v U => F 6 310 [some (.inr (2, a0)), some (.inr (1, y)), some (.inr (0, 6)), some (.inr (22, e3)), some (.inl (nI a + 1)), some (.inl (nI i)), some (.inl x6), some (.inl x7), some (.inl x8)] (v.toList ++ []) U)) :=
  l_310 hF h4 h5 (i := i) (z_1 a) hQ V (fun Y V' => hk (a + 1) Y V')
theorem l_no (hF : qm_fix cO qt_me qt_qs (qt_C L0 xs) J F) (h4 : h0 0 0 ≤ 4) (h5 : h0 0 1 ≤ 5) {x6 x7 x8 : Int32} (hQ : qr_i S 1 y 1 = nI (h0 0 1)) (V : LVs h0 (i + 1) a S) (hk : ∀ a' Y, LVs h0 (i + 1) a' (qm_sC S Y) → G (F 6 80 [some (.inr (2, a0)), some (.inr (1, y)), some (.inr (0, 6)), some (.inr (22, e3)), some (.inl (nI a')), some (.inl (nI (i + 1))), none, none, none] [] (qm_sC S Y))) : G (qm_o cO J 108 [.inr (0, 6), .inl 7] S (fun v U => F 6 310 [some (.inr (2, a0)), some (.inr (1, y)), some (.inr (0, 6)), some (.inr (22, e3)), some (.inl (nI a + 0)), some (.inl (nI i)), some (.inl x6), some (.inl x7), some (.inl x8)] (v.toList ++ []) U)) :=
  l_310 hF h4 h5 (i := i) (show nI a + 0 = nI a from nI_add a 0) hQ V (fun Y V' => hk a Y V')
/-- one act -/
theorem l_146 (hF : qm_fix cO qt_me qt_qs (qt_C L0 xs) J F) (h1 : 1 ≤ h0 0 0) (h4 : h0 0 0 ≤ 4) (h5 : h0 0 1 ≤ 5) (i5 : i < 5) {A B k : Nat} (hA : A < 1000) (hB : B < 1000) (k5 : k < 5) (hP : qr_i S 1 y 0 = nI (h0 0 0)) (hQ : qr_i S 1 y 1 = nI (h0 0 1)) (V : LVs h0 i a S) (hk : ∀ a' Y, LVs h0 (i + 1) a' (qm_sC S Y) → G (F 6 80 [some (.inr (2, a0)), some (.inr (1, y)), some (.inr (0, 6)), some (.inr (22, e3)), some (.inl (nI a')), some (.inl (nI (i + 1))), none, none, none] [] (qm_sC S Y))) : G (F 6 146 [some (.inr (2, a0)), some (.inr (1, y)), some (.inr (0, 6)), some (.inr (22, e3)), some (.inl (nI a)), some (.inl (nI i)), some (.inl (nI A)), some (.inl (nI B)), none] [.inl (nI k)] S) := by
  obtain ⟨q, h, b, C, w, sn, X, L⟩ := V
  have L : LPs h0 i a q h C sn := L
  have hp := L.P
  have l1 := L.1
  have W := X.W
  have hc := X.CAB
  have e1 : 1 ≤ ev h := by
    have : 2 ^ 1 ≤ 2 ^ h 0 0 := Nat.pow_le_pow_right (by decide) (by omega)
    unfold ev
    omega
  have hE := ev16 (h := h) (by omega)
  have lm : A % (h0 0 0) < h 0 0 := by rw [hp.1]; exact Nat.mod_lt _ (by omega)
  have rA : nI A - nI A / nI (h0 0 0) * nI (h0 0 0) = nI (A % h0 0 0) := pk_rem (by omega) (by omega) (by omega)
  have zP : decide (nI (h0 0 0) = 0) = false := decide_eq_false (nI_ne0 (by omega) (by omega))
  have hk4 : k = 0 ∨ k = 1 ∨ k = 2 ∨ k = 3 ∨ k = 4 := by omega
  rw [q6_146 hF]
  rcases hk4 with rfl | rfl | rfl | rfl | rfl
  · rw [if_pos rfl, j_all1 hF hP h4]
    show G (F 6 184 [some (.inr (2, a0)), some (.inr (1, y)), some (.inr (0, 6)), some (.inr (22, e3)), some (.inl (nI a)), some (.inl (nI i)), some (.inl (nI A)), some (.inl (nI B)), none] [.inl (nI (2 ^ h0 0 0 - 1)), .inl (nI A), .inl 1, .inr (0, 6)] S)
    have ee : 2 ^ h0 0 0 - 1 = ev h := by unfold ev; rw [hp.1]
    have r3 : nI B - nI B / 3 * 3 = nI (B % 3) := pk_rem (a := B) (d := 3) (by omega) (by omega) (by omega)
    have rE : nI A - nI A / nI (ev h) * nI (ev h) = nI (A % ev h) := pk_rem (by omega) (by omega) (by omega)
    have lE : A % ev h < ev h := Nat.mod_lt _ (by omega)
    obtain ⟨Y, X1, e⟩ := qa_hold (J := J) (z := 6) (c := 1 + A % ev h) (y := B % 3) X (by omega) (by omega) (Nat.mod_lt _ (by omega))
    have hl := hct_le (h := h) (pw h (1 + A % ev h) (B % 3))
    rw [ee, q6_184 hF, decide_eq_false (nI_ne0 (n := ev h) (by omega) (by omega)), show decide ((3 : Int32) = 0) = false by decide, rE, r3, show (1 : Int32) + nI (A % ev h) = nI (1 + A % ev h) from nI_add 1 _]
    simp only [Bool.not_false, cond_true]
    rw [e]
    simp only [Option.toList_some, Option.toList_none, List.cons_append, List.nil_append, List.append_nil]
    rw [q6_193 hF, if_neg (nI_pos (by omega))]
    exact l_yes hF h4 h5 hQ (LVs.act L (by omega) (by omega) (sS_h h) X1) (fun a' Y2 V' => hk a' Y2 V')
  · rw [if_neg (by decide), if_pos rfl, hP, zP, rA]
    simp only [Bool.not_false, cond_true]
    cases tb : C.testBit (A % h0 0 0) with
    | true =>
      obtain ⟨Y, X1, e⟩ := qa_leave (J := J) (z := 6) (p := A % h0 0 0) X lm tb
      have hl := pc_16 (fro h w (A % h0 0 0))
      rw [e]
      simp only [Option.toList_some, Option.toList_none, List.cons_append, List.nil_append, List.append_nil]
      rw [q6_209 hF, if_neg (nI_pos (by omega))]
      exact l_yes hF h4 h5 hQ (LVs.act L (by omega) (by omega) (sS_h h) X1) (fun a' Y2 V' => hk a' Y2 V')
    | false =>
      obtain ⟨Y, X1, e⟩ := qa_leave1 (J := J) (z := 6) (p := A % h0 0 0) X lm tb
      rw [e]
      simp only [Option.toList_some, Option.toList_none, List.cons_append, List.nil_append, List.append_nil]
      rw [q6_209 hF, if_pos (by decide)]
      exact l_no hF h4 h5 hQ (LVs.no L X1) (fun a' Y2 V' => hk a' Y2 V')
  · rw [if_neg (by decide), if_neg (by decide), if_pos rfl]
    obtain ⟨Y, X1, e⟩ := qa_crisis (J := J) (z := 6) X
    have hl := cgo_8 W hc
    rw [e]
    simp only [Option.toList_some, Option.toList_none, List.cons_append, List.nil_append, List.append_nil]
    by_cases g0 : cgo h C w = 0
    · rw [if_pos g0] at X1
      rw [q6_218 hF, g0, if_pos (by decide)]
      have X1 : KS q h 0 b C w a sn Y := by rw [g0] at X1; exact X1
      exact l_no hF h4 h5 hQ (LVs.no L X1) (fun a' Y2 V' => hk a' Y2 V')
    · rw [if_neg g0] at X1
      rw [q6_218 hF, z_s1 (by omega), if_neg (nI_pos (by omega))]
      exact l_yes hF h4 h5 hQ (LVs.act L (by omega) (by omega) (sS_h h) X1) (fun a' Y2 V' => hk a' Y2 V')
  · rw [if_neg (by decide), if_neg (by decide), if_neg (by decide), if_pos rfl, hQ]
    by_cases q0 : h0 0 1 = 0
    · rw [q0, if_pos (show nI 0 = 0 from rfl), if_pos (by decide)]
      have V1 : LVs h0 (i + 1) a (qm_sC S S.2.2.2.2.2.2) := LVs.no L X
      exact l_no hF h4 h5 (S := qm_sC S S.2.2.2.2.2.2) hQ V1 (fun a' Y2 V' => hk a' Y2 V')
    · have zQ : decide (nI (h0 0 1) = 0) = false := decide_eq_false (nI_ne0 (by omega) (by omega))
      have rA2 : nI A - nI A / nI (h0 0 1) * nI (h0 0 1) = nI (A % h0 0 1) := pk_rem (by omega) (by omega) (by omega)
      have rB2 : nI B - nI B / nI (h0 0 1) * nI (h0 0 1) = nI (B % h0 0 1) := pk_rem (by omega) (by omega) (by omega)
      have la : A % h0 0 1 < h 0 1 := by rw [hp.2]; exact Nat.mod_lt _ (by omega)
      have lb : B % h0 0 1 < h 0 1 := by rw [hp.2]; exact Nat.mod_lt _ (by omega)
      rw [if_neg (nI_ne0 (by omega) (by omega)), zQ, rA2, rB2]
      simp only [Bool.not_false, cond_true]
      have lQ : h 0 1 < 2147483648 := by omega
      by_cases same : C = 0 ∨ w (A % h0 0 1) = w (B % h0 0 1)
      · obtain ⟨Y, X1, e⟩ := qa_trade0 (J := J) (z := 6) (x := nI (A % h0 0 1)) (y := nI (B % h0 0 1)) X (fun _ _ z => by
          rw [z_cl (by omega), z_cl (by omega)]
          rcases same with s | s
          · exact absurd s z
          · exact s)
        rw [e]
        simp only [Option.toList_some, Option.toList_none, List.cons_append, List.nil_append, List.append_nil]
        rw [q6_254 hF, if_pos rfl, if_pos (by decide)]
        exact l_no hF h4 h5 hQ (LVs.no L X1) (fun a' Y2 V' => hk a' Y2 V')
      · obtain ⟨Y, X1, e⟩ := qa_trade (J := J) (z := 6) (o := A % h0 0 1) (p := B % h0 0 1) X la lb (fun z => same (Or.inl z)) (fun z => same (Or.inr z))
        rw [e]
        simp only [Option.toList_some, Option.toList_none, List.cons_append, List.nil_append, List.append_nil]
        rw [q6_254 hF, if_neg (xch_no W w _ _), if_neg (by decide)]
        exact l_yes hF h4 h5 hQ (LVs.act L (by omega) (by omega) (sS_h h) X1) (fun a' Y2 V' => hk a' Y2 V')
  · have r5 : nI B - nI B / 50 * 50 = nI (B % 50) := pk_rem (a := B) (d := 50) (by omega) (by omega) (by omega)
    have l5 : B % 50 < 50 := Nat.mod_lt _ (by omega)
    rw [if_neg (by decide), if_neg (by decide), if_neg (by decide), if_neg (by decide), hP, zP, rA, show decide ((50 : Int32) = 0) = false by decide, r5, show (1 : Int32) + nI (B % 50) = nI (1 + B % 50) from nI_add 1 _]
    simp only [Bool.not_false, cond_true]
    by_cases same : h 1 (A % h0 0 0) = 1 + B % 50
    · obtain ⟨Y, X1, e⟩ := qa_seats1 (J := J) (z := 6) (p := A % h0 0 0) (s := 1 + B % 50) X lm (by omega) (by omega) same
      rw [e]
      simp only [Option.toList_some, Option.toList_none, List.cons_append, List.nil_append, List.append_nil]
      rw [q6_287 hF, if_pos (by decide)]
      exact l_no hF h4 h5 hQ (LVs.no L X1) (fun a' Y2 V' => hk a' Y2 V')
    · obtain ⟨Y, X1, e⟩ := qa_seats (J := J) (z := 6) (p := A % h0 0 0) (s := 1 + B % 50) X (by omega) lm (by omega) (by omega) same
      have sl := W.seats (A % h0 0 0)
      rw [e]
      simp only [Option.toList_some, Option.toList_none, List.cons_append, List.nil_append, List.append_nil]
      rw [q6_287 hF, if_neg (nI_pos (by omega))]
      exact l_yes hF h4 h5 hQ (LVs.act L (by omega) (by omega) ⟨_, rfl⟩ X1) (fun a' Y2 V' => hk a' Y2 V')
end
