/-! ===== one call: judging ===== -/
section
variable {h : Nat → Nat → Nat} {I I' : Nat → Nat → Int32} {L L' : Nat → Nat → Int64}
variable {q n C a c : Nat} {b w : Nat → Nat} {fa pl : Int32} {sn : Nat → SN} {e v : Nat}
variable {F : pm_F} {L0 : Nat} {xs : Nat → Int32}
theorem MH.of70 (H : MH h I) (f : ∀ r j, r ≠ 66 → r ≠ 67 → r ≠ 70 → I' r j = I r j) : MH h I' := H.of (fun k _ _ => f 49 k (by omega) (by omega) (by omega)) (fun r p q k => f r k (by omega) (by omega) (by omega)) (fun k _ => f 64 k (by omega) (by omega) (by omega))
theorem m_jtold (hF : pm_fix pt_me pt_Sg (pt_R L0 xs) F) (W : WF h) (H : MH h I) (T : ∀ i, i < h 0 1 → I 50 i = nI (b i)) (hb : ∀ i, b i < 256) (cl : c ≤ ev h) (x2 x3 : Int32) : ∃ J, (∀ r j, r ≠ 70 → J r j = I r j) ∧ (((∀ i, i < h 0 1 → b i < h 0 0 ∧ c.testBit (b i) = true) ∧ (F 1329 46 [some (.ref 49), some (.int (nI c)), some (.int x2), some (.int x3), some (.int 0), none, none, none, none, none, none] [] (81, pt_G, I, L)) = (F 1329 118 [some (.ref 49), some (.int (nI c)), some (.int x2), some (.int x3), some (.int 0), some (.int 0), some (.int 0), some (.int 0), none, none, none] [] (81, pt_G, J, L)) ∧ ∀ i, i < h 0 1 → J 70 i = nI (b i)) ∨ (¬ (∀ i, i < h 0 1 → b i < h 0 0 ∧ c.testBit (b i) = true) ∧ (F 1329 46 [some (.ref 49), some (.int (nI c)), some (.int x2), some (.int x3), some (.int 0), none, none, none, none, none, none] [] (81, pt_G, I, L)) = some (some (.int (-2)), (81, pt_G, J, L)))) := by
  have hO := W.O
  have hP := W.P
  have hE := ev_lt W
  refine wl (α := Nat → Nat → Int32) (G := fun k J => (F 1329 46 [some (.ref 49), some (.int (nI c)), some (.int x2), some (.int x3), some (.int (nI k)), none, none, none, none, none, none] [] (81, pt_G, J, L))) (P := fun k J => (∀ r j, r ≠ 70 → J r j = I r j) ∧ (∀ i, i < k → J 70 i = nI (b i)) ∧ ∀ i, i < k → b i < h 0 0 ∧ c.testBit (b i) = true) (Q := fun r => ∃ J, (∀ r j, r ≠ 70 → J r j = I r j) ∧ (((∀ i, i < h 0 1 → b i < h 0 0 ∧ c.testBit (b i) = true) ∧ r = (F 1329 118 [some (.ref 49), some (.int (nI c)), some (.int x2), some (.int x3), some (.int 0), some (.int 0), some (.int 0), some (.int 0), none, none, none] [] (81, pt_G, J, L)) ∧ ∀ i, i < h 0 1 → J 70 i = nI (b i)) ∨ (¬ (∀ i, i < h 0 1 → b i < h 0 0 ∧ c.testBit (b i) = true) ∧ r = some (some (.int (-2)), (81, pt_G, J, L))))) (n := h 0 1) (fun k J hk hJ nx => ?_) (fun J hJ => ?_) 0 I (Nat.zero_le _) ⟨fun _ _ _ => rfl, fun i hi => absurd hi (by omega), fun i hi => absurd hi (by omega)⟩
  · try dsimp only
    obtain ⟨j1, j2, j3⟩ := hJ
    have b8 := hb k
    have HJ := H.of70 (I' := J) (fun r j _ _ p => j1 r j p)
    have t1 : J 50 k = nI (b k) := (j1 50 k (by omega)).trans (T k hk)
    rw [e1329_46 hF]
    simp (disch := omega) only [pm_k_i, Option.toList_some, Option.toList_none, List.cons_append, List.nil_append, cond_true, cond_false, ↓reduceIte, reduceCtorEq, z_1, nI_add, z_cl, z_ib, z_lt, z_le, z_eq, z_eq0, z_le0, z_lt0, z_b0, z_b1, z_m1, z_and7, Int32.add_zero, HJ.O, hk, t1, HJ.P]
    by_cases d : b k < h 0 0
    · simp (disch := omega) only [pm_k_i, Option.toList_some, Option.toList_none, List.cons_append, List.nil_append, cond_true, cond_false, ↓reduceIte, reduceCtorEq, z_1, nI_add, z_cl, z_ib, z_lt, z_le, z_eq, z_eq0, z_le0, z_lt0, z_b0, z_b1, z_m1, z_and7, Int32.add_zero, d, m_holds hF, e1329_80 hF]
      cases f : c.testBit (b k) with
      | false =>
        simp (disch := omega) only [pm_k_i, Option.toList_some, Option.toList_none, List.cons_append, List.nil_append, cond_true, cond_false, ↓reduceIte, reduceCtorEq, z_1, nI_add, z_cl, z_ib, z_lt, z_le, z_eq, z_eq0, z_le0, z_lt0, z_b0, z_b1, z_m1, z_and7, Int32.add_zero, f]
        exact ⟨J, j1, Or.inr ⟨fun z => (by have := (z k hk).2; rw [f] at this; cases this), rfl⟩⟩
      | true =>
        simp (disch := omega) only [pm_k_i, Option.toList_some, Option.toList_none, List.cons_append, List.nil_append, cond_true, cond_false, ↓reduceIte, reduceCtorEq, z_1, nI_add, z_cl, z_ib, z_lt, z_le, z_eq, z_eq0, z_le0, z_lt0, z_b0, z_b1, z_m1, z_and7, Int32.add_zero, f, t1]
        refine nx _ ⟨fun r j p => by rw [z_ur p]; exact j1 r j p, fun i hi => ?_, fun i hi => ?_⟩
        · by_cases z : i = k
          · rw [z, z_ue]
          · rw [z_uk z]
            exact j2 i (by omega)
        · by_cases z : i = k
          · rw [z]
            exact ⟨d, f⟩
          · exact j3 i (by omega)
    · simp (disch := omega) only [pm_k_i, Option.toList_some, Option.toList_none, List.cons_append, List.nil_append, cond_true, cond_false, ↓reduceIte, reduceCtorEq, z_1, nI_add, z_cl, z_ib, z_lt, z_le, z_eq, z_eq0, z_le0, z_lt0, z_b0, z_b1, z_m1, z_and7, Int32.add_zero, d]
      exact ⟨J, j1, Or.inr ⟨fun z => d (z k hk).1, rfl⟩⟩
  · try dsimp only
    obtain ⟨j1, j2, j3⟩ := hJ
    have HJ := H.of70 (I' := J) (fun r j _ _ p => j1 r j p)
    refine ⟨J, j1, Or.inl ⟨j3, ?_, j2⟩⟩
    rw [e1329_46 hF]
    simp (disch := omega) only [pm_k_i, Option.toList_some, Option.toList_none, List.cons_append, List.nil_append, cond_true, cond_false, ↓reduceIte, reduceCtorEq, z_1, nI_add, z_cl, z_ib, z_lt, z_le, z_eq, z_eq0, z_le0, z_lt0, z_b0, z_b1, z_m1, z_and7, Int32.add_zero, HJ.O, Nat.lt_irrefl]
theorem m_jsum (hF : pm_fix pt_me pt_Sg (pt_R L0 xs) F) (W : WF h) (H : MH h I) (hw : OW h w I) (cl : c ≤ ev h) (x2 x3 : Int32) : (F 1329 118 [some (.ref 49), some (.int (nI c)), some (.int x2), some (.int x3), some (.int 0), some (.int 0), some (.int 0), some (.int 0), none, none, none] [] (81, pt_G, I, L)) = (F 1329 118 [some (.ref 49), some (.int (nI c)), some (.int x2), some (.int x3), some (.int (nI (wal h w))), some (.int (nI (gwn h c (h 0 1)))), some (.int (nI (scn h w (h 0 1)))), some (.int (nI (h 0 1))), none, none, none] [] (81, pt_G, I, L)) := by
  have hO := W.O
  have hP := W.P
  have hE := ev_lt W
  refine stE (G := fun k => (F 1329 118 [some (.ref 49), some (.int (nI c)), some (.int x2), some (.int x3), some (.int (nI (lp (fun o a => a + h 5 (8 * w o + o)) k 0))), some (.int (nI (gwn h c k))), some (.int (nI (scn h w k))), some (.int (nI k)), none, none, none] [] (81, pt_G, I, L))) (n := h 0 1) (fun k hk => ?_)
  try dsimp only
  obtain ⟨w1, w2⟩ := hw k hk
  rw [e1329_118 hF]
  simp (disch := omega) only [pm_k_i, Option.toList_some, Option.toList_none, List.cons_append, List.nil_append, cond_true, cond_false, ↓reduceIte, reduceCtorEq, z_1, nI_add, z_cl, z_ib, z_lt, z_le, z_eq, z_eq0, z_le0, z_lt0, z_b0, z_b1, z_m1, z_and7, Int32.add_zero, H.O, hk, w1, m_worthOf hF W H w2 hk, e1329_142 hF]
  refine (stE (G := fun p => (F 1329 151 [some (.ref 49), some (.int (nI c)), some (.int x2), some (.int x3), some (.int (nI (lp (fun o a => a + h 5 (8 * w o + o)) k 0 + h 5 (8 * w k + k)))), some (.int (nI (gwn h c k))), some (.int (nI (scn h w k))), some (.int (nI k)), some (.int (nI (gmx h c k p))), some (.int (nI p)), none] [] (81, pt_G, I, L))) (n := h 0 0) (fun p hp => ?_)).trans ?_
  · try dsimp only
    have g1 := gmx_le (c := c) W k p
    have g2 := W.worth (8 * p + k)
    rw [e1329_151 hF]
    simp (disch := omega) only [pm_k_i, Option.toList_some, Option.toList_none, List.cons_append, List.nil_append, cond_true, cond_false, ↓reduceIte, reduceCtorEq, z_1, nI_add, z_cl, z_ib, z_lt, z_le, z_eq, z_eq0, z_le0, z_lt0, z_b0, z_b1, z_m1, z_and7, Int32.add_zero, H.P, hp, m_holds hF, e1329_166 hF]
    cases f : c.testBit p with
    | false =>
      simp (disch := omega) only [pm_k_i, Option.toList_some, Option.toList_none, List.cons_append, List.nil_append, cond_true, cond_false, ↓reduceIte, reduceCtorEq, z_1, nI_add, z_cl, z_ib, z_lt, z_le, z_eq, z_eq0, z_le0, z_lt0, z_b0, z_b1, z_m1, z_and7, Int32.add_zero, f]
      rw [show gmx h c k (p + 1) = gmx h c k p from by
        show (bif c.testBit p then _ else _) = _
        rw [f]
        rfl]
    | true =>
      simp (disch := omega) only [pm_k_i, Option.toList_some, Option.toList_none, List.cons_append, List.nil_append, cond_true, cond_false, ↓reduceIte, reduceCtorEq, z_1, nI_add, z_cl, z_ib, z_lt, z_le, z_eq, z_eq0, z_le0, z_lt0, z_b0, z_b1, z_m1, z_and7, Int32.add_zero, f, m_worthOf hF W H hp hk, e1329_179 hF, m_greater hF, e1329_182 hF]
      rw [show gmx h c k (p + 1) = max (gmx h c k p) (h 5 (8 * p + k)) from by
        show (bif c.testBit p then _ else _) = _
        rw [f]
        rfl]
  · try dsimp only
    rw [e1329_151 hF]
    simp (disch := omega) only [pm_k_i, Option.toList_some, Option.toList_none, List.cons_append, List.nil_append, cond_true, cond_false, ↓reduceIte, reduceCtorEq, z_1, nI_add, z_cl, z_ib, z_lt, z_le, z_eq, z_eq0, z_le0, z_lt0, z_b0, z_b1, z_m1, z_and7, Int32.add_zero, H.P, Nat.lt_irrefl]
    refine (lpE (G := fun d a => (F 1329 203 [some (.ref 49), some (.int (nI c)), some (.int x2), some (.int x3), some (.int (nI (lp (fun o a => a + h 5 (8 * w o + o)) k 0 + h 5 (8 * w k + k)))), some (.int (nI (gwn h c k + gmx h c k (h 0 0)))), some (.int (nI a)), some (.int (nI k)), some (.int (nI (gmx h c k (h 0 0)))), some (.int (nI (k + 1 + d))), none] [] (81, pt_G, I, L))) (f := fun d a => a + (swp h w k (k + 1 + d)).toNat) (n := h 0 1 - (k + 1)) (fun d a hd => ?_) (scn h w k)).trans ?_
    · try dsimp only
      have hd' : k + 1 + d < h 0 1 := by omega
      rw [e1329_203 hF]
      simp (disch := omega) only [pm_k_i, Option.toList_some, Option.toList_none, List.cons_append, List.nil_append, cond_true, cond_false, ↓reduceIte, reduceCtorEq, z_1, nI_add, z_cl, z_ib, z_lt, z_le, z_eq, z_eq0, z_le0, z_lt0, z_b0, z_b1, z_m1, z_and7, Int32.add_zero, H.O, hd', m_wouldSwap hF W H hw hk hd', e1329_222 hF, m_truth hF, e1329_225 hF]
      rfl
    · try dsimp only
      rw [e1329_203 hF]
      simp (disch := omega) only [pm_k_i, Option.toList_some, Option.toList_none, List.cons_append, List.nil_append, cond_true, cond_false, ↓reduceIte, reduceCtorEq, z_1, nI_add, z_cl, z_ib, z_lt, z_le, z_eq, z_eq0, z_le0, z_lt0, z_b0, z_b1, z_m1, z_and7, Int32.add_zero, H.O, show ¬ (k + 1 + (h 0 1 - (k + 1)) < h 0 1) by omega]
      rfl
theorem m_juk (hF : pm_fix pt_me pt_Sg (pt_R L0 xs) F) (W : WF h) (H : MH h I) (hw : OW h w I) (cl : c ≤ ev h) (h67 : ∀ p, p < h 0 0 → I 67 p = nI (cnw (du h c) (h 0 1) p)) (x2 x3 x4 x5 x6 x7 : Int32) : (F 1329 275 [some (.ref 49), some (.int (nI c)), some (.int x2), some (.int x3), some (.int x4), some (.int x5), some (.int x6), some (.int x7), none, none, none] [] (81, pt_G, I, L)) = some (some (.int (nI (ukn h c w (h 0 0)))), (81, pt_G, I, L)) := by
  have hO := W.O
  have hP := W.P
  have hE := ev_lt W
  rw [e1329_275 hF]
  refine (lpE (G := fun p a => (F 1329 281 [some (.ref 49), some (.int (nI c)), some (.int x2), some (.int x3), some (.int x4), some (.int x5), some (.int x6), some (.int (nI a)), some (.int (nI p)), none, none] [] (81, pt_G, I, L))) (f := fun p a => a + (c.testBit p && !Nat.beq (cnw w (h 0 1) p) (cnw (du h c) (h 0 1) p)).toNat) (n := h 0 0) (fun p a hp => ?_) 0).trans ?_
  · try dsimp only
    rw [e1329_281 hF]
    simp (disch := omega) only [pm_k_i, Option.toList_some, Option.toList_none, List.cons_append, List.nil_append, cond_true, cond_false, ↓reduceIte, reduceCtorEq, z_1, nI_add, z_cl, z_ib, z_lt, z_le, z_eq, z_eq0, z_le0, z_lt0, z_b0, z_b1, z_m1, z_and7, Int32.add_zero, H.P, hp]
    refine (stE (G := fun o => (F 1329 296 [some (.ref 49), some (.int (nI c)), some (.int x2), some (.int x3), some (.int x4), some (.int x5), some (.int x6), some (.int (nI a)), some (.int (nI p)), some (.int (nI (cnw w o p))), some (.int (nI o))] [] (81, pt_G, I, L))) (n := h 0 1) (fun o ho => ?_)).trans ?_
    · try dsimp only
      obtain ⟨w1, w2⟩ := hw o ho
      rw [e1329_296 hF]
      simp (disch := omega) only [pm_k_i, Option.toList_some, Option.toList_none, List.cons_append, List.nil_append, cond_true, cond_false, ↓reduceIte, reduceCtorEq, z_1, nI_add, z_cl, z_ib, z_lt, z_le, z_eq, z_eq0, z_le0, z_lt0, z_b0, z_b1, z_m1, z_and7, Int32.add_zero, H.O, ho, w1, m_truth1 hF, m_truth0 hF, e1329_327 hF]
      rw [cnw_s]
      by_cases z : w o = p
      · rw [if_pos z, if_pos z.symm]
      · rw [if_neg z, if_neg (fun y => z y.symm)]
        rfl
    · try dsimp only
      have u1 := cnw_le (du h c) (h 0 1) p
      have u2 := cnw_le w (h 0 1) p
      rw [e1329_296 hF]
      simp (disch := omega) only [pm_k_i, Option.toList_some, Option.toList_none, List.cons_append, List.nil_append, cond_true, cond_false, ↓reduceIte, reduceCtorEq, z_1, nI_add, z_cl, z_ib, z_lt, z_le, z_eq, z_eq0, z_le0, z_lt0, z_b0, z_b1, z_m1, z_and7, Int32.add_zero, H.O, Nat.lt_irrefl, m_holds hF, e1329_344 hF, h67 p hp]
      cases f : c.testBit p with
      | false =>
        simp (disch := omega) only [pm_k_i, Option.toList_some, Option.toList_none, List.cons_append, List.nil_append, cond_true, cond_false, ↓reduceIte, reduceCtorEq, z_1, nI_add, z_cl, z_ib, z_lt, z_le, z_eq, z_eq0, z_le0, z_lt0, z_b0, z_b1, z_m1, z_and7, Int32.add_zero, f, m_truth0 hF, e1329_367 hF]
        rfl
      | true =>
        simp (disch := omega) only [pm_k_i, Option.toList_some, Option.toList_none, List.cons_append, List.nil_append, cond_true, cond_false, ↓reduceIte, reduceCtorEq, z_1, nI_add, z_cl, z_ib, z_lt, z_le, z_eq, z_eq0, z_le0, z_lt0, z_b0, z_b1, z_m1, z_and7, Int32.add_zero, f, m_truth0 hF, m_truth1 hF, e1329_367 hF]
        by_cases g : cnw w (h 0 1) p = cnw (du h c) (h 0 1) p
        · rw [if_pos g, g, Nat.beq_refl]
          rfl
        · rw [if_neg g, beq_f g]
          rfl
  · try dsimp only
    rw [e1329_281 hF]
    simp (disch := omega) only [pm_k_i, Option.toList_some, Option.toList_none, List.cons_append, List.nil_append, cond_true, cond_false, ↓reduceIte, reduceCtorEq, z_1, nI_add, z_cl, z_ib, z_lt, z_le, z_eq, z_eq0, z_le0, z_lt0, z_b0, z_b1, z_m1, z_and7, Int32.add_zero, H.P, Nat.lt_irrefl]
    rfl
end
