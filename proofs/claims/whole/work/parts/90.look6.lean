/-! ===== one call: forming; what is now; the tape ===== -/
section
variable {h : Nat → Nat → Nat} {I I' : Nat → Nat → Int32} {L L' : Nat → Nat → Int64}
variable {q n C a : Nat} {b w : Nat → Nat} {fa pl : Int32} {sn : Nat → SN} {e v : Nat}
variable {F : pm_F} {L0 : Nat} {xs : Nat → Int32}
theorem c_form_k (hF : pm_fix pt_me pt_Sg (pt_R L0 xs) F) (W : WF h) (X : K1 q h n b fa pl C w a sn I L) : ∃ A1 K A, (F 304 0 [some (.ref 30), none] [] (81, pt_G, I, L)) = some (none, (81, pt_G, A1, K)) ∧ (F 402 0 [some (.ref 41), none] [] (81, pt_G, A1, K)) = some (none, (81, pt_G, A, K)) ∧ FT h A ∧ K1 q h n b fa pl C w a sn A K ∧ HI I A ∧ CH h A := by
  obtain ⟨⟨e, v, e1, v1, cx, fo⟩, k0⟩ := X
  obtain ⟨A1, K, a1, a2, a3, a4, a5⟩ := c_learnAll hF W cx
  have fo1 := fo.of (fun r k p q => a2.1 r k (by unfold xc; omega))
  obtain ⟨A, d1, d2, d3, d4⟩ := c_run hF W a3 a4 fo1
  have f40 : ∀ r k, r < 40 → A r k = A1 r k := fun r k hr => d2 r k (by omega) (by omega) (by omega)
  have frA : FR h e v A K := a3.of2 f40
  have k1 : K0 h n b fa pl C w a sn A1 K := k0.of (fun r k p => a2.1 r k (by unfold xc; omega)) (fun k => a2.2 18 k (by omega))
  have k2 : K0 h n b fa pl C w a sn A K := k1.of (fun r k p => d2 r k (by omega) (by omega) (by omega)) (fun _ => rfl)
  exact ⟨A1, K, A, a1, d1, d3, ⟨⟨e, v, e1, v1, frA.1, Or.inr ⟨v, Nat.le_refl _, d4⟩, fun _ => d3⟩, k2⟩, fun r k hr => by rw [d2 r k (by omega) (by omega) (by omega)]; exact a2.hi r k hr, frA.1.1⟩
theorem m_form_k (hF : pm_fix pt_me pt_Sg (pt_R L0 xs) F) (W : WF h) (Y : K2 h n b fa pl C w a sn I) : ∃ B, (F 1315 0 [some (.ref 49)] [] (81, pt_G, I, L)) = some (none, (81, pt_G, B, L)) ∧ K2 h n b fa pl C w a sn B ∧ MS0 (fmr h 9).2 B ∧ B 49 64 = nI (fmr h 9).1 ∧ LO I B := by
  obtain ⟨B, b1, b2, b3, b4, b5⟩ := m_forms (L := L) hF W Y.1
  exact ⟨B, b1, Y.fm W b2 b3, b4, b5, b2.lo⟩
theorem fmr_0 (hP : h 0 0 = 0) : ∀ n, (fmr h n).2.2.1 = 0 := by
  intro n
  refine lpP (P := fun _ (a : Nat × fst') => a.2.2.1 = 0) rfl (fun k a _ ha => ?_)
  show (bif Nat.beq a.2.2.2.2 0 then (a.1 + 1, rnd h k (h 0 0) a.2) else a).2.2.1 = 0
  cases Nat.beq a.2.2.2.2 0
  · exact ha
  · have := rnd_cnt (h := h) k (h 0 0) a.2
    rw [hP] at this ⊢
    show (rnd h k 0 a.2).2.1 = 0
    have ha : a.2.2.1 = 0 := ha
    omega
theorem m_isCnt (hF : pm_fix pt_me pt_Sg (pt_R L0 xs) F) {n : Nat} (hn : n < 1073741824) (x : Int32) : (F 1202 0 [some (.long x.toInt64), none, some (.long 0), none, some (.long (Int32.toInt64 (nI n - 1))), none] [] (81, pt_G, I, L)) = some (some (.int (nI (vP n x).toNat)), (81, pt_G, I, L)) := by
  rw [m_isIn0 hF]
  have : decide (0 ≤ x.toInt ∧ x.toInt ≤ (nI n - 1).toInt) = vP n x := by
    rw [z_toI hn]
    exact decide_eq_decide.mpr (by omega)
  rw [this]
theorem s_formed (hF : pm_fix pt_me pt_Sg (pt_R L0 xs) F) (Z : GS h n b C w a sn) (X : K1 q h n b fa pl C w a sn I L) (Y : K2 h n b fa pl C w a sn I) (x : Int32) : NXT q (F 135 0 [some (.ref 0), some (.int x)] [] (81, pt_G, I, L)) (fun I L => (F 1316 0 [some (.ref 49), some (.int x)] [] (81, pt_G, I, L))) := by
  have W := Z.1
  have hP := W.P
  have H := X.H
  have M := Y.H
  by_cases p0 : h 0 0 = 0
  · exact NXT.same Z X Y (x := -1) (by
      rw [e135_0 hF, H.P, p0, if_pos (show nI 0 = 0 from rfl)]) (by
      try dsimp only
      rw [e1316_0 hF, M.P, p0, if_pos (show nI 0 = 0 from rfl)])
  · have np : ¬ nI (h 0 0) = 0 := by rw [z_eq0 (by omega)]; exact p0
    obtain ⟨A1, K, A, a1, a2, ft0, XA, hi, HA⟩ := c_form_k hF W X
    have YA := Y.hi W hi
    have MA := YA.H
    obtain ⟨s1, s2, s3, s4, s5⟩ := ft0
    have cnt := fmr_cnt W 9
    have fb := fmr_b (h := h) (n := 9)
    have cls : (F 135 0 [some (.ref 0), some (.int x)] [] (81, pt_G, I, L)) = (F 135 26 [some (.ref 0), some (.int x)] [] (81, pt_G, A, K)) := by
      rw [e135_0 hF, H.P, if_neg np, a1]
      simp (disch := omega) only [pm_k_i, Option.toList_some, Option.toList_none, List.cons_append, List.nil_append, cond_true, cond_false, ↓reduceIte, reduceCtorEq, z_1, nI_add, z_cl, z_ib, z_lt, z_le, z_eq, z_eq0, z_le0, z_lt0, z_b0, z_b1, z_m1, z_and7, Int32.add_zero, e135_19 hF, a2]
    cases hv : vP 4 x with
    | false =>
      have no : ∀ k, k < 4 → ¬ x = nI k := fun k hk z => by rw [z, vP_nI (by omega), decide_eq_true hk] at hv; cases hv
      refine NXT.mk (x := -1) (I1 := A) (L1 := K) ?_ ?_ Z XA YA
      · rw [cls, e135_26 hF, if_neg (no 0 (by omega)), if_neg (no 1 (by omega)), if_neg (no 2 (by omega)), if_neg (no 3 (by omega))]
      · try dsimp only
        rw [e1316_0 hF, MA.P, if_neg np, m_isWhat3 hF]
        simp (disch := omega) only [pm_k_i, Option.toList_some, Option.toList_none, List.cons_append, List.nil_append, cond_true, cond_false, ↓reduceIte, reduceCtorEq, z_1, nI_add, z_cl, z_ib, z_lt, z_le, z_eq, z_eq0, z_le0, z_lt0, z_b0, z_b1, z_m1, z_and7, Int32.add_zero, hv, e1316_16 hF]
    | true =>
      obtain ⟨k, kl, rfl⟩ := vP_of (by omega) hv
      obtain ⟨B, b1, YB, ⟨t2, t3, t4, t5⟩, t6, lo⟩ := m_form_k (L := K) hF W YA
      have mdl : (F 1316 0 [some (.ref 49), some (.int (nI k))] [] (81, pt_G, A, K)) = (F 1316 25 [some (.ref 49), some (.int (nI k))] [] (81, pt_G, B, K)) := by
        rw [e1316_0 hF, MA.P, if_neg np, m_isWhat3 hF]
        simp (disch := omega) only [pm_k_i, Option.toList_some, Option.toList_none, List.cons_append, List.nil_append, cond_true, cond_false, ↓reduceIte, reduceCtorEq, z_1, nI_add, z_cl, z_ib, z_lt, z_le, z_eq, z_eq0, z_le0, z_lt0, z_b0, z_b1, z_m1, z_and7, Int32.add_zero, hv, e1316_16 hF, b1]
        try rw [if_neg (show ¬ nI 1 = 0 from by decide)]
      have XB := XA.lo lo (L' := K) (fun _ _ _ => rfl)
      have hk : k = 0 ∨ k = 1 ∨ k = 2 ∨ k = 3 := by omega
      rcases hk with rfl | rfl | rfl | rfl
      · refine NXT.mk (x := nI (fmr h 9).2.2.2.2) (I1 := A) (L1 := K) ?_ ?_ Z XB YB
        · rw [cls, e135_26 hF, if_pos rfl, s3]
        · try dsimp only
          rw [mdl, e1316_25 hF, if_pos rfl, t3]
      · refine NXT.mk (x := nI (fmr h 9).2.2.1) (I1 := A) (L1 := K) ?_ ?_ Z XB YB
        · rw [cls, e135_26 hF, if_neg (by decide), if_pos rfl, s2]
        · try dsimp only
          rw [mdl, e1316_25 hF, if_neg (by decide), if_pos rfl, t2]
      · refine NXT.mk (x := nI (fmr h 9).1) (I1 := A) (L1 := K) ?_ ?_ Z XB YB
        · rw [cls, e135_26 hF, if_neg (by decide), if_neg (by decide), if_pos rfl, s1]
        · try dsimp only
          rw [mdl, e1316_25 hF, if_neg (by decide), if_neg (by decide), if_pos rfl, t6]
      · have fo := c_formerOf (I := A) (L := K) hF (s := (fmr h 9).2) ⟨s2, s3, s4, s5⟩ (by omega) (nI (fmr h 9).2.2.1 - 1)
        by_cases z : (fmr h 9).2.2.1 = 0
        · have e0 : nI (fmr h 9).2.2.1 - 1 = -1 := by rw [z]; decide
          refine NXT.mk (x := -1) (I1 := A) (L1 := K) ?_ ?_ Z XB YB
          · rw [cls, e135_26 hF, if_neg (by decide), if_neg (by decide), if_neg (by decide), if_pos rfl, s2, fo, e0, vP_m1]
            simp (disch := omega) only [pm_k_i, Option.toList_some, Option.toList_none, List.cons_append, List.nil_append, cond_true, cond_false, ↓reduceIte, reduceCtorEq, z_1, nI_add, z_cl, z_ib, z_lt, z_le, z_eq, z_eq0, z_le0, z_lt0, z_b0, z_b1, z_m1, z_and7, Int32.add_zero, e135_96 hF]
          · try dsimp only
            rw [mdl, e1316_25 hF, if_neg (by decide), if_neg (by decide), if_neg (by decide), t2, z, if_pos (show nI 0 = 0 from rfl)]
        · have e0 : nI (fmr h 9).2.2.1 - 1 = nI ((fmr h 9).2.2.1 - 1) := z_s1 (by omega)
          have vv : vP (fmr h 9).2.2.1 (nI ((fmr h 9).2.2.1 - 1)) = true := by rw [vP_nI (by omega)]; exact decide_eq_true (by omega)
          refine NXT.mk (x := nI ((fmr h 9).2.2.2.1 ((fmr h 9).2.2.1 - 1)).1) (I1 := A) (L1 := K) ?_ ?_ Z XB YB
          · rw [cls, e135_26 hF, if_neg (by decide), if_neg (by decide), if_neg (by decide), if_pos rfl, s2, fo, e0, vv]
            simp (disch := omega) only [pm_k_i, Option.toList_some, Option.toList_none, List.cons_append, List.nil_append, cond_true, cond_false, ↓reduceIte, reduceCtorEq, z_1, nI_add, z_cl, z_ib, z_lt, z_le, z_eq, z_eq0, z_le0, z_lt0, z_b0, z_b1, z_m1, z_and7, Int32.add_zero, e135_96 hF]
          · try dsimp only
            rw [mdl, e1316_25 hF, if_neg (by decide), if_neg (by decide), if_neg (by decide), t2, if_neg (by rw [z_eq0 (by omega)]; exact z), e0]
            simp (disch := omega) only [pm_k_i, Option.toList_some, Option.toList_none, List.cons_append, List.nil_append, cond_true, cond_false, ↓reduceIte, reduceCtorEq, z_1, nI_add, z_cl, z_ib, z_lt, z_le, z_eq, z_eq0, z_le0, z_lt0, z_b0, z_b1, z_m1, z_and7, Int32.add_zero, (t5 ((fmr h 9).2.2.1 - 1) (by omega)).1]
theorem s_tried (hF : pm_fix pt_me pt_Sg (pt_R L0 xs) F) (Z : GS h n b C w a sn) (X : K1 q h n b fa pl C w a sn I L) (Y : K2 h n b fa pl C w a sn I) (i x : Int32) : NXT q (F 136 0 [some (.ref 0), some (.int i), some (.int x)] [] (81, pt_G, I, L)) (fun I L => (F 1317 0 [some (.ref 49), some (.int i), some (.int x)] [] (81, pt_G, I, L))) := by
  have W := Z.1
  have hP := W.P
  have H := X.H
  have M := Y.H
  obtain ⟨A1, K, A, a1, a2, ft0, XA, hi, HA⟩ := c_form_k hF W X
  have YA := Y.hi W hi
  have MA := YA.H
  obtain ⟨s1, s2, s3, s4, s5⟩ := ft0
  have cnt := fmr_cnt W 9
  have cls : (F 136 0 [some (.ref 0), some (.int i), some (.int x)] [] (81, pt_G, I, L)) = (F 136 14 [some (.ref 0), some (.int i), some (.int x)] [] (81, pt_G, A, K)) := by
    rw [e136_0 hF, a1]
    simp (disch := omega) only [pm_k_i, Option.toList_some, Option.toList_none, List.cons_append, List.nil_append, cond_true, cond_false, ↓reduceIte, reduceCtorEq, z_1, nI_add, z_cl, z_ib, z_lt, z_le, z_eq, z_eq0, z_le0, z_lt0, z_b0, z_b1, z_m1, z_and7, Int32.add_zero, e136_7 hF, a2]
  have f1 := c_formerOf (I := A) (L := K) hF (s := (fmr h 9).2) ⟨s2, s3, s4, s5⟩ (by omega) i
  have f2 := c_coalitionOf (I := A) (L := K) hF (s := (fmr h 9).2) ⟨s2, s3, s4, s5⟩ (by omega) i
  have f3 := c_walkersOf (I := A) (L := K) hF (s := (fmr h 9).2) ⟨s2, s3, s4, s5⟩ (by omega) i
  -- what the class says
  have c1 : (F 136 0 [some (.ref 0), some (.int i), some (.int x)] [] (81, pt_G, I, L)) = some (some (.int (bif vP 3 x && vP (fmr h 9).2.2.1 i then (if x = 0 then nI ((fmr h 9).2.2.2.1 i.toNatClampNeg).1 else if x = 1 then nI ((fmr h 9).2.2.2.1 i.toNatClampNeg).2.1 else nI ((fmr h 9).2.2.2.1 i.toNatClampNeg).2.2) else -1)), (81, pt_G, A, K)) := by
    rw [cls, e136_14 hF, f1, f2, f3]
    simp (disch := omega) only [pm_k_i, Option.toList_some, Option.toList_none, List.cons_append, List.nil_append, cond_true, cond_false, ↓reduceIte, reduceCtorEq, z_1, nI_add, z_cl, z_ib, z_lt, z_le, z_eq, z_eq0, z_le0, z_lt0, z_b0, z_b1, z_m1, z_and7, Int32.add_zero, e136_48 hF, e136_57 hF, e136_66 hF]
    by_cases z0 : x = nI 0
    · rw [if_pos z0, z0, show vP 3 (nI 0) = true from by decide, if_pos (show nI 0 = 0 from rfl)]
      rfl
    · rw [if_neg z0]
      by_cases z1 : x = nI 1
      · rw [if_pos z1, z1, show vP 3 (nI 1) = true from by decide, if_neg (show ¬ nI 1 = 0 from by decide), if_pos (show nI 1 = 1 from rfl)]
        rfl
      · rw [if_neg z1]
        by_cases z2 : x = nI 2
        · rw [if_pos z2, z2, show vP 3 (nI 2) = true from by decide, if_neg (show ¬ nI 2 = 0 from by decide), if_neg (show ¬ nI 2 = 1 from by decide)]
          rfl
        · rw [if_neg z2]
          have nv : vP 3 x = false := by
            cases hv : vP 3 x with
            | false => rfl
            | true =>
              obtain ⟨k, kl, e⟩ := vP_of (by omega) hv
              have hk : k = 0 ∨ k = 1 ∨ k = 2 := by omega
              rcases hk with rfl | rfl | rfl
              · exact absurd e z0
              · exact absurd e z1
              · exact absurd e z2
          rw [nv]
          rfl
  by_cases p0 : h 0 0 = 0
  · have v0 : vP (fmr h 9).2.2.1 i = false := by
      rw [fmr_0 p0]
      exact decide_eq_false (by omega)
    rw [v0, Bool.and_false] at c1
    refine NXT.mk c1 ?_ Z XA YA
    try dsimp only
    rw [e1317_0 hF, MA.P, p0, if_pos (show nI 0 = 0 from rfl)]
    rfl
  · have np : ¬ nI (h 0 0) = 0 := by rw [z_eq0 (by omega)]; exact p0
    cases hv : vP 3 x with
    | false =>
      rw [hv, Bool.false_and] at c1
      refine NXT.mk c1 ?_ Z XA YA
      try dsimp only
      rw [e1317_0 hF, MA.P, if_neg np, m_isWay hF]
      simp (disch := omega) only [pm_k_i, Option.toList_some, Option.toList_none, List.cons_append, List.nil_append, cond_true, cond_false, ↓reduceIte, reduceCtorEq, z_1, nI_add, z_cl, z_ib, z_lt, z_le, z_eq, z_eq0, z_le0, z_lt0, z_b0, z_b1, z_m1, z_and7, Int32.add_zero, hv, e1317_16 hF]
    | true =>
      obtain ⟨B, b1, YB, ⟨t2, t3, t4, t5⟩, t6, lo⟩ := m_form_k (L := K) hF W YA
      have XB := XA.lo lo (L' := K) (fun _ _ _ => rfl)
      rw [hv, Bool.true_and] at c1
      refine NXT.mk c1 ?_ Z XB YB
      try dsimp only
      rw [e1317_0 hF, MA.P, if_neg np, m_isWay hF]
      simp (disch := omega) only [pm_k_i, Option.toList_some, Option.toList_none, List.cons_append, List.nil_append, cond_true, cond_false, ↓reduceIte, reduceCtorEq, z_1, nI_add, z_cl, z_ib, z_lt, z_le, z_eq, z_eq0, z_le0, z_lt0, z_b0, z_b1, z_m1, z_and7, Int32.add_zero, hv, e1317_16 hF]
      try rw [if_neg (show ¬ nI 1 = 0 from by decide)]
      rw [b1]
      simp (disch := omega) only [pm_k_i, Option.toList_some, Option.toList_none, List.cons_append, List.nil_append, cond_true, cond_false, ↓reduceIte, reduceCtorEq, z_1, nI_add, z_cl, z_ib, z_lt, z_le, z_eq, z_eq0, z_le0, z_lt0, z_b0, z_b1, z_m1, z_and7, Int32.add_zero, e1317_25 hF, t2, m_isCnt hF, e1317_38 hF]
      cases hi' : vP (fmr h 9).2.2.1 i with
      | false => rfl
      | true =>
        obtain ⟨j, jl, rfl⟩ := vP_of (by omega) hi'
        obtain ⟨u1, u2, u3⟩ := t5 j jl
        simp (disch := omega) only [pm_k_i, Option.toList_some, Option.toList_none, List.cons_append, List.nil_append, cond_true, cond_false, ↓reduceIte, reduceCtorEq, z_1, nI_add, z_cl, z_ib, z_lt, z_le, z_eq, z_eq0, z_le0, z_lt0, z_b0, z_b1, z_m1, z_and7, Int32.add_zero, u1, u2, u3]
        by_cases z0 : x = 0
        · rw [if_pos z0, if_pos z0]
        · rw [if_neg z0, if_neg z0]
          by_cases z1 : x = 1
          · rw [if_pos z1, if_pos z1]
          · rw [if_neg z1, if_neg z1]
theorem s_now (hF : pm_fix pt_me pt_Sg (pt_R L0 xs) F) (Z : GS h n b C w a sn) (X : K1 q h n b fa pl C w a sn I L) (Y : K2 h n b fa pl C w a sn I) (x : Int32) : NXT q (F 138 0 [some (.ref 0), some (.int x)] [] (81, pt_G, I, L)) (fun I L => (F 1319 0 [some (.ref 49), some (.int x)] [] (81, pt_G, I, L))) := by
  have W := Z.1
  have hO := W.O
  have hP := W.P
  have hE := ev_lt W
  have hc := Z.2.1
  have hc1 := hc.1
  have H := X.H
  have M := Y.H
  have k0 := X.2
  have nm := Y.2.2.2.2.1
  by_cases c : x = -1
  · exact NXT.same Z X Y (x := nI C) (by
      rw [e138_0 hF, if_pos c, e138_23 hF, k0.2.2.2.2.1]) (by
      try dsimp only
      rw [e1319_0 hF, if_pos c]
      simp (disch := omega) only [pm_k_i, Option.toList_some, Option.toList_none, List.cons_append, List.nil_append, cond_true, cond_false, ↓reduceIte, reduceCtorEq, z_1, nI_add, z_cl, z_ib, z_lt, z_le, z_eq, z_eq0, z_le0, z_lt0, z_b0, z_b1, z_m1, z_and7, Int32.add_zero, ib16, cl0, nm.1])
  · by_cases z : C = 0
    · refine NXT.same Z X Y (x := -1) ?_ ?_
      · rw [e138_0 hF, if_neg c, e204_0 hF, k0.2.2.2.2.1, z, if_pos (show nI 0 = 0 from rfl)]
        simp (disch := omega) only [pm_k_i, Option.toList_some, Option.toList_none, List.cons_append, List.nil_append, cond_true, cond_false, ↓reduceIte, reduceCtorEq, z_1, nI_add, z_cl, z_ib, z_lt, z_le, z_eq, z_eq0, z_le0, z_lt0, z_b0, z_b1, z_m1, z_and7, Int32.add_zero, e138_23 hF]
      · try dsimp only
        rw [e1319_0 hF, if_neg c, m_isOffice hF W M]
        simp (disch := omega) only [pm_k_i, Option.toList_some, Option.toList_none, List.cons_append, List.nil_append, cond_true, cond_false, ↓reduceIte, reduceCtorEq, z_1, nI_add, z_cl, z_ib, z_lt, z_le, z_eq, z_eq0, z_le0, z_lt0, z_b0, z_b1, z_m1, z_and7, Int32.add_zero, e1319_19 hF]
        cases hv : vP (h 0 1) x with
        | false => rfl
        | true =>
          obtain ⟨o, ol, rfl⟩ := vP_of (by omega) hv
          have := nm.2 o ol
          rw [if_pos z] at this
          rw [show (1 : Int32) = nI 1 from rfl]
          simp (disch := omega) only [pm_k_i, Option.toList_some, Option.toList_none, List.cons_append, List.nil_append, cond_true, cond_false, ↓reduceIte, reduceCtorEq, z_1, nI_add, z_cl, z_ib, z_lt, z_le, z_eq, z_eq0, z_le0, z_lt0, z_b0, z_b1, z_m1, z_and7, Int32.add_zero, this]
          rfl
    · have k := (hc.2 z).1
      have g := hp_lt k.1
      have h46 := k0.2.2.2.2.2.1 z
      have nz : ¬ nI C = 0 := by rw [z_eq0 (by omega)]; exact z
      cases hv : vP (h 0 1) x with
      | false =>
        refine NXT.same Z X Y (x := -1) ?_ ?_
        · rw [e138_0 hF, if_neg c, e204_0 hF, k0.2.2.2.2.1, if_neg nz]
          simp (disch := omega) only [pm_k_i, Option.toList_some, Option.toList_none, List.cons_append, List.nil_append, cond_true, cond_false, ↓reduceIte, reduceCtorEq, z_1, nI_add, z_cl, z_ib, z_lt, z_le, z_eq, z_eq0, z_le0, z_lt0, z_b0, z_b1, z_m1, z_and7, Int32.add_zero, c_hasOffice hF W H, hv, e204_15 hF, e138_23 hF]
        · try dsimp only
          rw [e1319_0 hF, if_neg c, m_isOffice hF W M]
          simp (disch := omega) only [pm_k_i, Option.toList_some, Option.toList_none, List.cons_append, List.nil_append, cond_true, cond_false, ↓reduceIte, reduceCtorEq, z_1, nI_add, z_cl, z_ib, z_lt, z_le, z_eq, z_eq0, z_le0, z_lt0, z_b0, z_b1, z_m1, z_and7, Int32.add_zero, hv, e1319_19 hF]
      | true =>
        obtain ⟨o, ol, rfl⟩ := vP_of (by omega) hv
        have nn := nm.2 o ol
        rw [if_neg z] at nn
        refine NXT.same Z X Y (x := nI (w o)) ?_ ?_
        · rw [e138_0 hF, if_neg c, e204_0 hF, k0.2.2.2.2.1, if_neg nz]
          simp (disch := omega) only [pm_k_i, Option.toList_some, Option.toList_none, List.cons_append, List.nil_append, cond_true, cond_false, ↓reduceIte, reduceCtorEq, z_1, nI_add, z_cl, z_ib, z_lt, z_le, z_eq, z_eq0, z_le0, z_lt0, z_b0, z_b1, z_m1, z_and7, Int32.add_zero, c_hasOffice hF W H, hv, e204_15 hF, h46, c_get hF, gs_hp k.1, e204_26 hF, e138_23 hF]
        · try dsimp only
          rw [e1319_0 hF, if_neg c, m_isOffice hF W M]
          simp (disch := omega) only [pm_k_i, Option.toList_some, Option.toList_none, List.cons_append, List.nil_append, cond_true, cond_false, ↓reduceIte, reduceCtorEq, z_1, nI_add, z_cl, z_ib, z_lt, z_le, z_eq, z_eq0, z_le0, z_lt0, z_b0, z_b1, z_m1, z_and7, Int32.add_zero, hv, e1319_19 hF, Bool.toNat_true]
          try rw [if_neg (show ¬ nI 1 = 0 from by decide)]
          rw [show (1 : Int32) = nI 1 from rfl]
          simp (disch := omega) only [pm_k_i, Option.toList_some, Option.toList_none, List.cons_append, List.nil_append, cond_true, cond_false, ↓reduceIte, reduceCtorEq, z_1, nI_add, z_cl, z_ib, z_lt, z_le, z_eq, z_eq0, z_le0, z_lt0, z_b0, z_b1, z_m1, z_and7, Int32.add_zero, nn]
theorem s_payNow (hF : pm_fix pt_me pt_Sg (pt_R L0 xs) F) (Z : GS h n b C w a sn) (X : K1 q h n b fa pl C w a sn I L) (Y : K2 h n b fa pl C w a sn I) (x : Int32) : NXT q (F 140 0 [some (.ref 0), some (.int x)] [] (81, pt_G, I, L)) (fun I L => (F 1323 0 [some (.ref 49), some (.int x)] [] (81, pt_G, I, L))) := by
  have W := Z.1
  have hP := W.P
  have hE := ev_lt W
  have hc := Z.2.1
  have hc1 := hc.1
  have H := X.H
  have M := Y.H
  have k0 := X.2
  have nm := Y.2.2.2.2.1
  cases hv : vP (h 0 0) x with
  | false =>
    exact NXT.same Z X Y (x := -1000000) (by
      rw [e140_0 hF, c_hasParty hF W H]
      simp (disch := omega) only [pm_k_i, Option.toList_some, Option.toList_none, List.cons_append, List.nil_append, cond_true, cond_false, ↓reduceIte, reduceCtorEq, z_1, nI_add, z_cl, z_ib, z_lt, z_le, z_eq, z_eq0, z_le0, z_lt0, z_b0, z_b1, z_m1, z_and7, Int32.add_zero, hv, e140_8 hF]) (by
      try dsimp only
      rw [e1323_0 hF, m_isParty hF W M]
      simp (disch := omega) only [pm_k_i, Option.toList_some, Option.toList_none, List.cons_append, List.nil_append, cond_true, cond_false, ↓reduceIte, reduceCtorEq, z_1, nI_add, z_cl, z_ib, z_lt, z_le, z_eq, z_eq0, z_le0, z_lt0, z_b0, z_b1, z_m1, z_and7, Int32.add_zero, hv, e1323_5 hF])
  | true =>
    obtain ⟨p, p0, rfl⟩ := vP_of (by omega) hv
    by_cases z : C = 0
    · exact NXT.same Z X Y (x := -1000000) (by
        rw [e140_0 hF, c_hasParty hF W H]
        simp (disch := omega) only [pm_k_i, Option.toList_some, Option.toList_none, List.cons_append, List.nil_append, cond_true, cond_false, ↓reduceIte, reduceCtorEq, z_1, nI_add, z_cl, z_ib, z_lt, z_le, z_eq, z_eq0, z_le0, z_lt0, z_b0, z_b1, z_m1, z_and7, Int32.add_zero, hv, e140_8 hF, k0.2.2.2.2.1, z]) (by
        try dsimp only
        rw [e1323_0 hF, m_isParty hF W M]
        simp (disch := omega) only [pm_k_i, Option.toList_some, Option.toList_none, List.cons_append, List.nil_append, cond_true, cond_false, ↓reduceIte, reduceCtorEq, z_1, nI_add, z_cl, z_ib, z_lt, z_le, z_eq, z_eq0, z_le0, z_lt0, z_b0, z_b1, z_m1, z_and7, Int32.add_zero, hv, e1323_5 hF, ib16, cl0, nm.1, z])
    · have k := (hc.2 z).1
      exact NXT.same Z X Y (x := pnw h C w p) (by
        rw [e140_0 hF, c_hasParty hF W H]
        simp (disch := omega) only [pm_k_i, Option.toList_some, Option.toList_none, List.cons_append, List.nil_append, cond_true, cond_false, ↓reduceIte, reduceCtorEq, z_1, nI_add, z_cl, z_ib, z_lt, z_le, z_eq, z_eq0, z_le0, z_lt0, z_b0, z_b1, z_m1, z_and7, Int32.add_zero, hv, e140_8 hF, k0.2.2.2.2.1, z, c_payNow hF W H k0.2.2.2.2.1 (show C < 128 by omega) k (k0.2.2.2.2.2.1 z) p0, e140_32 hF]) (by
        try dsimp only
        rw [e1323_0 hF, m_isParty hF W M]
        simp (disch := omega) only [pm_k_i, Option.toList_some, Option.toList_none, List.cons_append, List.nil_append, cond_true, cond_false, ↓reduceIte, reduceCtorEq, z_1, nI_add, z_cl, z_ib, z_lt, z_le, z_eq, z_eq0, z_le0, z_lt0, z_b0, z_b1, z_m1, z_and7, Int32.add_zero, hv, e1323_5 hF, ib16, cl0, nm.1, z, m_paysNow hF W M (Nat.pos_of_ne_zero z) hc.1 k nm p0, e1323_22 hF])
theorem s_above (hF : pm_fix pt_me pt_Sg (pt_R L0 xs) F) (Z : GS h n b C w a sn) (X : K1 q h n b fa pl C w a sn I L) (Y : K2 h n b fa pl C w a sn I) : NXT q (F 144 0 [some (.ref 0)] [] (81, pt_G, I, L)) (fun I L => (F 1328 0 [some (.ref 49)] [] (81, pt_G, I, L))) := by
  have W := Z.1
  have hE := ev_lt W
  have hc1 := Z.2.1.1
  have H := X.H
  have M := Y.H
  have k0 := X.2
  have nm := Y.2.2.2.2.1
  by_cases z : C = 0
  · exact NXT.same Z X Y (x := -1000000) (by
      rw [e144_0 hF, k0.2.2.2.2.1, z, if_pos (show nI 0 = 0 from rfl)]) (by
      try dsimp only
      rw [e1328_0 hF]
      simp (disch := omega) only [pm_k_i, Option.toList_some, Option.toList_none, List.cons_append, List.nil_append, cond_true, cond_false, ↓reduceIte, reduceCtorEq, z_1, nI_add, z_cl, z_ib, z_lt, z_le, z_eq, z_eq0, z_le0, z_lt0, z_b0, z_b1, z_m1, z_and7, Int32.add_zero, ib16, cl0, nm.1, z])
  · exact NXT.same Z X Y (x := nI (sIn h C) - nI (need h)) (by
      rw [e144_0 hF, k0.2.2.2.2.1]
      simp (disch := omega) only [pm_k_i, Option.toList_some, Option.toList_none, List.cons_append, List.nil_append, cond_true, cond_false, ↓reduceIte, reduceCtorEq, z_1, nI_add, z_cl, z_ib, z_lt, z_le, z_eq, z_eq0, z_le0, z_lt0, z_b0, z_b1, z_m1, z_and7, Int32.add_zero, z, c_seatsIn hF W H (show C < 128 by omega), e144_27 hF, c_needNow hF W H, e144_34 hF]) (by
      try dsimp only
      rw [e1328_0 hF]
      simp (disch := omega) only [pm_k_i, Option.toList_some, Option.toList_none, List.cons_append, List.nil_append, cond_true, cond_false, ↓reduceIte, reduceCtorEq, z_1, nI_add, z_cl, z_ib, z_lt, z_le, z_eq, z_eq0, z_le0, z_lt0, z_b0, z_b1, z_m1, z_and7, Int32.add_zero, ib16, cl0, nm.1, z, m_seatsIn hF W M, e1328_25 hF, m_need hF W M, e1328_29 hF])
theorem K0.tape {n' : Nat} {b' : Nat → Nat} (X : K0 h n b fa pl C w a sn I L) (T : TC n' b' I') (f : ∀ r k, r = 10 ∨ (44 ≤ r ∧ r ≤ 48) → I' r k = I r k) : K0 h n' b' fa pl C w a sn I' L := by
  obtain ⟨x1, x2, x3, x4, x5, x6, x7⟩ := X
  exact ⟨T, x2, by rw [f 10 8 (by omega)]; exact x3, by rw [f 10 9 (by omega)]; exact x4, by rw [f 44 5 (by omega)]; exact x5, fun z => by rw [f 44 6 (by omega)]; exact x6 z, x7.of (f 44 7 (by omega)) (fun r j p q => f r j (by omega))⟩
theorem CX.fr1 (X : CX h e v I L) (f : ∀ r k, (r = 1 → k ≠ 1) → r ≠ 2 → I' r k = I r k) : CX h e v I' L := by
  have g : LO (fun r k => if r = 1 ∨ r = 2 then I' r k else I r k) I' := fun r k _ => by
    by_cases c : r = 1 ∨ r = 2
    · exact (if_pos c).symm
    · exact (f r k (by omega) (by omega)).trans (if_neg c).symm
  exact (show CX h e v (fun r k => if r = 1 ∨ r = 2 then I' r k else I r k) L from X).lo g (fun _ _ _ => rfl)
theorem K1.tape {n' : Nat} {b' : Nat → Nat} (X : K1 q h n b fa pl C w a sn I L) (T : TC n' b' I') (f : ∀ r k, (r = 1 → k ≠ 1) → r ≠ 2 → I' r k = I r k) : K1 q h n' b' fa pl C w a sn I' L := by
  obtain ⟨⟨e, v, e1, v1, cx, fo⟩, k0⟩ := X
  exact ⟨⟨e, v, e1, v1, cx.fr1 f, fo.of (fun r k p q => f r k (by omega) (by omega))⟩, k0.tape T (fun r k p => f r k (by omega) (by omega))⟩
theorem K2.tape {n' : Nat} {b' : Nat → Nat} (X : K2 h n b fa pl C w a sn I) (W : WF h) (T : TM n' b' I') (f : ∀ r k, (r = 49 → k ≠ 1) → r ≠ 50 → I' r k = I r k) : K2 h n' b' fa pl C w a sn I' := by
  obtain ⟨⟨x0, x1⟩, x2, x3, x4, x5, x6⟩ := X
  refine ⟨⟨x0.of (fun k _ _ => f 49 k (by omega) (by omega)) (fun r p q k => f r k (by omega) (by omega)) (fun k _ => f 64 k (by omega) (by omega)), ?_⟩, T, by rw [f 49 10 (by omega) (by omega)]; exact x3, by rw [f 49 11 (by omega) (by omega)]; exact x4, x5.of (fun k _ => f 64 k (by omega) (by omega)) W, x6.of (f 49 45 (by omega) (by omega)) (fun j => f 65 j (by omega) (by omega))⟩
  rw [f 49 57 (by omega) (by omega)]
  rcases x1 with x1 | ⟨x1, y1, y2⟩
  · exact Or.inl x1
  · exact Or.inr ⟨x1, y1.of (fun r k p => f r k (by omega) (by omega)), fun c c0 c1 => by rw [f 75 c (by omega) (by omega)]; exact y2 c c0 c1⟩
theorem put4_lt {x : Int32} (hb : ∀ i, b i < 256) : ∀ i, put4 b n x i < 256 := by
  have u : ∀ (f : Nat → Nat) k s, (∀ i, f i < 256) → ∀ i, up f k (byt x s) i < 256 := fun f k s hf i => by
    unfold up
    split
    · exact byt_lt x s
    · exact hf i
  exact u _ _ _ (u _ _ _ (u _ _ _ (u _ _ _ hb)))
theorem s_feed (hF : pm_fix pt_me pt_Sg (pt_R L0 xs) F) (Z : GS h n b C w a sn) (X : K1 q h n b fa pl C w a sn I L) (Y : K2 h n b fa pl C w a sn I) (x1 x2 x3 x4 x5 : Int32) : NXT q (F 102 0 [some (.ref 0), some (.int x1), some (.int x2), some (.int x3), some (.int x4), some (.int x5)] [] (81, pt_G, I, L)) (fun I L => (F 1207 0 [some (.ref 49), some (.int x1), some (.int x2), some (.int x3), some (.int x4), some (.int x5)] [] (81, pt_G, I, L))) := by
  have W := Z.1
  have T := X.2.1
  have U := Y.2.1
  have hn := T.2.1
  by_cases c : n + 20 ≤ 900
  · obtain ⟨A1, a1, p1, T1⟩ := c_append (L := L) hF T (by omega) x1
    obtain ⟨A2, a2, p2, T2⟩ := c_append (L := L) hF T1 (by omega) x2
    obtain ⟨A3, a3, p3, T3⟩ := c_append (L := L) hF T2 (by omega) x3
    obtain ⟨A4, a4, p4, T4⟩ := c_append (L := L) hF T3 (by omega) x4
    obtain ⟨A5, a5, p5, T5⟩ := c_append (L := L) hF T4 (by omega) x5
    have pf : ∀ r k, (r = 1 → k ≠ 1) → r ≠ 2 → A5 r k = I r k := fun r k g1 g2 => by rw [p5 r k g1 g2, p4 r k g1 g2, p3 r k g1 g2, p2 r k g1 g2, p1 r k g1 g2]
    have XA := X.tape T5 pf
    have YA := Y.hi W (fun r k hr => pf r k (by omega) (by omega))
    obtain ⟨B1, b1, q1, U1⟩ := m_four (L := L) hF YA.2.1 (by omega) x1
    obtain ⟨B2, b2, q2, U2⟩ := m_four (L := L) hF U1 (by omega) x2
    obtain ⟨B3, b3, q3, U3⟩ := m_four (L := L) hF U2 (by omega) x3
    obtain ⟨B4, b4, q4, U4⟩ := m_four (L := L) hF U3 (by omega) x4
    obtain ⟨B5, b5, q5, U5⟩ := m_four (L := L) hF U4 (by omega) x5
    have qf : ∀ r k, (r = 49 → k ≠ 1) → r ≠ 50 → B5 r k = A5 r k := fun r k g1 g2 => by rw [q5 r k g1 g2, q4 r k g1 g2, q3 r k g1 g2, q2 r k g1 g2, q1 r k g1 g2]
    have YB := YA.tape W U5 qf
    obtain ⟨z1, z2, z3, z4, z5, z6⟩ := Z
    refine NXT.mk (x := nI (n + 4 + 4 + 4 + 4 + 4)) (I1 := A5) (L1 := L) ?_ ?_ ⟨z1, z2, z3, z4, by omega, put4_lt (put4_lt (put4_lt (put4_lt (put4_lt z6))))⟩ (XA.lo (fun r k hr => qf r k (by omega) (by omega)) (fun _ _ _ => rfl)) YB
    · rw [e102_0 hF, c_length hF T]
      rw [show (∀ S : pm_S, ∀ k : Option Value → pm_S → pm_R, pm_k (some (some (.int (nI n)), S)) k = k (some (.int (nI n))) S) from fun _ _ => rfl]
      show F 102 7 _ ([.int (nI n)] ++ []) _ = _
      rw [show ([Value.int (nI n)] ++ [] : List Value) = [.int (nI n)] from rfl, e102_7 hF, show (20 : Int32) = nI 20 from rfl, show (900 : Int32) = nI 900 from rfl, nI_add]
      simp (disch := omega) only [pm_k_i, Option.toList_some, Option.toList_none, List.cons_append, List.nil_append, cond_true, cond_false, ↓reduceIte, reduceCtorEq, z_1, nI_add, z_cl, z_ib, z_lt, z_le, z_eq, z_eq0, z_le0, z_lt0, z_b0, z_b1, z_m1, z_and7, Int32.add_zero, c, a1, e102_26 hF, a2, e102_34 hF, a3, e102_42 hF, a4, e102_51 hF, a5, e102_60 hF, c_length hF T5, e102_67 hF]
    · try dsimp only
      rw [e1207_0 hF, YA.2.1.1, show (20 : Int32) = nI 20 from rfl, show (900 : Int32) = nI 900 from rfl, nI_add]
      simp (disch := omega) only [pm_k_i, Option.toList_some, Option.toList_none, List.cons_append, List.nil_append, cond_true, cond_false, ↓reduceIte, reduceCtorEq, z_1, nI_add, z_cl, z_ib, z_lt, z_le, z_eq, z_eq0, z_le0, z_lt0, z_b0, z_b1, z_m1, z_and7, Int32.add_zero, c, b1, e1207_20 hF, b2, e1207_25 hF, b3, e1207_30 hF, b4, e1207_36 hF, b5, e1207_42 hF, U5.1]
  · refine NXT.same Z X Y (x := -1) ?_ ?_
    · rw [e102_0 hF, c_length hF T]
      show F 102 7 _ ([.int (nI n)] ++ []) _ = _
      rw [show ([Value.int (nI n)] ++ [] : List Value) = [.int (nI n)] from rfl, e102_7 hF, show (20 : Int32) = nI 20 from rfl, show (900 : Int32) = nI 900 from rfl, nI_add]
      simp (disch := omega) only [pm_k_i, Option.toList_some, Option.toList_none, List.cons_append, List.nil_append, cond_true, cond_false, ↓reduceIte, reduceCtorEq, z_1, nI_add, z_cl, z_ib, z_lt, z_le, z_eq, z_eq0, z_le0, z_lt0, z_b0, z_b1, z_m1, z_and7, Int32.add_zero, c]
    · try dsimp only
      rw [e1207_0 hF, U.1, show (20 : Int32) = nI 20 from rfl, show (900 : Int32) = nI 900 from rfl, nI_add]
      simp (disch := omega) only [pm_k_i, Option.toList_some, Option.toList_none, List.cons_append, List.nil_append, cond_true, cond_false, ↓reduceIte, reduceCtorEq, z_1, nI_add, z_cl, z_ib, z_lt, z_le, z_eq, z_eq0, z_le0, z_lt0, z_b0, z_b1, z_m1, z_and7, Int32.add_zero, c]
theorem s_end (hF : pm_fix pt_me pt_Sg (pt_R L0 xs) F) (Z : GS h n b C w a sn) (X : K1 q h n b fa pl C w a sn I L) (Y : K2 h n b fa pl C w a sn I) (x : Int32) : NXT q (F 103 0 [some (.ref 0), some (.int x)] [] (81, pt_G, I, L)) (fun I L => (F 1209 0 [some (.ref 49), some (.int x)] [] (81, pt_G, I, L))) := by
  have W := Z.1
  have T := X.2.1
  have U := Y.2.1
  have hn := T.2.1
  have gd : ∀ A B : pm_R, (if x < 0 then A else if x ≤ nI n then B else A) = bif vP (n + 1) x then B else A := by
    intro A B
    simp only [z_lti, z_lei, i0, nI_toInt (show n < 2147483648 by omega)]
    unfold vP
    by_cases c : x.toInt < 0
    · rw [if_pos c, decide_eq_false (by omega)]; rfl
    · rw [if_neg c]
      by_cases d : x.toInt ≤ (n : Int)
      · rw [if_pos d, decide_eq_true (by omega)]; rfl
      · rw [if_neg d, decide_eq_false (by omega)]; rfl
  have mg : decide (0 ≤ x.toInt ∧ x.toInt ≤ (nI n).toInt) = vP (n + 1) x := by
    rw [nI_toInt (by omega)]
    exact decide_eq_decide.mpr (by omega)
  have mi := m_isIn0 (I := I) (L := L) hF x (nI n)
  rw [mg] at mi
  cases hv : vP (n + 1) x with
  | false =>
    rw [hv] at mi
    refine NXT.same Z X Y (x := -1) ?_ ?_
    · rw [e103_0 hF, c_length hF T]
      simp (disch := omega) only [pm_k_i, Option.toList_some, Option.toList_none, List.cons_append, List.nil_append, cond_true, cond_false, ↓reduceIte, reduceCtorEq, z_1, nI_add, z_cl, z_ib, z_lt, z_le, z_eq, z_eq0, z_le0, z_lt0, z_b0, z_b1, z_m1, z_and7, Int32.add_zero, e103_12 hF]
      rw [gd, hv]
      rfl
    · try dsimp only
      rw [e1209_0 hF, U.1, mi]
      simp (disch := omega) only [pm_k_i, Option.toList_some, Option.toList_none, List.cons_append, List.nil_append, cond_true, cond_false, ↓reduceIte, reduceCtorEq, z_1, nI_add, z_cl, z_ib, z_lt, z_le, z_eq, z_eq0, z_le0, z_lt0, z_b0, z_b1, z_m1, z_and7, Int32.add_zero, e1209_11 hF]
  | true =>
    obtain ⟨k, kl, rfl⟩ := vP_of (by omega) hv
    obtain ⟨c1, c2⟩ := c_cutTo (L := L) hF T (show k ≤ n by omega)
    have pf : ∀ r j, (r = 1 → j ≠ 1) → r ≠ 2 → pm_ui I 1 1 (nI k) r j = I r j := fun r j g1 g2 => by
      by_cases z : r = 1
      · rw [z, z_uk (g1 z)]
      · rw [z_ur z]
    have XA := X.tape c2 pf
    have YA := Y.hi W (fun r j hr => pf r j (by omega) (by omega))
    have qf : ∀ r j, (r = 49 → j ≠ 1) → r ≠ 50 → pm_ui (pm_ui I 1 1 (nI k)) 49 1 (nI k) r j = pm_ui I 1 1 (nI k) r j := fun r j g1 g2 => by
      by_cases z : r = 49
      · rw [z, z_uk (g1 z)]
      · rw [z_ur z]
    have YB := YA.tape W (n' := k) (b' := b) (I' := pm_ui (pm_ui I 1 1 (nI k)) 49 1 (nI k)) ⟨by rw [z_ue], by omega, fun i hi => by rw [z_ur (by omega)]; exact YA.2.1.2.2 i (by omega)⟩ qf
    obtain ⟨z1, z2, z3, z4, z5, z6⟩ := Z
    refine NXT.mk (x := nI k) (I1 := pm_ui I 1 1 (nI k)) (L1 := L) ?_ ?_ ⟨z1, z2, z3, z4, by omega, z6⟩ (XA.lo (fun r j hr => qf r j (by omega) (by omega)) (fun _ _ _ => rfl)) YB
    · rw [e103_0 hF, c_length hF T]
      simp (disch := omega) only [pm_k_i, Option.toList_some, Option.toList_none, List.cons_append, List.nil_append, cond_true, cond_false, ↓reduceIte, reduceCtorEq, z_1, nI_add, z_cl, z_ib, z_lt, z_le, z_eq, z_eq0, z_le0, z_lt0, z_b0, z_b1, z_m1, z_and7, Int32.add_zero, e103_12 hF, show (k ≤ n) = True from propext ⟨fun _ => trivial, fun _ => by omega⟩, c1, e103_25 hF]
    · have mi := m_isIn0 (I := pm_ui I 1 1 (nI k)) (L := L) hF (nI k) (nI n)
      rw [mg, hv] at mi
      try dsimp only
      rw [e1209_0 hF, YA.2.1.1, mi]
      simp (disch := omega) only [pm_k_i, Option.toList_some, Option.toList_none, List.cons_append, List.nil_append, cond_true, cond_false, ↓reduceIte, reduceCtorEq, z_1, nI_add, z_cl, z_ib, z_lt, z_le, z_eq, z_eq0, z_le0, z_lt0, z_b0, z_b1, z_m1, z_and7, Int32.add_zero, e1209_11 hF]
      try rw [if_neg (show ¬ nI true.toNat = 0 from by decide)]
end
