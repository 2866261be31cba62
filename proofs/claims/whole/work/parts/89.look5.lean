/-! ===== one call: coalitions ===== -/
section
variable {h : Nat → Nat → Nat} {I I' : Nat → Nat → Int32} {L L' : Nat → Nat → Int64}
variable {q n C a : Nat} {b w : Nat → Nat} {fa pl : Int32} {sn : Nat → SN} {e v : Nat}
variable {F : pm_F} {L0 : Nat} {xs : Nat → Int32}
theorem FX.s (f : ∀ r k, r ≠ 38 → r ≠ 39 → r ≠ 40 → I' r k = I r k) : FX I I' L L := ⟨fun r k hx => f r k (fun z => hx (by unfold xc; omega)) (fun z => hx (by unfold xc; omega)) (fun z => hx (by unfold xc; omega)), fun _ _ _ => rfl⟩
theorem m_all_k (hF : pm_fix pt_me pt_Sg (pt_R L0 xs) F) (W : WF h) (Y : K2 h n b fa pl C w a sn I) : ∃ B, (F 1283 0 [some (.ref 49), none, none, none] [] (81, pt_G, I, L)) = some (none, (81, pt_G, B, L)) ∧ K2 h n b fa pl C w a sn B ∧ LY h B ∧ LO I B := by
  obtain ⟨B, b1, b2, b3, b4, b5⟩ := m_laysAll (L := L) hF W Y.1
  exact ⟨B, b1, Y.fm W b2 b3, b4, b2.lo⟩
theorem K1.back (X : K1 q h n b fa pl C w a sn I L) (f : LO I I') : K1 q h n b fa pl C w a sn I' L := X.lo f (fun _ _ _ => rfl)
theorem FR.rf (X : FR h e v I L) : CX h e v I L := X.1
theorem s_kind (hF : pm_fix pt_me pt_Sg (pt_R L0 xs) F) (Z : GS h n b C w a sn) (X : K1 q h n b fa pl C w a sn I L) (Y : K2 h n b fa pl C w a sn I) (x : Int32) : NXT q (F 121 0 [some (.ref 0), some (.int x)] [] (81, pt_G, I, L)) (fun I L => (F 1293 0 [some (.ref 49), some (.int x)] [] (81, pt_G, I, L))) := by
  have W := Z.1
  have hP := W.P
  have hO := W.O
  have hE := ev_lt W
  have H := X.H
  have M := Y.H
  cases hv : vC h x with
  | false =>
    exact NXT.same Z X Y (x := -1) (by
      rw [e121_0 hF, c_hasCoalition hF W H]
      simp (disch := omega) only [pm_k_i, Option.toList_some, Option.toList_none, List.cons_append, List.nil_append, cond_true, cond_false, ↓reduceIte, reduceCtorEq, z_1, nI_add, z_cl, z_ib, z_lt, z_le, z_eq, z_eq0, z_le0, z_lt0, z_b0, z_b1, z_m1, z_and7, Int32.add_zero, hv, e121_8 hF]) (by
      try dsimp only
      rw [e1293_0 hF, m_isCoalition hF W M]
      simp (disch := omega) only [pm_k_i, Option.toList_some, Option.toList_none, List.cons_append, List.nil_append, cond_true, cond_false, ↓reduceIte, reduceCtorEq, z_1, nI_add, z_cl, z_ib, z_lt, z_le, z_eq, z_eq0, z_le0, z_lt0, z_b0, z_b1, z_m1, z_and7, Int32.add_zero, hv, e1293_5 hF])
  | true =>
    obtain ⟨c, c0, cl, rfl⟩ := vC_of W hv
    obtain ⟨⟨e, v, e1, v1, cx, fo⟩, k0⟩ := X
    obtain ⟨A, K, a1, a2, a3, a4, a5⟩ := c_learnAll hF W cx
    obtain ⟨A', d1, d2, d3⟩ := c_kindOf hF W a3 a4 c0 cl
    have fx := a2.tr (FX.s (L := K) (fun r k z _ _ => d2 r k z))
    have XA : K1 q h n b fa pl C w a sn A' K := K1.fx e1 v1 d3.1 fo k0 fx
    have YA := Y.hi W fx.hi
    obtain ⟨B, b1, YB, ly, lo⟩ := m_all_k (L := K) hF W YA
    refine NXT.mk (x := nI (kin h c)) (I1 := A') (L1 := K) ?_ ?_ Z (XA.back lo) YB
    · rw [e121_0 hF, c_hasCoalition hF W H]
      simp (disch := omega) only [pm_k_i, Option.toList_some, Option.toList_none, List.cons_append, List.nil_append, cond_true, cond_false, ↓reduceIte, reduceCtorEq, z_1, nI_add, z_cl, z_ib, z_lt, z_le, z_eq, z_eq0, z_le0, z_lt0, z_b0, z_b1, z_m1, z_and7, Int32.add_zero, hv, e121_8 hF, a1, e121_20 hF, d1, e121_28 hF]
    · try dsimp only
      rw [e1293_0 hF, m_isCoalition hF W YA.H]
      simp (disch := omega) only [pm_k_i, Option.toList_some, Option.toList_none, List.cons_append, List.nil_append, cond_true, cond_false, ↓reduceIte, reduceCtorEq, z_1, nI_add, z_cl, z_ib, z_lt, z_le, z_eq, z_eq0, z_le0, z_lt0, z_b0, z_b1, z_m1, z_and7, Int32.add_zero, hv, e1293_5 hF, b1, e1293_14 hF, m_kindOf hF W YB.H ly c0 cl, e1293_19 hF]
theorem s_rival (hF : pm_fix pt_me pt_Sg (pt_R L0 xs) F) (Z : GS h n b C w a sn) (X : K1 q h n b fa pl C w a sn I L) (Y : K2 h n b fa pl C w a sn I) (x : Int32) : NXT q (F 124 0 [some (.ref 0), some (.int x)] [] (81, pt_G, I, L)) (fun I L => (F 1296 0 [some (.ref 49), some (.int x)] [] (81, pt_G, I, L))) := by
  have W := Z.1
  have hP := W.P
  have hO := W.O
  have hE := ev_lt W
  have H := X.H
  have M := Y.H
  cases hv : vC h x with
  | false =>
    exact NXT.same Z X Y (x := -1) (by
      rw [e124_0 hF, c_hasCoalition hF W H]
      simp (disch := omega) only [pm_k_i, Option.toList_some, Option.toList_none, List.cons_append, List.nil_append, cond_true, cond_false, ↓reduceIte, reduceCtorEq, z_1, nI_add, z_cl, z_ib, z_lt, z_le, z_eq, z_eq0, z_le0, z_lt0, z_b0, z_b1, z_m1, z_and7, Int32.add_zero, hv, e124_8 hF]) (by
      try dsimp only
      rw [e1296_0 hF, m_isCoalition hF W M]
      simp (disch := omega) only [pm_k_i, Option.toList_some, Option.toList_none, List.cons_append, List.nil_append, cond_true, cond_false, ↓reduceIte, reduceCtorEq, z_1, nI_add, z_cl, z_ib, z_lt, z_le, z_eq, z_eq0, z_le0, z_lt0, z_b0, z_b1, z_m1, z_and7, Int32.add_zero, hv, e1296_5 hF])
  | true =>
    obtain ⟨c, c0, cl, rfl⟩ := vC_of W hv
    obtain ⟨⟨e, v, e1, v1, cx, fo⟩, k0⟩ := X
    obtain ⟨A0, K0', l1, l2, l3, l4, l5⟩ := c_learn hF W cx c0 cl
    obtain ⟨A, K, a1, a2, a3, a4, a5⟩ := c_learnAll hF W l3.1
    have c33 := a5 l3.2 c c0 cl l4
    obtain ⟨A', d1, d2, d3⟩ := c_rivalOf hF W a3 a4 c0 cl c33
    have fx := (l2.tr a2).tr (FX.s (L := K) (fun r k z _ _ => d2 r k z))
    have XA : K1 q h n b fa pl C w a sn A' K := K1.fx e1 v1 d3.1 fo k0 fx
    have YA := Y.hi W fx.hi
    obtain ⟨B, b1, YB, ly, lo⟩ := m_all_k (L := K) hF W YA
    refine NXT.mk (x := nI (rvl h c)) (I1 := A') (L1 := K) ?_ ?_ Z (XA.back lo) YB
    · rw [e124_0 hF, c_hasCoalition hF W H]
      simp (disch := omega) only [pm_k_i, Option.toList_some, Option.toList_none, List.cons_append, List.nil_append, cond_true, cond_false, ↓reduceIte, reduceCtorEq, z_1, nI_add, z_cl, z_ib, z_lt, z_le, z_eq, z_eq0, z_le0, z_lt0, z_b0, z_b1, z_m1, z_and7, Int32.add_zero, hv, e124_8 hF, l1, e124_21 hF, a1, e124_28 hF, d1, e124_36 hF]
    · try dsimp only
      rw [e1296_0 hF, m_isCoalition hF W YA.H]
      simp (disch := omega) only [pm_k_i, Option.toList_some, Option.toList_none, List.cons_append, List.nil_append, cond_true, cond_false, ↓reduceIte, reduceCtorEq, z_1, nI_add, z_cl, z_ib, z_lt, z_le, z_eq, z_eq0, z_le0, z_lt0, z_b0, z_b1, z_m1, z_and7, Int32.add_zero, hv, e1296_5 hF, b1, e1296_14 hF, ly.2 c c0 cl]
theorem s_joins (hF : pm_fix pt_me pt_Sg (pt_R L0 xs) F) (Z : GS h n b C w a sn) (X : K1 q h n b fa pl C w a sn I L) (Y : K2 h n b fa pl C w a sn I) (x : Int32) : NXT q (F 132 0 [some (.ref 0), some (.int x)] [] (81, pt_G, I, L)) (fun I L => (F 1307 0 [some (.ref 49), some (.int x), none, none] [] (81, pt_G, I, L))) := by
  have W := Z.1
  have hP := W.P
  have hO := W.O
  have hE := ev_lt W
  have H := X.H
  have M := Y.H
  cases hv : vC h x with
  | false =>
    exact NXT.same Z X Y (x := -1) (by
      rw [e132_0 hF, c_hasCoalition hF W H]
      simp (disch := omega) only [pm_k_i, Option.toList_some, Option.toList_none, List.cons_append, List.nil_append, cond_true, cond_false, ↓reduceIte, reduceCtorEq, z_1, nI_add, z_cl, z_ib, z_lt, z_le, z_eq, z_eq0, z_le0, z_lt0, z_b0, z_b1, z_m1, z_and7, Int32.add_zero, hv, e132_8 hF]) (by
      try dsimp only
      rw [e1307_0 hF, m_isCoalition hF W M]
      simp (disch := omega) only [pm_k_i, Option.toList_some, Option.toList_none, List.cons_append, List.nil_append, cond_true, cond_false, ↓reduceIte, reduceCtorEq, z_1, nI_add, z_cl, z_ib, z_lt, z_le, z_eq, z_eq0, z_le0, z_lt0, z_b0, z_b1, z_m1, z_and7, Int32.add_zero, hv, e1307_5 hF])
  | true =>
    obtain ⟨c, c0, cl, rfl⟩ := vC_of W hv
    obtain ⟨⟨e, v, e1, v1, cx, fo⟩, k0⟩ := X
    obtain ⟨A, a1, a2, a3, a4, a5⟩ := c_freshen hF W cx
    have XA : K1 q h n b fa pl C w a sn A L := K1.fx e1 v1 a3 fo k0 a2
    have YA := Y.hi W a2.hi
    refine NXT.mk (x := bif can h c then 0 else oI (joi h c)) (I1 := A) (L1 := L) ?_ ?_ Z XA YA
    · rw [e132_0 hF, c_hasCoalition hF W H]
      simp (disch := omega) only [pm_k_i, Option.toList_some, Option.toList_none, List.cons_append, List.nil_append, cond_true, cond_false, ↓reduceIte, reduceCtorEq, z_1, nI_add, z_cl, z_ib, z_lt, z_le, z_eq, z_eq0, z_le0, z_lt0, z_b0, z_b1, z_m1, z_and7, Int32.add_zero, hv, e132_8 hF, a1, e132_20 hF, c_fewestToJoin hF W a3.1 (a3.ct a4).2 cl, e132_28 hF]
    · try dsimp only
      rw [e1307_0 hF, m_isCoalition hF W YA.H]
      simp (disch := omega) only [pm_k_i, Option.toList_some, Option.toList_none, List.cons_append, List.nil_append, cond_true, cond_false, ↓reduceIte, reduceCtorEq, z_1, nI_add, z_cl, z_ib, z_lt, z_le, z_eq, z_eq0, z_le0, z_lt0, z_b0, z_b1, z_m1, z_and7, Int32.add_zero, hv, e1307_5 hF]
      try rw [if_neg (show ¬ nI 1 = 0 from by decide)]
      exact m_joins_run hF W YA.H cl
theorem s_needed (hF : pm_fix pt_me pt_Sg (pt_R L0 xs) F) (Z : GS h n b C w a sn) (X : K1 q h n b fa pl C w a sn I L) (Y : K2 h n b fa pl C w a sn I) (x : Int32) : NXT q (F 130 0 [some (.ref 0), some (.int x)] [] (81, pt_G, I, L)) (fun I L => (F 1304 0 [some (.ref 49), some (.int x), none, none] [] (81, pt_G, I, L))) := by
  have W := Z.1
  have hP := W.P
  have hO := W.O
  have hE := ev_lt W
  have H := X.H
  have M := Y.H
  cases hv : vP (h 0 0) x with
  | false =>
    exact NXT.same Z X Y (x := -1) (by
      rw [e130_0 hF, c_hasParty hF W H]
      simp (disch := omega) only [pm_k_i, Option.toList_some, Option.toList_none, List.cons_append, List.nil_append, cond_true, cond_false, ↓reduceIte, reduceCtorEq, z_1, nI_add, z_cl, z_ib, z_lt, z_le, z_eq, z_eq0, z_le0, z_lt0, z_b0, z_b1, z_m1, z_and7, Int32.add_zero, hv, e130_8 hF]) (by
      try dsimp only
      rw [e1304_0 hF, m_isParty hF W M]
      simp (disch := omega) only [pm_k_i, Option.toList_some, Option.toList_none, List.cons_append, List.nil_append, cond_true, cond_false, ↓reduceIte, reduceCtorEq, z_1, nI_add, z_cl, z_ib, z_lt, z_le, z_eq, z_eq0, z_le0, z_lt0, z_b0, z_b1, z_m1, z_and7, Int32.add_zero, hv, e1304_5 hF])
  | true =>
    obtain ⟨c, cl, rfl⟩ := vP_of (by omega) hv
    obtain ⟨⟨e, v, e1, v1, cx, fo⟩, k0⟩ := X
    obtain ⟨A, a1, a2, a3, a4, a5⟩ := c_freshen hF W cx
    have XA : K1 q h n b fa pl C w a sn A L := K1.fx e1 v1 a3 fo k0 a2
    have YA := Y.hi W a2.hi
    refine NXT.mk (x := nI (cntP h (np h c))) (I1 := A) (L1 := L) ?_ ?_ Z XA YA
    · rw [e130_0 hF, c_hasParty hF W H]
      simp (disch := omega) only [pm_k_i, Option.toList_some, Option.toList_none, List.cons_append, List.nil_append, cond_true, cond_false, ↓reduceIte, reduceCtorEq, z_1, nI_add, z_cl, z_ib, z_lt, z_le, z_eq, z_eq0, z_le0, z_lt0, z_b0, z_b1, z_m1, z_and7, Int32.add_zero, hv, e130_8 hF, a1, e130_20 hF, c_countNeeding hF W a3.1 (a3.ct a4).2 cl, e130_28 hF]
    · try dsimp only
      rw [e1304_0 hF, m_isParty hF W YA.H]
      simp (disch := omega) only [pm_k_i, Option.toList_some, Option.toList_none, List.cons_append, List.nil_append, cond_true, cond_false, ↓reduceIte, reduceCtorEq, z_1, nI_add, z_cl, z_ib, z_lt, z_le, z_eq, z_eq0, z_le0, z_lt0, z_b0, z_b1, z_m1, z_and7, Int32.add_zero, hv, e1304_5 hF]
      try rw [if_neg (show ¬ nI 1 = 0 from by decide)]
      exact m_needed_run hF W YA.H cl
theorem s_pivot (hF : pm_fix pt_me pt_Sg (pt_R L0 xs) F) (Z : GS h n b C w a sn) (X : K1 q h n b fa pl C w a sn I L) (Y : K2 h n b fa pl C w a sn I) (x : Int32) : NXT q (F 131 0 [some (.ref 0), some (.int x)] [] (81, pt_G, I, L)) (fun I L => (F 1306 0 [some (.ref 49), some (.int x), none, none] [] (81, pt_G, I, L))) := by
  have W := Z.1
  have hP := W.P
  have hO := W.O
  have hE := ev_lt W
  have H := X.H
  have M := Y.H
  cases hv : vP (h 0 0) x with
  | false =>
    exact NXT.same Z X Y (x := -1) (by
      rw [e131_0 hF, c_hasParty hF W H]
      simp (disch := omega) only [pm_k_i, Option.toList_some, Option.toList_none, List.cons_append, List.nil_append, cond_true, cond_false, ↓reduceIte, reduceCtorEq, z_1, nI_add, z_cl, z_ib, z_lt, z_le, z_eq, z_eq0, z_le0, z_lt0, z_b0, z_b1, z_m1, z_and7, Int32.add_zero, hv, e131_8 hF]) (by
      try dsimp only
      rw [e1306_0 hF, m_isParty hF W M]
      simp (disch := omega) only [pm_k_i, Option.toList_some, Option.toList_none, List.cons_append, List.nil_append, cond_true, cond_false, ↓reduceIte, reduceCtorEq, z_1, nI_add, z_cl, z_ib, z_lt, z_le, z_eq, z_eq0, z_le0, z_lt0, z_b0, z_b1, z_m1, z_and7, Int32.add_zero, hv, e1306_5 hF])
  | true =>
    obtain ⟨c, cl, rfl⟩ := vP_of (by omega) hv
    obtain ⟨⟨e, v, e1, v1, cx, fo⟩, k0⟩ := X
    obtain ⟨A, a1, a2, a3, a4, a5⟩ := c_freshen hF W cx
    have XA : K1 q h n b fa pl C w a sn A L := K1.fx e1 v1 a3 fo k0 a2
    have YA := Y.hi W a2.hi
    refine NXT.mk (x := nI (pvC h c)) (I1 := A) (L1 := L) ?_ ?_ Z XA YA
    · rw [e131_0 hF, c_hasParty hF W H]
      simp (disch := omega) only [pm_k_i, Option.toList_some, Option.toList_none, List.cons_append, List.nil_append, cond_true, cond_false, ↓reduceIte, reduceCtorEq, z_1, nI_add, z_cl, z_ib, z_lt, z_le, z_eq, z_eq0, z_le0, z_lt0, z_b0, z_b1, z_m1, z_and7, Int32.add_zero, hv, e131_8 hF, a1, e131_20 hF, c_countPivots hF W a3.1 (a3.ct a4).2 cl, e131_28 hF]
    · try dsimp only
      rw [e1306_0 hF, m_isParty hF W YA.H]
      simp (disch := omega) only [pm_k_i, Option.toList_some, Option.toList_none, List.cons_append, List.nil_append, cond_true, cond_false, ↓reduceIte, reduceCtorEq, z_1, nI_add, z_cl, z_ib, z_lt, z_le, z_eq, z_eq0, z_le0, z_lt0, z_b0, z_b1, z_m1, z_and7, Int32.add_zero, hv, e1306_5 hF]
      try rw [if_neg (show ¬ nI 1 = 0 from by decide)]
      rw [pv_eq W cl]
      exact m_pivot_run hF W YA.H cl
theorem s_dream (hF : pm_fix pt_me pt_Sg (pt_R L0 xs) F) (Z : GS h n b C w a sn) (X : K1 q h n b fa pl C w a sn I L) (Y : K2 h n b fa pl C w a sn I) (x : Int32) : NXT q (F 133 0 [some (.ref 0), some (.int x)] [] (81, pt_G, I, L)) (fun I L => (F 1308 0 [some (.ref 49), some (.int x), none, none] [] (81, pt_G, I, L))) := by
  have W := Z.1
  have hP := W.P
  have hO := W.O
  have hE := ev_lt W
  have H := X.H
  have M := Y.H
  cases hv : vP (h 0 0) x with
  | false =>
    exact NXT.same Z X Y (x := -1) (by
      rw [e133_0 hF, c_hasParty hF W H]
      simp (disch := omega) only [pm_k_i, Option.toList_some, Option.toList_none, List.cons_append, List.nil_append, cond_true, cond_false, ↓reduceIte, reduceCtorEq, z_1, nI_add, z_cl, z_ib, z_lt, z_le, z_eq, z_eq0, z_le0, z_lt0, z_b0, z_b1, z_m1, z_and7, Int32.add_zero, hv, e133_8 hF]) (by
      try dsimp only
      rw [e1308_0 hF, m_isParty hF W M]
      simp (disch := omega) only [pm_k_i, Option.toList_some, Option.toList_none, List.cons_append, List.nil_append, cond_true, cond_false, ↓reduceIte, reduceCtorEq, z_1, nI_add, z_cl, z_ib, z_lt, z_le, z_eq, z_eq0, z_le0, z_lt0, z_b0, z_b1, z_m1, z_and7, Int32.add_zero, hv, e1308_5 hF])
  | true =>
    obtain ⟨c, cl, rfl⟩ := vP_of (by omega) hv
    obtain ⟨⟨e, v, e1, v1, cx, fo⟩, k0⟩ := X
    obtain ⟨A, K, a1, a2, a3, a4, a5⟩ := c_learnAll hF W cx
    have XA : K1 q h n b fa pl C w a sn A K := K1.fx e1 v1 a3.1 fo k0 a2
    have YA := Y.hi W a2.hi
    obtain ⟨B, b1, YB, ly, lo⟩ := m_all_k (L := K) hF W YA
    refine NXT.mk (x := nI (drm h c)) (I1 := A) (L1 := K) ?_ ?_ Z (XA.back lo) YB
    · rw [e133_0 hF, c_hasParty hF W H]
      simp (disch := omega) only [pm_k_i, Option.toList_some, Option.toList_none, List.cons_append, List.nil_append, cond_true, cond_false, ↓reduceIte, reduceCtorEq, z_1, nI_add, z_cl, z_ib, z_lt, z_le, z_eq, z_eq0, z_le0, z_lt0, z_b0, z_b1, z_m1, z_and7, Int32.add_zero, hv, e133_8 hF, a1, e133_20 hF, c_bestPaying hF W a3 a4 cl, e133_28 hF]
    · try dsimp only
      rw [e1308_0 hF, m_isParty hF W YA.H]
      simp (disch := omega) only [pm_k_i, Option.toList_some, Option.toList_none, List.cons_append, List.nil_append, cond_true, cond_false, ↓reduceIte, reduceCtorEq, z_1, nI_add, z_cl, z_ib, z_lt, z_le, z_eq, z_eq0, z_le0, z_lt0, z_b0, z_b1, z_m1, z_and7, Int32.add_zero, hv, e1308_5 hF]
      try rw [if_neg (show ¬ nI 1 = 0 from by decide)]
      rw [b1]
      simp (disch := omega) only [pm_k_i, Option.toList_some, Option.toList_none, List.cons_append, List.nil_append, cond_true, cond_false, ↓reduceIte, reduceCtorEq, z_1, nI_add, z_cl, z_ib, z_lt, z_le, z_eq, z_eq0, z_le0, z_lt0, z_b0, z_b1, z_m1, z_and7, Int32.add_zero]
      exact m_dream_run hF W YB.H ly.1 cl
theorem s_pay (hF : pm_fix pt_me pt_Sg (pt_R L0 xs) F) (Z : GS h n b C w a sn) (X : K1 q h n b fa pl C w a sn I L) (Y : K2 h n b fa pl C w a sn I) (x y : Int32) : NXT q (F 116 0 [some (.ref 0), some (.int x), some (.int y)] [] (81, pt_G, I, L)) (fun I L => (F 1292 0 [some (.ref 49), some (.int x), some (.int y)] [] (81, pt_G, I, L))) := by
  have W := Z.1
  have hP := W.P
  have hE := ev_lt W
  have H := X.H
  have M := Y.H
  cases hv : vC h x with
  | false =>
    exact NXT.same Z X Y (x := -1000000) (by
      rw [e116_0 hF, c_hasCoalition hF W H]
      simp (disch := omega) only [pm_k_i, Option.toList_some, Option.toList_none, List.cons_append, List.nil_append, cond_true, cond_false, ↓reduceIte, reduceCtorEq, z_1, nI_add, z_cl, z_ib, z_lt, z_le, z_eq, z_eq0, z_le0, z_lt0, z_b0, z_b1, z_m1, z_and7, Int32.add_zero, hv, e116_8 hF]) (by
      try dsimp only
      rw [e1292_0 hF, m_isCoalition hF W M]
      simp (disch := omega) only [pm_k_i, Option.toList_some, Option.toList_none, List.cons_append, List.nil_append, cond_true, cond_false, ↓reduceIte, reduceCtorEq, z_1, nI_add, z_cl, z_ib, z_lt, z_le, z_eq, z_eq0, z_le0, z_lt0, z_b0, z_b1, z_m1, z_and7, Int32.add_zero, hv, e1292_5 hF])
  | true =>
    cases hu : vP (h 0 0) y with
    | false =>
      exact NXT.same Z X Y (x := -1000000) (by
        rw [e116_0 hF, c_hasCoalition hF W H]
        simp (disch := omega) only [pm_k_i, Option.toList_some, Option.toList_none, List.cons_append, List.nil_append, cond_true, cond_false, ↓reduceIte, reduceCtorEq, z_1, nI_add, z_cl, z_ib, z_lt, z_le, z_eq, z_eq0, z_le0, z_lt0, z_b0, z_b1, z_m1, z_and7, Int32.add_zero, hv, hu, e116_8 hF, c_hasParty hF W H, e116_19 hF]) (by
        try dsimp only
        rw [e1292_0 hF, m_isCoalition hF W M]
        simp (disch := omega) only [pm_k_i, Option.toList_some, Option.toList_none, List.cons_append, List.nil_append, cond_true, cond_false, ↓reduceIte, reduceCtorEq, z_1, nI_add, z_cl, z_ib, z_lt, z_le, z_eq, z_eq0, z_le0, z_lt0, z_b0, z_b1, z_m1, z_and7, Int32.add_zero, hv, hu, e1292_5 hF, m_isParty hF W M, e1292_13 hF])
    | true =>
      obtain ⟨c, c0, cl, rfl⟩ := vC_of W hv
      obtain ⟨p, p0, rfl⟩ := vP_of (by omega) hu
      obtain ⟨⟨e, v, e1, v1, cx, fo⟩, k0⟩ := X
      obtain ⟨A, K, a1, a2, a3, a4, a5⟩ := c_learn hF W cx c0 cl
      have XA : K1 q h n b fa pl C w a sn A K := K1.fx e1 v1 a3.1 fo k0 a2
      have YA := Y.hi W a2.hi
      obtain ⟨B, b1, YB, ly, lo⟩ := m_all_k (L := K) hF W YA
      refine NXT.mk (x := pyc h c p) (I1 := A) (L1 := K) ?_ ?_ Z (XA.back lo) YB
      · rw [e116_0 hF, c_hasCoalition hF W H]
        simp (disch := omega) only [pm_k_i, Option.toList_some, Option.toList_none, List.cons_append, List.nil_append, cond_true, cond_false, ↓reduceIte, reduceCtorEq, z_1, nI_add, z_cl, z_ib, z_lt, z_le, z_eq, z_eq0, z_le0, z_lt0, z_b0, z_b1, z_m1, z_and7, Int32.add_zero, hv, hu, e116_8 hF, c_hasParty hF W H, e116_19 hF, a1, e116_33 hF, c_payOf hF W a3 c0 cl a4 p0, e116_42 hF]
      · try dsimp only
        rw [e1292_0 hF, m_isCoalition hF W YA.H]
        simp (disch := omega) only [pm_k_i, Option.toList_some, Option.toList_none, List.cons_append, List.nil_append, cond_true, cond_false, ↓reduceIte, reduceCtorEq, z_1, nI_add, z_cl, z_ib, z_lt, z_le, z_eq, z_eq0, z_le0, z_lt0, z_b0, z_b1, z_m1, z_and7, Int32.add_zero, hv, hu, e1292_5 hF, m_isParty hF W YA.H, e1292_13 hF, b1, e1292_24 hF, z_7m, (ly.1 c c0 cl p p0).1]
theorem s_beats (hF : pm_fix pt_me pt_Sg (pt_R L0 xs) F) (Z : GS h n b C w a sn) (X : K1 q h n b fa pl C w a sn I L) (Y : K2 h n b fa pl C w a sn I) (x y : Int32) : NXT q (F 125 0 [some (.ref 0), some (.int x), some (.int y)] [] (81, pt_G, I, L)) (fun I L => (F 1298 0 [some (.ref 49), some (.int x), some (.int y)] [] (81, pt_G, I, L))) := by
  have W := Z.1
  have hP := W.P
  have hE := ev_lt W
  have H := X.H
  have M := Y.H
  cases hv : vC h x with
  | false =>
    exact NXT.same Z X Y (x := -1) (by
      rw [e125_0 hF, c_hasCoalition hF W H]
      simp (disch := omega) only [pm_k_i, Option.toList_some, Option.toList_none, List.cons_append, List.nil_append, cond_true, cond_false, ↓reduceIte, reduceCtorEq, z_1, nI_add, z_cl, z_ib, z_lt, z_le, z_eq, z_eq0, z_le0, z_lt0, z_b0, z_b1, z_m1, z_and7, Int32.add_zero, hv, e125_8 hF]) (by
      try dsimp only
      rw [e1298_0 hF, m_isCoalition hF W M]
      simp (disch := omega) only [pm_k_i, Option.toList_some, Option.toList_none, List.cons_append, List.nil_append, cond_true, cond_false, ↓reduceIte, reduceCtorEq, z_1, nI_add, z_cl, z_ib, z_lt, z_le, z_eq, z_eq0, z_le0, z_lt0, z_b0, z_b1, z_m1, z_and7, Int32.add_zero, hv, e1298_5 hF])
  | true =>
    cases hu : vC h y with
    | false =>
      exact NXT.same Z X Y (x := -1) (by
        rw [e125_0 hF, c_hasCoalition hF W H]
        simp (disch := omega) only [pm_k_i, Option.toList_some, Option.toList_none, List.cons_append, List.nil_append, cond_true, cond_false, ↓reduceIte, reduceCtorEq, z_1, nI_add, z_cl, z_ib, z_lt, z_le, z_eq, z_eq0, z_le0, z_lt0, z_b0, z_b1, z_m1, z_and7, Int32.add_zero, hv, hu, e125_8 hF, c_hasCoalition hF W H, e125_19 hF]) (by
        try dsimp only
        rw [e1298_0 hF, m_isCoalition hF W M]
        simp (disch := omega) only [pm_k_i, Option.toList_some, Option.toList_none, List.cons_append, List.nil_append, cond_true, cond_false, ↓reduceIte, reduceCtorEq, z_1, nI_add, z_cl, z_ib, z_lt, z_le, z_eq, z_eq0, z_le0, z_lt0, z_b0, z_b1, z_m1, z_and7, Int32.add_zero, hv, hu, e1298_5 hF, m_isCoalition hF W M, e1298_13 hF])
    | true =>
      obtain ⟨c, c0, cl, rfl⟩ := vC_of W hv
      obtain ⟨d, d0, dl, rfl⟩ := vC_of W hu
      obtain ⟨⟨e, v, e1, v1, cx, fo⟩, k0⟩ := X
      obtain ⟨A0, K0', l1, l2, l3, l4, l5⟩ := c_learn hF W cx c0 cl
      obtain ⟨A, K, a1, a2, a3, a4, a5⟩ := c_learn hF W l3.1 d0 dl
      have c33 := a5 l3.2 c c0 cl l4
      have fx := l2.tr a2
      have XA : K1 q h n b fa pl C w a sn A K := K1.fx e1 v1 a3.1 fo k0 fx
      have YA := Y.hi W fx.hi
      obtain ⟨B, b1, YB, ly, lo⟩ := m_all_k (L := K) hF W YA
      refine NXT.mk (x := nI (bet h c d).toNat) (I1 := A) (L1 := K) ?_ ?_ Z (XA.back lo) YB
      · rw [e125_0 hF, c_hasCoalition hF W H]
        simp (disch := omega) only [pm_k_i, Option.toList_some, Option.toList_none, List.cons_append, List.nil_append, cond_true, cond_false, ↓reduceIte, reduceCtorEq, z_1, nI_add, z_cl, z_ib, z_lt, z_le, z_eq, z_eq0, z_le0, z_lt0, z_b0, z_b1, z_m1, z_and7, Int32.add_zero, hv, hu, e125_8 hF, c_hasCoalition hF W H, e125_19 hF, l1, e125_32 hF, a1, e125_40 hF, c_isBetter hF W a3 c0 cl c33 d0 dl a4, e125_49 hF]
        cases bet h c d <;> rfl
      · try dsimp only
        rw [e1298_0 hF, m_isCoalition hF W YA.H]
        simp (disch := omega) only [pm_k_i, Option.toList_some, Option.toList_none, List.cons_append, List.nil_append, cond_true, cond_false, ↓reduceIte, reduceCtorEq, z_1, nI_add, z_cl, z_ib, z_lt, z_le, z_eq, z_eq0, z_le0, z_lt0, z_b0, z_b1, z_m1, z_and7, Int32.add_zero, hv, hu, e1298_5 hF, m_isCoalition hF W YA.H, e1298_13 hF, b1, e1298_22 hF, m_beatsIt hF W YB.H ly.1 c0 cl d0 dl, e1298_28 hF, m_truth hF, e1298_31 hF]
theorem s_many (hF : pm_fix pt_me pt_Sg (pt_R L0 xs) F) (Z : GS h n b C w a sn) (X : K1 q h n b fa pl C w a sn I L) (Y : K2 h n b fa pl C w a sn I) (x : Int32) : NXT q (F 122 0 [some (.ref 0), some (.int x)] [] (81, pt_G, I, L)) (fun I L => (F 1294 0 [some (.ref 49), some (.int x), none, none] [] (81, pt_G, I, L))) := by
  have W := Z.1
  have H := X.H
  have M := Y.H
  cases hv : vP 32 x with
  | false =>
    exact NXT.same Z X Y (x := -1) (by
      rw [e122_0 hF, g_32, hv]; rfl) (by
      try dsimp only
      rw [e1294_0 hF, m_isKinds hF]
      simp (disch := omega) only [pm_k_i, Option.toList_some, Option.toList_none, List.cons_append, List.nil_append, cond_true, cond_false, ↓reduceIte, reduceCtorEq, z_1, nI_add, z_cl, z_ib, z_lt, z_le, z_eq, z_eq0, z_le0, z_lt0, z_b0, z_b1, z_m1, z_and7, Int32.add_zero, hv, e1294_9 hF])
  | true =>
    obtain ⟨k, kl, rfl⟩ := vP_of (by omega) hv
    obtain ⟨⟨e, v, e1, v1, cx, fo⟩, k0⟩ := X
    obtain ⟨A, K, a1, a2, a3, a4, a5⟩ := c_learnAll hF W cx
    obtain ⟨A', d1, d2, d3⟩ := c_countOf hF W a3 a4 kl
    have fx := a2.tr (FX.s (L := K) (fun r k z _ _ => d2 r k z))
    have XA : K1 q h n b fa pl C w a sn A' K := K1.fx e1 v1 d3.1 fo k0 fx
    have YA := Y.hi W fx.hi
    obtain ⟨B, b1, YB, ly, lo⟩ := m_all_k (L := K) hF W YA
    refine NXT.mk (x := nI (cntP h (kp h k))) (I1 := A') (L1 := K) ?_ ?_ Z (XA.back lo) YB
    · rw [e122_0 hF, g_32, hv]
      simp (disch := omega) only [pm_k_i, Option.toList_some, Option.toList_none, List.cons_append, List.nil_append, cond_true, cond_false, ↓reduceIte, reduceCtorEq, z_1, nI_add, z_cl, z_ib, z_lt, z_le, z_eq, z_eq0, z_le0, z_lt0, z_b0, z_b1, z_m1, z_and7, Int32.add_zero, a1, e122_19 hF, d1, e122_27 hF]
    · try dsimp only
      rw [e1294_0 hF, m_isKinds hF]
      simp (disch := omega) only [pm_k_i, Option.toList_some, Option.toList_none, List.cons_append, List.nil_append, cond_true, cond_false, ↓reduceIte, reduceCtorEq, z_1, nI_add, z_cl, z_ib, z_lt, z_le, z_eq, z_eq0, z_le0, z_lt0, z_b0, z_b1, z_m1, z_and7, Int32.add_zero, hv, e1294_9 hF]
      try rw [if_neg (show ¬ nI 1 = 0 from by decide)]
      rw [b1]
      simp (disch := omega) only [pm_k_i, Option.toList_some, Option.toList_none, List.cons_append, List.nil_append, cond_true, cond_false, ↓reduceIte, reduceCtorEq, z_1, nI_add, z_cl, z_ib, z_lt, z_le, z_eq, z_eq0, z_le0, z_lt0, z_b0, z_b1, z_m1, z_and7, Int32.add_zero]
      exact m_many_run hF W YB.H ly kl
theorem s_nth (hF : pm_fix pt_me pt_Sg (pt_R L0 xs) F) (Z : GS h n b C w a sn) (X : K1 q h n b fa pl C w a sn I L) (Y : K2 h n b fa pl C w a sn I) (x y : Int32) : NXT q (F 123 0 [some (.ref 0), some (.int x), some (.int y)] [] (81, pt_G, I, L)) (fun I L => (F 1295 0 [some (.ref 49), some (.int x), some (.int y), none, none] [] (81, pt_G, I, L))) := by
  have W := Z.1
  have H := X.H
  have M := Y.H
  cases hv : vP 32 x with
  | false =>
    exact NXT.same Z X Y (x := -1) (by
      rw [e123_0 hF, g_32, hv]; rfl) (by
      try dsimp only
      rw [e1295_0 hF, m_isKinds hF]
      simp (disch := omega) only [pm_k_i, Option.toList_some, Option.toList_none, List.cons_append, List.nil_append, cond_true, cond_false, ↓reduceIte, reduceCtorEq, z_1, nI_add, z_cl, z_ib, z_lt, z_le, z_eq, z_eq0, z_le0, z_lt0, z_b0, z_b1, z_m1, z_and7, Int32.add_zero, hv, e1295_9 hF])
  | true =>
    obtain ⟨k, kl, rfl⟩ := vP_of (by omega) hv
    by_cases hy : y < 0
    · exact NXT.same Z X Y (x := -1) (by
        rw [e123_0 hF, g_32, hv, if_pos hy]; rfl) (by
        try dsimp only
        rw [e1295_0 hF, m_isKinds hF]
        simp (disch := omega) only [pm_k_i, Option.toList_some, Option.toList_none, List.cons_append, List.nil_append, cond_true, cond_false, ↓reduceIte, reduceCtorEq, z_1, nI_add, z_cl, z_ib, z_lt, z_le, z_eq, z_eq0, z_le0, z_lt0, z_b0, z_b1, z_m1, z_and7, Int32.add_zero, hv, e1295_9 hF]
        try rw [if_neg (show ¬ nI 1 = 0 from by decide)]
        rw [if_pos hy])
    · obtain ⟨m, ml, rfl⟩ := nI_of hy
      obtain ⟨⟨e, v, e1, v1, cx, fo⟩, k0⟩ := X
      obtain ⟨A, K, a1, a2, a3, a4, a5⟩ := c_learnAll hF W cx
      obtain ⟨A', d1, d2, d3⟩ := c_findOf hF W a3 a4 kl ml
      have fx := a2.tr (FX.s (L := K) (fun r k z _ _ => d2 r k z))
      have XA : K1 q h n b fa pl C w a sn A' K := K1.fx e1 v1 d3.1 fo k0 fx
      have YA := Y.hi W fx.hi
      obtain ⟨B, b1, YB, ly, lo⟩ := m_all_k (L := K) hF W YA
      refine NXT.mk (x := oI (nthP h (kp h k) m)) (I1 := A') (L1 := K) ?_ ?_ Z (XA.back lo) YB
      · rw [e123_0 hF, g_32, hv, if_neg hy]
        simp (disch := omega) only [pm_k_i, Option.toList_some, Option.toList_none, List.cons_append, List.nil_append, cond_true, cond_false, ↓reduceIte, reduceCtorEq, z_1, nI_add, z_cl, z_ib, z_lt, z_le, z_eq, z_eq0, z_le0, z_lt0, z_b0, z_b1, z_m1, z_and7, Int32.add_zero, a1, e123_23 hF, d1, e123_32 hF]
      · try dsimp only
        rw [e1295_0 hF, m_isKinds hF]
        simp (disch := omega) only [pm_k_i, Option.toList_some, Option.toList_none, List.cons_append, List.nil_append, cond_true, cond_false, ↓reduceIte, reduceCtorEq, z_1, nI_add, z_cl, z_ib, z_lt, z_le, z_eq, z_eq0, z_le0, z_lt0, z_b0, z_b1, z_m1, z_and7, Int32.add_zero, hv, e1295_9 hF, b1]
        exact m_nth_run hF W YB.H ly kl ml
theorem s_unbeaten (hF : pm_fix pt_me pt_Sg (pt_R L0 xs) F) (Z : GS h n b C w a sn) (X : K1 q h n b fa pl C w a sn I L) (Y : K2 h n b fa pl C w a sn I) (x : Int32) : NXT q (F 126 0 [some (.ref 0), some (.int x)] [] (81, pt_G, I, L)) (fun I L => (F 1300 0 [some (.ref 49), some (.int x), none, none] [] (81, pt_G, I, L))) := by
  have W := Z.1
  have H := X.H
  have M := Y.H
  obtain ⟨B0, b01, YB0, ly0, lo0⟩ := m_all_k (L := L) hF W Y
  by_cases hx : x < -1
  · refine NXT.mk (x := -1) (I1 := I) (L1 := L) ?_ ?_ Z (X.back lo0) YB0
    · rw [e126_0 hF, if_pos hx]
    · try dsimp only
      rw [e1300_0 hF, b01]
      simp (disch := omega) only [pm_k_i, Option.toList_some, Option.toList_none, List.cons_append, List.nil_append, cond_true, cond_false, ↓reduceIte, reduceCtorEq, z_1, nI_add, z_cl, z_ib, z_lt, z_le, z_eq, z_eq0, z_le0, z_lt0, z_b0, z_b1, z_m1, z_and7, Int32.add_zero]
      have t : x.toInt < 0 := by
        have := Int32.lt_iff_toInt_lt.mp hx
        have e : (-1 : Int32).toInt = -1 := rfl
        omega
      have r := m_unbeaten_x (L := L) hF W YB0.H ly0.1 (x := x) t
      have ne : ¬ x = -1 := fun z => by rw [z] at hx; exact absurd hx (by decide)
      rw [if_neg ne] at r
      exact r
  · obtain ⟨⟨e, v, e1, v1, cx, fo⟩, k0⟩ := X
    obtain ⟨A, K, a1, a2, a3, a4, a5⟩ := c_learnAll hF W cx
    by_cases hm : x = -1
    · obtain ⟨A', d1, d2, d3⟩ := c_countUnbeaten hF W a3 a4
      have fx := a2.tr (FX.s (L := K) (fun r k _ z _ => d2 r k z))
      have XA : K1 q h n b fa pl C w a sn A' K := K1.fx e1 v1 d3.1 fo k0 fx
      have YA := Y.hi W fx.hi
      obtain ⟨B, b1, YB, ly, lo⟩ := m_all_k (L := K) hF W YA
      refine NXT.mk (x := nI (cntP h (unb h))) (I1 := A') (L1 := K) ?_ ?_ Z (XA.back lo) YB
      · rw [e126_0 hF, if_neg hx, a1]
        simp (disch := omega) only [pm_k_i, Option.toList_some, Option.toList_none, List.cons_append, List.nil_append, cond_true, cond_false, ↓reduceIte, reduceCtorEq, z_1, nI_add, z_cl, z_ib, z_lt, z_le, z_eq, z_eq0, z_le0, z_lt0, z_b0, z_b1, z_m1, z_and7, Int32.add_zero, e126_14 hF]
        rw [if_pos hm, d1]
        simp (disch := omega) only [pm_k_i, Option.toList_some, Option.toList_none, List.cons_append, List.nil_append, cond_true, cond_false, ↓reduceIte, reduceCtorEq, z_1, nI_add, z_cl, z_ib, z_lt, z_le, z_eq, z_eq0, z_le0, z_lt0, z_b0, z_b1, z_m1, z_and7, Int32.add_zero, e126_26 hF, e126_37 hF]
      · try dsimp only
        rw [e1300_0 hF, b1]
        simp (disch := omega) only [pm_k_i, Option.toList_some, Option.toList_none, List.cons_append, List.nil_append, cond_true, cond_false, ↓reduceIte, reduceCtorEq, z_1, nI_add, z_cl, z_ib, z_lt, z_le, z_eq, z_eq0, z_le0, z_lt0, z_b0, z_b1, z_m1, z_and7, Int32.add_zero]
        have r := m_unbeaten_x (L := K) hF W YB.H ly.1 (x := x) (by rw [hm]; decide)
        rw [if_pos hm] at r
        exact r
    · have h0 : ¬ x < 0 := by
        intro z
        have z1 := Int32.lt_iff_toInt_lt.mp z
        have z2 : ¬ x.toInt < (-1 : Int32).toInt := fun c => hx (Int32.lt_iff_toInt_lt.mpr c)
        have e0 : (0 : Int32).toInt = 0 := rfl
        have e1 : (-1 : Int32).toInt = -1 := rfl
        exact hm (Int32.toInt_inj.mp (by omega))
      obtain ⟨m, ml, rfl⟩ := nI_of h0
      obtain ⟨A', d1, d2, d3⟩ := c_findUnbeaten hF W a3 a4 ml
      have fx := a2.tr (FX.s (L := K) (fun r k _ z _ => d2 r k z))
      have XA : K1 q h n b fa pl C w a sn A' K := K1.fx e1 v1 d3.1 fo k0 fx
      have YA := Y.hi W fx.hi
      obtain ⟨B, b1, YB, ly, lo⟩ := m_all_k (L := K) hF W YA
      refine NXT.mk (x := oI (nthP h (unb h) m)) (I1 := A') (L1 := K) ?_ ?_ Z (XA.back lo) YB
      · rw [e126_0 hF, if_neg hx, a1]
        simp (disch := omega) only [pm_k_i, Option.toList_some, Option.toList_none, List.cons_append, List.nil_append, cond_true, cond_false, ↓reduceIte, reduceCtorEq, z_1, nI_add, z_cl, z_ib, z_lt, z_le, z_eq, z_eq0, z_le0, z_lt0, z_b0, z_b1, z_m1, z_and7, Int32.add_zero, e126_14 hF, d1, e126_37 hF]
      · try dsimp only
        rw [e1300_0 hF, b1]
        simp (disch := omega) only [pm_k_i, Option.toList_some, Option.toList_none, List.cons_append, List.nil_append, cond_true, cond_false, ↓reduceIte, reduceCtorEq, z_1, nI_add, z_cl, z_ib, z_lt, z_le, z_eq, z_eq0, z_le0, z_lt0, z_b0, z_b1, z_m1, z_and7, Int32.add_zero]
        exact m_unbeaten_k hF W YB.H ly.1 ml
theorem s_drift (hF : pm_fix pt_me pt_Sg (pt_R L0 xs) F) (Z : GS h n b C w a sn) (X : K1 q h n b fa pl C w a sn I L) (Y : K2 h n b fa pl C w a sn I) (x y : Int32) : NXT q (F 134 0 [some (.ref 0), some (.int x), some (.int y)] [] (81, pt_G, I, L)) (fun I L => (F 1309 0 [some (.ref 49), some (.int x), some (.int y), none, none] [] (81, pt_G, I, L))) := by
  have W := Z.1
  have hP := W.P
  have hE := ev_lt W
  have H := X.H
  have M := Y.H
  have n1 : (vC h x && vP 2 y) = false → NXT q (F 134 0 [some (.ref 0), some (.int x), some (.int y)] [] (81, pt_G, I, L)) (fun I L => (F 1309 0 [some (.ref 49), some (.int x), some (.int y), none, none] [] (81, pt_G, I, L))) := by
    intro hn
    refine NXT.same Z X Y (x := -1) ?_ ?_
    · rw [e134_0 hF, c_hasCoalition hF W H]
      simp (disch := omega) only [pm_k_i, Option.toList_some, Option.toList_none, List.cons_append, List.nil_append, cond_true, cond_false, ↓reduceIte, reduceCtorEq, z_1, nI_add, z_cl, z_ib, z_lt, z_le, z_eq, z_eq0, z_le0, z_lt0, z_b0, z_b1, z_m1, z_and7, Int32.add_zero, e134_8 hF, g_2]
      cases hv : vC h x
      · rfl
      · rw [hv] at hn
        rw [show vP 2 y = false from hn]
        rfl
    · try dsimp only
      rw [e1309_0 hF, m_isCoalition hF W M]
      simp (disch := omega) only [pm_k_i, Option.toList_some, Option.toList_none, List.cons_append, List.nil_append, cond_true, cond_false, ↓reduceIte, reduceCtorEq, z_1, nI_add, z_cl, z_ib, z_lt, z_le, z_eq, z_eq0, z_le0, z_lt0, z_b0, z_b1, z_m1, z_and7, Int32.add_zero, e1309_5 hF, m_isWhat hF, e1309_15 hF]
      cases hv : vC h x
      · rfl
      · rw [hv] at hn
        rw [show vP 2 y = false from hn]
        rfl
  cases hv : vC h x with
  | false => exact n1 (by rw [hv]; rfl)
  | true =>
    cases hu : vP 2 y with
    | false => exact n1 (by rw [hv, hu]; rfl)
    | true =>
      obtain ⟨c, c0, cl, rfl⟩ := vC_of W hv
      obtain ⟨k, kl, rfl⟩ := vP_of (by omega) hu
      obtain ⟨bb, hbb⟩ : ∃ bb : Bool, k = bb.toNat := by
        have : k = 0 ∨ k = 1 := by omega
        rcases this with rfl | rfl
        · exact ⟨false, rfl⟩
        · exact ⟨true, rfl⟩
      subst hbb
      obtain ⟨⟨e, v, e1, v1, cx, fo⟩, k0⟩ := X
      obtain ⟨A0, K0', l1, l2, l3, l4, l5⟩ := c_learn hF W cx c0 cl
      obtain ⟨A, K, a1, a2, a3, a4, a5⟩ := c_learnAll hF W l3.1
      have c33 := a5 l3.2 c c0 cl l4
      obtain ⟨A', d1, d2, d3⟩ := c_driftFrom hF W a3 a4 c0 cl c33 bb
      have fx := (l2.tr a2).tr (FX.s (L := K) (fun r k z _ z2 => d2 r k z z2))
      have XA : K1 q h n b fa pl C w a sn A' K := K1.fx e1 v1 d3.1 fo k0 fx
      have YA := Y.hi W fx.hi
      obtain ⟨B, b1, YB, ly, lo⟩ := m_all_k (L := K) hF W YA
      obtain ⟨B2, b2, b3⟩ := m_drift_run (L := K) hF W ly.2 c0 cl bb
      have YB2 : K2 h n b fa pl C w a sn B2 := YB.fm W (fun r k hm => b3 r k (fun z => hm (by unfold mc; omega))) ⟨YB.1.1.of (fun k _ _ => b3 49 k (by omega)) (fun r p q k => b3 r k (by omega)) (fun k _ => b3 64 k (by omega)), by
        rw [b3 49 57 (by omega)]
        rcases YB.1.2 with z | ⟨z, y1, y2⟩
        · exact Or.inl z
        · exact Or.inr ⟨z, y1.of (fun r k p => b3 r k (by omega)), fun c c0 c1 => by rw [b3 75 c (by omega)]; exact y2 c c0 c1⟩⟩
      refine NXT.mk (x := (bif bb then (bif Nat.beq (rvl h (drS h c (drN h c)).1) 0 then nI (drS h c (drN h c)).1 else 0) else nI (drN h c))) (I1 := A') (L1 := K) ?_ ?_ Z ((XA.back lo).back (fun r k hr => b3 r k (by omega))) YB2
      · rw [e134_0 hF, c_hasCoalition hF W H]
        simp (disch := omega) only [pm_k_i, Option.toList_some, Option.toList_none, List.cons_append, List.nil_append, cond_true, cond_false, ↓reduceIte, reduceCtorEq, z_1, nI_add, z_cl, z_ib, z_lt, z_le, z_eq, z_eq0, z_le0, z_lt0, z_b0, z_b1, z_m1, z_and7, Int32.add_zero, hv, e134_8 hF, g_2, hu, l1, e134_30 hF, a1, e134_37 hF]
        cases bb with
        | true =>
          have d1 : (F 319 0 [some (.ref 30), some (.int (nI c)), some (.int 1), none, none, none] [] (81, pt_G, A, K)) = _ := d1
          rw [if_pos (show nI true.toNat ≤ 1 by decide), if_pos (show true = true from rfl), d1]
          simp (disch := omega) only [pm_k_i, Option.toList_some, Option.toList_none, List.cons_append, List.nil_append, cond_true, cond_false, ↓reduceIte, reduceCtorEq, z_1, nI_add, z_cl, z_ib, z_lt, z_le, z_eq, z_eq0, z_le0, z_lt0, z_b0, z_b1, z_m1, z_and7, Int32.add_zero, e134_55 hF]
        | false =>
          have d1 : (F 319 0 [some (.ref 30), some (.int (nI c)), some (.int 0), none, none, none] [] (81, pt_G, A, K)) = _ := d1
          rw [if_pos (show nI false.toNat ≤ 1 by decide), if_neg (show ¬ false = true by decide), d1]
          simp (disch := omega) only [pm_k_i, Option.toList_some, Option.toList_none, List.cons_append, List.nil_append, cond_true, cond_false, ↓reduceIte, reduceCtorEq, z_1, nI_add, z_cl, z_ib, z_lt, z_le, z_eq, z_eq0, z_le0, z_lt0, z_b0, z_b1, z_m1, z_and7, Int32.add_zero, e134_55 hF]
      · try dsimp only
        rw [e1309_0 hF, m_isCoalition hF W YA.H]
        simp (disch := omega) only [pm_k_i, Option.toList_some, Option.toList_none, List.cons_append, List.nil_append, cond_true, cond_false, ↓reduceIte, reduceCtorEq, z_1, nI_add, z_cl, z_ib, z_lt, z_le, z_eq, z_eq0, z_le0, z_lt0, z_b0, z_b1, z_m1, z_and7, Int32.add_zero, hv, hu, e1309_5 hF, m_isWhat hF, e1309_15 hF, b1]
        exact b2
end
