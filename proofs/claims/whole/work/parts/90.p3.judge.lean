/-! ===== one call: judging ===== -/
section
variable {h : Nat → Nat → Nat} {I I' : Nat → Nat → Int32} {L L' : Nat → Nat → Int64}
variable {q n C a c : Nat} {b w : Nat → Nat} {fa pl : Int32} {sn : Nat → SN} {e v : Nat}
variable {F : pm_F} {L0 : Nat} {xs : Nat → Int32}
theorem s_judge (hF : pm_fix pt_me pt_Sg (pt_R L0 xs) F) (Z : GS h n b C w a sn) (X : K1 q h n b fa pl C w a sn I L) (Y : K2 h n b fa pl C w a sn I) (x y : Int32) : NXT q (F 146 0 [some (.ref 0), some (.int x), some (.int y), none] [] (81, pt_G, I, L)) (fun I L => (F 1329 0 [some (.ref 49), some (.int x), some (.int y), none, none, none, none, none, none, none, none] [] (81, pt_G, I, L))) := by
  have W := Z.1
  have hP := W.P
  have hO := W.O
  have hE := ev_lt W
  have H := X.H
  have M := Y.H
  by_cases hn : (vC h x && vP 4 y) = false
  · refine NXT.same Z X Y (x := -1) ?_ ?_
    · rw [e146_0 hF, c_hasCoalition hF W H]
      simp (disch := omega) only [pm_k_i, Option.toList_some, Option.toList_none, List.cons_append, List.nil_append, cond_true, cond_false, ↓reduceIte, reduceCtorEq, z_1, nI_add, z_cl, z_ib, z_lt, z_le, z_eq, z_eq0, z_le0, z_lt0, z_b0, z_b1, z_m1, z_and7, Int32.add_zero, e146_8 hF, g_4]
      cases hv : vC h x
      · rfl
      · rw [hv] at hn
        rw [show vP 4 y = false from hn]
        rfl
    · try dsimp only
      rw [e1329_0 hF, m_isCoalition hF W M]
      simp (disch := omega) only [pm_k_i, Option.toList_some, Option.toList_none, List.cons_append, List.nil_append, cond_true, cond_false, ↓reduceIte, reduceCtorEq, z_1, nI_add, z_cl, z_ib, z_lt, z_le, z_eq, z_eq0, z_le0, z_lt0, z_b0, z_b1, z_m1, z_and7, Int32.add_zero, e1329_5 hF, m_isWhat3 hF, e1329_17 hF]
      cases hv : vC h x
      · rfl
      · rw [hv] at hn
        rw [show vP 4 y = false from hn]
        rfl
  · have hn : (vC h x && vP 4 y) = true := by
      cases z : (vC h x && vP 4 y)
      · exact absurd z hn
      · rfl
    have hn := Bool.and_eq_true_iff.mp hn
    obtain ⟨c, c0, cl, rfl⟩ := vC_of W hn.1
    obtain ⟨j, jl, rfl⟩ := vP_of (by omega) hn.2
    have T := X.2.1
    have hn9 := T.2.1
    have j3 : (nI j ≤ (3 : Int32)) = True := (z_le (a := j) (b := 3) (by omega) (by omega)).trans (eq_true (by omega))
    have bb : ∀ i, b i < 256 := Z.2.2.2.2.2
    obtain ⟨c1, c2⟩ := c_cutTo (L := L) hF T (Nat.zero_le n)
    have c1 : (F 1005 0 [some (.ref 1), some (.int 0)] [] (81, pt_G, I, L)) = _ := c1
    have pf : ∀ r j, (r = 1 → j ≠ 1) → r ≠ 2 → pm_ui I 1 1 (nI 0) r j = I r j := fun r j g1 g2 => by
      by_cases z : r = 1
      · rw [z, z_uk (g1 z)]
      · rw [z_ur z]
    have XA := X.tape c2 pf
    have YA := Y.hi W (fun r j hr => pf r j (by omega) (by omega))
    have HA := XA.H
    have MA := YA.H
    have qf : ∀ r j, (r = 49 → j ≠ 1) → r ≠ 50 → pm_ui (pm_ui I 1 1 (nI 0)) 49 1 0 r j = pm_ui I 1 1 (nI 0) r j := fun r j g1 g2 => by
      by_cases z : r = 49
      · rw [z, z_uk (g1 z)]
      · rw [z_ur z]
    have YB := YA.tape W (n' := 0) (b' := b) (I' := pm_ui (pm_ui I 1 1 (nI 0)) 49 1 0) ⟨by rw [z_ue]; rfl, by omega, fun i hi => absurd hi (by omega)⟩ qf
    have XB := XA.lo (fun r j hr => qf r j (by omega) (by omega)) (fun _ _ _ => rfl)
    have MB := YB.H
    have Z0 : GS h 0 b C w a sn := ⟨Z.1, Z.2.1, Z.2.2.1, Z.2.2.2.1, by omega, bb⟩
    have bad : ¬ JB h n b c → NXT q (F 146 0 [some (.ref 0), some (.int (nI c)), some (.int (nI j)), none] [] (81, pt_G, I, L)) (fun I L => (F 1329 0 [some (.ref 49), some (.int (nI c)), some (.int (nI j)), none, none, none, none, none, none, none, none] [] (81, pt_G, I, L))) := by
      intro J
      have cls : (F 146 0 [some (.ref 0), some (.int (nI c)), some (.int (nI j)), none] [] (81, pt_G, I, L)) = some (some (.int (-2)), (81, pt_G, pm_ui I 1 1 (nI 0), L)) := by
        rw [e146_0 hF, c_hasCoalition hF W H]
        simp (disch := omega) only [pm_k_i, Option.toList_some, Option.toList_none, List.cons_append, List.nil_append, cond_true, cond_false, ↓reduceIte, reduceCtorEq, z_1, nI_add, z_cl, z_ib, z_lt, z_le, z_eq, z_eq0, z_le0, z_lt0, z_b0, z_b1, z_m1, z_and7, Int32.add_zero, e146_8 hF, j3, hn.1, hn.2, c_told hF W H T bb cl (x := -1) (fun z => absurd z J) (fun _ => rfl), e146_27 hF, c1, e146_36 hF]
      by_cases d : n = h 0 1
      · obtain ⟨K, k1, k2⟩ := m_jtold (L := L) hF W MB (b := b) (fun i hi => by rw [z_ur (by omega)]; exact YA.2.1.2.2 i (by omega)) bb cl (nI j) (nI n)
        rcases k2 with ⟨k2, k3⟩ | ⟨k2, k3⟩
        · exact absurd ⟨d, k2⟩ J
        · refine NXT.mk cls (I2 := K) (L2 := L) (x := -2) ?_ Z0 (XB.lo (fun r j hr => k1 r j (by omega)) (fun _ _ _ => rfl)) (YB.pk W (fun r j _ _ _ _ _ p _ _ => k1 r j p))
          try dsimp only
          rw [e1329_0 hF, m_isCoalition hF W MA]
          simp (disch := omega) only [pm_k_i, Option.toList_some, Option.toList_none, List.cons_append, List.nil_append, cond_true, cond_false, ↓reduceIte, reduceCtorEq, z_1, nI_add, z_cl, z_ib, z_lt, z_le, z_eq, z_eq0, z_le0, z_lt0, z_b0, z_b1, z_m1, z_and7, Int32.add_zero, e1329_5 hF, m_isWhat3 hF, e1329_17 hF, hn.1, hn.2, YA.2.1.1, MA.O]
          rw [if_pos d]
          exact k3
      · refine NXT.mk cls (I2 := pm_ui (pm_ui I 1 1 (nI 0)) 49 1 0) (L2 := L) (x := -2) ?_ Z0 XB YB
        try dsimp only
        rw [e1329_0 hF, m_isCoalition hF W MA]
        simp (disch := omega) only [pm_k_i, Option.toList_some, Option.toList_none, List.cons_append, List.nil_append, cond_true, cond_false, ↓reduceIte, reduceCtorEq, z_1, nI_add, z_cl, z_ib, z_lt, z_le, z_eq, z_eq0, z_le0, z_lt0, z_b0, z_b1, z_m1, z_and7, Int32.add_zero, e1329_5 hF, m_isWhat3 hF, e1329_17 hF, hn.1, hn.2, YA.2.1.1, MA.O]
        rw [if_neg d]
    by_cases J : JB h n b c
    · have w8 : K8 (tol b (h 0 1)) := tol_K8 hO (fun i hi => by have := (J.2 i hi).1; omega)
      have tw : ∀ o, o < h 0 1 → tol b (h 0 1) o = b o := fun o ho => if_pos ho
      have wk : WK h (tol b (h 0 1)) := ⟨w8, fun o ho => by rw [tw o ho]; exact (J.2 o ho).1⟩
      have win : ∀ o, o < h 0 1 → c.testBit (tol b (h 0 1) o) = true := fun o ho => by rw [tw o ho]; exact (J.2 o ho).2
      have wl := hp_lt w8
      obtain ⟨K, k1, k2⟩ := m_jtold (L := L) hF W MB (b := b) (fun i hi => by rw [z_ur (by omega)]; exact YA.2.1.2.2 i (by have := J.1; omega)) bb cl (nI j) (nI n)
      rcases k2 with ⟨k2, k3, k4⟩ | ⟨k2, k3⟩
      · have MK := MB.of70 (I' := K) (fun r j _ _ p => k1 r j p)
        have hw : OW h (tol b (h 0 1)) K := fun o ho => ⟨by rw [k4 o ho, tw o ho], wk.2 o ho⟩
        have YK := YB.pk W (I' := K) (fun r j _ _ _ _ _ p _ _ => k1 r j p)
        have XK := XB.lo (I' := K) (L' := L) (fun r j hr => k1 r j (by omega)) (fun _ _ _ => rfl)
        have pre : ∀ r : pm_R, (F 1329 118 [some (.ref 49), some (.int (nI c)), some (.int (nI j)), some (.int (nI n)), some (.int (nI (wal h (tol b (h 0 1))))), some (.int (nI (gwn h c (h 0 1)))), some (.int (nI (scn h (tol b (h 0 1)) (h 0 1)))), some (.int (nI (h 0 1))), none, none, none] [] (81, pt_G, K, L)) = r → (F 1329 0 [some (.ref 49), some (.int (nI c)), some (.int (nI j)), none, none, none, none, none, none, none, none] [] (81, pt_G, (pm_ui I 1 1 (nI 0)), L)) = r := by
          intro r hr
          rw [e1329_0 hF, m_isCoalition hF W MA]
          simp (disch := omega) only [pm_k_i, Option.toList_some, Option.toList_none, List.cons_append, List.nil_append, cond_true, cond_false, ↓reduceIte, reduceCtorEq, z_1, nI_add, z_cl, z_ib, z_lt, z_le, z_eq, z_eq0, z_le0, z_lt0, z_b0, z_b1, z_m1, z_and7, Int32.add_zero, e1329_5 hF, m_isWhat3 hF, e1329_17 hF, hn.1, hn.2, YA.2.1.1, MA.O]
          rw [if_pos J.1, k3, m_jsum hF W MK hw cl]
          exact hr
        have cls : ∀ r : pm_R, (F 146 36 [some (.ref 0), some (.int (nI c)), some (.int (nI j)), some (.int (nI (hp (tol b (h 0 1)))))] [] (81, pt_G, (pm_ui I 1 1 (nI 0)), L)) = r → (F 146 0 [some (.ref 0), some (.int (nI c)), some (.int (nI j)), none] [] (81, pt_G, I, L)) = r := by
          intro r hr
          rw [e146_0 hF, c_hasCoalition hF W H]
          simp (disch := omega) only [pm_k_i, Option.toList_some, Option.toList_none, List.cons_append, List.nil_append, cond_true, cond_false, ↓reduceIte, reduceCtorEq, z_1, nI_add, z_cl, z_ib, z_lt, z_le, z_eq, z_eq0, z_le0, z_lt0, z_b0, z_b1, z_m1, z_and7, Int32.add_zero, e146_8 hF, j3, hn.1, hn.2, c_told hF W H T bb cl (x := nI (hp (tol b (h 0 1)))) (fun _ => rfl) (fun z => absurd J z), e146_27 hF, c1]
          exact hr
        have gq : gs (hp (tol b (h 0 1))) = tol b (h 0 1) := gs_hp w8
        have ca := c_worthOfAll (I := pm_ui I 1 1 (nI 0)) (L := L) hF W HA (s := hp (tol b (h 0 1))) wl (fun o ho => by rw [gq]; exact wk.2 o ho)
        rw [gq] at ca
        have j4 : j = 0 ∨ j = 1 ∨ j = 2 ∨ j = 3 := by omega
        rcases j4 with rfl | rfl | rfl | rfl
        · refine NXT.mk (x := nI (scn h (tol b (h 0 1)) (h 0 1))) (cls _ ?_) (pre _ ?_) Z0 XK YK
          · rw [e146_36 hF]
            simp (disch := omega) only [pm_k_i, Option.toList_some, Option.toList_none, List.cons_append, List.nil_append, cond_true, cond_false, ↓reduceIte, reduceCtorEq, z_1, nI_add, z_cl, z_ib, z_lt, z_le, z_eq, z_eq0, z_le0, z_lt0, z_b0, z_b1, z_m1, z_and7, Int32.add_zero, c_firstSwaps hF W HA wk, e146_80 hF]
          · rw [e1329_118 hF, MK.O]
            simp (disch := omega) only [pm_k_i, Option.toList_some, Option.toList_none, List.cons_append, List.nil_append, cond_true, cond_false, ↓reduceIte, reduceCtorEq, z_1, nI_add, z_cl, z_ib, z_lt, z_le, z_eq, z_eq0, z_le0, z_lt0, z_b0, z_b1, z_m1, z_and7, Int32.add_zero, Nat.lt_irrefl]
            rw [if_pos (by decide)]
        · refine NXT.mk (x := nI (wal h (tol b (h 0 1)))) (cls _ ?_) (pre _ ?_) Z0 XK YK
          · rw [e146_36 hF]
            simp (disch := omega) only [pm_k_i, Option.toList_some, Option.toList_none, List.cons_append, List.nil_append, cond_true, cond_false, ↓reduceIte, reduceCtorEq, z_1, nI_add, z_cl, z_ib, z_lt, z_le, z_eq, z_eq0, z_le0, z_lt0, z_b0, z_b1, z_m1, z_and7, Int32.add_zero, show ¬ (1 = 0) by decide, ca, e146_89 hF]
          · rw [e1329_118 hF, MK.O]
            simp (disch := omega) only [pm_k_i, Option.toList_some, Option.toList_none, List.cons_append, List.nil_append, cond_true, cond_false, ↓reduceIte, reduceCtorEq, z_1, nI_add, z_cl, z_ib, z_lt, z_le, z_eq, z_eq0, z_le0, z_lt0, z_b0, z_b1, z_m1, z_and7, Int32.add_zero, Nat.lt_irrefl, show ¬ (1 = 0) by decide]
            rw [if_pos (by decide), if_pos (by decide)]
        · refine NXT.mk (x := nI (gwn h c (h 0 1)) - nI (wal h (tol b (h 0 1)))) (cls _ ?_) (pre _ ?_) Z0 XK YK
          · rw [e146_36 hF]
            simp (disch := omega) only [pm_k_i, Option.toList_some, Option.toList_none, List.cons_append, List.nil_append, cond_true, cond_false, ↓reduceIte, reduceCtorEq, z_1, nI_add, z_cl, z_ib, z_lt, z_le, z_eq, z_eq0, z_le0, z_lt0, z_b0, z_b1, z_m1, z_and7, Int32.add_zero, show ¬ (2 = 0) by decide, show ¬ (2 = 1) by decide, ca, c_greatestW hF W HA cl, e146_98 hF, e146_106 hF]
          · rw [e1329_118 hF, MK.O]
            simp (disch := omega) only [pm_k_i, Option.toList_some, Option.toList_none, List.cons_append, List.nil_append, cond_true, cond_false, ↓reduceIte, reduceCtorEq, z_1, nI_add, z_cl, z_ib, z_lt, z_le, z_eq, z_eq0, z_le0, z_lt0, z_b0, z_b1, z_m1, z_and7, Int32.add_zero, Nat.lt_irrefl, show ¬ (2 = 0) by decide]
            rw [if_pos (by decide), if_neg (by decide)]
        · obtain ⟨N, n1, n2, n3, n4⟩ := m_laysTurns (L := L) hF W MK c0 cl
          have MN := MK.of70 (I' := N) (fun r j p p' _ => n2 r j p p')
          refine NXT.mk (x := nI (ukn h c (tol b (h 0 1)) (h 0 0))) (cls _ ?_) (pre _ ?_) Z0 (XK.lo (I' := N) (L' := L) (fun r j hr => n2 r j (by omega) (by omega)) (fun _ _ _ => rfl)) (YK.pk W (I' := N) (fun r j _ p p' _ _ _ _ _ => n2 r j p p'))
          · rw [e146_36 hF]
            simp (disch := omega) only [pm_k_i, Option.toList_some, Option.toList_none, List.cons_append, List.nil_append, cond_true, cond_false, ↓reduceIte, reduceCtorEq, z_1, nI_add, z_cl, z_ib, z_lt, z_le, z_eq, z_eq0, z_le0, z_lt0, z_b0, z_b1, z_m1, z_and7, Int32.add_zero, show ¬ (3 = 0) by decide, show ¬ (3 = 1) by decide, show ¬ (3 = 2) by decide, c_unkept hF W HA c0 cl wk win, e146_114 hF]
          · rw [e1329_118 hF, MK.O]
            simp (disch := omega) only [pm_k_i, Option.toList_some, Option.toList_none, List.cons_append, List.nil_append, cond_true, cond_false, ↓reduceIte, reduceCtorEq, z_1, nI_add, z_cl, z_ib, z_lt, z_le, z_eq, z_eq0, z_le0, z_lt0, z_b0, z_b1, z_m1, z_and7, Int32.add_zero, Nat.lt_irrefl]
            rw [if_neg (by decide), n1]
            exact m_juk hF W MN (fun o ho => ⟨by rw [n2 70 o (by omega) (by omega)]; exact (hw o ho).1, (hw o ho).2⟩) cl (fun p hp => by rw [n4 p hp, hdn_cnw W c0 cl _ (Nat.le_refl _)]) _ _ _ _ _ _
      · exact absurd J.2 k2
    · exact bad J
end
