/-! ===== the class: a party's line ===== -/
section
variable {I I' : Nat → Nat → Int32} {L L' : Nat → Nat → Int64}
variable {F : pm_F} {L0 : Nat} {xs : Nat → Int32}
variable {n q f : Nat} {b : Nat → Nat} {d : Nat → Nat → Nat}
theorem c_walk (hF : pm_fix pt_me pt_Sg (pt_R L0 xs) F) (hb : ∀ i, b i < 256) (X : CP n b q f I L) (y : Int64) (s v : Int32) : ∃ I' L' wk, (F 711 61 [some (.ref 10), some (.long y), none, some (.int s), some (.int v), none, none] [] (49, pt_G, I, L)) = (F 711 87 [some (.ref 10), some (.long y), none, some (.int s), some (.int v), some (.int wk), none] [] (49, pt_G, I', L')) ∧ FP I I' L L' ∧ CP n b (lnw n b q f).1 (lnw n b q f).2.1 I' L' ∧ ((lnw n b q f).2.1 = 0 → wk = nI (lnw n b q f).2.2) := by
  obtain ⟨A, K, x, a1, a2, a3, a4⟩ := c_readNumber hF hb X (lo := 0) (hi := 999) (by omega) (by omega)
  have a1 : (F 714 0 [some (.ref 10), some (.int 0), some (.int 999)] [] (49, pt_G, I, L)) = _ := a1
  obtain ⟨B, M, b1, b2, b3⟩ := c_adv hF hb a3
  rw [e711_61 hF, a1]
  simp (disch := omega) only [pm_k_i, Option.toList_some, Option.toList_none, List.cons_append, List.nil_append, cond_true, cond_false, ↓reduceIte, reduceCtorEq, z_1, nI_add, z_cl, z_ib, z_lt, z_le, z_eq, z_eq0, z_le0, z_lt0, z_b0, z_b1, z_m1, z_and7, Int32.add_zero, e711_81 hF, b1]
  by_cases c : f = 0
  · have ck := X.2.2.2.2.2.1 c
    have cw : (I 10 15 = 9) = (kd n b q = 1 ∧ kw n b q = some 9) := ck.w (k := 9) (by omega)
    by_cases e : kd n b q = 1 ∧ kw n b q = some 9
    · have el : lnw n b q f = (aq n b (aq n b q f) (oN n b 0 999 (aq n b q f) f), oN n b 0 999 (aq n b q f) f, vl n b (aq n b q f)) := if_pos e
      rw [if_pos (by rw [cw]; exact e), el]
      exact ⟨B, M, x, rfl, a2.tr b2, b3, a4⟩
    · have el : lnw n b q f = (q, f, 0) := if_neg e
      rw [if_neg (by rw [cw]; exact e), el]
      exact ⟨I, L, 0, rfl, FP.rf, X, fun _ => rfl⟩
  · have ea : aq n b q f = q := if_neg c
    have eo : oN n b 0 999 q f = f := if_neg c
    rw [ea, eo, ea] at b3
    have e1 : (lnw n b q f).1 = q := by
      unfold lnw
      split
      · show aq n b (aq n b q f) (oN n b 0 999 (aq n b q f) f) = q
        rw [ea, eo, ea]
      · rfl
    have e2 : (lnw n b q f).2.1 = f := by
      unfold lnw
      split
      · show oN n b 0 999 (aq n b q f) f = f
        rw [ea, eo]
      · rfl
    rw [e1, e2]
    by_cases u : I 10 15 = 9
    · rw [if_pos u]; exact ⟨B, M, x, rfl, a2.tr b2, b3, fun z => absurd z c⟩
    · rw [if_neg u]; exact ⟨I, L, 0, rfl, FP.rf, X, fun z => absurd z c⟩
theorem c_signThere (hF : pm_fix pt_me pt_Sg (pt_R L0 xs) F) (X : CP n b q f I L) (y : Int64) (s v w : Int32) : ∃ I', (F 711 87 [some (.ref 10), some (.long y), none, some (.int s), some (.int v), some (.int w), none] [] (49, pt_G, I, L)) = (F 711 99 [some (.ref 10), some (.long y), none, some (.int s), some (.int v), some (.int w), none] [] (49, pt_G, I', L)) ∧ FP I I' L L ∧ CP n b q (oS n b q f) I' L := by
  obtain ⟨B, b1, b2, b3⟩ := c_failToken hF X
  rw [e711_87 hF, b1]
  simp (disch := omega) only [pm_k_i, Option.toList_some, Option.toList_none, List.cons_append, List.nil_append, cond_true, cond_false, ↓reduceIte, reduceCtorEq, z_1, nI_add, z_cl, z_ib, z_lt, z_le, z_eq, z_eq0, z_le0, z_lt0, z_b0, z_b1, z_m1, z_and7, Int32.add_zero]
  by_cases c : f = 0
  · have ck := X.2.2.2.2.2.1 c
    have kl := kd_le (n := n) (b := b) (q := q)
    have e1 : ∀ k, fk f k = k := fun k => if_pos c
    rw [e1] at b3
    have eo : oS n b q f = if kd n b q = 3 then 0 else fk2 n b q 2 := if_pos c
    have dk : (nI (kd n b q) = 3) = (kd n b q = 3) := z_eq (b := 3) (by omega) (by omega)
    rw [eo, ck.2.2.1]
    by_cases d : kd n b q = 3
    · rw [if_pos (by rw [dk]; exact d), if_pos d]
      subst c
      exact ⟨I, rfl, FP.rf, X⟩
    · rw [if_neg (by rw [dk]; exact d), if_neg d]; exact ⟨B, rfl, b2, b3⟩
  · have e1 : ∀ k, fk f k = f := fun k => if_neg c
    rw [e1] at b3
    have eo : oS n b q f = f := if_neg c
    rw [eo]
    by_cases d : I 10 12 = 3
    · rw [if_pos d]; exact ⟨I, rfl, FP.rf, X⟩
    · rw [if_neg d]; exact ⟨B, rfl, b2, b3⟩
theorem lnw_0 (h : (lnw n b q f).2.1 = 0) : f = 0 := by
  unfold lnw at h
  split at h
  · exact (oN_0 h).1
  · exact h
theorem c_lineP (hF : pm_fix pt_me pt_Sg (pt_R L0 xs) F) (hb : ∀ i, b i < 256) (X : CP n b q 0 I L) (D : CD n b d I L) (G : DG n b d) (h1 : kd n b q = 1) (hw : kw n b q = some 6) : ∃ I' L', (F 706 0 [some (.ref 10)] [] (49, pt_G, I, L)) = some (none, (49, pt_G, I', L')) ∧ CL n b (lnP n b d q) I I' L L' := by
  have w : I 10 15 = nI 6 := by rw [(X.2.2.2.2.2.1 rfl).2.2.2.1, if_pos h1, hw]; rfl
  have hP := G.P
  have key : ∀ (A : Nat → Nat → Int32) (f1 : Nat), FP I A L L → CP n b q f1 A L → (if d 0 0 < 7 then 0 else 5) = f1 → ∃ I' L', pm_k (F 711 17 [some (.ref 10), none, none, none, none, none, none] [] (49, pt_G, A, L)) (fun v S => F 706 159 [some (.ref 10)] (v.toList ++ []) S) = some (none, (49, pt_G, I', L')) ∧ CL n b (lnP n b d q) I I' L L' := by
    intro A f1 fa XA hf1
    obtain ⟨B, K, y, b1, b2, b3, b4⟩ := c_readName hF hb XA
    have DB := b2.cd (fa.cd D)
    obtain ⟨C, c1, c2, c3⟩ := c_checkNew hF b3 DB G (y := y) (fun z => ⟨b4 z, by have := (oA_0 z).2.2.2; omega⟩)
    generalize hQ1 : aq n b q f1 = q1 at *
    generalize hF3 : oF n b d q1 (oA n b q1 f1) = f3 at *
    obtain ⟨E, N, d1, d2, d3⟩ := c_readWord hF hb c3 (k := 7) (by omega)
    have d1 : (F 716 0 [some (.ref 10), some (.int 7)] [] (49, pt_G, C, K)) = _ := d1
    generalize hQ2 : aq n b q1 f3 = q2 at *
    generalize hF4 : oW n b 7 q2 f3 = f4 at *
    obtain ⟨A5, L5, s, s1, s2, s3, s4⟩ := c_readNumber hF hb d3 (lo := 1) (hi := 999) (by omega) (by omega)
    have s1 : (F 714 0 [some (.ref 10), some (.int 1), some (.int 999)] [] (49, pt_G, E, N)) = _ := s1
    generalize hQ3 : aq n b q2 f4 = q3 at *
    generalize hF5 : oN n b 1 999 q3 f4 = f5 at *
    obtain ⟨A6, L6, t1, t2, t3⟩ := c_readWord hF hb s3 (k := 8) (by omega)
    have t1 : (F 716 0 [some (.ref 10), some (.int 8)] [] (49, pt_G, A5, L5)) = _ := t1
    generalize hQ4 : aq n b q3 f5 = q4 at *
    generalize hF6 : oW n b 8 q4 f5 = f6 at *
    obtain ⟨A7, L7, v, v1, v2, v3, v4⟩ := c_readNumber hF hb t3 (lo := 0) (hi := 99) (by omega) (by omega)
    have v1 : (F 714 0 [some (.ref 10), some (.int 0), some (.int 99)] [] (49, pt_G, A6, L6)) = _ := v1
    generalize hQ5 : aq n b q4 f6 = q5 at *
    generalize hF7 : oN n b 0 99 q5 f6 = f7 at *
    obtain ⟨A8, L8, w1, w2, w3⟩ := c_adv hF hb v3
    generalize hQ6 : aq n b q5 f7 = q6 at *
    obtain ⟨A9, L9, wk, x1, x2, x3, x4⟩ := c_walk hF hb w3 y s v
    generalize hW : lnw n b q6 f7 = W at *
    obtain ⟨A10, y1, y2, y3⟩ := c_signThere hF x3 y s v wk
    generalize hF9 : oS n b W.1 W.2.1 = f9 at *
    have el : lnP n b d q = (aq n b W.1 f9, f9, ud (ud (ud (ud (ud d 7 (d 0 0) q1) 1 (d 0 0) (vl n b q3)) 2 (d 0 0) (vl n b q5)) 3 (d 0 0) W.2.2) 0 0 (d 0 0 + 1)) := by
      subst hF9; subst hW; subst hQ6; subst hF7; subst hQ5; subst hF6; subst hQ4; subst hF5; subst hQ3; subst hF4; subst hQ2; subst hF3; subst hQ1; subst hf1
      rfl
    rw [el]
    have fp : FP I A10 L L9 := (((fa.tr b2).tr (c2.tr d2)).tr ((s2.tr t2).tr (v2.tr w2))).tr (x2.tr y2)
    have DE := fp.cd D
    rw [e711_17 hF, b1]
    simp (disch := omega) only [pm_k_i, Option.toList_some, Option.toList_none, List.cons_append, List.nil_append, cond_true, cond_false, ↓reduceIte, reduceCtorEq, z_1, nI_add, z_cl, z_ib, z_lt, z_le, z_eq, z_eq0, z_le0, z_lt0, z_b0, z_b1, z_m1, z_and7, Int32.add_zero, e711_21 hF, c1, e711_27 hF, d1, e711_33 hF, s1, e711_41 hF, t1, e711_48 hF, v1, e711_55 hF, w1]
    rw [x1, y1, e711_99 hF, y3.2.2.2.1]
    by_cases z : f9 = 0
    · subst z
      have z1 := oS_0 hF9
      have z2 : f7 = 0 := lnw_0 (by rw [hW]; exact z1.1)
      have z3 := oN_0 (hF7.trans z2)
      have z4 := oW_0 (hF6.trans z3.1)
      have z5 := oN_0 (hF5.trans z4.1)
      have z6 := oW_0 (hF4.trans z5.1)
      have z7 := oF_0 (hF3.trans z6.1)
      have z8 := oA_0 z7.1
      have o7 : d 0 0 < 7 := by
        by_cases c : d 0 0 < 7
        · exact c
        · rw [if_neg c, z8.1] at hf1; omega
      have es := s4 z4.1
      have ev' := v4 z2
      have ew := x4 z1.1
      have ey := b4 z7.1
      rw [if_pos (show nI 0 = 0 from rfl), DE.1 0 (by omega), z_and7 _ (by omega)]
      simp (disch := omega) only [pm_k_i, Option.toList_some, Option.toList_none, List.cons_append, List.nil_append, cond_true, cond_false, ↓reduceIte, reduceCtorEq, z_1, nI_add, z_cl, z_ib, z_lt, z_le, z_eq, z_eq0, z_le0, z_lt0, z_b0, z_b1, z_m1, z_and7, Int32.add_zero]
      have XE : CP n b W.1 0 (pm_ui (pm_ui (pm_ui (pm_ui A10 12 (d 0 0) s) 13 (d 0 0) v) 14 (d 0 0) wk) 11 0 (nI (d 0 0 + 1))) (pm_ul L9 19 (d 0 0) y) := ((((y3.u (by omega)).u (by omega)).u (by omega)).u (by omega)).of rfl (fun _ => rfl) (fun _ _ => rfl) (fun k => by rw [z_lr (by omega)]) (by rw [z_lr (by omega)])
      obtain ⟨U, V, u1, u2, u3⟩ := c_adv hF hb XE
      simp (disch := omega) only [pm_k_i, Option.toList_some, Option.toList_none, List.cons_append, List.nil_append, cond_true, cond_false, ↓reduceIte, reduceCtorEq, z_1, nI_add, z_cl, z_ib, z_lt, z_le, z_eq, z_eq0, z_le0, z_lt0, z_b0, z_b1, z_m1, z_and7, Int32.add_zero, e706_159 hF, e706_213 hF, u1, e706_217 hF]
      refine ⟨U, V, rfl, (fp.fl.tr ⟨fun r j a => by rw [z_ur (by omega), z_ur (by omega), z_ur (by omega), z_ur (by omega)], fun r j a1 a2 a3 => by rw [z_lr (by omega)]⟩).tr u2.fl, u3, fun _ => ?_⟩
      obtain ⟨x1, x2, x3, x4, x5, x6⟩ := DE
      refine u2.cd ⟨fun j hj => ?_, ?_, fun p p0 => ?_, fun p p0 => ?_, fun x hx => ?_, fun o o1 => ?_⟩
      · by_cases t : j = 0
        · rw [t, z_ue]; rfl
        · rw [z_uk t, z_ur (by omega), z_ur (by omega), z_ur (by omega), x1 j hj]; exact congrArg nI (show d 0 j = ud (ud (ud (ud (ud d 7 (d 0 0) q1) 1 (d 0 0) (vl n b q3)) 2 (d 0 0) (vl n b q5)) 3 (d 0 0) W.2.2) 0 0 (d 0 0 + 1) 0 j from (if_neg (by omega)).symm)
      · rw [z_ur (by omega), z_ur (by omega), z_ur (by omega), z_ur (by omega)]; exact x2
      · have p0 : p < d 0 0 + 1 := p0
        show pm_ui (pm_ui (pm_ui (pm_ui A10 12 (d 0 0) s) 13 (d 0 0) v) 14 (d 0 0) wk) 11 0 (nI (d 0 0 + 1)) 12 p = nI (ud d 1 (d 0 0) (vl n b q3) 1 p) ∧ pm_ui (pm_ui (pm_ui (pm_ui A10 12 (d 0 0) s) 13 (d 0 0) v) 14 (d 0 0) wk) 11 0 (nI (d 0 0 + 1)) 13 p = nI (ud d 2 (d 0 0) (vl n b q5) 2 p) ∧ pm_ui (pm_ui (pm_ui (pm_ui A10 12 (d 0 0) s) 13 (d 0 0) v) 14 (d 0 0) wk) 11 0 (nI (d 0 0 + 1)) 14 p = nI (ud d 3 (d 0 0) W.2.2 3 p) ∧ pm_ul L9 19 (d 0 0) y 19 p = lN (e5 n b (ud d 7 (d 0 0) q1 7 p))
        unfold ud
        by_cases t : p = d 0 0
        · subst t
          rw [if_pos ⟨rfl, rfl⟩, if_pos ⟨rfl, rfl⟩, if_pos ⟨rfl, rfl⟩, if_pos ⟨rfl, rfl⟩]
          simp (disch := omega) only [z_ur, z_ue]
          exact ⟨es, ev', ew, by rw [z_le']; exact ey⟩
        · rw [if_neg (fun h => t h.2), if_neg (fun h => t h.2), if_neg (fun h => t h.2), if_neg (fun h => t h.2), z_lk t]
          simp (disch := omega) only [z_ur, z_uk]
          exact x3 p (by omega)
      · simp (disch := omega) only [z_ur]; exact x4 p p0
      · simp (disch := omega) only [z_ur]; exact x5 x hx
      · rw [z_lr (by omega)]
        exact x6 o o1
    · have sl := y3.2.2.2.2.2.2
      rw [if_neg (show ¬ nI f9 = 0 by rw [z_eq0 (by omega)]; exact z)]
      obtain ⟨U, V, u1, u2, u3⟩ := c_adv hF hb y3
      simp (disch := omega) only [pm_k_i, Option.toList_some, Option.toList_none, List.cons_append, List.nil_append, cond_true, cond_false, ↓reduceIte, reduceCtorEq, z_1, nI_add, z_cl, z_ib, z_lt, z_le, z_eq, z_eq0, z_le0, z_lt0, z_b0, z_b1, z_m1, z_and7, Int32.add_zero, e706_159 hF, e706_213 hF, u1, e706_217 hF]
      exact ⟨U, V, rfl, fp.fl.tr u2.fl, u3, fun h => absurd h z⟩
  rw [e706_0 hF, w, if_neg (by decide), if_neg (by decide), if_neg (by decide), if_neg (by decide), if_neg (by decide), if_neg (by decide), if_pos rfl, e711_0 hF, D.1 0 (by omega), show (7 : Int32) = nI 7 from rfl]
  by_cases c : d 0 0 < 7
  · simp (disch := omega) only [z_lt, c, ↓reduceIte]
    exact key I 0 FP.rf X (if_pos c)
  · obtain ⟨A, a1, a2, a3⟩ := c_fail hF X (k := 5) (by omega) (by omega)
    have a1 : (F 704 0 [some (.ref 10), some (.int 5)] [] (49, pt_G, I, L)) = _ := a1
    simp (disch := omega) only [z_lt, c, ↓reduceIte, a1, pm_k_i, Option.toList_some, Option.toList_none, List.cons_append, List.nil_append, cond_true, cond_false, ↓reduceIte, reduceCtorEq, z_1, nI_add, z_cl, z_ib, z_lt, z_le, z_eq, z_eq0, z_le0, z_lt0, z_b0, z_b1, z_m1, z_and7, Int32.add_zero]
    exact key A 5 a2 a3 (if_neg c)
end
