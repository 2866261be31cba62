/-! ===== the class: tables and bars ===== -/
section
variable {I I' : Nat → Nat → Int32} {L L' : Nat → Nat → Int64}
variable {F : pm_F} {L0 : Nat} {xs : Nat → Int32}
variable {n q f : Nat} {b : Nat → Nat} {d : Nat → Nat → Nat}
theorem c_lineTa (hF : pm_fix pt_me pt_Sg (pt_R L0 xs) F) (hb : ∀ i, b i < 256) (X : CP n b q 0 I L) (D : CD n b d I L) (G : DG n b d) (h1 : kd n b q = 1) (hw : kw n b q = some 10) : ∃ I' L', (F 706 0 [some (.ref 10)] [] (49, pt_G, I, L)) = some (none, (49, pt_G, I', L')) ∧ CL n b (lnT n b d 9 5 99 q) I I' L L' := by
  have w : I 10 15 = nI 10 := by rw [(X.2.2.2.2.2.1 rfl).2.2.2.1, if_pos h1, hw]; rfl
  have hP := G.P
  have hO := G.O
  obtain ⟨B, K, y, b1, b2, b3, b4⟩ := c_readName hF hb X
  have DB := b2.cd D
  obtain ⟨C, ip, c1, c2, c3, c4, c5⟩ := c_knownP hF b3 DB G (y := y) (fun z => ⟨b4 z, by have := (oA_0 z).2.2.2; omega⟩)
  have DC := c3.cd DB
  generalize hQ1 : aq n b q 0 = q1 at *
  generalize hF2 : oK (pfn n b d q1) (oA n b q1 0) = f2 at *
  obtain ⟨E, N, y2, d1, d2, d3, d4⟩ := c_readName hF hb c4
  have DE := d2.cd DC
  obtain ⟨A4, io, e1, e2, e3, e4, e5⟩ := c_knownO hF d3 DE G (y := y2) (fun z => ⟨d4 z, by have := (oA_0 z).2.2.2; omega⟩)
  have D4 := e3.cd DE
  generalize hQ2 : aq n b q1 f2 = q2 at *
  generalize hF3 : oK (ofn n b d q2) (oA n b q2 f2) = f3 at *
  have told := (D4.2.2.2.1 ip c2).2.1
  have tl := (G.2.2.2.2.1 ip).1
  -- told already
  obtain ⟨A5, g1, g2, g3⟩ : ∃ A5, (if nI ((d 9 ip).testBit io).toNat = 0 then (F 712 59 [some (.ref 10), some (.ref 21), some (.ref 16), some (.int 99), some (.int (nI ip)), some (.int (nI io)), none] [] (49, pt_G, A4, N)) else pm_k (F 704 0 [some (.ref 10), some (.int 3)] [] (49, pt_G, A4, N)) (fun v S => F 712 59 [some (.ref 10), some (.ref 21), some (.ref 16), some (.int 99), some (.int (nI ip)), some (.int (nI io)), none] (v.toList ++ []) S)) = (F 712 59 [some (.ref 10), some (.ref 21), some (.ref 16), some (.int 99), some (.int (nI ip)), some (.int (nI io)), none] [] (49, pt_G, A5, N)) ∧ FP A4 A5 N N ∧ CP n b q2 (if f3 = 0 then (bif (d 9 ((pfn n b d q1).getD 7)).testBit ((ofn n b d q2).getD 7) then 3 else 0) else f3) A5 N := by
    obtain ⟨U, u1, u2, u3⟩ := c_fail hF e4 (k := 3) (by omega) (by omega)
    have u1 : (F 704 0 [some (.ref 10), some (.int 3)] [] (49, pt_G, A4, N)) = _ := u1
    rw [u1]
    by_cases c : f3 = 0
    · have z1 := oK_0 (hF3.trans c)
      have z2 := oA_0 z1.1
      have p1 := c5 z2.1
      have o1 := e5 c
      have e6 : fk f3 3 = 3 := if_pos c
      rw [e6] at u3
      rw [if_pos c, p1, o1]
      show ∃ A5, _ ∧ _ ∧ CP n b q2 (bif (d 9 ip).testBit io then 3 else 0) A5 N
      cases (d 9 ip).testBit io with
      | true => exact ⟨U, rfl, u2, u3⟩
      | false =>
        subst c
        exact ⟨A4, rfl, FP.rf, e4⟩
    · have e6 : fk f3 3 = f3 := if_neg c
      rw [e6] at u3
      rw [if_neg c]
      cases (d 9 ip).testBit io with
      | true => exact ⟨U, rfl, u2, u3⟩
      | false => exact ⟨A4, rfl, FP.rf, e4⟩
  generalize hF4 : (if f3 = 0 then (bif (d 9 ((pfn n b d q1).getD 7)).testBit ((ofn n b d q2).getD 7) then 3 else 0) else f3) = f4 at *
  obtain ⟨A6, L6, v, s1, s2, s3, s4⟩ := c_readNumber hF hb g3 (lo := 0) (hi := 99) (by omega) (by omega)
  have s1 : (F 714 0 [some (.ref 10), some (.int 0), some (.int 99)] [] (49, pt_G, A5, N)) = _ := s1
  generalize hQ3 : aq n b q2 f4 = q3 at *
  generalize hF5 : oN n b 0 99 q3 f4 = f5 at *
  obtain ⟨A7, L7, t1, t2, t3⟩ := c_readSign hF hb s3
  generalize hQ4 : aq n b q3 f5 = q4 at *
  generalize hF6 : oS n b q4 f5 = f6 at *
  have el : lnT n b d 9 5 99 q = (aq n b q4 f6, f6, ud (ud d 9 ((pfn n b d q1).getD 7) (ad (d 9 ((pfn n b d q1).getD 7)) ((ofn n b d q2).getD 7))) 5 (8 * ((pfn n b d q1).getD 7) + ((ofn n b d q2).getD 7)) (vl n b q3)) := by
    subst hF6; subst hQ4; subst hF5; subst hQ3; subst hF4; subst hF3; subst hQ2; subst hF2; subst hQ1
    rfl
  rw [el]
  have fp : FP I A7 L L7 := ((b2.tr c3).tr (d2.tr e3)).tr (g2.tr (s2.tr t2))
  have DE := fp.cd D
  have im : (some (.int (nI ((d 9 ip).testBit io).toNat)), ((49, pt_G, A4, N) : pm_S)) = ((some (.int (nI ((d 9 ip).testBit io).toNat)), (49, pt_G, A4, N)) : Option Value × pm_S) := rfl
  rw [e706_0 hF, w, if_neg (by decide), if_neg (by decide), if_neg (by decide), if_neg (by decide), if_neg (by decide), if_neg (by decide), if_neg (by decide), if_neg (by decide), if_neg (by decide), if_neg (by decide), if_pos rfl, e712_0a hF, b1, D.1 0 (by omega)]
  simp (disch := omega) only [pm_k_i, Option.toList_some, Option.toList_none, List.cons_append, List.nil_append, cond_true, cond_false, ↓reduceIte, reduceCtorEq, z_1, nI_add, z_cl, z_ib, z_lt, z_le, z_eq, z_eq0, z_le0, z_lt0, z_b0, z_b1, z_m1, z_and7, Int32.add_zero, e712_16a hF, c1, e712_19a hF, (DC.1 1 (by omega)), d1, e712_37a hF, e1, e712_40a hF, told, c_isIn hF, e712_51a hF]
  simp (disch := omega) only [pm_k_i, Option.toList_some, Option.toList_none, List.cons_append, List.nil_append, cond_true, cond_false, ↓reduceIte, reduceCtorEq, z_1, nI_add, z_cl, z_ib, z_lt, z_le, z_eq, z_eq0, z_le0, z_lt0, z_b0, z_b1, z_m1, z_and7, Int32.add_zero] at g1
  rw [g1, e712_59a hF, s1]
  simp (disch := omega) only [pm_k_i, Option.toList_some, Option.toList_none, List.cons_append, List.nil_append, cond_true, cond_false, ↓reduceIte, reduceCtorEq, z_1, nI_add, z_cl, z_ib, z_lt, z_le, z_eq, z_eq0, z_le0, z_lt0, z_b0, z_b1, z_m1, z_and7, Int32.add_zero, e712_65a hF, t1, e712_71a hF]
  rw [t3.2.2.2.1]
  by_cases z : f6 = 0
  · subst z
    have z1 := oS_0 hF6
    have z2 := oN_0 (hF5.trans z1.1)
    have z3 : f3 = 0 ∧ (d 9 ((pfn n b d q1).getD 7)).testBit ((ofn n b d q2).getD 7) = false := by
      have h4 := hF4.trans z2.1
      by_cases c : f3 = 0
      · rw [if_pos c] at h4
        refine ⟨c, ?_⟩
        cases x : (d 9 ((pfn n b d q1).getD 7)).testBit ((ofn n b d q2).getD 7) with
        | false => rfl
        | true => rw [x] at h4; cases h4
      · rw [if_neg c] at h4; exact absurd h4 c
    have z4 := oK_0 (hF3.trans z3.1)
    have z5 := oA_0 z4.1
    have p1 := c5 z5.1
    have o1 := e5 z3.1
    have pl := (ff_some p1).1
    have ol := (ff_some o1).1
    have ev' := s4 z1.1
    have told7 := (DE.2.2.2.1 ip c2).2.1
    rw [if_pos (show nI 0 = 0 from rfl), p1, o1]
    show ∃ I' L', _ ∧ CL n b (aq n b q4 0, 0, ud (ud d 9 ip (ad (d 9 ip) io)) 5 (8 * ip + io) (vl n b q3)) I I' L L'
    simp (disch := omega) only [pm_k_i, Option.toList_some, Option.toList_none, List.cons_append, List.nil_append, cond_true, cond_false, ↓reduceIte, reduceCtorEq, z_1, nI_add, z_cl, z_ib, z_lt, z_le, z_eq, z_eq0, z_le0, z_lt0, z_b0, z_b1, z_m1, z_and7, Int32.add_zero, z_8m, told7, z_ad, ev']
    have XE : CP n b q4 0 (pm_ui (pm_ui A7 21 ip (nI (ad (d 9 ip) io))) 16 (8 * ip + io) (nI (vl n b q3))) L7 := (t3.u (by omega)).u (by omega)
    obtain ⟨U, V, u1, u2, u3⟩ := c_adv hF hb XE
    simp (disch := omega) only [pm_k_i, Option.toList_some, Option.toList_none, List.cons_append, List.nil_append, cond_true, cond_false, ↓reduceIte, reduceCtorEq, z_1, nI_add, z_cl, z_ib, z_lt, z_le, z_eq, z_eq0, z_le0, z_lt0, z_b0, z_b1, z_m1, z_and7, Int32.add_zero, e706_179 hF, e706_213 hF, u1, e706_217 hF]
    refine ⟨U, V, rfl, (fp.fl.tr ⟨fun r j a => by rw [z_ur (by omega), z_ur (by omega)], fun r j a1 a2 a3 => rfl⟩).tr u2.fl, u3, fun _ => ?_⟩
    obtain ⟨x1, x2, x3, x4, x5, x6⟩ := DE
    refine u2.cd ⟨fun j hj => ?_, ?_, fun p p0 => ?_, fun p p0 => ?_, fun x hx => ?_, fun o o1 => x6 o o1⟩
    · simp (disch := omega) only [z_ur]; exact x1 j hj
    · simp (disch := omega) only [z_ur]; exact x2
    · simp (disch := omega) only [z_ur]; exact x3 p p0
    · obtain ⟨k1, k2, k3⟩ := x4 p p0
      refine ⟨by simp (disch := omega) only [z_ur]; exact k1, ?_, by simp (disch := omega) only [z_ur]; exact k3⟩
      show pm_ui (pm_ui A7 21 ip (nI (ad (d 9 ip) io))) 16 (8 * ip + io) (nI (vl n b q3)) 21 p = nI (ud d 9 ip (ad (d 9 ip) io) 9 p)
      rw [z_ur (by omega)]
      unfold ud
      by_cases c : p = ip
      · rw [c, z_ue, if_pos ⟨rfl, rfl⟩]
      · rw [z_uk c, if_neg (fun h => c h.2)]; exact k2
    · obtain ⟨k1, k2⟩ := x5 x hx
      refine ⟨?_, by simp (disch := omega) only [z_ur]; exact k2⟩
      show pm_ui (pm_ui A7 21 ip (nI (ad (d 9 ip) io))) 16 (8 * ip + io) (nI (vl n b q3)) 16 x = nI (ud d 5 (8 * ip + io) (vl n b q3) 5 x)
      unfold ud
      by_cases c : x = 8 * ip + io
      · rw [c, z_ue, if_pos ⟨rfl, rfl⟩]
      · rw [z_uk c, z_ur (by omega), if_neg (fun h => c h.2)]; exact k1
  · have sl := t3.2.2.2.2.2.2
    rw [if_neg (show ¬ nI f6 = 0 by rw [z_eq0 (by omega)]; exact z)]
    obtain ⟨U, V, u1, u2, u3⟩ := c_adv hF hb t3
    simp (disch := omega) only [pm_k_i, Option.toList_some, Option.toList_none, List.cons_append, List.nil_append, cond_true, cond_false, ↓reduceIte, reduceCtorEq, z_1, nI_add, z_cl, z_ib, z_lt, z_le, z_eq, z_eq0, z_le0, z_lt0, z_b0, z_b1, z_m1, z_and7, Int32.add_zero, e706_179 hF, e706_213 hF, u1, e706_217 hF]
    exact ⟨U, V, rfl, fp.fl.tr u2.fl, u3, fun h => absurd h z⟩
theorem c_lineTb (hF : pm_fix pt_me pt_Sg (pt_R L0 xs) F) (hb : ∀ i, b i < 256) (X : CP n b q 0 I L) (D : CD n b d I L) (G : DG n b d) (h1 : kd n b q = 1) (hw : kw n b q = some 11) : ∃ I' L', (F 706 0 [some (.ref 10)] [] (49, pt_G, I, L)) = some (none, (49, pt_G, I', L')) ∧ CL n b (lnT n b d 10 6 9 q) I I' L L' := by
  have w : I 10 15 = nI 11 := by rw [(X.2.2.2.2.2.1 rfl).2.2.2.1, if_pos h1, hw]; rfl
  have hP := G.P
  have hO := G.O
  obtain ⟨B, K, y, b1, b2, b3, b4⟩ := c_readName hF hb X
  have DB := b2.cd D
  obtain ⟨C, ip, c1, c2, c3, c4, c5⟩ := c_knownP hF b3 DB G (y := y) (fun z => ⟨b4 z, by have := (oA_0 z).2.2.2; omega⟩)
  have DC := c3.cd DB
  generalize hQ1 : aq n b q 0 = q1 at *
  generalize hF2 : oK (pfn n b d q1) (oA n b q1 0) = f2 at *
  obtain ⟨E, N, y2, d1, d2, d3, d4⟩ := c_readName hF hb c4
  have DE := d2.cd DC
  obtain ⟨A4, io, e1, e2, e3, e4, e5⟩ := c_knownO hF d3 DE G (y := y2) (fun z => ⟨d4 z, by have := (oA_0 z).2.2.2; omega⟩)
  have D4 := e3.cd DE
  generalize hQ2 : aq n b q1 f2 = q2 at *
  generalize hF3 : oK (ofn n b d q2) (oA n b q2 f2) = f3 at *
  have told := (D4.2.2.2.1 ip c2).2.2
  have tl := (G.2.2.2.2.1 ip).2
  -- told already
  obtain ⟨A5, g1, g2, g3⟩ : ∃ A5, (if nI ((d 10 ip).testBit io).toNat = 0 then (F 712 59 [some (.ref 10), some (.ref 22), some (.ref 17), some (.int 9), some (.int (nI ip)), some (.int (nI io)), none] [] (49, pt_G, A4, N)) else pm_k (F 704 0 [some (.ref 10), some (.int 3)] [] (49, pt_G, A4, N)) (fun v S => F 712 59 [some (.ref 10), some (.ref 22), some (.ref 17), some (.int 9), some (.int (nI ip)), some (.int (nI io)), none] (v.toList ++ []) S)) = (F 712 59 [some (.ref 10), some (.ref 22), some (.ref 17), some (.int 9), some (.int (nI ip)), some (.int (nI io)), none] [] (49, pt_G, A5, N)) ∧ FP A4 A5 N N ∧ CP n b q2 (if f3 = 0 then (bif (d 10 ((pfn n b d q1).getD 7)).testBit ((ofn n b d q2).getD 7) then 3 else 0) else f3) A5 N := by
    obtain ⟨U, u1, u2, u3⟩ := c_fail hF e4 (k := 3) (by omega) (by omega)
    have u1 : (F 704 0 [some (.ref 10), some (.int 3)] [] (49, pt_G, A4, N)) = _ := u1
    rw [u1]
    by_cases c : f3 = 0
    · have z1 := oK_0 (hF3.trans c)
      have z2 := oA_0 z1.1
      have p1 := c5 z2.1
      have o1 := e5 c
      have e6 : fk f3 3 = 3 := if_pos c
      rw [e6] at u3
      rw [if_pos c, p1, o1]
      show ∃ A5, _ ∧ _ ∧ CP n b q2 (bif (d 10 ip).testBit io then 3 else 0) A5 N
      cases (d 10 ip).testBit io with
      | true => exact ⟨U, rfl, u2, u3⟩
      | false =>
        subst c
        exact ⟨A4, rfl, FP.rf, e4⟩
    · have e6 : fk f3 3 = f3 := if_neg c
      rw [e6] at u3
      rw [if_neg c]
      cases (d 10 ip).testBit io with
      | true => exact ⟨U, rfl, u2, u3⟩
      | false => exact ⟨A4, rfl, FP.rf, e4⟩
  generalize hF4 : (if f3 = 0 then (bif (d 10 ((pfn n b d q1).getD 7)).testBit ((ofn n b d q2).getD 7) then 3 else 0) else f3) = f4 at *
  obtain ⟨A6, L6, v, s1, s2, s3, s4⟩ := c_readNumber hF hb g3 (lo := 0) (hi := 9) (by omega) (by omega)
  have s1 : (F 714 0 [some (.ref 10), some (.int 0), some (.int 9)] [] (49, pt_G, A5, N)) = _ := s1
  generalize hQ3 : aq n b q2 f4 = q3 at *
  generalize hF5 : oN n b 0 9 q3 f4 = f5 at *
  obtain ⟨A7, L7, t1, t2, t3⟩ := c_readSign hF hb s3
  generalize hQ4 : aq n b q3 f5 = q4 at *
  generalize hF6 : oS n b q4 f5 = f6 at *
  have el : lnT n b d 10 6 9 q = (aq n b q4 f6, f6, ud (ud d 10 ((pfn n b d q1).getD 7) (ad (d 10 ((pfn n b d q1).getD 7)) ((ofn n b d q2).getD 7))) 6 (8 * ((pfn n b d q1).getD 7) + ((ofn n b d q2).getD 7)) (vl n b q3)) := by
    subst hF6; subst hQ4; subst hF5; subst hQ3; subst hF4; subst hF3; subst hQ2; subst hF2; subst hQ1
    rfl
  rw [el]
  have fp : FP I A7 L L7 := ((b2.tr c3).tr (d2.tr e3)).tr (g2.tr (s2.tr t2))
  have DE := fp.cd D
  have im : (some (.int (nI ((d 10 ip).testBit io).toNat)), ((49, pt_G, A4, N) : pm_S)) = ((some (.int (nI ((d 10 ip).testBit io).toNat)), (49, pt_G, A4, N)) : Option Value × pm_S) := rfl
  rw [e706_0 hF, w, if_neg (by decide), if_neg (by decide), if_neg (by decide), if_neg (by decide), if_neg (by decide), if_neg (by decide), if_neg (by decide), if_neg (by decide), if_neg (by decide), if_neg (by decide), if_neg (by decide), if_pos rfl, e712_0b hF, b1, D.1 0 (by omega)]
  simp (disch := omega) only [pm_k_i, Option.toList_some, Option.toList_none, List.cons_append, List.nil_append, cond_true, cond_false, ↓reduceIte, reduceCtorEq, z_1, nI_add, z_cl, z_ib, z_lt, z_le, z_eq, z_eq0, z_le0, z_lt0, z_b0, z_b1, z_m1, z_and7, Int32.add_zero, e712_16b hF, c1, e712_19b hF, (DC.1 1 (by omega)), d1, e712_37b hF, e1, e712_40b hF, told, c_isIn hF, e712_51b hF]
  simp (disch := omega) only [pm_k_i, Option.toList_some, Option.toList_none, List.cons_append, List.nil_append, cond_true, cond_false, ↓reduceIte, reduceCtorEq, z_1, nI_add, z_cl, z_ib, z_lt, z_le, z_eq, z_eq0, z_le0, z_lt0, z_b0, z_b1, z_m1, z_and7, Int32.add_zero] at g1
  rw [g1, e712_59b hF, s1]
  simp (disch := omega) only [pm_k_i, Option.toList_some, Option.toList_none, List.cons_append, List.nil_append, cond_true, cond_false, ↓reduceIte, reduceCtorEq, z_1, nI_add, z_cl, z_ib, z_lt, z_le, z_eq, z_eq0, z_le0, z_lt0, z_b0, z_b1, z_m1, z_and7, Int32.add_zero, e712_65b hF, t1, e712_71b hF]
  rw [t3.2.2.2.1]
  by_cases z : f6 = 0
  · subst z
    have z1 := oS_0 hF6
    have z2 := oN_0 (hF5.trans z1.1)
    have z3 : f3 = 0 ∧ (d 10 ((pfn n b d q1).getD 7)).testBit ((ofn n b d q2).getD 7) = false := by
      have h4 := hF4.trans z2.1
      by_cases c : f3 = 0
      · rw [if_pos c] at h4
        refine ⟨c, ?_⟩
        cases x : (d 10 ((pfn n b d q1).getD 7)).testBit ((ofn n b d q2).getD 7) with
        | false => rfl
        | true => rw [x] at h4; cases h4
      · rw [if_neg c] at h4; exact absurd h4 c
    have z4 := oK_0 (hF3.trans z3.1)
    have z5 := oA_0 z4.1
    have p1 := c5 z5.1
    have o1 := e5 z3.1
    have pl := (ff_some p1).1
    have ol := (ff_some o1).1
    have ev' := s4 z1.1
    have told7 := (DE.2.2.2.1 ip c2).2.2
    rw [if_pos (show nI 0 = 0 from rfl), p1, o1]
    show ∃ I' L', _ ∧ CL n b (aq n b q4 0, 0, ud (ud d 10 ip (ad (d 10 ip) io)) 6 (8 * ip + io) (vl n b q3)) I I' L L'
    simp (disch := omega) only [pm_k_i, Option.toList_some, Option.toList_none, List.cons_append, List.nil_append, cond_true, cond_false, ↓reduceIte, reduceCtorEq, z_1, nI_add, z_cl, z_ib, z_lt, z_le, z_eq, z_eq0, z_le0, z_lt0, z_b0, z_b1, z_m1, z_and7, Int32.add_zero, z_8m, told7, z_ad, ev']
    have XE : CP n b q4 0 (pm_ui (pm_ui A7 22 ip (nI (ad (d 10 ip) io))) 17 (8 * ip + io) (nI (vl n b q3))) L7 := (t3.u (by omega)).u (by omega)
    obtain ⟨U, V, u1, u2, u3⟩ := c_adv hF hb XE
    simp (disch := omega) only [pm_k_i, Option.toList_some, Option.toList_none, List.cons_append, List.nil_append, cond_true, cond_false, ↓reduceIte, reduceCtorEq, z_1, nI_add, z_cl, z_ib, z_lt, z_le, z_eq, z_eq0, z_le0, z_lt0, z_b0, z_b1, z_m1, z_and7, Int32.add_zero, e706_199 hF, e706_213 hF, u1, e706_217 hF]
    refine ⟨U, V, rfl, (fp.fl.tr ⟨fun r j a => by rw [z_ur (by omega), z_ur (by omega)], fun r j a1 a2 a3 => rfl⟩).tr u2.fl, u3, fun _ => ?_⟩
    obtain ⟨x1, x2, x3, x4, x5, x6⟩ := DE
    refine u2.cd ⟨fun j hj => ?_, ?_, fun p p0 => ?_, fun p p0 => ?_, fun x hx => ?_, fun o o1 => x6 o o1⟩
    · simp (disch := omega) only [z_ur]; exact x1 j hj
    · simp (disch := omega) only [z_ur]; exact x2
    · simp (disch := omega) only [z_ur]; exact x3 p p0
    · obtain ⟨k1, k2, k3⟩ := x4 p p0
      refine ⟨by simp (disch := omega) only [z_ur]; exact k1, by simp (disch := omega) only [z_ur]; exact k2, ?_⟩
      show pm_ui (pm_ui A7 22 ip (nI (ad (d 10 ip) io))) 17 (8 * ip + io) (nI (vl n b q3)) 22 p = nI (ud d 10 ip (ad (d 10 ip) io) 10 p)
      rw [z_ur (by omega)]
      unfold ud
      by_cases c : p = ip
      · rw [c, z_ue, if_pos ⟨rfl, rfl⟩]
      · rw [z_uk c, if_neg (fun h => c h.2)]; exact k3
    · obtain ⟨k1, k2⟩ := x5 x hx
      refine ⟨by simp (disch := omega) only [z_ur]; exact k1, ?_⟩
      show pm_ui (pm_ui A7 22 ip (nI (ad (d 10 ip) io))) 17 (8 * ip + io) (nI (vl n b q3)) 17 x = nI (ud d 6 (8 * ip + io) (vl n b q3) 6 x)
      unfold ud
      by_cases c : x = 8 * ip + io
      · rw [c, z_ue, if_pos ⟨rfl, rfl⟩]
      · rw [z_uk c, z_ur (by omega), if_neg (fun h => c h.2)]; exact k2
  · have sl := t3.2.2.2.2.2.2
    rw [if_neg (show ¬ nI f6 = 0 by rw [z_eq0 (by omega)]; exact z)]
    obtain ⟨U, V, u1, u2, u3⟩ := c_adv hF hb t3
    simp (disch := omega) only [pm_k_i, Option.toList_some, Option.toList_none, List.cons_append, List.nil_append, cond_true, cond_false, ↓reduceIte, reduceCtorEq, z_1, nI_add, z_cl, z_ib, z_lt, z_le, z_eq, z_eq0, z_le0, z_lt0, z_b0, z_b1, z_m1, z_and7, Int32.add_zero, e706_199 hF, e706_213 hF, u1, e706_217 hF]
    exact ⟨U, V, rfl, fp.fl.tr u2.fl, u3, fun h => absurd h z⟩
theorem c_lineB (hF : pm_fix pt_me pt_Sg (pt_R L0 xs) F) (hb : ∀ i, b i < 256) (X : CP n b q 0 I L) (D : CD n b d I L) (G : DG n b d) (h1 : kd n b q = 1) (hw : kw n b q = some 12) : ∃ I' L', (F 706 0 [some (.ref 10)] [] (49, pt_G, I, L)) = some (none, (49, pt_G, I', L')) ∧ CL n b (lnB n b d q) I I' L L' := by
  have w : I 10 15 = nI 12 := by rw [(X.2.2.2.2.2.1 rfl).2.2.2.1, if_pos h1, hw]; rfl
  have hP := G.P
  obtain ⟨B, K, y, b1, b2, b3, b4⟩ := c_readName hF hb X
  have DB := b2.cd D
  obtain ⟨C, ip, c1, c2, c3, c4, c5⟩ := c_knownP hF b3 DB G (y := y) (fun z => ⟨b4 z, by have := (oA_0 z).2.2.2; omega⟩)
  have DC := c3.cd DB
  generalize hQ1 : aq n b q 0 = q1 at *
  generalize hF2 : oK (pfn n b d q1) (oA n b q1 0) = f2 at *
  obtain ⟨E, N, y2, d1, d2, d3, d4⟩ := c_readName hF hb c4
  have DE := d2.cd DC
  obtain ⟨A4, io, e1, e2, e3, e4, e5⟩ := c_knownP hF d3 DE G (y := y2) (fun z => ⟨d4 z, by have := (oA_0 z).2.2.2; omega⟩)
  generalize hQ2 : aq n b q1 f2 = q2 at *
  generalize hF3 : oK (pfn n b d q2) (oA n b q2 f2) = f3 at *
  obtain ⟨A5, g1, g2, g3⟩ : ∃ A5, (if ip = io then pm_k (F 704 0 [some (.ref 10), some (.int 3)] [] (49, pt_G, A4, N)) (fun v S => F 713 50 [some (.ref 10), some (.int (nI ip)), some (.int (nI io))] (v.toList ++ []) S) else (F 713 50 [some (.ref 10), some (.int (nI ip)), some (.int (nI io))] [] (49, pt_G, A4, N))) = (F 713 50 [some (.ref 10), some (.int (nI ip)), some (.int (nI io))] [] (49, pt_G, A5, N)) ∧ FP A4 A5 N N ∧ CP n b q2 (if f3 = 0 then (if (pfn n b d q1).getD 7 = (pfn n b d q2).getD 7 then 3 else 0) else f3) A5 N := by
    obtain ⟨U, u1, u2, u3⟩ := c_fail hF e4 (k := 3) (by omega) (by omega)
    have u1 : (F 704 0 [some (.ref 10), some (.int 3)] [] (49, pt_G, A4, N)) = _ := u1
    rw [u1]
    by_cases c : f3 = 0
    · have z1 := oK_0 (hF3.trans c)
      have z2 := oA_0 z1.1
      have p1 := c5 z2.1
      have o1 := e5 c
      have e6 : fk f3 3 = 3 := if_pos c
      rw [e6] at u3
      rw [if_pos c, p1, o1]
      show ∃ A5, _ ∧ _ ∧ CP n b q2 (if ip = io then 3 else 0) A5 N
      by_cases x : ip = io
      · rw [if_pos x, if_pos x]; exact ⟨U, rfl, u2, u3⟩
      · rw [if_neg x, if_neg x]
        subst c
        exact ⟨A4, rfl, FP.rf, e4⟩
    · have e6 : fk f3 3 = f3 := if_neg c
      rw [e6] at u3
      rw [if_neg c]
      by_cases x : ip = io
      · rw [if_pos x]; exact ⟨U, rfl, u2, u3⟩
      · rw [if_neg x]; exact ⟨A4, rfl, FP.rf, e4⟩
  generalize hF4 : (if f3 = 0 then (if (pfn n b d q1).getD 7 = (pfn n b d q2).getD 7 then 3 else 0) else f3) = f4 at *
  obtain ⟨A7, L7, t1, t2, t3⟩ := c_readSign hF hb g3
  generalize hQ3 : aq n b q2 f4 = q3 at *
  generalize hF5 : oS n b q3 f4 = f5 at *
  have el : lnB n b d q = (aq n b q3 f5, f5, ud (ud d 4 ((pfn n b d q1).getD 7) (ad (d 4 ((pfn n b d q1).getD 7)) ((pfn n b d q2).getD 7))) 4 ((pfn n b d q2).getD 7) (ad (d 4 ((pfn n b d q2).getD 7)) ((pfn n b d q1).getD 7))) := by
    subst hF5; subst hQ3; subst hF4; subst hF3; subst hQ2; subst hF2; subst hQ1
    rfl
  rw [el]
  have fp : FP I A7 L L7 := ((b2.tr c3).tr (d2.tr e3)).tr (g2.tr t2)
  have DE := fp.cd D
  rw [e706_0 hF, w, if_neg (by decide), if_neg (by decide), if_neg (by decide), if_neg (by decide), if_neg (by decide), if_neg (by decide), if_neg (by decide), if_neg (by decide), if_neg (by decide), if_neg (by decide), if_neg (by decide), if_neg (by decide), if_pos rfl, e713_0 hF, b1, D.1 0 (by omega)]
  simp (disch := omega) only [pm_k_i, Option.toList_some, Option.toList_none, List.cons_append, List.nil_append, cond_true, cond_false, ↓reduceIte, reduceCtorEq, z_1, nI_add, z_cl, z_ib, z_lt, z_le, z_eq, z_eq0, z_le0, z_lt0, z_b0, z_b1, z_m1, z_and7, Int32.add_zero, e713_16 hF, c1, e713_19 hF, (DC.1 0 (by omega)), d1, e713_36 hF, e1, e713_39 hF]
  rw [g1, e713_50 hF, t1]
  simp (disch := omega) only [pm_k_i, Option.toList_some, Option.toList_none, List.cons_append, List.nil_append, cond_true, cond_false, ↓reduceIte, reduceCtorEq, z_1, nI_add, z_cl, z_ib, z_lt, z_le, z_eq, z_eq0, z_le0, z_lt0, z_b0, z_b1, z_m1, z_and7, Int32.add_zero, e713_54 hF]
  rw [t3.2.2.2.1]
  by_cases z : f5 = 0
  · subst z
    have z1 := oS_0 hF5
    have z3 : f3 = 0 ∧ (pfn n b d q1).getD 7 ≠ (pfn n b d q2).getD 7 := by
      have h4 := hF4.trans z1.1
      by_cases c : f3 = 0
      · rw [if_pos c] at h4
        refine ⟨c, fun x => ?_⟩
        rw [if_pos x] at h4; cases h4
      · rw [if_neg c] at h4; exact absurd h4 c
    have z4 := oK_0 (hF3.trans z3.1)
    have z5 := oA_0 z4.1
    have p1 := c5 z5.1
    have o1 := e5 z3.1
    have pl := (ff_some p1).1
    have ol := (ff_some o1).1
    have z6 := z3.2
    rw [p1, o1] at z6
    have z6 : ip ≠ io := z6
    have bp := G.1.bars ip
    have bo := G.1.bars io
    have kp := (DE.2.2.2.1 ip c2).1
    have ko := (DE.2.2.2.1 io e2).1
    rw [if_pos (show nI 0 = 0 from rfl), p1, o1]
    show ∃ I' L', _ ∧ CL n b (aq n b q3 0, 0, ud (ud d 4 ip (ad (d 4 ip) io)) 4 io (ad (d 4 io) ip)) I I' L L'
    simp (disch := omega) only [pm_k_i, Option.toList_some, Option.toList_none, List.cons_append, List.nil_append, cond_true, cond_false, ↓reduceIte, reduceCtorEq, z_1, nI_add, z_cl, z_ib, z_lt, z_le, z_eq, z_eq0, z_le0, z_lt0, z_b0, z_b1, z_m1, z_and7, Int32.add_zero, kp, z_uk, ko, z_ad]
    have XE : CP n b q3 0 (pm_ui (pm_ui A7 15 ip (nI (ad (d 4 ip) io))) 15 io (nI (ad (d 4 io) ip))) L7 := (t3.u (by omega)).u (by omega)
    obtain ⟨U, V, u1, u2, u3⟩ := c_adv hF hb XE
    simp (disch := omega) only [pm_k_i, Option.toList_some, Option.toList_none, List.cons_append, List.nil_append, cond_true, cond_false, ↓reduceIte, reduceCtorEq, z_1, nI_add, z_cl, z_ib, z_lt, z_le, z_eq, z_eq0, z_le0, z_lt0, z_b0, z_b1, z_m1, z_and7, Int32.add_zero, e706_206 hF, e706_213 hF, u1, e706_217 hF]
    refine ⟨U, V, rfl, (fp.fl.tr ⟨fun r j a => by rw [z_ur (by omega), z_ur (by omega)], fun r j a1 a2 a3 => rfl⟩).tr u2.fl, u3, fun _ => ?_⟩
    obtain ⟨x1, x2, x3, x4, x5, x6⟩ := DE
    refine u2.cd ⟨fun j hj => ?_, ?_, fun p p0 => ?_, fun p p0 => ?_, fun x hx => ?_, fun o o1 => x6 o o1⟩
    · simp (disch := omega) only [z_ur]; exact x1 j hj
    · simp (disch := omega) only [z_ur]; exact x2
    · simp (disch := omega) only [z_ur]; exact x3 p p0
    · obtain ⟨k1, k2, k3⟩ := x4 p p0
      refine ⟨?_, by simp (disch := omega) only [z_ur]; exact k2, by simp (disch := omega) only [z_ur]; exact k3⟩
      show pm_ui (pm_ui A7 15 ip (nI (ad (d 4 ip) io))) 15 io (nI (ad (d 4 io) ip)) 15 p = nI (ud (ud d 4 ip (ad (d 4 ip) io)) 4 io (ad (d 4 io) ip) 4 p)
      unfold ud
      by_cases c : p = io
      · rw [c, z_ue, if_pos ⟨rfl, rfl⟩]
      · rw [z_uk c, if_neg (fun h => c h.2)]
        by_cases c2 : p = ip
        · rw [c2, z_ue, if_pos ⟨rfl, rfl⟩]
        · rw [z_uk c2, if_neg (fun h => c2 h.2)]; exact k1
    · simp (disch := omega) only [z_ur]; exact x5 x hx
  · have sl := t3.2.2.2.2.2.2
    rw [if_neg (show ¬ nI f5 = 0 by rw [z_eq0 (by omega)]; exact z)]
    obtain ⟨U, V, u1, u2, u3⟩ := c_adv hF hb t3
    simp (disch := omega) only [pm_k_i, Option.toList_some, Option.toList_none, List.cons_append, List.nil_append, cond_true, cond_false, ↓reduceIte, reduceCtorEq, z_1, nI_add, z_cl, z_ib, z_lt, z_le, z_eq, z_eq0, z_le0, z_lt0, z_b0, z_b1, z_m1, z_and7, Int32.add_zero, e706_206 hF, e706_213 hF, u1, e706_217 hF]
    exact ⟨U, V, rfl, fp.fl.tr u2.fl, u3, fun h => absurd h z⟩
theorem c_readLine (hF : pm_fix pt_me pt_Sg (pt_R L0 xs) F) (hb : ∀ i, b i < 256) (X : CP n b q 0 I L) (D : CD n b d I L) (G : DG n b d) : ∃ I' L', (F 706 0 [some (.ref 10)] [] (49, pt_G, I, L)) = some (none, (49, pt_G, I', L')) ∧ CL n b (lin n b d q) I I' L L' := by
  unfold lin
  by_cases h1 : kd n b q = 1
  · rw [if_pos h1]
    cases hw : kw n b q with
    | none => exact c_lineX hF hb X D (fun k _ _ z => by rw [hw] at z; cases z.2)
    | some k =>
      have k13 := kw_lt hw
      have hk : k = 0 ∨ k = 1 ∨ k = 2 ∨ k = 3 ∨ k = 4 ∨ k = 5 ∨ k = 6 ∨ k = 7 ∨ k = 8 ∨ k = 9 ∨ k = 10 ∨ k = 11 ∨ k = 12 := by omega
      rcases hk with rfl | rfl | rfl | rfl | rfl | rfl | rfl | rfl | rfl | rfl | rfl | rfl | rfl
      · exact c_line0 hF hb X D G h1 hw
      · exact c_line1 hF hb X D G h1 hw
      · exact c_line2 hF hb X D G h1 hw
      · exact c_line3 hF hb X D G h1 hw
      · exact c_line4 hF hb X D G h1 hw
      · exact c_lineO hF hb X D G h1 hw
      · exact c_lineP hF hb X D G h1 hw
      · exact c_lineX hF hb X D (fun k a _ z => by rw [hw] at z; cases z.2; omega)
      · exact c_lineX hF hb X D (fun k a _ z => by rw [hw] at z; cases z.2; omega)
      · exact c_lineX hF hb X D (fun k a _ z => by rw [hw] at z; cases z.2; omega)
      · exact c_lineTa hF hb X D G h1 hw
      · exact c_lineTb hF hb X D G h1 hw
      · exact c_lineB hF hb X D G h1 hw
  · rw [if_neg h1]
    exact c_lineX hF hb X D (fun k _ _ z => h1 z.1)
end
