/-! ===== the model: a party's line ===== -/
section
variable {I I' : Nat → Nat → Int32} {L L' : Nat → Nat → Int64}
variable {F : pm_F} {L0 : Nat} {xs : Nat → Int32}
variable {n q f : Nat} {b : Nat → Nat} {d : Nat → Nat → Nat}
theorem lnw_f (c : f ≠ 0) : (lnw n b q f).1 = q ∧ (lnw n b q f).2.1 = f := by
  have ea : aq n b q f = q := if_neg c
  have eo : oN n b 0 999 q f = f := if_neg c
  unfold lnw
  split
  · show aq n b (aq n b q f) (oN n b 0 999 (aq n b q f) f) = q ∧ oN n b 0 999 (aq n b q f) f = f
    rw [ea, eo, ea]
    exact ⟨rfl, rfl⟩
  · exact ⟨rfl, rfl⟩
/-- the last part of it: a walk, if there is one -/
theorem m_walk (hF : pm_fix pt_me pt_Sg (pt_R L0 xs) F) (hb : ∀ i, b i < 256) {P : Nat} (hP : P < 7) (X : MP n b q f I L) (h13 : I 49 13 = nI P) (h55 : I 55 P = 0) : ∃ I' L', pm_k (F 1216 0 [some (.ref 49), some (.long 2002873451), none] [] (81, pt_G, I, L)) (fun v S => F 1228 118 [some (.ref 49)] (v.toList ++ []) S) = some (none, (81, pt_G, (if (lnw n b q f).2.1 = 0 then pm_ui I' 49 13 (nI (P + 1)) else I'), L')) ∧ GL' I I' L L' ∧ MP n b (lnw n b q f).1 (lnw n b q f).2.1 I' L' ∧ (∀ r j, 13 ≤ j → r = 49 → I' r j = I r j) ∧ (∀ r j, r ≠ 49 → (r = 55 → j ≠ P) → I' r j = I r j) ∧ (∀ r j, r ≠ 49 → L' r j = L r j) ∧ ((lnw n b q f).2.1 = 0 → I' 55 P = nI (lnw n b q f).2.2) := by
  have wd : (F 1216 0 [some (.ref 49), some (.long 2002873451), none] [] (81, pt_G, I, L)) = some (some (.int (nI (decide (f = 0 ∧ kd n b q = 1 ∧ kw n b q = some 9)).toNat)), (81, pt_G, I, L)) := m_isWord hF X (k := 9) (by omega)
  rw [wd]
  simp (disch := omega) only [pm_k_i, Option.toList_some, Option.toList_none, List.cons_append, List.nil_append, cond_true, cond_false, ↓reduceIte, reduceCtorEq, z_1, nI_add, z_cl, z_ib, z_lt, z_le, z_eq, z_eq0, z_le0, z_lt0, z_b0, z_b1, z_m1, z_and7, Int32.add_zero, e1228_118 hF, decide_eq_false_iff_not]
  by_cases c : f = 0 ∧ kd n b q = 1 ∧ kw n b q = some 9
  · rw [if_neg (fun z => z c)]
    obtain ⟨c1, c2⟩ := c
    subst c1
    have el : lnw n b q 0 = (aq n b (aq n b q 0) (oN n b 0 999 (aq n b q 0) 0), oN n b 0 999 (aq n b q 0) 0, vl n b (aq n b q 0)) := if_pos c2
    obtain ⟨A, K, a1, a2, a3⟩ := m_adv hF hb X
    obtain ⟨B, M, x, b1, b2, b3, b4⟩ := m_number hF hb a3 (lo := 0) (hi := 999) (by omega) (by omega)
    have b1 : (F 1221 0 [some (.ref 49), some (.int 0), some (.int 999), none] [] (81, pt_G, A, K)) = _ := b1
    rw [el]
    generalize hg : oN n b 0 999 (aq n b q 0) 0 = g at *
    have A13 : A 49 13 = nI P := by rw [a2.1 49 13 (by omega)]; exact h13
    have B13 : B 49 13 = nI P := by rw [b2.1 49 13 (by omega)]; exact A13
    have X2 : MP n b (aq n b (aq n b q 0) g) g (pm_ui B 55 P x) M := b3.u (by omega)
    simp (disch := omega) only [pm_k_i, Option.toList_some, Option.toList_none, List.cons_append, List.nil_append, cond_true, cond_false, ↓reduceIte, reduceCtorEq, z_1, nI_add, z_cl, z_ib, z_lt, z_le, z_eq, z_eq0, z_le0, z_lt0, z_b0, z_b1, z_m1, z_and7, Int32.add_zero, a1, e1228_125 hF, b1, A13, e1228_141 hF, m_isGood hF X2, e1228_146 hF, decide_eq_false_iff_not, z_ur, B13]
    refine ⟨pm_ui B 55 P x, M, ?_, ((a2.tr b2).gl).tr (GL'.u (by omega) (by omega)), X2, fun r j p e => ?_, fun r j e p => ?_, fun r j e => ?_, fun z => ?_⟩
    · by_cases z : g = 0
      · rw [if_neg (fun h => h z), if_pos z]
      · rw [if_pos z, if_neg z]
    · rw [z_ur (by omega), b2.1 r j (fun _ => by omega), a2.1 r j (fun _ => by omega)]
    · have e2 : pm_ui B 55 P x r j = B r j := by
        by_cases t : r = 55
        · rw [t, z_uk (p t)]
        · rw [z_ur t]
      rw [e2, b2.1 r j (fun z => absurd z e), a2.1 r j (fun z => absurd z e)]
    · rw [b2.2 r j (fun z => absurd z e), a2.2 r j (fun z => absurd z e)]
    · rw [z_ue]; exact b4 z
  · rw [if_pos c]
    have e : (lnw n b q f).1 = q ∧ (lnw n b q f).2.1 = f ∧ (f = 0 → (lnw n b q f).2.2 = 0) := by
      by_cases z : f = 0
      · have el : lnw n b q f = (q, f, 0) := if_neg (fun h => c ⟨z, h⟩)
        rw [el]
        exact ⟨rfl, rfl, fun _ => rfl⟩
      · obtain ⟨z1, z2⟩ := lnw_f (n := n) (b := b) (q := q) z
        exact ⟨z1, z2, fun h => absurd h z⟩
    rw [e.1, e.2.1]
    simp (disch := omega) only [pm_k_i, Option.toList_some, Option.toList_none, List.cons_append, List.nil_append, cond_true, cond_false, ↓reduceIte, reduceCtorEq, z_1, nI_add, z_cl, z_ib, z_lt, z_le, z_eq, z_eq0, z_le0, z_lt0, z_b0, z_b1, z_m1, z_and7, Int32.add_zero, m_isGood hF X, e1228_146 hF, decide_eq_false_iff_not, h13]
    refine ⟨I, L, ?_, GL'.rf, X, fun _ _ _ _ => rfl, fun _ _ _ _ => rfl, fun _ _ _ => rfl, fun z => by rw [e.2.2 z]; exact h55⟩
    by_cases z : f = 0
    · rw [if_neg (fun h => h z), if_pos z]
    · rw [if_pos z, if_neg z]
theorem m_party (hF : pm_fix pt_me pt_Sg (pt_R L0 xs) F) (hb : ∀ i, b i < 256) (X : MP n b q 0 I L) (D : MD n b d I L) (G : DG n b d) (h1 : kd n b q = 1) : ∃ I' L' p g, (F 1228 0 [some (.ref 49)] [] (81, pt_G, I, L)) = some (none, (81, pt_G, I', L')) ∧ GL' I I' L L' ∧ MP n b p g I' L' ∧ (aq n b p (oS n b p g), oS n b p g) = ((lnP n b d q).1, (lnP n b d q).2.1) ∧ (g = 0 → MD n b (lnP n b d q).2.2 I' L') := by
  have hP := G.P
  have key : ∀ A K q1 f1, (if d 0 0 < 7 then 0 else 5) = f1 → aq n b q f1 = q1 → GP I A L K → MP n b q1 f1 A K → ∃ I' L' p g, (F 1228 25 [some (.ref 49)] [] (81, pt_G, A, K)) = some (none, (81, pt_G, I', L')) ∧ GL' I I' L L' ∧ MP n b p g I' L' ∧ (aq n b p (oS n b p g), oS n b p g) = ((lnP n b d q).1, (lnP n b d q).2.1) ∧ (g = 0 → MD n b (lnP n b d q).2.2 I' L') := by
    intro A K q1 f1 hf1 hQ1 ga XA
    obtain ⟨B, b1, b2, b3⟩ := m_freshName hF XA (ga.md D) G
    have DB := b2.md (ga.md D)
    generalize hF3 : oF n b d q1 (oA n b q1 f1) = f3 at *
    generalize hQ2 : aq n b q1 f3 = q2 at *
    generalize hF4 : oW n b 7 q2 f3 = f4 at *
    generalize hQ3 : aq n b q2 f4 = q3 at *
    generalize hF5 : oN n b 1 999 q3 f4 = f5 at *
    generalize hQ4 : aq n b q3 f5 = q4 at *
    generalize hF6 : oW n b 8 q4 f5 = f6 at *
    generalize hQ5 : aq n b q4 f6 = q5 at *
    generalize hF7 : oN n b 0 99 q5 f6 = f7 at *
    generalize hQ6 : aq n b q5 f7 = q6 at *
    generalize hW : lnw n b q6 f7 = W at *
    generalize hF9 : oS n b W.1 W.2.1 = f9 at *
    have el : lnP n b d q = (aq n b W.1 f9, f9, ud (ud (ud (ud (ud d 7 (d 0 0) q1) 1 (d 0 0) (vl n b q3)) 2 (d 0 0) (vl n b q5)) 3 (d 0 0) W.2.2) 0 0 (d 0 0 + 1)) := by
      subst hF9; subst hW; subst hQ6; subst hF7; subst hQ5; subst hF6; subst hQ4; subst hF5; subst hQ3; subst hF4; subst hQ2; subst hF3; subst hQ1; subst hf1
      rfl
    have l := b3.2.2.2.2.2
    rw [el, e1228_25 hF, b1]
    simp (disch := omega) only [pm_k_i, Option.toList_some, Option.toList_none, List.cons_append, List.nil_append, cond_true, cond_false, ↓reduceIte, reduceCtorEq, z_1, nI_add, z_cl, z_ib, z_lt, z_le, z_eq, z_eq0, z_le0, z_lt0, z_b0, z_b1, z_m1, z_and7, Int32.add_zero, e1228_29 hF, b3.2.2.1]
    by_cases c : f3 = 0
    · subst c
      have z2 := oA_0 (oF_0 hF3).1
      have o7 : d 0 0 < 7 := by
        by_cases o7 : d 0 0 < 7
        · exact o7
        · rw [if_neg o7, z2.1] at hf1; omega
      have mk := b3.2.2.2.2.1 rfl
      have w := (mk.2.2.2.2 z2.2.1).2
      have X2 : MP n b q1 0 B (pm_ul K 51 (d 0 0) (lN (e8 n b q1))) := b3.of rfl (fun _ => rfl) (fun _ _ _ => rfl) (by rw [z_lr (by omega)])
      obtain ⟨C, M, c1, c2, c3⟩ := m_adv hF hb X2
      rw [hQ2] at c3
      obtain ⟨E, N, d1, d2, d3⟩ := m_mustWord hF hb c3 (k := 7) (by omega)
      have d1 : (F 1219 0 [some (.ref 49), some (.long 495622124659), none] [] (81, pt_G, C, M)) = _ := d1
      rw [hF4, hQ3] at d3
      obtain ⟨A5, L5, s, s1, s2, s3, s4⟩ := m_number hF hb d3 (lo := 1) (hi := 999) (by omega) (by omega)
      have s1 : (F 1221 0 [some (.ref 49), some (.int 1), some (.int 999), none] [] (81, pt_G, E, N)) = _ := s1
      rw [hF5] at s3 s4
      rw [hQ4] at s3
      have E13 : E 49 13 = nI (d 0 0) := by rw [d2.1 49 13 (by omega), c2.1 49 13 (by omega)]; exact DB.1.1
      have A13 : A5 49 13 = nI (d 0 0) := by rw [s2.1 49 13 (by omega)]; exact E13
      obtain ⟨A6, L6, t1, t2, t3⟩ := m_mustWord hF hb (s3.u (r := 53) (k := d 0 0) (v := s) (by omega)) (k := 8) (by omega)
      have t1 : (F 1219 0 [some (.ref 49), some (.long 24948), none] [] (81, pt_G, (pm_ui A5 53 (d 0 0) s), L5)) = _ := t1
      rw [hF6, hQ5] at t3
      have A63 : A6 49 13 = nI (d 0 0) := by rw [t2.1 49 13 (by omega), z_ur (by omega)]; exact A13
      obtain ⟨A7, L7, v, v1, v2, v3, v4⟩ := m_number hF hb t3 (lo := 0) (hi := 99) (by omega) (by omega)
      have v1 : (F 1221 0 [some (.ref 49), some (.int 0), some (.int 99), none] [] (81, pt_G, A6, L6)) = _ := v1
      rw [hF7] at v3 v4
      rw [hQ6] at v3
      have A73 : A7 49 13 = nI (d 0 0) := by rw [v2.1 49 13 (by omega)]; exact A63
      have X8 : MP n b q6 f7 (pm_ui (pm_ui A7 54 (d 0 0) v) 55 (d 0 0) 0) L7 := (v3.u (by omega)).u (by omega)
      obtain ⟨A9, L9, w1, w2, w3, w4, w5, w6, w7⟩ := m_walk hF hb o7 X8 (by rw [z_ur (by omega), z_ur (by omega)]; exact A73) z_ue
      rw [hW] at w1 w3 w7
      have fr : GL' I A9 L L9 := ((((ga.tr b2).gl.tr ⟨fun _ _ _ _ => rfl, fun r j a u v => by rw [z_lr (by omega)]⟩).tr ((c2.tr d2).tr s2).gl).tr ((GL'.u (r := 53) (k := d 0 0) (v := s) (by omega) (by omega)).tr (t2.tr v2).gl)).tr (((GL'.u (r := 54) (k := d 0 0) (v := v) (by omega) (by omega)).tr (GL'.u (r := 55) (k := d 0 0) (v := 0) (by omega) (by omega))).tr w2)
      simp (disch := omega) only [pm_k_i, Option.toList_some, Option.toList_none, List.cons_append, List.nil_append, cond_true, cond_false, ↓reduceIte, reduceCtorEq, z_1, nI_add, z_cl, z_ib, z_lt, z_le, z_eq, z_eq0, z_le0, z_lt0, z_b0, z_b1, z_m1, z_and7, Int32.add_zero, DB.1.1, w, c1, e1228_54 hF, d1, e1228_61 hF, E13, s1, e1228_77 hF, t1, e1228_85 hF, A63, v1, e1228_100 hF, A73, z_ur]

      rw [w1]
      refine ⟨_, L9, W.1, W.2.1, rfl, ?_, ?_, by rw [hF9], fun z => ?_⟩
      · by_cases z : W.2.1 = 0
        · rw [if_pos z]; exact fr.tr (GL'.u49 (by omega) (by omega))
        · rw [if_neg z]; exact fr
      · by_cases z : W.2.1 = 0
        · rw [if_pos z]; exact w3.u49 (by omega)
        · rw [if_neg z]; exact w3
      · rw [if_pos z]
        have z7 : f7 = 0 := lnw_0 (by rw [hW]; exact z)
        have z6 := oN_0 (hF7.trans z7)
        have z5 := oW_0 (hF6.trans z6.1)
        have es := s4 z5.1
        have ev' := v4 z7
        have ew := w7 z
        -- what the cells are now
        have g49 : ∀ j, 13 ≤ j → A9 49 j = B 49 j := fun j a => by
          rw [w4 49 j a rfl, z_ur (by omega), z_ur (by omega), v2.1 49 j (fun _ => by omega), t2.1 49 j (fun _ => by omega), z_ur (by omega), s2.1 49 j (fun _ => by omega), d2.1 49 j (fun _ => by omega), c2.1 49 j (fun _ => by omega)]
        have gr : ∀ r j, 53 ≤ r → (53 ≤ r → r ≤ 55 → j ≠ d 0 0) → A9 r j = B r j := fun r j a u => by
          have e1 : pm_ui (pm_ui A7 54 (d 0 0) v) 55 (d 0 0) 0 r j = A7 r j := by
            by_cases t : r = 55
            · rw [t, z_uk (u a (by omega)), z_ur (by omega)]
            · rw [z_ur t]
              by_cases t2 : r = 54
              · rw [t2, z_uk (u a (by omega))]
              · rw [z_ur t2]
          have e2 : pm_ui A5 53 (d 0 0) s r j = A5 r j := by
            by_cases t : r = 53
            · rw [t, z_uk (u a (by omega))]
            · rw [z_ur t]
          rw [w5 r j (by omega) (fun t => u a (by omega)), e1, v2.1 r j (fun _ => by omega), t2.1 r j (fun _ => by omega), e2, s2.1 r j (fun _ => by omega), d2.1 r j (fun _ => by omega), c2.1 r j (fun _ => by omega)]
        have g53 : A9 53 (d 0 0) = s := by rw [w5 53 _ (by omega) (by omega), z_ur (by omega), z_ur (by omega), v2.1 53 _ (by omega), t2.1 53 _ (by omega), z_ue]
        have g54 : A9 54 (d 0 0) = v := by rw [w5 54 _ (by omega) (by omega), z_ur (by omega), z_ue]
        have gl : ∀ r j, r = 51 ∨ r = 52 → L9 r j = pm_ul K 51 (d 0 0) (lN (e8 n b q1)) r j := fun r j a => by
          rw [w6 r j (by omega), v2.2 r j (fun _ => by omega), t2.2 r j (fun _ => by omega), s2.2 r j (fun _ => by omega), d2.2 r j (fun _ => by omega), c2.2 r j (fun _ => by omega)]
        obtain ⟨⟨x1, x2, x3, x4, x5, x6, x7, x8, x9⟩, y1, y2, y3, y4⟩ := DB
        refine ⟨⟨?_, ?_, ?_, ?_, ?_, ?_, ?_, ?_, ?_⟩, fun p p0 => ?_, fun p p0 => ?_, fun p o p0 o0 => ?_, fun o o0 => ?_⟩
        · rw [z_ue]; rfl
        · rw [z_uk (by omega), g49 14 (by omega)]; exact x2
        · rw [z_uk (by omega), g49 15 (by omega)]; exact x3
        · rw [z_uk (by omega), g49 16 (by omega)]; exact x4
        · rw [z_uk (by omega), g49 17 (by omega)]; exact x5
        · rw [z_uk (by omega), g49 18 (by omega)]; exact x6
        · rw [z_uk (by omega), g49 19 (by omega)]; exact x7
        · rw [z_uk (by omega), g49 20 (by omega)]; exact x8
        · rw [z_uk (by omega), g49 21 (by omega)]; exact x9
        · have p0 : p < d 0 0 + 1 := p0
          rw [z_ur (by omega), z_ur (by omega), z_ur (by omega), gl 51 p (by omega)]
          show A9 53 p = nI (ud d 1 (d 0 0) (vl n b q3) 1 p) ∧ A9 54 p = nI (ud d 2 (d 0 0) (vl n b q5) 2 p) ∧ A9 55 p = nI (ud d 3 (d 0 0) W.2.2 3 p) ∧ pm_ul K 51 (d 0 0) (lN (e8 n b q1)) 51 p = lN (e8 n b (ud d 7 (d 0 0) q1 7 p))
          unfold ud
          by_cases t : p = d 0 0
          · subst t
            rw [if_pos ⟨rfl, rfl⟩, if_pos ⟨rfl, rfl⟩, if_pos ⟨rfl, rfl⟩, if_pos ⟨rfl, rfl⟩, z_le', g53, g54, ew]
            exact ⟨es, ev', rfl, rfl⟩
          · rw [if_neg (fun h => t h.2), if_neg (fun h => t h.2), if_neg (fun h => t h.2), if_neg (fun h => t h.2), z_lk t, gr 53 p (by omega) (fun _ _ => t), gr 54 p (by omega) (fun _ _ => t), gr 55 p (by omega) (fun _ _ => t)]
            exact y1 p (by omega)
        · rw [z_ur (by omega), gr 56 p (by omega) (by omega)]; exact y2 p p0
        · rw [z_ur (by omega), z_ur (by omega), gr 57 _ (by omega) (by omega), gr 58 _ (by omega) (by omega)]; exact y3 p o p0 o0
        · rw [gl 52 o (by omega), z_lr (by omega)]; exact y4 o o0
    · have e2 : aq n b q1 f3 = q1 := if_neg c
      rw [hQ2] at e2
      subst e2
      have e4 : f4 = f3 := by rw [← hF4]; exact if_neg c
      subst e4
      have e3 : q3 = q2 := by rw [← hQ3]; exact if_neg c
      subst e3
      have e5 : f5 = f4 := by rw [← hF5]; exact if_neg c
      subst e5
      have e6 : q4 = q3 := by rw [← hQ4]; exact if_neg c
      subst e6
      have e7 : f6 = f5 := by rw [← hF6]; exact if_neg c
      subst e7
      have e8' : q5 = q4 := by rw [← hQ5]; exact if_neg c
      subst e8'
      have e9 : f7 = f6 := by rw [← hF7]; exact if_neg c
      subst e9
      have e10 : q6 = q5 := by rw [← hQ6]; exact if_neg c
      subst e10
      have e11 := lnw_f (n := n) (b := b) (q := q6) c
      rw [hW] at e11
      simp (disch := omega) only [pm_k_i, Option.toList_some, Option.toList_none, List.cons_append, List.nil_append, cond_true, cond_false, ↓reduceIte, reduceCtorEq, z_1, nI_add, z_cl, z_ib, z_lt, z_le, z_eq, z_eq0, z_le0, z_lt0, z_b0, z_b1, z_m1, z_and7, Int32.add_zero, c]
      refine ⟨B, K, q6, f7, rfl, (ga.tr b2).gl, b3, ?_, fun z => by first | exact absurd z c | exact z.elim⟩
      have e12 := hF9
      rw [e11.1, e11.2] at e12
      rw [e12, e11.1]
  have o13 : I 49 13 = nI (d 0 0) := D.1.1
  rw [e1228_0 hF, o13, show (7 : Int32) = nI 7 from rfl]
  by_cases c : d 0 0 < 7
  · obtain ⟨U, V, u1, u2, u3⟩ := m_adv hF hb X
    simp (disch := omega) only [pm_k_i, Option.toList_some, Option.toList_none, List.cons_append, List.nil_append, cond_true, cond_false, ↓reduceIte, reduceCtorEq, z_1, nI_add, z_cl, z_ib, z_lt, z_le, z_eq, z_eq0, z_le0, z_lt0, z_b0, z_b1, z_m1, z_and7, Int32.add_zero, show (d 0 0 = 7) = False from propext ⟨fun z => by omega, False.elim⟩, e1228_14 hF, m_isGood hF X, e1228_18 hF, decide_true, u1]
    exact key U V _ 0 (if_pos c) rfl u2 u3
  · obtain ⟨A, a1, a2, a3⟩ := wrong_at hF X h1 (k := 5) (by omega) (by omega)
    have a1 : (F 1214 0 [some (.ref 49), some (.int 5)] [] (81, pt_G, I, L)) = _ := a1
    simp (disch := omega) only [pm_k_i, Option.toList_some, Option.toList_none, List.cons_append, List.nil_append, cond_true, cond_false, ↓reduceIte, reduceCtorEq, z_1, nI_add, z_cl, z_ib, z_lt, z_le, z_eq, z_eq0, z_le0, z_lt0, z_b0, z_b1, z_m1, z_and7, Int32.add_zero, show (d 0 0 = 7) = True from propext ⟨fun _ => trivial, fun _ => by omega⟩, a1, e1228_14 hF, m_isGood hF a3, e1228_18 hF]
    rw [if_pos (by decide)]
    exact key A L q 5 (if_neg c) (if_neg (by omega)) a2 a3
end
