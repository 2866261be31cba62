/-! ===== the model: tables, bars, any line ===== -/
section
variable {I I' : Nat → Nat → Int32} {L L' : Nat → Nat → Int64}
variable {F : pm_F} {L0 : Nat} {xs : Nat → Int32}
variable {n q f : Nat} {b : Nat → Nat} {d : Nat → Nat → Nat}
theorem DG.w (G : DG n b d) (x : Nat) : d 5 x ≤ 99 ∧ d 6 x ≤ 9 := ⟨G.1.worth x, G.1.stance x⟩
theorem m_tablea (hF : pm_fix pt_me pt_Sg (pt_R L0 xs) F) (hb : ∀ i, b i < 256) (X : MP n b q 0 I L) (D : MD n b d I L) (G : DG n b d) : ∃ I' L' p g, (F 1229 0 [some (.ref 49), some (.ref 57), some (.int 99), none, none, none] [] (81, pt_G, I, L)) = some (none, (81, pt_G, I', L')) ∧ GL' I I' L L' ∧ MP n b p g I' L' ∧ (aq n b p (oS n b p g), oS n b p g) = ((lnT n b d 9 5 99 q).1, (lnT n b d 9 5 99 q).2.1) ∧ (g = 0 → MD n b (lnT n b d 9 5 99 q).2.2 I' L') := by
  have hP := G.P
  have hO := G.O
  obtain ⟨A, K, a1, a2, a3⟩ := m_adv hF hb X
  generalize hQ1 : aq n b q 0 = q1 at *
  obtain ⟨B, x, b1, b2, b3, b4⟩ := m_partyHere hF a3 (a2.md D) G
  have DB := b2.md (a2.md D)
  generalize hF2 : oK (pfn n b d q1) (oA n b q1 0) = f2 at *
  -- on, if it is well so far
  obtain ⟨C, M, c1, c2, c3⟩ : ∃ C M, (if nI (decide (f2 = 0)).toNat = 0 then (F 1229 20 [some (.ref 49), some (.ref 57), some (.int 99), some (.int x), none, none] [] (81, pt_G, B, K)) else pm_k (F 1213 0 [some (.ref 49), none, none] [] (81, pt_G, B, K)) (fun v S => F 1229 20 [some (.ref 49), some (.ref 57), some (.int 99), some (.int x), none, none] (v.toList ++ []) S)) = (F 1229 20 [some (.ref 49), some (.ref 57), some (.int 99), some (.int x), none, none] [] (81, pt_G, C, M)) ∧ GP B C K M ∧ MP n b (aq n b q1 f2) f2 C M := by
    by_cases c : f2 = 0
    · subst c
      obtain ⟨U, V, u1, u2, u3⟩ := m_adv hF hb b3
      rw [u1, if_neg (by decide)]
      exact ⟨U, V, rfl, u2, u3⟩
    · have e : aq n b q1 f2 = q1 := if_neg c
      rw [decide_eq_false c, e]
      exact ⟨B, K, rfl, GP.rf, b3⟩
  generalize hQ2 : aq n b q1 f2 = q2 at *
  obtain ⟨E, d1, d2, d3⟩ := m_mustName hF c3
  have DE := d2.md (c2.md DB)
  generalize hg : oA n b q2 f2 = g at *
  have hn := d3.1.2.1
  -- told already, no office
  obtain ⟨A5, g1, g2, g3, y, gy, gx⟩ : ∃ A5, pm_k (F 1223 0 [some (.ref 52), some (.int (I 49 14)), some (.long (M 49 12)), none, none] [] (81, pt_G, E, M)) (fun v S => F 1229 39 [some (.ref 49), some (.ref 57), some (.int 99), some (.int x), none, none] (v.toList ++ []) S) = pm_k (F 1223 0 [some (.ref 52), some (.int (I 49 14)), some (.long (M 49 12)), none, none] [] (81, pt_G, E, M)) (fun v S => F 1229 39 [some (.ref 49), some (.ref 57), some (.int 99), some (.int x), none, none] (v.toList ++ []) S) ∧ GP E A5 M M ∧ MP n b q2 (if oK (ofn n b d q2) g = 0 then (bif (d 9 ((pfn n b d q1).getD 7)).testBit ((ofn n b d q2).getD 7) then 3 else 0) else oK (ofn n b d q2) g) A5 M ∧ ∃ y, F 1229 39 [some (.ref 49), some (.ref 57), some (.int 99), some (.int x), none, none] [.int (oI (ff (fun k => decide (M 52 k = M 49 12)) (d 0 1)))] (81, pt_G, E, M) = (F 1229 72 [some (.ref 49), some (.ref 57), some (.int 99), some (.int x), some (.int y), none] [] (81, pt_G, A5, M)) ∧ (oK (ofn n b d q2) g = 0 → ∃ o i, ofn n b d q2 = some o ∧ y = nI o ∧ pfn n b d q1 = some i ∧ x = nI i) := by
    by_cases c : g = 0
    · subst c
      have z2 := oA_0 hg
      have mk := d3.2.2.2.2.1 rfl
      have f20 := z2.1
      obtain ⟨i, i1, i2⟩ := b4 f20
      have il := (ff_some i1).1
      obtain ⟨U, u1, u2, u3⟩ := wrong_at hF d3 z2.2.1 (k := 3) (by omega) (by omega)
      have u1 : (F 1214 0 [some (.ref 49), some (.int 3)] [] (81, pt_G, E, M)) = _ := u1
      have eo : oK (ofn n b d q2) 0 = bif (ofn n b d q2).isSome then 0 else 3 := if_pos rfl
      have w := (mk.2.2.2.2 z2.2.1).2
      rw [eo, e1229_39a hF, m_isGood hF d3, w, DE.off hn G z2.2.1, i2]
      simp (disch := omega) only [pm_k_i, Option.toList_some, Option.toList_none, List.cons_append, List.nil_append, cond_true, cond_false, ↓reduceIte, reduceCtorEq, z_1, nI_add, z_cl, z_ib, z_lt, z_le, z_eq, z_eq0, z_le0, z_lt0, z_b0, z_b1, z_m1, z_and7, Int32.add_zero, e1229_45a hF, decide_true, u1]
      cases o1 : ofn n b d q2 with
      | none =>
        rw [if_pos (show oI none = -1 from rfl)]
        exact ⟨U, trivial, u2, u3, oI none, rfl, fun z => by cases z⟩
      | some o =>
        have ol := (ff_some o1).1
        have cell := (DE.2.2.2.1 i o (by omega) (by omega)).1
        have wb := (G.w (8 * i + o)).1
        rw [if_neg (show ¬ oI (some o) = -1 by rw [show oI (some o) = nI o from rfl, z_m1 (by omega)]; exact id), show oI (some o) = nI o from rfl, i1]
        show ∃ A5, _ ∧ _ ∧ MP n b q2 (if 0 = 0 then (bif (d 9 i).testBit o then 3 else 0) else 0) A5 M ∧ _
        rw [if_pos rfl]
        simp (disch := omega) only [pm_k_i, Option.toList_some, Option.toList_none, List.cons_append, List.nil_append, cond_true, cond_false, ↓reduceIte, reduceCtorEq, z_1, nI_add, z_cl, z_ib, z_lt, z_le, z_eq, z_eq0, z_le0, z_lt0, z_b0, z_b1, z_m1, z_and7, Int32.add_zero, z_8m, cell]
        cases (d 9 i).testBit o with
        | true =>
          simp (disch := omega) only [pm_k_i, Option.toList_some, Option.toList_none, List.cons_append, List.nil_append, cond_true, cond_false, ↓reduceIte, reduceCtorEq, z_1, nI_add, z_cl, z_ib, z_lt, z_le, z_eq, z_eq0, z_le0, z_lt0, z_b0, z_b1, z_m1, z_and7, Int32.add_zero]
          exact ⟨U, trivial, u2, u3, nI o, rfl, fun _ => ⟨o, i, rfl, rfl, rfl, rfl⟩⟩
        | false =>
          simp (disch := omega) only [pm_k_i, Option.toList_some, Option.toList_none, List.cons_append, List.nil_append, cond_true, cond_false, ↓reduceIte, reduceCtorEq, z_1, nI_add, z_cl, z_ib, z_lt, z_le, z_eq, z_eq0, z_le0, z_lt0, z_b0, z_b1, z_m1, z_and7, Int32.add_zero]
          exact ⟨E, trivial, GP.rf, d3, nI o, rfl, fun _ => ⟨o, i, rfl, rfl, rfl, rfl⟩⟩
    · have eo : oK (ofn n b d q2) g = g := if_neg c
      rw [eo, if_neg c, e1229_39a hF, m_isGood hF d3]
      simp (disch := omega) only [pm_k_i, Option.toList_some, Option.toList_none, List.cons_append, List.nil_append, cond_true, cond_false, ↓reduceIte, reduceCtorEq, z_1, nI_add, z_cl, z_ib, z_lt, z_le, z_eq, z_eq0, z_le0, z_lt0, z_b0, z_b1, z_m1, z_and7, Int32.add_zero, e1229_45a hF, c, decide_false]
      exact ⟨E, trivial, GP.rf, d3, _, rfl, fun z => by first | exact absurd z c | exact z.elim⟩
  generalize hF3 : oK (ofn n b d q2) g = f3 at *
  generalize hF4 : (if f3 = 0 then (bif (d 9 ((pfn n b d q1).getD 7)).testBit ((ofn n b d q2).getD 7) then 3 else 0) else f3) = f4 at *
  obtain ⟨A6, L6, s1, s2, s3⟩ : ∃ C M', (if nI (decide (f4 = 0)).toNat = 0 then (F 1229 83 [some (.ref 49), some (.ref 57), some (.int 99), some (.int x), some (.int y), none] [] (81, pt_G, A5, M)) else pm_k (F 1213 0 [some (.ref 49), none, none] [] (81, pt_G, A5, M)) (fun v S => F 1229 83 [some (.ref 49), some (.ref 57), some (.int 99), some (.int x), some (.int y), none] (v.toList ++ []) S)) = (F 1229 83 [some (.ref 49), some (.ref 57), some (.int 99), some (.int x), some (.int y), none] [] (81, pt_G, C, M')) ∧ GP A5 C M M' ∧ MP n b (aq n b q2 f4) f4 C M' := by
    by_cases c : f4 = 0
    · subst c
      obtain ⟨U, V, u1, u2, u3⟩ := m_adv hF hb g3
      rw [u1, if_neg (by decide)]
      exact ⟨U, V, rfl, u2, u3⟩
    · have e : aq n b q2 f4 = q2 := if_neg c
      rw [decide_eq_false c, e]
      exact ⟨A5, M, rfl, GP.rf, g3⟩
  generalize hQ3 : aq n b q2 f4 = q3 at *
  obtain ⟨A7, L7, v, t1, t2, t3, t4⟩ := m_number hF hb s3 (lo := 0) (hi := 99) (by omega) (by omega)
  have t1 : (F 1221 0 [some (.ref 49), some (.int 0), some (.int 99), none] [] (81, pt_G, A6, L6)) = _ := t1
  generalize hF5 : oN n b 0 99 q3 f4 = f5 at *
  generalize hQ4 : aq n b q3 f5 = q4 at *
  have el : lnT n b d 9 5 99 q = (aq n b q4 (oS n b q4 f5), oS n b q4 f5, ud (ud d 9 ((pfn n b d q1).getD 7) (ad (d 9 ((pfn n b d q1).getD 7)) ((ofn n b d q2).getD 7))) 5 (8 * ((pfn n b d q1).getD 7) + ((ofn n b d q2).getD 7)) (vl n b q3)) := by
    subst hQ4; subst hF5; subst hQ3; subst hF4; subst hF3; subst hg; subst hQ2; subst hF2; subst hQ1
    rfl
  rw [el]
  have gp : GP I A7 L L7 := ((a2.tr b2).tr (c2.tr d2)).tr (g2.tr (s2.tr t2))
  have D7 := gp.md D
  have E14 : E 49 14 = nI (d 0 1) := DE.1.2.1
  rw [e1229_0a hF, a1]
  simp (disch := omega) only [pm_k_i, Option.toList_some, Option.toList_none, List.cons_append, List.nil_append, cond_true, cond_false, ↓reduceIte, reduceCtorEq, z_1, nI_add, z_cl, z_ib, z_lt, z_le, z_eq, z_eq0, z_le0, z_lt0, z_b0, z_b1, z_m1, z_and7, Int32.add_zero, e1229_4a hF, b1, e1229_8a hF, m_isGood hF b3, e1229_13a hF]
  simp (disch := omega) only [pm_k_i, Option.toList_some, Option.toList_none, List.cons_append, List.nil_append, cond_true, cond_false, ↓reduceIte, reduceCtorEq, z_1, nI_add, z_cl, z_ib, z_lt, z_le, z_eq, z_eq0, z_le0, z_lt0, z_b0, z_b1, z_m1, z_and7, Int32.add_zero] at c1
  rw [c1, e1229_20a hF, d1]
  simp (disch := omega) only [pm_k_i, Option.toList_some, Option.toList_none, List.cons_append, List.nil_append, cond_true, cond_false, ↓reduceIte, reduceCtorEq, z_1, nI_add, z_cl, z_ib, z_lt, z_le, z_eq, z_eq0, z_le0, z_lt0, z_b0, z_b1, z_m1, z_and7, Int32.add_zero, e1229_24a hF, E14, m_indexB hF]
  rw [gy, e1229_72a hF, m_isGood hF g3]
  simp (disch := omega) only [pm_k_i, Option.toList_some, Option.toList_none, List.cons_append, List.nil_append, cond_true, cond_false, ↓reduceIte, reduceCtorEq, z_1, nI_add, z_cl, z_ib, z_lt, z_le, z_eq, z_eq0, z_le0, z_lt0, z_b0, z_b1, z_m1, z_and7, Int32.add_zero, e1229_76a hF]
  simp (disch := omega) only [pm_k_i, Option.toList_some, Option.toList_none, List.cons_append, List.nil_append, cond_true, cond_false, ↓reduceIte, reduceCtorEq, z_1, nI_add, z_cl, z_ib, z_lt, z_le, z_eq, z_eq0, z_le0, z_lt0, z_b0, z_b1, z_m1, z_and7, Int32.add_zero] at s1
  rw [s1, e1229_83a hF, t1]
  simp (disch := omega) only [pm_k_i, Option.toList_some, Option.toList_none, List.cons_append, List.nil_append, cond_true, cond_false, ↓reduceIte, reduceCtorEq, z_1, nI_add, z_cl, z_ib, z_lt, z_le, z_eq, z_eq0, z_le0, z_lt0, z_b0, z_b1, z_m1, z_and7, Int32.add_zero, e1229_89a hF, m_isGood hF t3, e1229_95a hF, decide_eq_false_iff_not]
  by_cases z : f5 = 0
  · rw [if_neg (fun h => h z)]
    subst z
    have z1 := oN_0 hF5
    have z3 : f3 = 0 := by
      have h4 := hF4.trans z1.1
      by_cases c : f3 = 0
      · exact c
      · rw [if_neg c] at h4; exact absurd h4 c
    obtain ⟨o, i, o1, o2, i1, i2⟩ := gx z3
    have il := (ff_some i1).1
    have ol := (ff_some o1).1
    have ev' := t4 rfl
    rw [o2, i2]
    simp (disch := omega) only [pm_k_i, Option.toList_some, Option.toList_none, List.cons_append, List.nil_append, cond_true, cond_false, ↓reduceIte, reduceCtorEq, z_1, nI_add, z_cl, z_ib, z_lt, z_le, z_eq, z_eq0, z_le0, z_lt0, z_b0, z_b1, z_m1, z_and7, Int32.add_zero, z_8m]
    refine ⟨_, L7, q4, 0, rfl, gp.gl.tr (GL'.u (by omega) (by omega)), t3.u (by omega), rfl, fun _ => ?_⟩
    rw [o1, i1]
    show MD n b (ud (ud d 9 i (ad (d 9 i) o)) 5 (8 * i + o) (vl n b q3)) (pm_ui A7 57 (8 * i + o) v) L7
    obtain ⟨⟨x1, x2, x3, x4, x5, x6, x7, x8, x9⟩, y1, y2, y3, y4⟩ := D7
    refine ⟨⟨?_, ?_, ?_, ?_, ?_, ?_, ?_, ?_, ?_⟩, fun p p0 => ?_, fun p p0 => ?_, fun p' o' p0 o0 => ?_, y4⟩
    · rw [z_ur (by omega)]; exact x1
    · rw [z_ur (by omega)]; exact x2
    · rw [z_ur (by omega)]; exact x3
    · rw [z_ur (by omega)]; exact x4
    · rw [z_ur (by omega)]; exact x5
    · rw [z_ur (by omega)]; exact x6
    · rw [z_ur (by omega)]; exact x7
    · rw [z_ur (by omega)]; exact x8
    · rw [z_ur (by omega)]; exact x9
    · simp (disch := omega) only [z_ur]; exact y1 p p0
    · simp (disch := omega) only [z_ur]; exact y2 p p0
    · obtain ⟨k1, k2⟩ := y3 p' o' p0 o0
      have tl := (G.2.2.2.2.1 i).1
      have key : pm_ui A7 57 (8 * i + o) v 57 (8 * p' + o') = (bif (ud d 9 i (ad (d 9 i) o) 9 p').testBit o' then nI (ud d 5 (8 * i + o) (vl n b q3) 5 (8 * p' + o')) else -1) := by
        unfold ud
        by_cases c : 8 * p' + o' = 8 * i + o
        · have c1 : p' = i := by omega
          have c2 : o' = o := by omega
          subst c1
          subst c2
          rw [z_ue, if_pos ⟨rfl, rfl⟩, if_pos ⟨rfl, rfl⟩, z_adb _ tl _ (by omega) _ (by omega), Nat.beq_refl, Bool.or_true]
          exact ev'
        · rw [z_uk c]
          by_cases c1 : p' = i
          · subst c1
            rw [if_pos ⟨rfl, rfl⟩, z_adb _ tl _ (by omega) _ (by omega), beq_f (show ¬ o' = o by omega), Bool.or_false, if_neg (fun h => c h.2)]
            exact k1
          · rw [if_neg (fun h => c1 h.2), if_neg (fun h => c h.2)]
            exact k1
      exact ⟨key, by simp (disch := omega) only [z_ur]; exact k2⟩
  · rw [if_pos z]
    exact ⟨A7, L7, q4, f5, rfl, gp.gl, t3, rfl, fun h => absurd h z⟩
theorem m_tableb (hF : pm_fix pt_me pt_Sg (pt_R L0 xs) F) (hb : ∀ i, b i < 256) (X : MP n b q 0 I L) (D : MD n b d I L) (G : DG n b d) : ∃ I' L' p g, (F 1229 0 [some (.ref 49), some (.ref 58), some (.int 9), none, none, none] [] (81, pt_G, I, L)) = some (none, (81, pt_G, I', L')) ∧ GL' I I' L L' ∧ MP n b p g I' L' ∧ (aq n b p (oS n b p g), oS n b p g) = ((lnT n b d 10 6 9 q).1, (lnT n b d 10 6 9 q).2.1) ∧ (g = 0 → MD n b (lnT n b d 10 6 9 q).2.2 I' L') := by
  have hP := G.P
  have hO := G.O
  obtain ⟨A, K, a1, a2, a3⟩ := m_adv hF hb X
  generalize hQ1 : aq n b q 0 = q1 at *
  obtain ⟨B, x, b1, b2, b3, b4⟩ := m_partyHere hF a3 (a2.md D) G
  have DB := b2.md (a2.md D)
  generalize hF2 : oK (pfn n b d q1) (oA n b q1 0) = f2 at *
  -- on, if it is well so far
  obtain ⟨C, M, c1, c2, c3⟩ : ∃ C M, (if nI (decide (f2 = 0)).toNat = 0 then (F 1229 20 [some (.ref 49), some (.ref 58), some (.int 9), some (.int x), none, none] [] (81, pt_G, B, K)) else pm_k (F 1213 0 [some (.ref 49), none, none] [] (81, pt_G, B, K)) (fun v S => F 1229 20 [some (.ref 49), some (.ref 58), some (.int 9), some (.int x), none, none] (v.toList ++ []) S)) = (F 1229 20 [some (.ref 49), some (.ref 58), some (.int 9), some (.int x), none, none] [] (81, pt_G, C, M)) ∧ GP B C K M ∧ MP n b (aq n b q1 f2) f2 C M := by
    by_cases c : f2 = 0
    · subst c
      obtain ⟨U, V, u1, u2, u3⟩ := m_adv hF hb b3
      rw [u1, if_neg (by decide)]
      exact ⟨U, V, rfl, u2, u3⟩
    · have e : aq n b q1 f2 = q1 := if_neg c
      rw [decide_eq_false c, e]
      exact ⟨B, K, rfl, GP.rf, b3⟩
  generalize hQ2 : aq n b q1 f2 = q2 at *
  obtain ⟨E, d1, d2, d3⟩ := m_mustName hF c3
  have DE := d2.md (c2.md DB)
  generalize hg : oA n b q2 f2 = g at *
  have hn := d3.1.2.1
  -- told already, no office
  obtain ⟨A5, g1, g2, g3, y, gy, gx⟩ : ∃ A5, pm_k (F 1223 0 [some (.ref 52), some (.int (I 49 14)), some (.long (M 49 12)), none, none] [] (81, pt_G, E, M)) (fun v S => F 1229 39 [some (.ref 49), some (.ref 58), some (.int 9), some (.int x), none, none] (v.toList ++ []) S) = pm_k (F 1223 0 [some (.ref 52), some (.int (I 49 14)), some (.long (M 49 12)), none, none] [] (81, pt_G, E, M)) (fun v S => F 1229 39 [some (.ref 49), some (.ref 58), some (.int 9), some (.int x), none, none] (v.toList ++ []) S) ∧ GP E A5 M M ∧ MP n b q2 (if oK (ofn n b d q2) g = 0 then (bif (d 10 ((pfn n b d q1).getD 7)).testBit ((ofn n b d q2).getD 7) then 3 else 0) else oK (ofn n b d q2) g) A5 M ∧ ∃ y, F 1229 39 [some (.ref 49), some (.ref 58), some (.int 9), some (.int x), none, none] [.int (oI (ff (fun k => decide (M 52 k = M 49 12)) (d 0 1)))] (81, pt_G, E, M) = (F 1229 72 [some (.ref 49), some (.ref 58), some (.int 9), some (.int x), some (.int y), none] [] (81, pt_G, A5, M)) ∧ (oK (ofn n b d q2) g = 0 → ∃ o i, ofn n b d q2 = some o ∧ y = nI o ∧ pfn n b d q1 = some i ∧ x = nI i) := by
    by_cases c : g = 0
    · subst c
      have z2 := oA_0 hg
      have mk := d3.2.2.2.2.1 rfl
      have f20 := z2.1
      obtain ⟨i, i1, i2⟩ := b4 f20
      have il := (ff_some i1).1
      obtain ⟨U, u1, u2, u3⟩ := wrong_at hF d3 z2.2.1 (k := 3) (by omega) (by omega)
      have u1 : (F 1214 0 [some (.ref 49), some (.int 3)] [] (81, pt_G, E, M)) = _ := u1
      have eo : oK (ofn n b d q2) 0 = bif (ofn n b d q2).isSome then 0 else 3 := if_pos rfl
      have w := (mk.2.2.2.2 z2.2.1).2
      rw [eo, e1229_39b hF, m_isGood hF d3, w, DE.off hn G z2.2.1, i2]
      simp (disch := omega) only [pm_k_i, Option.toList_some, Option.toList_none, List.cons_append, List.nil_append, cond_true, cond_false, ↓reduceIte, reduceCtorEq, z_1, nI_add, z_cl, z_ib, z_lt, z_le, z_eq, z_eq0, z_le0, z_lt0, z_b0, z_b1, z_m1, z_and7, Int32.add_zero, e1229_45b hF, decide_true, u1]
      cases o1 : ofn n b d q2 with
      | none =>
        rw [if_pos (show oI none = -1 from rfl)]
        exact ⟨U, trivial, u2, u3, oI none, rfl, fun z => by cases z⟩
      | some o =>
        have ol := (ff_some o1).1
        have cell := (DE.2.2.2.1 i o (by omega) (by omega)).2
        have wb := (G.w (8 * i + o)).2
        rw [if_neg (show ¬ oI (some o) = -1 by rw [show oI (some o) = nI o from rfl, z_m1 (by omega)]; exact id), show oI (some o) = nI o from rfl, i1]
        show ∃ A5, _ ∧ _ ∧ MP n b q2 (if 0 = 0 then (bif (d 10 i).testBit o then 3 else 0) else 0) A5 M ∧ _
        rw [if_pos rfl]
        simp (disch := omega) only [pm_k_i, Option.toList_some, Option.toList_none, List.cons_append, List.nil_append, cond_true, cond_false, ↓reduceIte, reduceCtorEq, z_1, nI_add, z_cl, z_ib, z_lt, z_le, z_eq, z_eq0, z_le0, z_lt0, z_b0, z_b1, z_m1, z_and7, Int32.add_zero, z_8m, cell]
        cases (d 10 i).testBit o with
        | true =>
          simp (disch := omega) only [pm_k_i, Option.toList_some, Option.toList_none, List.cons_append, List.nil_append, cond_true, cond_false, ↓reduceIte, reduceCtorEq, z_1, nI_add, z_cl, z_ib, z_lt, z_le, z_eq, z_eq0, z_le0, z_lt0, z_b0, z_b1, z_m1, z_and7, Int32.add_zero]
          exact ⟨U, trivial, u2, u3, nI o, rfl, fun _ => ⟨o, i, rfl, rfl, rfl, rfl⟩⟩
        | false =>
          simp (disch := omega) only [pm_k_i, Option.toList_some, Option.toList_none, List.cons_append, List.nil_append, cond_true, cond_false, ↓reduceIte, reduceCtorEq, z_1, nI_add, z_cl, z_ib, z_lt, z_le, z_eq, z_eq0, z_le0, z_lt0, z_b0, z_b1, z_m1, z_and7, Int32.add_zero]
          exact ⟨E, trivial, GP.rf, d3, nI o, rfl, fun _ => ⟨o, i, rfl, rfl, rfl, rfl⟩⟩
    · have eo : oK (ofn n b d q2) g = g := if_neg c
      rw [eo, if_neg c, e1229_39b hF, m_isGood hF d3]
      simp (disch := omega) only [pm_k_i, Option.toList_some, Option.toList_none, List.cons_append, List.nil_append, cond_true, cond_false, ↓reduceIte, reduceCtorEq, z_1, nI_add, z_cl, z_ib, z_lt, z_le, z_eq, z_eq0, z_le0, z_lt0, z_b0, z_b1, z_m1, z_and7, Int32.add_zero, e1229_45b hF, c, decide_false]
      exact ⟨E, trivial, GP.rf, d3, _, rfl, fun z => by first | exact absurd z c | exact z.elim⟩
  generalize hF3 : oK (ofn n b d q2) g = f3 at *
  generalize hF4 : (if f3 = 0 then (bif (d 10 ((pfn n b d q1).getD 7)).testBit ((ofn n b d q2).getD 7) then 3 else 0) else f3) = f4 at *
  obtain ⟨A6, L6, s1, s2, s3⟩ : ∃ C M', (if nI (decide (f4 = 0)).toNat = 0 then (F 1229 83 [some (.ref 49), some (.ref 58), some (.int 9), some (.int x), some (.int y), none] [] (81, pt_G, A5, M)) else pm_k (F 1213 0 [some (.ref 49), none, none] [] (81, pt_G, A5, M)) (fun v S => F 1229 83 [some (.ref 49), some (.ref 58), some (.int 9), some (.int x), some (.int y), none] (v.toList ++ []) S)) = (F 1229 83 [some (.ref 49), some (.ref 58), some (.int 9), some (.int x), some (.int y), none] [] (81, pt_G, C, M')) ∧ GP A5 C M M' ∧ MP n b (aq n b q2 f4) f4 C M' := by
    by_cases c : f4 = 0
    · subst c
      obtain ⟨U, V, u1, u2, u3⟩ := m_adv hF hb g3
      rw [u1, if_neg (by decide)]
      exact ⟨U, V, rfl, u2, u3⟩
    · have e : aq n b q2 f4 = q2 := if_neg c
      rw [decide_eq_false c, e]
      exact ⟨A5, M, rfl, GP.rf, g3⟩
  generalize hQ3 : aq n b q2 f4 = q3 at *
  obtain ⟨A7, L7, v, t1, t2, t3, t4⟩ := m_number hF hb s3 (lo := 0) (hi := 9) (by omega) (by omega)
  have t1 : (F 1221 0 [some (.ref 49), some (.int 0), some (.int 9), none] [] (81, pt_G, A6, L6)) = _ := t1
  generalize hF5 : oN n b 0 9 q3 f4 = f5 at *
  generalize hQ4 : aq n b q3 f5 = q4 at *
  have el : lnT n b d 10 6 9 q = (aq n b q4 (oS n b q4 f5), oS n b q4 f5, ud (ud d 10 ((pfn n b d q1).getD 7) (ad (d 10 ((pfn n b d q1).getD 7)) ((ofn n b d q2).getD 7))) 6 (8 * ((pfn n b d q1).getD 7) + ((ofn n b d q2).getD 7)) (vl n b q3)) := by
    subst hQ4; subst hF5; subst hQ3; subst hF4; subst hF3; subst hg; subst hQ2; subst hF2; subst hQ1
    rfl
  rw [el]
  have gp : GP I A7 L L7 := ((a2.tr b2).tr (c2.tr d2)).tr (g2.tr (s2.tr t2))
  have D7 := gp.md D
  have E14 : E 49 14 = nI (d 0 1) := DE.1.2.1
  rw [e1229_0b hF, a1]
  simp (disch := omega) only [pm_k_i, Option.toList_some, Option.toList_none, List.cons_append, List.nil_append, cond_true, cond_false, ↓reduceIte, reduceCtorEq, z_1, nI_add, z_cl, z_ib, z_lt, z_le, z_eq, z_eq0, z_le0, z_lt0, z_b0, z_b1, z_m1, z_and7, Int32.add_zero, e1229_4b hF, b1, e1229_8b hF, m_isGood hF b3, e1229_13b hF]
  simp (disch := omega) only [pm_k_i, Option.toList_some, Option.toList_none, List.cons_append, List.nil_append, cond_true, cond_false, ↓reduceIte, reduceCtorEq, z_1, nI_add, z_cl, z_ib, z_lt, z_le, z_eq, z_eq0, z_le0, z_lt0, z_b0, z_b1, z_m1, z_and7, Int32.add_zero] at c1
  rw [c1, e1229_20b hF, d1]
  simp (disch := omega) only [pm_k_i, Option.toList_some, Option.toList_none, List.cons_append, List.nil_append, cond_true, cond_false, ↓reduceIte, reduceCtorEq, z_1, nI_add, z_cl, z_ib, z_lt, z_le, z_eq, z_eq0, z_le0, z_lt0, z_b0, z_b1, z_m1, z_and7, Int32.add_zero, e1229_24b hF, E14, m_indexB hF]
  rw [gy, e1229_72b hF, m_isGood hF g3]
  simp (disch := omega) only [pm_k_i, Option.toList_some, Option.toList_none, List.cons_append, List.nil_append, cond_true, cond_false, ↓reduceIte, reduceCtorEq, z_1, nI_add, z_cl, z_ib, z_lt, z_le, z_eq, z_eq0, z_le0, z_lt0, z_b0, z_b1, z_m1, z_and7, Int32.add_zero, e1229_76b hF]
  simp (disch := omega) only [pm_k_i, Option.toList_some, Option.toList_none, List.cons_append, List.nil_append, cond_true, cond_false, ↓reduceIte, reduceCtorEq, z_1, nI_add, z_cl, z_ib, z_lt, z_le, z_eq, z_eq0, z_le0, z_lt0, z_b0, z_b1, z_m1, z_and7, Int32.add_zero] at s1
  rw [s1, e1229_83b hF, t1]
  simp (disch := omega) only [pm_k_i, Option.toList_some, Option.toList_none, List.cons_append, List.nil_append, cond_true, cond_false, ↓reduceIte, reduceCtorEq, z_1, nI_add, z_cl, z_ib, z_lt, z_le, z_eq, z_eq0, z_le0, z_lt0, z_b0, z_b1, z_m1, z_and7, Int32.add_zero, e1229_89b hF, m_isGood hF t3, e1229_95b hF, decide_eq_false_iff_not]
  by_cases z : f5 = 0
  · rw [if_neg (fun h => h z)]
    subst z
    have z1 := oN_0 hF5
    have z3 : f3 = 0 := by
      have h4 := hF4.trans z1.1
      by_cases c : f3 = 0
      · exact c
      · rw [if_neg c] at h4; exact absurd h4 c
    obtain ⟨o, i, o1, o2, i1, i2⟩ := gx z3
    have il := (ff_some i1).1
    have ol := (ff_some o1).1
    have ev' := t4 rfl
    rw [o2, i2]
    simp (disch := omega) only [pm_k_i, Option.toList_some, Option.toList_none, List.cons_append, List.nil_append, cond_true, cond_false, ↓reduceIte, reduceCtorEq, z_1, nI_add, z_cl, z_ib, z_lt, z_le, z_eq, z_eq0, z_le0, z_lt0, z_b0, z_b1, z_m1, z_and7, Int32.add_zero, z_8m]
    refine ⟨_, L7, q4, 0, rfl, gp.gl.tr (GL'.u (by omega) (by omega)), t3.u (by omega), rfl, fun _ => ?_⟩
    rw [o1, i1]
    show MD n b (ud (ud d 10 i (ad (d 10 i) o)) 6 (8 * i + o) (vl n b q3)) (pm_ui A7 58 (8 * i + o) v) L7
    obtain ⟨⟨x1, x2, x3, x4, x5, x6, x7, x8, x9⟩, y1, y2, y3, y4⟩ := D7
    refine ⟨⟨?_, ?_, ?_, ?_, ?_, ?_, ?_, ?_, ?_⟩, fun p p0 => ?_, fun p p0 => ?_, fun p' o' p0 o0 => ?_, y4⟩
    · rw [z_ur (by omega)]; exact x1
    · rw [z_ur (by omega)]; exact x2
    · rw [z_ur (by omega)]; exact x3
    · rw [z_ur (by omega)]; exact x4
    · rw [z_ur (by omega)]; exact x5
    · rw [z_ur (by omega)]; exact x6
    · rw [z_ur (by omega)]; exact x7
    · rw [z_ur (by omega)]; exact x8
    · rw [z_ur (by omega)]; exact x9
    · simp (disch := omega) only [z_ur]; exact y1 p p0
    · simp (disch := omega) only [z_ur]; exact y2 p p0
    · obtain ⟨k1, k2⟩ := y3 p' o' p0 o0
      have tl := (G.2.2.2.2.1 i).2
      have key : pm_ui A7 58 (8 * i + o) v 58 (8 * p' + o') = (bif (ud d 10 i (ad (d 10 i) o) 10 p').testBit o' then nI (ud d 6 (8 * i + o) (vl n b q3) 6 (8 * p' + o')) else -1) := by
        unfold ud
        by_cases c : 8 * p' + o' = 8 * i + o
        · have c1 : p' = i := by omega
          have c2 : o' = o := by omega
          subst c1
          subst c2
          rw [z_ue, if_pos ⟨rfl, rfl⟩, if_pos ⟨rfl, rfl⟩, z_adb _ tl _ (by omega) _ (by omega), Nat.beq_refl, Bool.or_true]
          exact ev'
        · rw [z_uk c]
          by_cases c1 : p' = i
          · subst c1
            rw [if_pos ⟨rfl, rfl⟩, z_adb _ tl _ (by omega) _ (by omega), beq_f (show ¬ o' = o by omega), Bool.or_false, if_neg (fun h => c h.2)]
            exact k2
          · rw [if_neg (fun h => c1 h.2), if_neg (fun h => c h.2)]
            exact k2
      exact ⟨by simp (disch := omega) only [z_ur]; exact k1, key⟩
  · rw [if_pos z]
    exact ⟨A7, L7, q4, f5, rfl, gp.gl, t3, rfl, fun h => absurd h z⟩
end
