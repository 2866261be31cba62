/-! ===== the model: bars, any line ===== -/
section
variable {I I' : Nat → Nat → Int32} {L L' : Nat → Nat → Int64}
variable {F : pm_F} {L0 : Nat} {xs : Nat → Int32}
variable {n q f : Nat} {b : Nat → Nat} {d : Nat → Nat → Nat}
theorem m_bar (hF : pm_fix pt_me pt_Sg (pt_R L0 xs) F) (hb : ∀ i, b i < 256) (X : MP n b q 0 I L) (D : MD n b d I L) (G : DG n b d) : ∃ I' L' p g, (F 1230 0 [some (.ref 49), none, none] [] (81, pt_G, I, L)) = some (none, (81, pt_G, I', L')) ∧ GL' I I' L L' ∧ MP n b p g I' L' ∧ (aq n b p (oS n b p g), oS n b p g) = ((lnB n b d q).1, (lnB n b d q).2.1) ∧ (g = 0 → MD n b (lnB n b d q).2.2 I' L') := by
  have hP := G.P
  obtain ⟨A, K, a1, a2, a3⟩ := m_adv hF hb X
  generalize hQ1 : aq n b q 0 = q1 at *
  obtain ⟨B, x, b1, b2, b3, b4⟩ := m_partyHere hF a3 (a2.md D) G
  have DB := b2.md (a2.md D)
  generalize hF2 : oK (pfn n b d q1) (oA n b q1 0) = f2 at *
  obtain ⟨C, M, c1, c2, c3⟩ : ∃ C M, (if nI (decide (f2 = 0)).toNat = 0 then (F 1230 20 [some (.ref 49), some (.int x), none] [] (81, pt_G, B, K)) else pm_k (F 1213 0 [some (.ref 49), none, none] [] (81, pt_G, B, K)) (fun v S => F 1230 20 [some (.ref 49), some (.int x), none] (v.toList ++ []) S)) = (F 1230 20 [some (.ref 49), some (.int x), none] [] (81, pt_G, C, M)) ∧ GP B C K M ∧ MP n b (aq n b q1 f2) f2 C M := by
    by_cases c : f2 = 0
    · subst c
      obtain ⟨U, V, u1, u2, u3⟩ := m_adv hF hb b3
      rw [u1, if_neg (by decide)]
      exact ⟨U, V, rfl, u2, u3⟩
    · have e : aq n b q1 f2 = q1 := if_neg c
      rw [decide_eq_false c, e]
      exact ⟨B, K, rfl, GP.rf, b3⟩
  generalize hQ2 : aq n b q1 f2 = q2 at *
  obtain ⟨E, y, d1, d2, d3, d4⟩ := m_partyHere hF c3 (c2.md DB) G
  have DE := d2.md (c2.md DB)
  generalize hF3 : oK (pfn n b d q2) (oA n b q2 f2) = f3 at *
  obtain ⟨A5, g1, g2, g3⟩ : ∃ A5, (if nI (decide (f3 = 0)).toNat = 0 then (F 1230 42 [some (.ref 49), some (.int x), some (.int y)] [] (81, pt_G, E, M)) else if x = y then pm_k (F 1214 0 [some (.ref 49), some (.int 3)] [] (81, pt_G, E, M)) (fun v S => F 1230 42 [some (.ref 49), some (.int x), some (.int y)] (v.toList ++ []) S) else (F 1230 42 [some (.ref 49), some (.int x), some (.int y)] [] (81, pt_G, E, M))) = (F 1230 42 [some (.ref 49), some (.int x), some (.int y)] [] (81, pt_G, A5, M)) ∧ GP E A5 M M ∧ MP n b q2 (if f3 = 0 then (if (pfn n b d q1).getD 7 = (pfn n b d q2).getD 7 then 3 else 0) else f3) A5 M := by
    by_cases c : f3 = 0
    · have k2 := oK_0 (hF3.trans c)
      have z2 := oA_0 k2.1
      obtain ⟨i, i1, i2⟩ := b4 z2.1
      obtain ⟨o, o1, o2⟩ := d4 c
      have il := (ff_some i1).1
      have ol := (ff_some o1).1
      subst c
      obtain ⟨U, u1, u2, u3⟩ := wrong_at hF d3 z2.2.1 (k := 3) (by omega) (by omega)
      have u1 : (F 1214 0 [some (.ref 49), some (.int 3)] [] (81, pt_G, E, M)) = _ := u1
      rw [u1, if_neg (by decide), if_pos rfl, i1, o1, i2, o2]
      show ∃ A5, _ ∧ _ ∧ MP n b q2 (if i = o then 3 else 0) A5 M
      simp (disch := omega) only [pm_k_i, Option.toList_some, Option.toList_none, List.cons_append, List.nil_append, cond_true, cond_false, ↓reduceIte, reduceCtorEq, z_1, nI_add, z_cl, z_ib, z_lt, z_le, z_eq, z_eq0, z_le0, z_lt0, z_b0, z_b1, z_m1, z_and7, Int32.add_zero]
      by_cases e : i = o
      · rw [if_pos e, if_pos e]; exact ⟨U, rfl, u2, u3⟩
      · rw [if_neg e, if_neg e]; exact ⟨E, rfl, GP.rf, d3⟩
    · rw [if_neg c, decide_eq_false c]
      exact ⟨E, rfl, GP.rf, d3⟩
  generalize hF4 : (if f3 = 0 then (if (pfn n b d q1).getD 7 = (pfn n b d q2).getD 7 then 3 else 0) else f3) = f4 at *
  generalize hQ3 : aq n b q2 f4 = q3 at *
  have el : lnB n b d q = (aq n b q3 (oS n b q3 f4), oS n b q3 f4, ud (ud d 4 ((pfn n b d q1).getD 7) (ad (d 4 ((pfn n b d q1).getD 7)) ((pfn n b d q2).getD 7))) 4 ((pfn n b d q2).getD 7) (ad (d 4 ((pfn n b d q2).getD 7)) ((pfn n b d q1).getD 7))) := by
    subst hQ3; subst hF4; subst hF3; subst hQ2; subst hF2; subst hQ1
    rfl
  rw [el]
  have gp : GP I A5 L M := ((a2.tr b2).tr (c2.tr d2)).tr g2
  have D5 := gp.md D
  have l := g3.2.2.2.2.2
  rw [e1230_0 hF, a1]
  simp (disch := omega) only [pm_k_i, Option.toList_some, Option.toList_none, List.cons_append, List.nil_append, cond_true, cond_false, ↓reduceIte, reduceCtorEq, z_1, nI_add, z_cl, z_ib, z_lt, z_le, z_eq, z_eq0, z_le0, z_lt0, z_b0, z_b1, z_m1, z_and7, Int32.add_zero, e1230_4 hF, b1, e1230_8 hF, m_isGood hF b3, e1230_13 hF]
  simp (disch := omega) only [pm_k_i, Option.toList_some, Option.toList_none, List.cons_append, List.nil_append, cond_true, cond_false, ↓reduceIte, reduceCtorEq, z_1, nI_add, z_cl, z_ib, z_lt, z_le, z_eq, z_eq0, z_le0, z_lt0, z_b0, z_b1, z_m1, z_and7, Int32.add_zero] at c1
  rw [c1, e1230_20 hF, d1]
  simp (disch := omega) only [pm_k_i, Option.toList_some, Option.toList_none, List.cons_append, List.nil_append, cond_true, cond_false, ↓reduceIte, reduceCtorEq, z_1, nI_add, z_cl, z_ib, z_lt, z_le, z_eq, z_eq0, z_le0, z_lt0, z_b0, z_b1, z_m1, z_and7, Int32.add_zero, e1230_24 hF, m_isGood hF d3, e1230_29 hF]
  simp (disch := omega) only [pm_k_i, Option.toList_some, Option.toList_none, List.cons_append, List.nil_append, cond_true, cond_false, ↓reduceIte, reduceCtorEq, z_1, nI_add, z_cl, z_ib, z_lt, z_le, z_eq, z_eq0, z_le0, z_lt0, z_b0, z_b1, z_m1, z_and7, Int32.add_zero] at g1
  rw [g1, e1230_42 hF, g3.2.2.1]
  by_cases z : f4 = 0
  · subst z
    have z3 : f3 = 0 ∧ (pfn n b d q1).getD 7 ≠ (pfn n b d q2).getD 7 := by
      by_cases c : f3 = 0
      · rw [if_pos c] at hF4
        refine ⟨c, fun e => ?_⟩
        rw [if_pos e] at hF4; cases hF4
      · rw [if_neg c] at hF4; exact absurd hF4 c
    have z2 := oA_0 (oK_0 (hF3.trans z3.1)).1
    obtain ⟨i, i1, i2⟩ := b4 z2.1
    obtain ⟨o, o1, o2⟩ := d4 z3.1
    have il := (ff_some i1).1
    have ol := (ff_some o1).1
    have ne := z3.2
    rw [i1, o1] at ne
    have ne : i ≠ o := ne
    obtain ⟨U, V, u1, u2, u3⟩ := m_adv hF hb g3
    rw [hQ3] at u3
    have D6 := u2.md D5
    have bi := G.1.bars i
    have bo := G.1.bars o
    have ki := D6.2.2.1 i (by omega)
    have ko := D6.2.2.1 o (by omega)
    rw [if_pos (show nI 0 ≤ 0 from by decide), u1, i2, o2]
    simp (disch := omega) only [pm_k_i, Option.toList_some, Option.toList_none, List.cons_append, List.nil_append, cond_true, cond_false, ↓reduceIte, reduceCtorEq, z_1, nI_add, z_cl, z_ib, z_lt, z_le, z_eq, z_eq0, z_le0, z_lt0, z_b0, z_b1, z_m1, z_and7, Int32.add_zero, e1230_54 hF, ki, z_uk, ko, z_ad]
    refine ⟨_, V, q3, 0, rfl, ((gp.tr u2).gl.tr (GL'.u (by omega) (by omega))).tr (GL'.u (by omega) (by omega)), (u3.u (by omega)).u (by omega), rfl, fun _ => ?_⟩
    rw [i1, o1]
    show MD n b (ud (ud d 4 i (ad (d 4 i) o)) 4 o (ad (d 4 o) i)) (pm_ui (pm_ui U 56 i (nI (ad (d 4 i) o))) 56 o (nI (ad (d 4 o) i))) V
    obtain ⟨⟨x1, x2, x3, x4, x5, x6, x7, x8, x9⟩, y1, y2, y3, y4⟩ := D6
    refine ⟨⟨?_, ?_, ?_, ?_, ?_, ?_, ?_, ?_, ?_⟩, fun p p0 => ?_, fun p p0 => ?_, fun p' o' p0 o0 => ?_, y4⟩
    · simp (disch := omega) only [z_ur]; exact x1
    · simp (disch := omega) only [z_ur]; exact x2
    · simp (disch := omega) only [z_ur]; exact x3
    · simp (disch := omega) only [z_ur]; exact x4
    · simp (disch := omega) only [z_ur]; exact x5
    · simp (disch := omega) only [z_ur]; exact x6
    · simp (disch := omega) only [z_ur]; exact x7
    · simp (disch := omega) only [z_ur]; exact x8
    · simp (disch := omega) only [z_ur]; exact x9
    · simp (disch := omega) only [z_ur]; exact y1 p p0
    · show _ = nI (ud (ud d 4 i (ad (d 4 i) o)) 4 o (ad (d 4 o) i) 4 p)
      unfold ud
      by_cases c : p = o
      · rw [c, z_ue, if_pos ⟨rfl, rfl⟩]
      · rw [z_uk c, if_neg (fun h => c h.2)]
        by_cases c2 : p = i
        · rw [c2, z_ue, if_pos ⟨rfl, rfl⟩]
        · rw [z_uk c2, if_neg (fun h => c2 h.2)]; exact y2 p p0
    · simp (disch := omega) only [z_ur]; exact y3 p' o' p0 o0
  · rw [if_neg (show ¬ nI f4 ≤ 0 by rw [z_le0 (by omega)]; exact z)]
    have e : q3 = q2 := by rw [← hQ3]; exact if_neg z
    rw [e]
    exact ⟨A5, M, q2, f4, rfl, gp.gl, g3, rfl, fun h => absurd h z⟩
theorem m_words (hF : pm_fix pt_me pt_Sg (pt_R L0 xs) F) (X : MP n b q 0 I L) : (F 1216 0 [some (.ref 49), some (.long 7235444471627739763), none] [] (81, pt_G, I, L)) = some (some (.int (nI (decide (kd n b q = 1 ∧ kw n b q = some 0)).toNat)), (81, pt_G, I, L)) ∧ (F 1216 0 [some (.ref 49), some (.long 1852138852), none] [] (81, pt_G, I, L)) = some (some (.int (nI (decide (kd n b q = 1 ∧ kw n b q = some 1)).toNat)), (81, pt_G, I, L)) ∧ (F 1216 0 [some (.ref 49), some (.long 1667330661), none] [] (81, pt_G, I, L)) = some (some (.int (nI (decide (kd n b q = 1 ∧ kw n b q = some 2)).toNat)), (81, pt_G, I, L)) ∧ (F 1216 0 [some (.ref 49), some (.long 500135716211), none] [] (81, pt_G, I, L)) = some (some (.int (nI (decide (kd n b q = 1 ∧ kw n b q = some 3)).toNat)), (81, pt_G, I, L)) ∧ (F 1216 0 [some (.ref 49), some (.long 1953067621), none] [] (81, pt_G, I, L)) = some (some (.int (nI (decide (kd n b q = 1 ∧ kw n b q = some 4)).toNat)), (81, pt_G, I, L)) ∧ (F 1216 0 [some (.ref 49), some (.long 122485595530085), none] [] (81, pt_G, I, L)) = some (some (.int (nI (decide (kd n b q = 1 ∧ kw n b q = some 5)).toNat)), (81, pt_G, I, L)) ∧ (F 1216 0 [some (.ref 49), some (.long 482671228025), none] [] (81, pt_G, I, L)) = some (some (.int (nI (decide (kd n b q = 1 ∧ kw n b q = some 6)).toNat)), (81, pt_G, I, L)) ∧ (F 1216 0 [some (.ref 49), some (.long 512970880104), none] [] (81, pt_G, I, L)) = some (some (.int (nI (decide (kd n b q = 1 ∧ kw n b q = some 10)).toNat)), (81, pt_G, I, L)) ∧ (F 1216 0 [some (.ref 49), some (.long 126943688024933), none] [] (81, pt_G, I, L)) = some (some (.int (nI (decide (kd n b q = 1 ∧ kw n b q = some 11)).toNat)), (81, pt_G, I, L)) ∧ (F 1216 0 [some (.ref 49), some (.long 6447474), none] [] (81, pt_G, I, L)) = some (some (.int (nI (decide (kd n b q = 1 ∧ kw n b q = some 12)).toNat)), (81, pt_G, I, L)) := by
  have w : ∀ k, k < 13 → (F 1216 0 [some (.ref 49), some (.long (lN (c8 k))), none] [] (81, pt_G, I, L)) = some (some (.int (nI (decide (kd n b q = 1 ∧ kw n b q = some k)).toNat)), (81, pt_G, I, L)) := fun k hk => by
    have := m_isWord hF X hk
    simp only [true_and] at this
    exact this
  exact ⟨w 0 (by omega), w 1 (by omega), w 2 (by omega), w 3 (by omega), w 4 (by omega), w 5 (by omega), w 6 (by omega), w 10 (by omega), w 11 (by omega), w 12 (by omega)⟩
theorem m_line0 (hF : pm_fix pt_me pt_Sg (pt_R L0 xs) F) (hb : ∀ i, b i < 256) (X : MP n b q 0 I L) (D : MD n b d I L) (G : DG n b d) (h1 : kd n b q = 1) (hw : kw n b q = some 0) : ∃ I' L', (F 1236 0 [some (.ref 49)] [] (81, pt_G, I, L)) = some (none, (81, pt_G, I', L')) ∧ ML n b (ln0 n b d q) I I' L L' := by
  obtain ⟨w0, w1, w2, w3, w4, w5, w6, w10, w11, w12⟩ := m_words hF X
  rw [decide_eq_true (show kd n b q = 1 ∧ kw n b q = some 0 from ⟨h1, hw⟩)] at w0
  obtain ⟨A, K, a1, a2, a3, a4⟩ := m_div0 hF hb X D G h1 rfl rfl rfl rfl
  obtain ⟨U, V, u1, u2, u3⟩ := m_end hF hb a3
  rw [e1236_0 hF]
  simp (disch := omega) only [pm_k_i, Option.toList_some, Option.toList_none, List.cons_append, List.nil_append, cond_true, cond_false, ↓reduceIte, reduceCtorEq, z_1, nI_add, z_cl, z_ib, z_lt, z_le, z_eq, z_eq0, z_le0, z_lt0, z_b0, z_b1, z_m1, z_and7, Int32.add_zero, w0, e1236_7 hF, Bool.toNat_true, Bool.toNat_false]
  try rw [if_neg (show ¬ nI 1 = 0 from by decide)]
  rw [a1]
  simp (disch := omega) only [pm_k_i, Option.toList_some, Option.toList_none, List.cons_append, List.nil_append, cond_true, cond_false, ↓reduceIte, reduceCtorEq, z_1, nI_add, z_cl, z_ib, z_lt, z_le, z_eq, z_eq0, z_le0, z_lt0, z_b0, z_b1, z_m1, z_and7, Int32.add_zero, e1236_14 hF, u1]
  exact ⟨U, V, rfl, a2.tr u2.gl, u3, fun z => u2.md (a4 (oS_0 z).1)⟩
theorem m_line1 (hF : pm_fix pt_me pt_Sg (pt_R L0 xs) F) (hb : ∀ i, b i < 256) (X : MP n b q 0 I L) (D : MD n b d I L) (G : DG n b d) (h1 : kd n b q = 1) (hw : kw n b q = some 1) : ∃ I' L', (F 1236 0 [some (.ref 49)] [] (81, pt_G, I, L)) = some (none, (81, pt_G, I', L')) ∧ ML n b (ln1 n b d 1 999 1 q) I I' L L' := by
  obtain ⟨w0, w1, w2, w3, w4, w5, w6, w10, w11, w12⟩ := m_words hF X
  rw [decide_eq_false (show ¬ (kd n b q = 1 ∧ kw n b q = some 0) from fun z => absurd (Option.some.inj (hw.symm.trans z.2)) (by decide))] at w0
  rw [decide_eq_true (show kd n b q = 1 ∧ kw n b q = some 1 from ⟨h1, hw⟩)] at w1
  obtain ⟨A, K, a1, a2, a3, a4⟩ := m_need1 hF hb X D G h1
  obtain ⟨U, V, u1, u2, u3⟩ := m_end hF hb a3
  rw [e1236_0 hF]
  simp (disch := omega) only [pm_k_i, Option.toList_some, Option.toList_none, List.cons_append, List.nil_append, cond_true, cond_false, ↓reduceIte, reduceCtorEq, z_1, nI_add, z_cl, z_ib, z_lt, z_le, z_eq, z_eq0, z_le0, z_lt0, z_b0, z_b1, z_m1, z_and7, Int32.add_zero, w0, e1236_7 hF, w1, e1236_24 hF, Bool.toNat_true, Bool.toNat_false]
  try rw [if_neg (show ¬ nI 1 = 0 from by decide)]
  rw [a1]
  simp (disch := omega) only [pm_k_i, Option.toList_some, Option.toList_none, List.cons_append, List.nil_append, cond_true, cond_false, ↓reduceIte, reduceCtorEq, z_1, nI_add, z_cl, z_ib, z_lt, z_le, z_eq, z_eq0, z_le0, z_lt0, z_b0, z_b1, z_m1, z_and7, Int32.add_zero, e1236_31 hF, u1]
  exact ⟨U, V, rfl, a2.tr u2.gl, u3, fun z => u2.md (a4 (oS_0 z).1)⟩
theorem m_line2 (hF : pm_fix pt_me pt_Sg (pt_R L0 xs) F) (hb : ∀ i, b i < 256) (X : MP n b q 0 I L) (D : MD n b d I L) (G : DG n b d) (h1 : kd n b q = 1) (hw : kw n b q = some 2) : ∃ I' L', (F 1236 0 [some (.ref 49)] [] (81, pt_G, I, L)) = some (none, (81, pt_G, I', L')) ∧ ML n b (ln1 n b d 0 9 2 q) I I' L L' := by
  obtain ⟨w0, w1, w2, w3, w4, w5, w6, w10, w11, w12⟩ := m_words hF X
  rw [decide_eq_false (show ¬ (kd n b q = 1 ∧ kw n b q = some 0) from fun z => absurd (Option.some.inj (hw.symm.trans z.2)) (by decide))] at w0
  rw [decide_eq_false (show ¬ (kd n b q = 1 ∧ kw n b q = some 1) from fun z => absurd (Option.some.inj (hw.symm.trans z.2)) (by decide))] at w1
  rw [decide_eq_true (show kd n b q = 1 ∧ kw n b q = some 2 from ⟨h1, hw⟩)] at w2
  obtain ⟨A, K, a1, a2, a3, a4⟩ := m_care2 hF hb X D G h1
  obtain ⟨U, V, u1, u2, u3⟩ := m_end hF hb a3
  rw [e1236_0 hF]
  simp (disch := omega) only [pm_k_i, Option.toList_some, Option.toList_none, List.cons_append, List.nil_append, cond_true, cond_false, ↓reduceIte, reduceCtorEq, z_1, nI_add, z_cl, z_ib, z_lt, z_le, z_eq, z_eq0, z_le0, z_lt0, z_b0, z_b1, z_m1, z_and7, Int32.add_zero, w0, e1236_7 hF, w1, e1236_24 hF, w2, e1236_41 hF, Bool.toNat_true, Bool.toNat_false]
  try rw [if_neg (show ¬ nI 1 = 0 from by decide)]
  rw [a1]
  simp (disch := omega) only [pm_k_i, Option.toList_some, Option.toList_none, List.cons_append, List.nil_append, cond_true, cond_false, ↓reduceIte, reduceCtorEq, z_1, nI_add, z_cl, z_ib, z_lt, z_le, z_eq, z_eq0, z_le0, z_lt0, z_b0, z_b1, z_m1, z_and7, Int32.add_zero, e1236_48 hF, u1]
  exact ⟨U, V, rfl, a2.tr u2.gl, u3, fun z => u2.md (a4 (oS_0 z).1)⟩
theorem m_line3 (hF : pm_fix pt_me pt_Sg (pt_R L0 xs) F) (hb : ∀ i, b i < 256) (X : MP n b q 0 I L) (D : MD n b d I L) (G : DG n b d) (h1 : kd n b q = 1) (hw : kw n b q = some 3) : ∃ I' L', (F 1236 0 [some (.ref 49)] [] (81, pt_G, I, L)) = some (none, (81, pt_G, I', L')) ∧ ML n b (ln1 n b d 1 9 3 q) I I' L L' := by
  obtain ⟨w0, w1, w2, w3, w4, w5, w6, w10, w11, w12⟩ := m_words hF X
  rw [decide_eq_false (show ¬ (kd n b q = 1 ∧ kw n b q = some 0) from fun z => absurd (Option.some.inj (hw.symm.trans z.2)) (by decide))] at w0
  rw [decide_eq_false (show ¬ (kd n b q = 1 ∧ kw n b q = some 1) from fun z => absurd (Option.some.inj (hw.symm.trans z.2)) (by decide))] at w1
  rw [decide_eq_false (show ¬ (kd n b q = 1 ∧ kw n b q = some 2) from fun z => absurd (Option.some.inj (hw.symm.trans z.2)) (by decide))] at w2
  rw [decide_eq_true (show kd n b q = 1 ∧ kw n b q = some 3 from ⟨h1, hw⟩)] at w3
  obtain ⟨A, K, a1, a2, a3, a4⟩ := m_tries3 hF hb X D G h1
  obtain ⟨U, V, u1, u2, u3⟩ := m_end hF hb a3
  rw [e1236_0 hF]
  simp (disch := omega) only [pm_k_i, Option.toList_some, Option.toList_none, List.cons_append, List.nil_append, cond_true, cond_false, ↓reduceIte, reduceCtorEq, z_1, nI_add, z_cl, z_ib, z_lt, z_le, z_eq, z_eq0, z_le0, z_lt0, z_b0, z_b1, z_m1, z_and7, Int32.add_zero, w0, e1236_7 hF, w1, e1236_24 hF, w2, e1236_41 hF, w3, e1236_58 hF, Bool.toNat_true, Bool.toNat_false]
  try rw [if_neg (show ¬ nI 1 = 0 from by decide)]
  rw [a1]
  simp (disch := omega) only [pm_k_i, Option.toList_some, Option.toList_none, List.cons_append, List.nil_append, cond_true, cond_false, ↓reduceIte, reduceCtorEq, z_1, nI_add, z_cl, z_ib, z_lt, z_le, z_eq, z_eq0, z_le0, z_lt0, z_b0, z_b1, z_m1, z_and7, Int32.add_zero, e1236_65 hF, u1]
  exact ⟨U, V, rfl, a2.tr u2.gl, u3, fun z => u2.md (a4 (oS_0 z).1)⟩
theorem m_line4 (hF : pm_fix pt_me pt_Sg (pt_R L0 xs) F) (hb : ∀ i, b i < 256) (X : MP n b q 0 I L) (D : MD n b d I L) (G : DG n b d) (h1 : kd n b q = 1) (hw : kw n b q = some 4) : ∃ I' L', (F 1236 0 [some (.ref 49)] [] (81, pt_G, I, L)) = some (none, (81, pt_G, I', L')) ∧ ML n b (ln1 n b d 0 99 4 q) I I' L L' := by
  obtain ⟨w0, w1, w2, w3, w4, w5, w6, w10, w11, w12⟩ := m_words hF X
  rw [decide_eq_false (show ¬ (kd n b q = 1 ∧ kw n b q = some 0) from fun z => absurd (Option.some.inj (hw.symm.trans z.2)) (by decide))] at w0
  rw [decide_eq_false (show ¬ (kd n b q = 1 ∧ kw n b q = some 1) from fun z => absurd (Option.some.inj (hw.symm.trans z.2)) (by decide))] at w1
  rw [decide_eq_false (show ¬ (kd n b q = 1 ∧ kw n b q = some 2) from fun z => absurd (Option.some.inj (hw.symm.trans z.2)) (by decide))] at w2
  rw [decide_eq_false (show ¬ (kd n b q = 1 ∧ kw n b q = some 3) from fun z => absurd (Option.some.inj (hw.symm.trans z.2)) (by decide))] at w3
  rw [decide_eq_true (show kd n b q = 1 ∧ kw n b q = some 4 from ⟨h1, hw⟩)] at w4
  obtain ⟨A, K, a1, a2, a3, a4⟩ := m_tire4 hF hb X D G h1
  obtain ⟨U, V, u1, u2, u3⟩ := m_end hF hb a3
  rw [e1236_0 hF]
  simp (disch := omega) only [pm_k_i, Option.toList_some, Option.toList_none, List.cons_append, List.nil_append, cond_true, cond_false, ↓reduceIte, reduceCtorEq, z_1, nI_add, z_cl, z_ib, z_lt, z_le, z_eq, z_eq0, z_le0, z_lt0, z_b0, z_b1, z_m1, z_and7, Int32.add_zero, w0, e1236_7 hF, w1, e1236_24 hF, w2, e1236_41 hF, w3, e1236_58 hF, w4, e1236_75 hF, Bool.toNat_true, Bool.toNat_false]
  try rw [if_neg (show ¬ nI 1 = 0 from by decide)]
  rw [a1]
  simp (disch := omega) only [pm_k_i, Option.toList_some, Option.toList_none, List.cons_append, List.nil_append, cond_true, cond_false, ↓reduceIte, reduceCtorEq, z_1, nI_add, z_cl, z_ib, z_lt, z_le, z_eq, z_eq0, z_le0, z_lt0, z_b0, z_b1, z_m1, z_and7, Int32.add_zero, e1236_82 hF, u1]
  exact ⟨U, V, rfl, a2.tr u2.gl, u3, fun z => u2.md (a4 (oS_0 z).1)⟩
theorem m_lineO (hF : pm_fix pt_me pt_Sg (pt_R L0 xs) F) (hb : ∀ i, b i < 256) (X : MP n b q 0 I L) (D : MD n b d I L) (G : DG n b d) (h1 : kd n b q = 1) (hw : kw n b q = some 5) : ∃ I' L', (F 1236 0 [some (.ref 49)] [] (81, pt_G, I, L)) = some (none, (81, pt_G, I', L')) ∧ ML n b (lnO n b d q) I I' L L' := by
  obtain ⟨w0, w1, w2, w3, w4, w5, w6, w10, w11, w12⟩ := m_words hF X
  rw [decide_eq_false (show ¬ (kd n b q = 1 ∧ kw n b q = some 0) from fun z => absurd (Option.some.inj (hw.symm.trans z.2)) (by decide))] at w0
  rw [decide_eq_false (show ¬ (kd n b q = 1 ∧ kw n b q = some 1) from fun z => absurd (Option.some.inj (hw.symm.trans z.2)) (by decide))] at w1
  rw [decide_eq_false (show ¬ (kd n b q = 1 ∧ kw n b q = some 2) from fun z => absurd (Option.some.inj (hw.symm.trans z.2)) (by decide))] at w2
  rw [decide_eq_false (show ¬ (kd n b q = 1 ∧ kw n b q = some 3) from fun z => absurd (Option.some.inj (hw.symm.trans z.2)) (by decide))] at w3
  rw [decide_eq_false (show ¬ (kd n b q = 1 ∧ kw n b q = some 4) from fun z => absurd (Option.some.inj (hw.symm.trans z.2)) (by decide))] at w4
  rw [decide_eq_true (show kd n b q = 1 ∧ kw n b q = some 5 from ⟨h1, hw⟩)] at w5
  obtain ⟨A, K, a1, a2, a3, a4⟩ := m_office hF hb X D G h1 rfl rfl rfl
  obtain ⟨U, V, u1, u2, u3⟩ := m_end hF hb a3
  rw [e1236_0 hF]
  simp (disch := omega) only [pm_k_i, Option.toList_some, Option.toList_none, List.cons_append, List.nil_append, cond_true, cond_false, ↓reduceIte, reduceCtorEq, z_1, nI_add, z_cl, z_ib, z_lt, z_le, z_eq, z_eq0, z_le0, z_lt0, z_b0, z_b1, z_m1, z_and7, Int32.add_zero, w0, e1236_7 hF, w1, e1236_24 hF, w2, e1236_41 hF, w3, e1236_58 hF, w4, e1236_75 hF, w5, e1236_92 hF, Bool.toNat_true, Bool.toNat_false]
  try rw [if_neg (show ¬ nI 1 = 0 from by decide)]
  rw [a1]
  simp (disch := omega) only [pm_k_i, Option.toList_some, Option.toList_none, List.cons_append, List.nil_append, cond_true, cond_false, ↓reduceIte, reduceCtorEq, z_1, nI_add, z_cl, z_ib, z_lt, z_le, z_eq, z_eq0, z_le0, z_lt0, z_b0, z_b1, z_m1, z_and7, Int32.add_zero, e1236_99 hF, u1]
  exact ⟨U, V, rfl, a2.tr u2.gl, u3, fun z => u2.md (a4 (oS_0 z).1)⟩
theorem m_lineP (hF : pm_fix pt_me pt_Sg (pt_R L0 xs) F) (hb : ∀ i, b i < 256) (X : MP n b q 0 I L) (D : MD n b d I L) (G : DG n b d) (h1 : kd n b q = 1) (hw : kw n b q = some 6) : ∃ I' L', (F 1236 0 [some (.ref 49)] [] (81, pt_G, I, L)) = some (none, (81, pt_G, I', L')) ∧ ML n b (lnP n b d q) I I' L L' := by
  obtain ⟨w0, w1, w2, w3, w4, w5, w6, w10, w11, w12⟩ := m_words hF X
  rw [decide_eq_false (show ¬ (kd n b q = 1 ∧ kw n b q = some 0) from fun z => absurd (Option.some.inj (hw.symm.trans z.2)) (by decide))] at w0
  rw [decide_eq_false (show ¬ (kd n b q = 1 ∧ kw n b q = some 1) from fun z => absurd (Option.some.inj (hw.symm.trans z.2)) (by decide))] at w1
  rw [decide_eq_false (show ¬ (kd n b q = 1 ∧ kw n b q = some 2) from fun z => absurd (Option.some.inj (hw.symm.trans z.2)) (by decide))] at w2
  rw [decide_eq_false (show ¬ (kd n b q = 1 ∧ kw n b q = some 3) from fun z => absurd (Option.some.inj (hw.symm.trans z.2)) (by decide))] at w3
  rw [decide_eq_false (show ¬ (kd n b q = 1 ∧ kw n b q = some 4) from fun z => absurd (Option.some.inj (hw.symm.trans z.2)) (by decide))] at w4
  rw [decide_eq_false (show ¬ (kd n b q = 1 ∧ kw n b q = some 5) from fun z => absurd (Option.some.inj (hw.symm.trans z.2)) (by decide))] at w5
  rw [decide_eq_true (show kd n b q = 1 ∧ kw n b q = some 6 from ⟨h1, hw⟩)] at w6
  obtain ⟨A, K, p, g, a1, a2, a3, a5, a4⟩ := m_party hF hb X D G h1
  obtain ⟨U, V, u1, u2, u3⟩ := m_end hF hb a3
  rw [e1236_0 hF]
  simp (disch := omega) only [pm_k_i, Option.toList_some, Option.toList_none, List.cons_append, List.nil_append, cond_true, cond_false, ↓reduceIte, reduceCtorEq, z_1, nI_add, z_cl, z_ib, z_lt, z_le, z_eq, z_eq0, z_le0, z_lt0, z_b0, z_b1, z_m1, z_and7, Int32.add_zero, w0, e1236_7 hF, w1, e1236_24 hF, w2, e1236_41 hF, w3, e1236_58 hF, w4, e1236_75 hF, w5, e1236_92 hF, w6, e1236_109 hF, Bool.toNat_true, Bool.toNat_false]
  try rw [if_neg (show ¬ nI 1 = 0 from by decide)]
  rw [a1]
  simp (disch := omega) only [pm_k_i, Option.toList_some, Option.toList_none, List.cons_append, List.nil_append, cond_true, cond_false, ↓reduceIte, reduceCtorEq, z_1, nI_add, z_cl, z_ib, z_lt, z_le, z_eq, z_eq0, z_le0, z_lt0, z_b0, z_b1, z_m1, z_and7, Int32.add_zero, e1236_116 hF, u1]
  rw [show aq n b p (oS n b p g) = (lnP n b d q).1 from congrArg Prod.fst a5, show oS n b p g = (lnP n b d q).2.1 from congrArg Prod.snd a5] at u3
  refine ⟨U, V, rfl, a2.tr u2.gl, u3, fun z => u2.md (a4 ?_)⟩
  exact (oS_0 ((congrArg Prod.snd a5 : oS n b p g = (lnP n b d q).2.1).trans z)).1
theorem m_lineTa (hF : pm_fix pt_me pt_Sg (pt_R L0 xs) F) (hb : ∀ i, b i < 256) (X : MP n b q 0 I L) (D : MD n b d I L) (G : DG n b d) (h1 : kd n b q = 1) (hw : kw n b q = some 10) : ∃ I' L', (F 1236 0 [some (.ref 49)] [] (81, pt_G, I, L)) = some (none, (81, pt_G, I', L')) ∧ ML n b (lnT n b d 9 5 99 q) I I' L L' := by
  obtain ⟨w0, w1, w2, w3, w4, w5, w6, w10, w11, w12⟩ := m_words hF X
  rw [decide_eq_false (show ¬ (kd n b q = 1 ∧ kw n b q = some 0) from fun z => absurd (Option.some.inj (hw.symm.trans z.2)) (by decide))] at w0
  rw [decide_eq_false (show ¬ (kd n b q = 1 ∧ kw n b q = some 1) from fun z => absurd (Option.some.inj (hw.symm.trans z.2)) (by decide))] at w1
  rw [decide_eq_false (show ¬ (kd n b q = 1 ∧ kw n b q = some 2) from fun z => absurd (Option.some.inj (hw.symm.trans z.2)) (by decide))] at w2
  rw [decide_eq_false (show ¬ (kd n b q = 1 ∧ kw n b q = some 3) from fun z => absurd (Option.some.inj (hw.symm.trans z.2)) (by decide))] at w3
  rw [decide_eq_false (show ¬ (kd n b q = 1 ∧ kw n b q = some 4) from fun z => absurd (Option.some.inj (hw.symm.trans z.2)) (by decide))] at w4
  rw [decide_eq_false (show ¬ (kd n b q = 1 ∧ kw n b q = some 5) from fun z => absurd (Option.some.inj (hw.symm.trans z.2)) (by decide))] at w5
  rw [decide_eq_false (show ¬ (kd n b q = 1 ∧ kw n b q = some 6) from fun z => absurd (Option.some.inj (hw.symm.trans z.2)) (by decide))] at w6
  rw [decide_eq_true (show kd n b q = 1 ∧ kw n b q = some 10 from ⟨h1, hw⟩)] at w10
  obtain ⟨A, K, p, g, a1, a2, a3, a5, a4⟩ := m_tablea hF hb X D G
  obtain ⟨U, V, u1, u2, u3⟩ := m_end hF hb a3
  rw [e1236_0 hF]
  simp (disch := omega) only [pm_k_i, Option.toList_some, Option.toList_none, List.cons_append, List.nil_append, cond_true, cond_false, ↓reduceIte, reduceCtorEq, z_1, nI_add, z_cl, z_ib, z_lt, z_le, z_eq, z_eq0, z_le0, z_lt0, z_b0, z_b1, z_m1, z_and7, Int32.add_zero, w0, e1236_7 hF, w1, e1236_24 hF, w2, e1236_41 hF, w3, e1236_58 hF, w4, e1236_75 hF, w5, e1236_92 hF, w6, e1236_109 hF, w10, e1236_126 hF, Bool.toNat_true, Bool.toNat_false]
  try rw [if_neg (show ¬ nI 1 = 0 from by decide)]
  rw [a1]
  simp (disch := omega) only [pm_k_i, Option.toList_some, Option.toList_none, List.cons_append, List.nil_append, cond_true, cond_false, ↓reduceIte, reduceCtorEq, z_1, nI_add, z_cl, z_ib, z_lt, z_le, z_eq, z_eq0, z_le0, z_lt0, z_b0, z_b1, z_m1, z_and7, Int32.add_zero, e1236_139 hF, u1]
  rw [show aq n b p (oS n b p g) = (lnT n b d 9 5 99 q).1 from congrArg Prod.fst a5, show oS n b p g = (lnT n b d 9 5 99 q).2.1 from congrArg Prod.snd a5] at u3
  refine ⟨U, V, rfl, a2.tr u2.gl, u3, fun z => u2.md (a4 ?_)⟩
  exact (oS_0 ((congrArg Prod.snd a5 : oS n b p g = (lnT n b d 9 5 99 q).2.1).trans z)).1
theorem m_lineTb (hF : pm_fix pt_me pt_Sg (pt_R L0 xs) F) (hb : ∀ i, b i < 256) (X : MP n b q 0 I L) (D : MD n b d I L) (G : DG n b d) (h1 : kd n b q = 1) (hw : kw n b q = some 11) : ∃ I' L', (F 1236 0 [some (.ref 49)] [] (81, pt_G, I, L)) = some (none, (81, pt_G, I', L')) ∧ ML n b (lnT n b d 10 6 9 q) I I' L L' := by
  obtain ⟨w0, w1, w2, w3, w4, w5, w6, w10, w11, w12⟩ := m_words hF X
  rw [decide_eq_false (show ¬ (kd n b q = 1 ∧ kw n b q = some 0) from fun z => absurd (Option.some.inj (hw.symm.trans z.2)) (by decide))] at w0
  rw [decide_eq_false (show ¬ (kd n b q = 1 ∧ kw n b q = some 1) from fun z => absurd (Option.some.inj (hw.symm.trans z.2)) (by decide))] at w1
  rw [decide_eq_false (show ¬ (kd n b q = 1 ∧ kw n b q = some 2) from fun z => absurd (Option.some.inj (hw.symm.trans z.2)) (by decide))] at w2
  rw [decide_eq_false (show ¬ (kd n b q = 1 ∧ kw n b q = some 3) from fun z => absurd (Option.some.inj (hw.symm.trans z.2)) (by decide))] at w3
  rw [decide_eq_false (show ¬ (kd n b q = 1 ∧ kw n b q = some 4) from fun z => absurd (Option.some.inj (hw.symm.trans z.2)) (by decide))] at w4
  rw [decide_eq_false (show ¬ (kd n b q = 1 ∧ kw n b q = some 5) from fun z => absurd (Option.some.inj (hw.symm.trans z.2)) (by decide))] at w5
  rw [decide_eq_false (show ¬ (kd n b q = 1 ∧ kw n b q = some 6) from fun z => absurd (Option.some.inj (hw.symm.trans z.2)) (by decide))] at w6
  rw [decide_eq_false (show ¬ (kd n b q = 1 ∧ kw n b q = some 10) from fun z => absurd (Option.some.inj (hw.symm.trans z.2)) (by decide))] at w10
  rw [decide_eq_true (show kd n b q = 1 ∧ kw n b q = some 11 from ⟨h1, hw⟩)] at w11
  obtain ⟨A, K, p, g, a1, a2, a3, a5, a4⟩ := m_tableb hF hb X D G
  obtain ⟨U, V, u1, u2, u3⟩ := m_end hF hb a3
  rw [e1236_0 hF]
  simp (disch := omega) only [pm_k_i, Option.toList_some, Option.toList_none, List.cons_append, List.nil_append, cond_true, cond_false, ↓reduceIte, reduceCtorEq, z_1, nI_add, z_cl, z_ib, z_lt, z_le, z_eq, z_eq0, z_le0, z_lt0, z_b0, z_b1, z_m1, z_and7, Int32.add_zero, w0, e1236_7 hF, w1, e1236_24 hF, w2, e1236_41 hF, w3, e1236_58 hF, w4, e1236_75 hF, w5, e1236_92 hF, w6, e1236_109 hF, w10, e1236_126 hF, w11, e1236_149 hF, Bool.toNat_true, Bool.toNat_false]
  try rw [if_neg (show ¬ nI 1 = 0 from by decide)]
  rw [a1]
  simp (disch := omega) only [pm_k_i, Option.toList_some, Option.toList_none, List.cons_append, List.nil_append, cond_true, cond_false, ↓reduceIte, reduceCtorEq, z_1, nI_add, z_cl, z_ib, z_lt, z_le, z_eq, z_eq0, z_le0, z_lt0, z_b0, z_b1, z_m1, z_and7, Int32.add_zero, e1236_162 hF, u1]
  rw [show aq n b p (oS n b p g) = (lnT n b d 10 6 9 q).1 from congrArg Prod.fst a5, show oS n b p g = (lnT n b d 10 6 9 q).2.1 from congrArg Prod.snd a5] at u3
  refine ⟨U, V, rfl, a2.tr u2.gl, u3, fun z => u2.md (a4 ?_)⟩
  exact (oS_0 ((congrArg Prod.snd a5 : oS n b p g = (lnT n b d 10 6 9 q).2.1).trans z)).1
theorem m_lineB (hF : pm_fix pt_me pt_Sg (pt_R L0 xs) F) (hb : ∀ i, b i < 256) (X : MP n b q 0 I L) (D : MD n b d I L) (G : DG n b d) (h1 : kd n b q = 1) (hw : kw n b q = some 12) : ∃ I' L', (F 1236 0 [some (.ref 49)] [] (81, pt_G, I, L)) = some (none, (81, pt_G, I', L')) ∧ ML n b (lnB n b d q) I I' L L' := by
  obtain ⟨w0, w1, w2, w3, w4, w5, w6, w10, w11, w12⟩ := m_words hF X
  rw [decide_eq_false (show ¬ (kd n b q = 1 ∧ kw n b q = some 0) from fun z => absurd (Option.some.inj (hw.symm.trans z.2)) (by decide))] at w0
  rw [decide_eq_false (show ¬ (kd n b q = 1 ∧ kw n b q = some 1) from fun z => absurd (Option.some.inj (hw.symm.trans z.2)) (by decide))] at w1
  rw [decide_eq_false (show ¬ (kd n b q = 1 ∧ kw n b q = some 2) from fun z => absurd (Option.some.inj (hw.symm.trans z.2)) (by decide))] at w2
  rw [decide_eq_false (show ¬ (kd n b q = 1 ∧ kw n b q = some 3) from fun z => absurd (Option.some.inj (hw.symm.trans z.2)) (by decide))] at w3
  rw [decide_eq_false (show ¬ (kd n b q = 1 ∧ kw n b q = some 4) from fun z => absurd (Option.some.inj (hw.symm.trans z.2)) (by decide))] at w4
  rw [decide_eq_false (show ¬ (kd n b q = 1 ∧ kw n b q = some 5) from fun z => absurd (Option.some.inj (hw.symm.trans z.2)) (by decide))] at w5
  rw [decide_eq_false (show ¬ (kd n b q = 1 ∧ kw n b q = some 6) from fun z => absurd (Option.some.inj (hw.symm.trans z.2)) (by decide))] at w6
  rw [decide_eq_false (show ¬ (kd n b q = 1 ∧ kw n b q = some 10) from fun z => absurd (Option.some.inj (hw.symm.trans z.2)) (by decide))] at w10
  rw [decide_eq_false (show ¬ (kd n b q = 1 ∧ kw n b q = some 11) from fun z => absurd (Option.some.inj (hw.symm.trans z.2)) (by decide))] at w11
  rw [decide_eq_true (show kd n b q = 1 ∧ kw n b q = some 12 from ⟨h1, hw⟩)] at w12
  obtain ⟨A, K, p, g, a1, a2, a3, a5, a4⟩ := m_bar hF hb X D G
  obtain ⟨U, V, u1, u2, u3⟩ := m_end hF hb a3
  rw [e1236_0 hF]
  simp (disch := omega) only [pm_k_i, Option.toList_some, Option.toList_none, List.cons_append, List.nil_append, cond_true, cond_false, ↓reduceIte, reduceCtorEq, z_1, nI_add, z_cl, z_ib, z_lt, z_le, z_eq, z_eq0, z_le0, z_lt0, z_b0, z_b1, z_m1, z_and7, Int32.add_zero, w0, e1236_7 hF, w1, e1236_24 hF, w2, e1236_41 hF, w3, e1236_58 hF, w4, e1236_75 hF, w5, e1236_92 hF, w6, e1236_109 hF, w10, e1236_126 hF, w11, e1236_149 hF, w12, e1236_172 hF, Bool.toNat_true, Bool.toNat_false]
  try rw [if_neg (show ¬ nI 1 = 0 from by decide)]
  rw [a1]
  simp (disch := omega) only [pm_k_i, Option.toList_some, Option.toList_none, List.cons_append, List.nil_append, cond_true, cond_false, ↓reduceIte, reduceCtorEq, z_1, nI_add, z_cl, z_ib, z_lt, z_le, z_eq, z_eq0, z_le0, z_lt0, z_b0, z_b1, z_m1, z_and7, Int32.add_zero, e1236_179 hF, u1]
  rw [show aq n b p (oS n b p g) = (lnB n b d q).1 from congrArg Prod.fst a5, show oS n b p g = (lnB n b d q).2.1 from congrArg Prod.snd a5] at u3
  refine ⟨U, V, rfl, a2.tr u2.gl, u3, fun z => u2.md (a4 ?_)⟩
  exact (oS_0 ((congrArg Prod.snd a5 : oS n b p g = (lnB n b d q).2.1).trans z)).1
theorem m_lineX (hF : pm_fix pt_me pt_Sg (pt_R L0 xs) F) (hb : ∀ i, b i < 256) (X : MP n b q 0 I L) (D : MD n b d I L) (hw : ∀ k, (k < 7 ∨ 9 < k) → k < 13 → ¬ (kd n b q = 1 ∧ kw n b q = some k)) : ∃ I' L', (F 1236 0 [some (.ref 49)] [] (81, pt_G, I, L)) = some (none, (81, pt_G, I', L')) ∧ ML n b (lnX n b d q) I I' L L' := by
  obtain ⟨w0, w1, w2, w3, w4, w5, w6, w10, w11, w12⟩ := m_words hF X
  rw [decide_eq_false (hw 0 (by omega) (by omega))] at w0
  rw [decide_eq_false (hw 1 (by omega) (by omega))] at w1
  rw [decide_eq_false (hw 2 (by omega) (by omega))] at w2
  rw [decide_eq_false (hw 3 (by omega) (by omega))] at w3
  rw [decide_eq_false (hw 4 (by omega) (by omega))] at w4
  rw [decide_eq_false (hw 5 (by omega) (by omega))] at w5
  rw [decide_eq_false (hw 6 (by omega) (by omega))] at w6
  rw [decide_eq_false (hw 10 (by omega) (by omega))] at w10
  rw [decide_eq_false (hw 11 (by omega) (by omega))] at w11
  rw [decide_eq_false (hw 12 (by omega) (by omega))] at w12
  obtain ⟨A, a1, a2, a3⟩ := m_wrong hF X (k := 2) (by omega) (by omega)
  have a1 : (F 1214 0 [some (.ref 49), some (.int 2)] [] (81, pt_G, I, L)) = _ := a1
  have e1 : fk 0 (fk2 n b q 2) = fk2 n b q 2 := if_pos rfl
  rw [e1] at a3
  have e3 : ¬ fk2 n b q 2 = 0 := by unfold fk2; split <;> omega
  have e2 : aq n b q (fk2 n b q 2) = q := if_neg e3
  obtain ⟨U, V, u1, u2, u3⟩ := m_end hF hb a3
  have e4 : oS n b q (fk2 n b q 2) = fk2 n b q 2 := if_neg e3
  rw [e4] at u3
  rw [e1236_0 hF]
  simp (disch := omega) only [pm_k_i, Option.toList_some, Option.toList_none, List.cons_append, List.nil_append, cond_true, cond_false, ↓reduceIte, reduceCtorEq, z_1, nI_add, z_cl, z_ib, z_lt, z_le, z_eq, z_eq0, z_le0, z_lt0, z_b0, z_b1, z_m1, z_and7, Int32.add_zero, w0, e1236_7 hF, w1, e1236_24 hF, w2, e1236_41 hF, w3, e1236_58 hF, w4, e1236_75 hF, w5, e1236_92 hF, w6, e1236_109 hF, w10, e1236_126 hF, w11, e1236_149 hF, w12, e1236_172 hF, Bool.toNat_false, a1, u1]
  exact ⟨U, V, rfl, (a2.tr u2).gl, u3, fun z => absurd z e3⟩
theorem m_line (hF : pm_fix pt_me pt_Sg (pt_R L0 xs) F) (hb : ∀ i, b i < 256) (X : MP n b q 0 I L) (D : MD n b d I L) (G : DG n b d) : ∃ I' L', (F 1236 0 [some (.ref 49)] [] (81, pt_G, I, L)) = some (none, (81, pt_G, I', L')) ∧ ML n b (lin n b d q) I I' L L' := by
  unfold lin
  by_cases h1 : kd n b q = 1
  · rw [if_pos h1]
    cases hw : kw n b q with
    | none => exact m_lineX hF hb X D (fun k _ _ z => by rw [hw] at z; cases z.2)
    | some k =>
      have k13 := kw_lt hw
      have hk : k = 0 ∨ k = 1 ∨ k = 2 ∨ k = 3 ∨ k = 4 ∨ k = 5 ∨ k = 6 ∨ k = 7 ∨ k = 8 ∨ k = 9 ∨ k = 10 ∨ k = 11 ∨ k = 12 := by omega
      rcases hk with rfl | rfl | rfl | rfl | rfl | rfl | rfl | rfl | rfl | rfl | rfl | rfl | rfl
      · exact m_line0 hF hb X D G h1 hw
      · exact m_line1 hF hb X D G h1 hw
      · exact m_line2 hF hb X D G h1 hw
      · exact m_line3 hF hb X D G h1 hw
      · exact m_line4 hF hb X D G h1 hw
      · exact m_lineO hF hb X D G h1 hw
      · exact m_lineP hF hb X D G h1 hw
      · exact m_lineX hF hb X D (fun k a _ z => by rw [hw] at z; cases z.2; omega)
      · exact m_lineX hF hb X D (fun k a _ z => by rw [hw] at z; cases z.2; omega)
      · exact m_lineX hF hb X D (fun k a _ z => by rw [hw] at z; cases z.2; omega)
      · exact m_lineTa hF hb X D G h1 hw
      · exact m_lineTb hF hb X D G h1 hw
      · exact m_lineB hF hb X D G h1 hw
  · rw [if_neg h1]
    exact m_lineX hF hb X D (fun k _ _ z => h1 z.1)
end
