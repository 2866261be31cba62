/-! ===== lines of the model ===== -/
section
variable {I I' : Nat → Nat → Int32} {L L' : Nat → Nat → Int64}
variable {F : pm_F} {L0 : Nat} {xs : Nat → Int32}
variable {n q f : Nat} {b : Nat → Nat} {d : Nat → Nat → Nat}
def ML (n : Nat) (b : Nat → Nat) (R : Nat × Nat × (Nat → Nat → Nat)) (I I' : Nat → Nat → Int32) (L L' : Nat → Nat → Int64) : Prop := GL' I I' L L' ∧ MP n b R.1 R.2.1 I' L' ∧ (R.2.1 = 0 → MD n b R.2.2 I' L')
theorem MD.s (X : MD n b d I L) {k v : Nat} {u : Int32} (k2 : 2 ≤ k) (k7 : k ≤ 7) (hu : u = if k = 4 then (if v = 0 then -1 else nI v) else nI v) : MD n b (ud d 0 k v) (pm_ui I 49 (13 + k) u) L := by
  obtain ⟨⟨x1, x2, x3, x4, x5, x6, x7, x8, x9⟩, y1, y2, y3, y4⟩ := X
  have hk : k = 2 ∨ k = 3 ∨ k = 4 ∨ k = 5 ∨ k = 6 ∨ k = 7 := by omega
  have r1 : ∀ p, p < d 0 0 → pm_ui I 49 (13 + k) u 53 p = nI (d 1 p) ∧ pm_ui I 49 (13 + k) u 54 p = nI (d 2 p) ∧ pm_ui I 49 (13 + k) u 55 p = nI (d 3 p) ∧ L 51 p = lN (e8 n b (d 7 p)) := fun p p0 => by
    rw [z_ur (by omega), z_ur (by omega), z_ur (by omega)]; exact y1 p p0
  have r2 : ∀ p, p < 7 → pm_ui I 49 (13 + k) u 56 p = nI (d 4 p) := fun p p0 => by rw [z_ur (by omega)]; exact y2 p p0
  have r3 : ∀ p o, p < 7 → o < 8 → pm_ui I 49 (13 + k) u 57 (8 * p + o) = (bif (d 9 p).testBit o then nI (d 5 (8 * p + o)) else -1) ∧ pm_ui I 49 (13 + k) u 58 (8 * p + o) = (bif (d 10 p).testBit o then nI (d 6 (8 * p + o)) else -1) := fun p o p0 o0 => by
    rw [z_ur (by omega), z_ur (by omega)]; exact y3 p o p0 o0
  rcases hk with rfl | rfl | rfl | rfl | rfl | rfl
  · refine ⟨⟨?_, ?_, ?_, ?_, ?_, ?_, ?_, ?_, ?_⟩, r1, r2, r3, y4⟩
    · rw [z_uk (by omega)]; exact x1
    · rw [z_uk (by omega)]; exact x2
    · rw [z_ue, hu]; rfl
    · rw [z_uk (by omega)]; exact x4
    · rw [z_uk (by omega)]; exact x5
    · rw [z_uk (by omega)]; exact x6
    · rw [z_uk (by omega)]; exact x7
    · rw [z_uk (by omega)]; exact x8
    · rw [z_uk (by omega)]; exact x9
  · refine ⟨⟨?_, ?_, ?_, ?_, ?_, ?_, ?_, ?_, ?_⟩, r1, r2, r3, y4⟩
    · rw [z_uk (by omega)]; exact x1
    · rw [z_uk (by omega)]; exact x2
    · rw [z_uk (by omega)]; exact x3
    · rw [z_ue, hu]; rfl
    · rw [z_uk (by omega)]; exact x5
    · rw [z_uk (by omega)]; exact x6
    · rw [z_uk (by omega)]; exact x7
    · rw [z_uk (by omega)]; exact x8
    · rw [z_uk (by omega)]; exact x9
  · refine ⟨⟨?_, ?_, ?_, ?_, ?_, ?_, ?_, ?_, ?_⟩, r1, r2, r3, y4⟩
    · rw [z_uk (by omega)]; exact x1
    · rw [z_uk (by omega)]; exact x2
    · rw [z_uk (by omega)]; exact x3
    · rw [z_uk (by omega)]; exact x4
    · rw [z_ue, hu]; rfl
    · rw [z_uk (by omega)]; exact x6
    · rw [z_uk (by omega)]; exact x7
    · rw [z_uk (by omega)]; exact x8
    · rw [z_uk (by omega)]; exact x9
  · refine ⟨⟨?_, ?_, ?_, ?_, ?_, ?_, ?_, ?_, ?_⟩, r1, r2, r3, y4⟩
    · rw [z_uk (by omega)]; exact x1
    · rw [z_uk (by omega)]; exact x2
    · rw [z_uk (by omega)]; exact x3
    · rw [z_uk (by omega)]; exact x4
    · rw [z_uk (by omega)]; exact x5
    · rw [z_ue, hu]; rfl
    · rw [z_uk (by omega)]; exact x7
    · rw [z_uk (by omega)]; exact x8
    · rw [z_uk (by omega)]; exact x9
  · refine ⟨⟨?_, ?_, ?_, ?_, ?_, ?_, ?_, ?_, ?_⟩, r1, r2, r3, y4⟩
    · rw [z_uk (by omega)]; exact x1
    · rw [z_uk (by omega)]; exact x2
    · rw [z_uk (by omega)]; exact x3
    · rw [z_uk (by omega)]; exact x4
    · rw [z_uk (by omega)]; exact x5
    · rw [z_uk (by omega)]; exact x6
    · rw [z_ue, hu]; rfl
    · rw [z_uk (by omega)]; exact x8
    · rw [z_uk (by omega)]; exact x9
  · refine ⟨⟨?_, ?_, ?_, ?_, ?_, ?_, ?_, ?_, ?_⟩, r1, r2, r3, y4⟩
    · rw [z_uk (by omega)]; exact x1
    · rw [z_uk (by omega)]; exact x2
    · rw [z_uk (by omega)]; exact x3
    · rw [z_uk (by omega)]; exact x4
    · rw [z_uk (by omega)]; exact x5
    · rw [z_uk (by omega)]; exact x6
    · rw [z_uk (by omega)]; exact x7
    · rw [z_ue, hu]; rfl
    · rw [z_uk (by omega)]; exact x9
theorem m_end (hF : pm_fix pt_me pt_Sg (pt_R L0 xs) F) (hb : ∀ i, b i < 256) (X : MP n b q f I L) : ∃ I' L', (F 1236 187 [some (.ref 49)] [] (81, pt_G, I, L)) = some (none, (81, pt_G, I', L')) ∧ GP I I' L L' ∧ MP n b (aq n b q (oS n b q f)) (oS n b q f) I' L' := by
  obtain ⟨A, K, a1, a2, a3⟩ := m_must hF hb X
  rw [e1236_187 hF, a1]
  simp (disch := omega) only [pm_k_i, Option.toList_some, Option.toList_none, List.cons_append, List.nil_append, cond_true, cond_false, ↓reduceIte, reduceCtorEq, z_1, nI_add, z_cl, z_ib, z_lt, z_le, z_eq, z_eq0, z_le0, z_lt0, z_b0, z_b1, z_m1, z_and7, Int32.add_zero, e1236_192 hF]
  exact ⟨A, K, rfl, a2, a3⟩
theorem m_need1 (hF : pm_fix pt_me pt_Sg (pt_R L0 xs) F) (hb : ∀ i, b i < 256) (X : MP n b q 0 I L) (D : MD n b d I L) (G : DG n b d) (h1 : kd n b q = 1) : ∃ I' L', (F 1232 0 [some (.ref 49)] [] (81, pt_G, I, L)) = some (none, (81, pt_G, I', L')) ∧ GL' I I' L L' ∧ MP n b (aq n b (aq n b q (oO d 1)) (oN n b 1 999 (aq n b q (oO d 1)) (oO d 1))) (oN n b 1 999 (aq n b q (oO d 1)) (oO d 1)) I' L' ∧ (oN n b 1 999 (aq n b q (oO d 1)) (oO d 1) = 0 → MD n b (ud (ud d 0 8 (ad (d 0 8) 1)) 0 (3 + 1) (vl n b (aq n b q (oO d 1)))) I' L') := by
  obtain ⟨A, K, a1, a2, a3, a4⟩ := m_once hF hb X D G (k := 1) (by omega) h1
  have a1 : (F 1226 0 [some (.ref 49), some (.int 1)] [] (81, pt_G, I, L)) = _ := a1
  obtain ⟨B, M, x, b1, b2, b3, b4⟩ := m_number hF hb a3 (lo := 1) (hi := 999) (by omega) (by omega)
  have b1 : (F 1221 0 [some (.ref 49), some (.int 1), some (.int 999), none] [] (81, pt_G, A, K)) = _ := b1
  rw [e1232_0 hF, a1]
  simp (disch := omega) only [pm_k_i, Option.toList_some, Option.toList_none, List.cons_append, List.nil_append, cond_true, cond_false, ↓reduceIte, reduceCtorEq, z_1, nI_add, z_cl, z_ib, z_lt, z_le, z_eq, z_eq0, z_le0, z_lt0, z_b0, z_b1, z_m1, z_and7, Int32.add_zero, e1232_5 hF, b1, e1232_14 hF]
  refine ⟨_, M, rfl, (a2.tr b2.gl).tr (GL'.u49 (by omega) (by omega)), b3.u49 (by omega), fun z => ?_⟩
  have v := oN_0 z
  have := (b2.md a4).s (k := 3 + 1) (v := vl n b (aq n b q (oO d 1))) (u := x) (by omega) (by omega) (by rw [b4 z]; rw [if_pos (by omega), if_neg (by omega)])
  exact this
theorem m_care2 (hF : pm_fix pt_me pt_Sg (pt_R L0 xs) F) (hb : ∀ i, b i < 256) (X : MP n b q 0 I L) (D : MD n b d I L) (G : DG n b d) (h1 : kd n b q = 1) : ∃ I' L', (F 1233 0 [some (.ref 49)] [] (81, pt_G, I, L)) = some (none, (81, pt_G, I', L')) ∧ GL' I I' L L' ∧ MP n b (aq n b (aq n b q (oO d 2)) (oN n b 0 9 (aq n b q (oO d 2)) (oO d 2))) (oN n b 0 9 (aq n b q (oO d 2)) (oO d 2)) I' L' ∧ (oN n b 0 9 (aq n b q (oO d 2)) (oO d 2) = 0 → MD n b (ud (ud d 0 8 (ad (d 0 8) 2)) 0 (3 + 2) (vl n b (aq n b q (oO d 2)))) I' L') := by
  obtain ⟨A, K, a1, a2, a3, a4⟩ := m_once hF hb X D G (k := 2) (by omega) h1
  have a1 : (F 1226 0 [some (.ref 49), some (.int 2)] [] (81, pt_G, I, L)) = _ := a1
  obtain ⟨B, M, x, b1, b2, b3, b4⟩ := m_number hF hb a3 (lo := 0) (hi := 9) (by omega) (by omega)
  have b1 : (F 1221 0 [some (.ref 49), some (.int 0), some (.int 9), none] [] (81, pt_G, A, K)) = _ := b1
  rw [e1233_0 hF, a1]
  simp (disch := omega) only [pm_k_i, Option.toList_some, Option.toList_none, List.cons_append, List.nil_append, cond_true, cond_false, ↓reduceIte, reduceCtorEq, z_1, nI_add, z_cl, z_ib, z_lt, z_le, z_eq, z_eq0, z_le0, z_lt0, z_b0, z_b1, z_m1, z_and7, Int32.add_zero, e1233_5 hF, b1, e1233_13 hF]
  refine ⟨_, M, rfl, (a2.tr b2.gl).tr (GL'.u49 (by omega) (by omega)), b3.u49 (by omega), fun z => ?_⟩
  have v := oN_0 z
  have := (b2.md a4).s (k := 3 + 2) (v := vl n b (aq n b q (oO d 2))) (u := x) (by omega) (by omega) (by rw [b4 z]; rw [if_neg (by omega)])
  exact this
theorem m_tries3 (hF : pm_fix pt_me pt_Sg (pt_R L0 xs) F) (hb : ∀ i, b i < 256) (X : MP n b q 0 I L) (D : MD n b d I L) (G : DG n b d) (h1 : kd n b q = 1) : ∃ I' L', (F 1234 0 [some (.ref 49)] [] (81, pt_G, I, L)) = some (none, (81, pt_G, I', L')) ∧ GL' I I' L L' ∧ MP n b (aq n b (aq n b q (oO d 3)) (oN n b 1 9 (aq n b q (oO d 3)) (oO d 3))) (oN n b 1 9 (aq n b q (oO d 3)) (oO d 3)) I' L' ∧ (oN n b 1 9 (aq n b q (oO d 3)) (oO d 3) = 0 → MD n b (ud (ud d 0 8 (ad (d 0 8) 3)) 0 (3 + 3) (vl n b (aq n b q (oO d 3)))) I' L') := by
  obtain ⟨A, K, a1, a2, a3, a4⟩ := m_once hF hb X D G (k := 3) (by omega) h1
  have a1 : (F 1226 0 [some (.ref 49), some (.int 3)] [] (81, pt_G, I, L)) = _ := a1
  obtain ⟨B, M, x, b1, b2, b3, b4⟩ := m_number hF hb a3 (lo := 1) (hi := 9) (by omega) (by omega)
  have b1 : (F 1221 0 [some (.ref 49), some (.int 1), some (.int 9), none] [] (81, pt_G, A, K)) = _ := b1
  rw [e1234_0 hF, a1]
  simp (disch := omega) only [pm_k_i, Option.toList_some, Option.toList_none, List.cons_append, List.nil_append, cond_true, cond_false, ↓reduceIte, reduceCtorEq, z_1, nI_add, z_cl, z_ib, z_lt, z_le, z_eq, z_eq0, z_le0, z_lt0, z_b0, z_b1, z_m1, z_and7, Int32.add_zero, e1234_5 hF, b1, e1234_13 hF]
  refine ⟨_, M, rfl, (a2.tr b2.gl).tr (GL'.u49 (by omega) (by omega)), b3.u49 (by omega), fun z => ?_⟩
  have v := oN_0 z
  have := (b2.md a4).s (k := 3 + 3) (v := vl n b (aq n b q (oO d 3))) (u := x) (by omega) (by omega) (by rw [b4 z]; rw [if_neg (by omega)])
  exact this
theorem m_tire4 (hF : pm_fix pt_me pt_Sg (pt_R L0 xs) F) (hb : ∀ i, b i < 256) (X : MP n b q 0 I L) (D : MD n b d I L) (G : DG n b d) (h1 : kd n b q = 1) : ∃ I' L', (F 1235 0 [some (.ref 49)] [] (81, pt_G, I, L)) = some (none, (81, pt_G, I', L')) ∧ GL' I I' L L' ∧ MP n b (aq n b (aq n b q (oO d 4)) (oN n b 0 99 (aq n b q (oO d 4)) (oO d 4))) (oN n b 0 99 (aq n b q (oO d 4)) (oO d 4)) I' L' ∧ (oN n b 0 99 (aq n b q (oO d 4)) (oO d 4) = 0 → MD n b (ud (ud d 0 8 (ad (d 0 8) 4)) 0 (3 + 4) (vl n b (aq n b q (oO d 4)))) I' L') := by
  obtain ⟨A, K, a1, a2, a3, a4⟩ := m_once hF hb X D G (k := 4) (by omega) h1
  have a1 : (F 1226 0 [some (.ref 49), some (.int 4)] [] (81, pt_G, I, L)) = _ := a1
  obtain ⟨B, M, x, b1, b2, b3, b4⟩ := m_number hF hb a3 (lo := 0) (hi := 99) (by omega) (by omega)
  have b1 : (F 1221 0 [some (.ref 49), some (.int 0), some (.int 99), none] [] (81, pt_G, A, K)) = _ := b1
  rw [e1235_0 hF, a1]
  simp (disch := omega) only [pm_k_i, Option.toList_some, Option.toList_none, List.cons_append, List.nil_append, cond_true, cond_false, ↓reduceIte, reduceCtorEq, z_1, nI_add, z_cl, z_ib, z_lt, z_le, z_eq, z_eq0, z_le0, z_lt0, z_b0, z_b1, z_m1, z_and7, Int32.add_zero, e1235_5 hF, b1, e1235_13 hF]
  refine ⟨_, M, rfl, (a2.tr b2.gl).tr (GL'.u49 (by omega) (by omega)), b3.u49 (by omega), fun z => ?_⟩
  have v := oN_0 z
  have := (b2.md a4).s (k := 3 + 4) (v := vl n b (aq n b q (oO d 4))) (u := x) (by omega) (by omega) (by rw [b4 z]; rw [if_neg (by omega)])
  exact this
theorem m_div0 (hF : pm_fix pt_me pt_Sg (pt_R L0 xs) F) (hb : ∀ i, b i < 256) (X : MP n b q 0 I L) (D : MD n b d I L) (G : DG n b d) (h1 : kd n b q = 1) {q1 q2 f2 f3 : Nat} (e1 : aq n b q (oO d 0) = q1) (e2 : oN n b 1 99 q1 (oO d 0) = f2) (e3 : aq n b q1 f2 = q2) (e4 : oN n b 1 99 q2 f2 = f3) : ∃ I' L', (F 1231 0 [some (.ref 49)] [] (81, pt_G, I, L)) = some (none, (81, pt_G, I', L')) ∧ GL' I I' L L' ∧ MP n b (aq n b q2 f3) f3 I' L' ∧ (f3 = 0 → MD n b (ud (ud (ud d 0 8 (ad (d 0 8) 0)) 0 2 (vl n b q1)) 0 3 (vl n b q2)) I' L') := by
  obtain ⟨A, K, a1, a2, a3, a4⟩ := m_once hF hb X D G (k := 0) (by omega) h1
  have a1 : (F 1226 0 [some (.ref 49), some (.int 0)] [] (81, pt_G, I, L)) = _ := a1
  rw [e1] at a3
  obtain ⟨B, M, x, b1, b2, b3, b4⟩ := m_number hF hb a3 (lo := 1) (hi := 99) (by omega) (by omega)
  have b1 : (F 1221 0 [some (.ref 49), some (.int 1), some (.int 99), none] [] (81, pt_G, A, K)) = _ := b1
  rw [e2] at b3 b4
  rw [e3] at b3
  obtain ⟨C, N, y, c1, c2, c3, c4⟩ := m_number hF hb (b3.u49 (k := 15) (v := x) (by omega)) (lo := 1) (hi := 99) (by omega) (by omega)
  have c1 : (F 1221 0 [some (.ref 49), some (.int 1), some (.int 99), none] [] (81, pt_G, (pm_ui B 49 15 x), M)) = _ := c1
  rw [e4] at c3 c4
  rw [e1231_0 hF, a1]
  simp (disch := omega) only [pm_k_i, Option.toList_some, Option.toList_none, List.cons_append, List.nil_append, cond_true, cond_false, ↓reduceIte, reduceCtorEq, z_1, nI_add, z_cl, z_ib, z_lt, z_le, z_eq, z_eq0, z_le0, z_lt0, z_b0, z_b1, z_m1, z_and7, Int32.add_zero, e1231_5 hF, b1, e1231_13 hF, c1, e1231_24 hF]
  refine ⟨_, N, rfl, (((a2.tr b2.gl).tr (GL'.u49 (by omega) (by omega))).tr c2.gl).tr (GL'.u49 (by omega) (by omega)), c3.u49 (by omega), fun z => ?_⟩
  have z2 := (oN_0 (e4.trans z)).1
  have m1 := (b2.md a4).s (k := 2) (v := vl n b q1) (u := x) (by omega) (by omega) (by rw [b4 z2, if_neg (by omega)])
  exact (c2.md m1).s (k := 3) (v := vl n b q2) (u := y) (by omega) (by omega) (by rw [c4 z, if_neg (by omega)])
theorem m_office (hF : pm_fix pt_me pt_Sg (pt_R L0 xs) F) (hb : ∀ i, b i < 256) (X : MP n b q 0 I L) (D : MD n b d I L) (G : DG n b d) (h1 : kd n b q = 1) {q1 f1 f3 : Nat} (ef : (if d 0 1 < 8 then 0 else 5) = f1) (e1 : aq n b q f1 = q1) (e3 : oF n b d q1 (oA n b q1 f1) = f3) : ∃ I' L', (F 1227 0 [some (.ref 49)] [] (81, pt_G, I, L)) = some (none, (81, pt_G, I', L')) ∧ GL' I I' L L' ∧ MP n b (aq n b q1 f3) f3 I' L' ∧ (f3 = 0 → MD n b (ud (ud d 8 (d 0 1) q1) 0 1 (d 0 1 + 1)) I' L') := by
  have hO := G.O
  have key : ∀ A K, GP I A L K → MP n b q1 f1 A K → ∃ I' L', (F 1227 25 [some (.ref 49)] [] (81, pt_G, A, K)) = some (none, (81, pt_G, I', L')) ∧ GL' I I' L L' ∧ MP n b (aq n b q1 f3) f3 I' L' ∧ (f3 = 0 → MD n b (ud (ud d 8 (d 0 1) q1) 0 1 (d 0 1 + 1)) I' L') := by
    intro A K ga XA
    obtain ⟨B, b1, b2, b3⟩ := m_freshName hF XA (ga.md D) G
    rw [e3] at b3
    have DB := b2.md (ga.md D)
    have l := b3.2.2.2.2.2
    rw [e1227_25 hF, b1]
    simp (disch := omega) only [pm_k_i, Option.toList_some, Option.toList_none, List.cons_append, List.nil_append, cond_true, cond_false, ↓reduceIte, reduceCtorEq, z_1, nI_add, z_cl, z_ib, z_lt, z_le, z_eq, z_eq0, z_le0, z_lt0, z_b0, z_b1, z_m1, z_and7, Int32.add_zero, e1227_29 hF, b3.2.2.1]
    by_cases c : f3 = 0
    · subst c
      have z2 := oA_0 (oF_0 e3).1
      have o8 : d 0 1 < 8 := by
        by_cases o8 : d 0 1 < 8
        · exact o8
        · rw [if_neg o8, z2.1] at ef; omega
      have mk := b3.2.2.2.2.1 rfl
      have w := (mk.2.2.2.2 z2.2.1).2
      have X2 : MP n b q1 0 (pm_ui B 49 14 (nI (d 0 1 + 1))) (pm_ul K 52 (d 0 1) (lN (e8 n b q1))) := (b3.u49 (by omega)).of rfl (fun _ => rfl) (fun _ _ _ => rfl) (by rw [z_lr (by omega)])
      obtain ⟨U, V, u1, u2, u3⟩ := m_adv hF hb X2
      simp (disch := omega) only [pm_k_i, Option.toList_some, Option.toList_none, List.cons_append, List.nil_append, cond_true, cond_false, ↓reduceIte, reduceCtorEq, z_1, nI_add, z_cl, z_ib, z_lt, z_le, z_eq, z_eq0, z_le0, z_lt0, z_b0, z_b1, z_m1, z_and7, Int32.add_zero, DB.1.2.1, w, u1, e1227_64 hF]
      refine ⟨U, V, rfl, ((ga.tr b2).gl.tr ⟨fun r j a u => ?_, fun r j a u v => by rw [z_lr (by omega)]⟩).tr u2.gl, u3, fun _ => u2.md ?_⟩
      · by_cases z : r = 49
        · have := u z; rw [z, z_uk (by omega)]
        · rw [z_ur z]
      · obtain ⟨⟨x1, x2, x3, x4, x5, x6, x7, x8, x9⟩, y1, y2, y3, y4⟩ := DB
        refine ⟨⟨?_, ?_, ?_, ?_, ?_, ?_, ?_, ?_, ?_⟩, fun p p0 => ?_, fun p p0 => ?_, fun p o p0 o0 => ?_, fun o o0 => ?_⟩
        · rw [z_uk (by omega)]; exact x1
        · rw [z_ue]; rfl
        · rw [z_uk (by omega)]; exact x3
        · rw [z_uk (by omega)]; exact x4
        · rw [z_uk (by omega)]; exact x5
        · rw [z_uk (by omega)]; exact x6
        · rw [z_uk (by omega)]; exact x7
        · rw [z_uk (by omega)]; exact x8
        · rw [z_uk (by omega)]; exact x9
        · rw [z_ur (by omega), z_ur (by omega), z_ur (by omega), z_lr (by omega)]; exact y1 p p0
        · rw [z_ur (by omega)]; exact y2 p p0
        · rw [z_ur (by omega), z_ur (by omega)]; exact y3 p o p0 o0
        · have o0 : o < d 0 1 + 1 := o0
          show pm_ul K 52 (d 0 1) (lN (e8 n b q1)) 52 o = lN (e8 n b (ud d 8 (d 0 1) q1 8 o))
          unfold ud
          by_cases t : o = d 0 1
          · rw [t, z_le', if_pos ⟨rfl, rfl⟩]
          · rw [z_lk t, if_neg (fun h => t h.2)]; exact y4 o (by omega)
    · have e2 : aq n b q1 f3 = q1 := if_neg c
      simp (disch := omega) only [pm_k_i, Option.toList_some, Option.toList_none, List.cons_append, List.nil_append, cond_true, cond_false, ↓reduceIte, reduceCtorEq, z_1, nI_add, z_cl, z_ib, z_lt, z_le, z_eq, z_eq0, z_le0, z_lt0, z_b0, z_b1, z_m1, z_and7, Int32.add_zero, c]
      rw [e2]
      exact ⟨B, K, rfl, (ga.tr b2).gl, b3, fun z => by first | exact absurd z c | exact z.elim⟩
  have o14 : I 49 14 = nI (d 0 1) := D.1.2.1
  rw [e1227_0 hF, o14, show (8 : Int32) = nI 8 from rfl]
  by_cases c : d 0 1 < 8
  · rw [if_pos c] at ef
    subst ef
    obtain ⟨U, V, u1, u2, u3⟩ := m_adv hF hb X
    rw [e1] at u3
    simp (disch := omega) only [pm_k_i, Option.toList_some, Option.toList_none, List.cons_append, List.nil_append, cond_true, cond_false, ↓reduceIte, reduceCtorEq, z_1, nI_add, z_cl, z_ib, z_lt, z_le, z_eq, z_eq0, z_le0, z_lt0, z_b0, z_b1, z_m1, z_and7, Int32.add_zero, show (d 0 1 = 8) = False from propext ⟨fun z => by omega, False.elim⟩, e1227_14 hF, m_isGood hF X, e1227_18 hF, decide_true, u1]
    exact key U V u2 u3
  · rw [if_neg c] at ef
    subst ef
    obtain ⟨A, a1, a2, a3⟩ := wrong_at hF X h1 (k := 5) (by omega) (by omega)
    have a1 : (F 1214 0 [some (.ref 49), some (.int 5)] [] (81, pt_G, I, L)) = _ := a1
    have e2 : q1 = q := by rw [← e1]; exact if_neg (by omega)
    rw [← e2] at a3
    simp (disch := omega) only [pm_k_i, Option.toList_some, Option.toList_none, List.cons_append, List.nil_append, cond_true, cond_false, ↓reduceIte, reduceCtorEq, z_1, nI_add, z_cl, z_ib, z_lt, z_le, z_eq, z_eq0, z_le0, z_lt0, z_b0, z_b1, z_m1, z_and7, Int32.add_zero, show (d 0 1 = 8) = True from propext ⟨fun _ => trivial, fun _ => by omega⟩, a1, e1227_14 hF, m_isGood hF a3, e1227_18 hF]
    rw [if_pos (by decide)]
    exact key A L a2 a3
end
