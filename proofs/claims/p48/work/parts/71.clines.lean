/-! ===== lines of the class ===== -/
section
variable {I I' : Nat → Nat → Int32} {L L' : Nat → Nat → Int64}
variable {F : pm_F} {L0 : Nat} {xs : Nat → Int32}
variable {n q f : Nat} {b : Nat → Nat} {d : Nat → Nat → Nat}
theorem CP.of (X : CP n b q f I L) (f1 : I' 1 1 = I 1 1) (f2 : ∀ i, I' 2 i = I 2 i) (f10 : ∀ j, 8 ≤ j → I' 10 j = I 10 j) (g18 : ∀ k, L' 18 k = L 18 k) (g10 : L' 10 14 = L 10 14) : CP n b q f I' L' := by
  obtain ⟨x1, x2, x3, x4, x5, x6, x7⟩ := X
  refine ⟨x1.of f1 f2, x2.of g18, x3, by rw [f10 8 (by omega)]; exact x4, by rw [f10 9 (by omega)]; exact x5, fun z => ?_, x7⟩
  obtain ⟨c1, c2, c3, c4, c5, c6⟩ := x6 z
  exact ⟨by rw [f10 10 (by omega)]; exact c1, by rw [f10 11 (by omega)]; exact c2, by rw [f10 12 (by omega)]; exact c3, by rw [f10 15 (by omega)]; exact c4, fun u => by rw [f10 13 (by omega)]; exact c5 u, fun u => by rw [g10]; exact c6 u⟩
theorem CD.u0 (X : CD n b d I L) {k v : Nat} (k2 : 2 ≤ k) (k8 : k < 8) : CD n b (ud d 0 k v) (pm_ui I 11 k (nI v)) L := by
  obtain ⟨x1, x2, x3, x4, x5, x6⟩ := X
  have e0 : ud d 0 k v 0 0 = d 0 0 := if_neg (by omega)
  have e1 : ud d 0 k v 0 1 = d 0 1 := if_neg (by omega)
  have e8 : ud d 0 k v 0 8 = d 0 8 := if_neg (by omega)
  refine ⟨fun j hj => ?_, by rw [z_ur (by omega), e8]; exact x2, fun p p0 => ?_, fun p p0 => ?_, fun x hx => ?_, fun o ho => ?_⟩
  · by_cases z : j = k
    · rw [z, z_ue, show ud d 0 k v 0 k = v from if_pos ⟨rfl, rfl⟩]
    · rw [z_uk z, show ud d 0 k v 0 j = d 0 j from if_neg (by omega)]; exact x1 j hj
  · rw [e0] at p0
    rw [z_ur (by omega), z_ur (by omega), z_ur (by omega)]
    exact x3 p p0
  · rw [z_ur (by omega), z_ur (by omega), z_ur (by omega)]; exact x4 p p0
  · rw [z_ur (by omega), z_ur (by omega)]; exact x5 x hx
  · rw [e1] at ho
    exact x6 o ho
theorem CP.u (X : CP n b q f I L) {r k : Nat} {v : Int32} (h : 11 ≤ r) : CP n b q f (pm_ui I r k v) L := X.of (by rw [z_ur (by omega)]) (fun i => by rw [z_ur (by omega)]) (fun j _ => by rw [z_ur (by omega)]) (fun _ => rfl) rfl
theorem FL.u {r k : Nat} {v : Int32} (h : 11 ≤ r) (h2 : r ≤ 22) : FL I (pm_ui I r k v) L L := ⟨fun x j a => by rw [z_ur (by omega)], fun _ _ _ _ _ => rfl⟩
/-- behind a number told once -/
theorem c_once_end (hF : pm_fix pt_me pt_Sg (pt_R L0 xs) F) (hb : ∀ i, b i < 256) {A : Nat → Nat → Int32} {K : Nat → Nat → Int64} {x : Int32} {k lo hi : Nat} (hk : k < 5) (h0 : 0 < k) (fl : FL I A L K) (X : CP n b (aq n b (aq n b q (oO d k)) (oN n b lo hi (aq n b q (oO d k)) (oO d k))) (oS n b (aq n b (aq n b q (oO d k)) (oN n b lo hi (aq n b q (oO d k)) (oO d k))) (oN n b lo hi (aq n b q (oO d k)) (oO d k))) A K) (D : CD n b (ud d 0 8 (ad (d 0 8) k)) A K) (hx : oN n b lo hi (aq n b q (oO d k)) (oO d k) = 0 → x = nI (vl n b (aq n b q (oO d k)))) : ∃ I' L', (F 706 213 [some (.ref 10)] [] (49, pt_G, (pm_ui A 11 (3 + k) x), K)) = some (none, (49, pt_G, I', L')) ∧ CL n b (ln1 n b d lo hi k q) I I' L L' := by
  obtain ⟨B, M, b1, b2, b3⟩ := c_adv hF hb (X.u (r := 11) (k := 3 + k) (v := x) (by omega))
  rw [e706_213 hF, b1]
  simp (disch := omega) only [pm_k_i, Option.toList_some, Option.toList_none, List.cons_append, List.nil_append, cond_true, cond_false, ↓reduceIte, reduceCtorEq, z_1, nI_add, z_cl, z_ib, z_lt, z_le, z_eq, z_eq0, z_le0, z_lt0, z_b0, z_b1, z_m1, z_and7, Int32.add_zero, e706_217 hF]
  refine ⟨B, M, rfl, (fl.tr (FL.u (by omega) (by omega))).tr b2.fl, b3, fun z => ?_⟩
  have z1 := (oS_0 z).1
  rw [hx z1] at b2
  exact b2.cd (D.u0 (by omega) (by omega))
theorem c_line1 (hF : pm_fix pt_me pt_Sg (pt_R L0 xs) F) (hb : ∀ i, b i < 256) (X : CP n b q 0 I L) (D : CD n b d I L) (G : DG n b d) (h1 : kd n b q = 1) (hw : kw n b q = some 1) : ∃ I' L', (F 706 0 [some (.ref 10)] [] (49, pt_G, I, L)) = some (none, (49, pt_G, I', L')) ∧ CL n b (ln1 n b d 1 999 1 q) I I' L L' := by
  have w : I 10 15 = nI 1 := by rw [(X.2.2.2.2.2.1 rfl).2.2.2.1, if_pos h1, hw]; rfl
  obtain ⟨A, K, x, a1, a2, a3, a4, a5⟩ := c_readOnly hF hb X D G (k := 1) (lo := 1) (hi := 999) (by omega) h1 hw (by omega) (by omega)
  have a1 : (F 708 0 [some (.ref 10), some (.int 1), some (.int 999), none] [] (49, pt_G, I, L)) = _ := a1
  rw [e706_0 hF, w, if_neg (by decide), if_pos rfl, a1]
  simp (disch := omega) only [pm_k_i, Option.toList_some, Option.toList_none, List.cons_append, List.nil_append, cond_true, cond_false, ↓reduceIte, reduceCtorEq, z_1, nI_add, z_cl, z_ib, z_lt, z_le, z_eq, z_eq0, z_le0, z_lt0, z_b0, z_b1, z_m1, z_and7, Int32.add_zero, e706_91 hF]
  exact c_once_end hF hb (by omega) (by omega) a2 a3 a4 a5
theorem c_line2 (hF : pm_fix pt_me pt_Sg (pt_R L0 xs) F) (hb : ∀ i, b i < 256) (X : CP n b q 0 I L) (D : CD n b d I L) (G : DG n b d) (h1 : kd n b q = 1) (hw : kw n b q = some 2) : ∃ I' L', (F 706 0 [some (.ref 10)] [] (49, pt_G, I, L)) = some (none, (49, pt_G, I', L')) ∧ CL n b (ln1 n b d 0 9 2 q) I I' L L' := by
  have w : I 10 15 = nI 2 := by rw [(X.2.2.2.2.2.1 rfl).2.2.2.1, if_pos h1, hw]; rfl
  obtain ⟨A, K, x, a1, a2, a3, a4, a5⟩ := c_readOnly hF hb X D G (k := 2) (lo := 0) (hi := 9) (by omega) h1 hw (by omega) (by omega)
  have a1 : (F 708 0 [some (.ref 10), some (.int 0), some (.int 9), none] [] (49, pt_G, I, L)) = _ := a1
  rw [e706_0 hF, w, if_neg (by decide), if_neg (by decide), if_pos rfl, a1]
  simp (disch := omega) only [pm_k_i, Option.toList_some, Option.toList_none, List.cons_append, List.nil_append, cond_true, cond_false, ↓reduceIte, reduceCtorEq, z_1, nI_add, z_cl, z_ib, z_lt, z_le, z_eq, z_eq0, z_le0, z_lt0, z_b0, z_b1, z_m1, z_and7, Int32.add_zero, e706_108 hF]
  exact c_once_end hF hb (by omega) (by omega) a2 a3 a4 a5
theorem c_line3 (hF : pm_fix pt_me pt_Sg (pt_R L0 xs) F) (hb : ∀ i, b i < 256) (X : CP n b q 0 I L) (D : CD n b d I L) (G : DG n b d) (h1 : kd n b q = 1) (hw : kw n b q = some 3) : ∃ I' L', (F 706 0 [some (.ref 10)] [] (49, pt_G, I, L)) = some (none, (49, pt_G, I', L')) ∧ CL n b (ln1 n b d 1 9 3 q) I I' L L' := by
  have w : I 10 15 = nI 3 := by rw [(X.2.2.2.2.2.1 rfl).2.2.2.1, if_pos h1, hw]; rfl
  obtain ⟨A, K, x, a1, a2, a3, a4, a5⟩ := c_readOnly hF hb X D G (k := 3) (lo := 1) (hi := 9) (by omega) h1 hw (by omega) (by omega)
  have a1 : (F 708 0 [some (.ref 10), some (.int 1), some (.int 9), none] [] (49, pt_G, I, L)) = _ := a1
  rw [e706_0 hF, w, if_neg (by decide), if_neg (by decide), if_neg (by decide), if_pos rfl, a1]
  simp (disch := omega) only [pm_k_i, Option.toList_some, Option.toList_none, List.cons_append, List.nil_append, cond_true, cond_false, ↓reduceIte, reduceCtorEq, z_1, nI_add, z_cl, z_ib, z_lt, z_le, z_eq, z_eq0, z_le0, z_lt0, z_b0, z_b1, z_m1, z_and7, Int32.add_zero, e706_125 hF]
  exact c_once_end hF hb (by omega) (by omega) a2 a3 a4 a5
theorem c_line4 (hF : pm_fix pt_me pt_Sg (pt_R L0 xs) F) (hb : ∀ i, b i < 256) (X : CP n b q 0 I L) (D : CD n b d I L) (G : DG n b d) (h1 : kd n b q = 1) (hw : kw n b q = some 4) : ∃ I' L', (F 706 0 [some (.ref 10)] [] (49, pt_G, I, L)) = some (none, (49, pt_G, I', L')) ∧ CL n b (ln1 n b d 0 99 4 q) I I' L L' := by
  have w : I 10 15 = nI 4 := by rw [(X.2.2.2.2.2.1 rfl).2.2.2.1, if_pos h1, hw]; rfl
  obtain ⟨A, K, x, a1, a2, a3, a4, a5⟩ := c_readOnly hF hb X D G (k := 4) (lo := 0) (hi := 99) (by omega) h1 hw (by omega) (by omega)
  have a1 : (F 708 0 [some (.ref 10), some (.int 0), some (.int 99), none] [] (49, pt_G, I, L)) = _ := a1
  rw [e706_0 hF, w, if_neg (by decide), if_neg (by decide), if_neg (by decide), if_neg (by decide), if_pos rfl, a1]
  simp (disch := omega) only [pm_k_i, Option.toList_some, Option.toList_none, List.cons_append, List.nil_append, cond_true, cond_false, ↓reduceIte, reduceCtorEq, z_1, nI_add, z_cl, z_ib, z_lt, z_le, z_eq, z_eq0, z_le0, z_lt0, z_b0, z_b1, z_m1, z_and7, Int32.add_zero, e706_142 hF]
  exact c_once_end hF hb (by omega) (by omega) a2 a3 a4 a5
theorem c_line0 (hF : pm_fix pt_me pt_Sg (pt_R L0 xs) F) (hb : ∀ i, b i < 256) (X : CP n b q 0 I L) (D : CD n b d I L) (G : DG n b d) (h1 : kd n b q = 1) (hw : kw n b q = some 0) : ∃ I' L', (F 706 0 [some (.ref 10)] [] (49, pt_G, I, L)) = some (none, (49, pt_G, I', L')) ∧ CL n b (ln0 n b d q) I I' L L' := by
  have w : I 10 15 = nI 0 := by rw [(X.2.2.2.2.2.1 rfl).2.2.2.1, if_pos h1, hw]; rfl
  obtain ⟨A, a1, a2, a3, a4⟩ := c_checkOnce hF X D G (k := 0) (by omega) h1 hw
  have fa : FL I A L L := ⟨fun r j q => a2 r j (fun z => by omega), fun _ _ _ _ _ => rfl⟩
  obtain ⟨B, K, x, b1, b2, b3, b4⟩ := c_readNumber hF hb a3 (lo := 1) (hi := 99) (by omega) (by omega)
  have b1 : (F 714 0 [some (.ref 10), some (.int 1), some (.int 99)] [] (49, pt_G, A, L)) = _ := b1
  obtain ⟨C, M, y, c1, c2, c3, c4⟩ := c_readNumber hF hb (b3.u (r := 11) (k := 2) (v := x) (by omega)) (lo := 1) (hi := 99) (by omega) (by omega)
  have c1 : (F 714 0 [some (.ref 10), some (.int 1), some (.int 99)] [] (49, pt_G, (pm_ui B 11 2 x), K)) = _ := c1
  obtain ⟨E, N, d1, d2, d3⟩ := c_readSign hF hb (c3.u (r := 11) (k := 3) (v := y) (by omega))
  obtain ⟨U, V, u1, u2, u3⟩ := c_adv hF hb d3
  rw [e706_0 hF, w, if_pos rfl, e709_0 hF, a1]
  simp (disch := omega) only [pm_k_i, Option.toList_some, Option.toList_none, List.cons_append, List.nil_append, cond_true, cond_false, ↓reduceIte, reduceCtorEq, z_1, nI_add, z_cl, z_ib, z_lt, z_le, z_eq, z_eq0, z_le0, z_lt0, z_b0, z_b1, z_m1, z_and7, Int32.add_zero, e709_4 hF, b1, e709_15 hF, c1, e709_29 hF, d1, e709_36 hF, e706_76 hF, e706_213 hF, u1, e706_217 hF]
  refine ⟨U, V, rfl, ((((fa.tr b2.fl).tr (FL.u (by omega) (by omega))).tr c2.fl).tr (FL.u (by omega) (by omega))).tr (d2.fl.tr u2.fl), u3, fun z => ?_⟩
  have z1 := (oS_0 z).1
  have z2 := (oN_0 z1).1
  rw [b4 z2] at c2
  rw [c4 z1] at d2
  exact u2.cd (d2.cd ((c2.cd ((b2.cd a4).u0 (k := 2) (by omega) (by omega))).u0 (k := 3) (by omega) (by omega)))
theorem c_lineX (hF : pm_fix pt_me pt_Sg (pt_R L0 xs) F) (hb : ∀ i, b i < 256) (X : CP n b q 0 I L) (D : CD n b d I L) (hw : ∀ k, (k < 7 ∨ 9 < k) → k < 13 → ¬ (kd n b q = 1 ∧ kw n b q = some k)) : ∃ I' L', (F 706 0 [some (.ref 10)] [] (49, pt_G, I, L)) = some (none, (49, pt_G, I', L')) ∧ CL n b (lnX n b d q) I I' L L' := by
  have ck := X.2.2.2.2.2.1 rfl
  have no : ∀ k, (k < 7 ∨ 9 < k) → k < 13 → ¬ I 10 15 = nI k := fun k a c => by rw [ck.w c]; exact hw k a c
  obtain ⟨B, b1, b2, b3⟩ := c_failToken hF X
  obtain ⟨U, V, u1, u2, u3⟩ := c_adv hF hb b3
  have fin : ∃ I' L', pm_k (F 705 0 [some (.ref 10)] [] (49, pt_G, I, L)) (fun v S => F 706 213 [some (.ref 10)] (v.toList ++ []) S) = some (none, (49, pt_G, I', L')) ∧ CL n b (lnX n b d q) I I' L L' := by
    rw [b1]
    simp (disch := omega) only [pm_k_i, Option.toList_some, Option.toList_none, List.cons_append, List.nil_append, cond_true, cond_false, ↓reduceIte, reduceCtorEq, z_1, nI_add, z_cl, z_ib, z_lt, z_le, z_eq, z_eq0, z_le0, z_lt0, z_b0, z_b1, z_m1, z_and7, Int32.add_zero, e706_213 hF, u1, e706_217 hF]
    exact ⟨U, V, rfl, b2.fl.tr u2.fl, u3, fun _ => u2.cd (b2.cd D)⟩
  rw [e706_0 hF, if_neg (no 0 (by omega) (by omega)), if_neg (no 1 (by omega) (by omega)), if_neg (no 2 (by omega) (by omega)), if_neg (no 3 (by omega) (by omega)), if_neg (no 4 (by omega) (by omega)), if_neg (no 5 (by omega) (by omega)), if_neg (no 6 (by omega) (by omega)), if_neg (no 10 (by omega) (by omega)), if_neg (no 11 (by omega) (by omega)), if_neg (no 12 (by omega) (by omega))]
  by_cases c7 : I 10 15 = nI 7
  · rw [if_pos c7]; exact fin
  · rw [if_neg c7]
    by_cases c8 : I 10 15 = nI 8
    · rw [if_pos c8]; exact fin
    · rw [if_neg c8]
      by_cases c9 : I 10 15 = nI 9
      · rw [if_pos c9]; exact fin
      · rw [if_neg c9]; exact fin
theorem c_lineO (hF : pm_fix pt_me pt_Sg (pt_R L0 xs) F) (hb : ∀ i, b i < 256) (X : CP n b q 0 I L) (D : CD n b d I L) (G : DG n b d) (h1 : kd n b q = 1) (hw : kw n b q = some 5) : ∃ I' L', (F 706 0 [some (.ref 10)] [] (49, pt_G, I, L)) = some (none, (49, pt_G, I', L')) ∧ CL n b (lnO n b d q) I I' L L' := by
  have w : I 10 15 = nI 5 := by rw [(X.2.2.2.2.2.1 rfl).2.2.2.1, if_pos h1, hw]; rfl
  have hO := G.O
  -- behind the count
  have key : ∀ (A : Nat → Nat → Int32) (f1 : Nat), FP I A L L → CP n b q f1 A L → (f1 = 0 → d 0 1 < 8) → ∃ I' L', pm_k (F 710 17 [some (.ref 10), none, none] [] (49, pt_G, A, L)) (fun v S => F 706 152 [some (.ref 10)] (v.toList ++ []) S) = some (none, (49, pt_G, I', L')) ∧ CL n b (aq n b (aq n b (aq n b q f1) (oF n b d (aq n b q f1) (oA n b (aq n b q f1) f1))) (oS n b (aq n b (aq n b q f1) (oF n b d (aq n b q f1) (oA n b (aq n b q f1) f1))) (oF n b d (aq n b q f1) (oA n b (aq n b q f1) f1))), oS n b (aq n b (aq n b q f1) (oF n b d (aq n b q f1) (oA n b (aq n b q f1) f1))) (oF n b d (aq n b q f1) (oA n b (aq n b q f1) f1)), ud (ud d 8 (d 0 1) (aq n b q f1)) 0 1 (d 0 1 + 1)) I I' L L' := by
    intro A f1 fa XA ho
    obtain ⟨B, K, y, b1, b2, b3, b4⟩ := c_readName hF hb XA
    have DB := b2.cd (fa.cd D)
    obtain ⟨C, c1, c2, c3⟩ := c_checkNew hF b3 DB G (y := y) (fun z => ⟨b4 z, by have := (oA_0 z).2.2.2; omega⟩)
    obtain ⟨E, N, d1, d2, d3⟩ := c_readSign hF hb c3
    have DE := d2.cd (c2.cd DB)
    rw [e710_17 hF, b1]
    simp (disch := omega) only [pm_k_i, Option.toList_some, Option.toList_none, List.cons_append, List.nil_append, cond_true, cond_false, ↓reduceIte, reduceCtorEq, z_1, nI_add, z_cl, z_ib, z_lt, z_le, z_eq, z_eq0, z_le0, z_lt0, z_b0, z_b1, z_m1, z_and7, Int32.add_zero, e710_21 hF, c1, e710_27 hF, d1, e710_31 hF, d3.2.2.2.1]
    generalize hQ : aq n b q f1 = q1 at *
    generalize hF3 : oF n b d q1 (oA n b q1 f1) = f3 at *
    generalize hQ2 : aq n b q1 f3 = q2 at *
    by_cases z : oS n b q2 f3 = 0
    · have z1 := (oS_0 z).1
      have z2 := (oF_0 (hF3.trans z1)).1
      have z3 := (oA_0 z2)
      have o8 := ho z3.1
      rw [z, if_pos (show nI 0 = 0 from rfl), DE.1 1 (by omega), z_and7 _ (by omega)]
      simp (disch := omega) only [pm_k_i, Option.toList_some, Option.toList_none, List.cons_append, List.nil_append, cond_true, cond_false, ↓reduceIte, reduceCtorEq, z_1, nI_add, z_cl, z_ib, z_lt, z_le, z_eq, z_eq0, z_le0, z_lt0, z_b0, z_b1, z_m1, z_and7, Int32.add_zero, o8]
      have XE : CP n b q2 0 (pm_ui E 11 1 (nI (d 0 1 + 1))) (pm_ul N 20 (d 0 1) y) := by
        rw [z] at d3
        exact (d3.u (by omega)).of rfl (fun _ => rfl) (fun _ _ => rfl) (fun k => by rw [z_lr (by omega)]) (by rw [z_lr (by omega)])
      obtain ⟨U, V, u1, u2, u3⟩ := c_adv hF hb XE
      simp (disch := omega) only [pm_k_i, Option.toList_some, Option.toList_none, List.cons_append, List.nil_append, cond_true, cond_false, ↓reduceIte, reduceCtorEq, z_1, nI_add, z_cl, z_ib, z_lt, z_le, z_eq, z_eq0, z_le0, z_lt0, z_b0, z_b1, z_m1, z_and7, Int32.add_zero, e706_152 hF, e706_213 hF, u1, e706_217 hF]
      have fE : FL I E L N := (fa.fl.tr b2.fl).tr (c2.fl.tr d2.fl)
      refine ⟨U, V, rfl, (fE.tr ⟨fun r j a => by rw [z_ur (by omega)], fun r j a1 a2 a3 => by rw [z_lr (by omega)]⟩).tr u2.fl, u3, fun _ => ?_⟩
      obtain ⟨x1, x2, x3, x4, x5, x6⟩ := DE
      refine u2.cd ⟨fun j hj => ?_, ?_, fun p p0 => ?_, fun p p0 => ?_, fun x hx => ?_, fun o o1 => ?_⟩
      · by_cases t : j = 1
        · rw [t, z_ue]; rfl
        · rw [z_uk t, x1 j hj]; exact congrArg nI (show d 0 j = ud (ud d 8 (d 0 1) q1) 0 1 (d 0 1 + 1) 0 j from (if_neg (by omega)).symm)
      · rw [z_ur (by omega)]; exact x2
      · rw [z_ur (by omega), z_ur (by omega), z_ur (by omega), z_lr (by omega)]; exact x3 p p0
      · rw [z_ur (by omega), z_ur (by omega), z_ur (by omega)]; exact x4 p p0
      · rw [z_ur (by omega), z_ur (by omega)]; exact x5 x hx
      · have o1 : o < d 0 1 + 1 := o1
        show pm_ul N 20 (d 0 1) y 20 o = lN (e5 n b (ud d 8 (d 0 1) q1 8 o))
        by_cases t : o = d 0 1
        · rw [t, z_le', show ud d 8 (d 0 1) q1 8 (d 0 1) = q1 from if_pos ⟨rfl, rfl⟩]; exact b4 z2
        · rw [z_lk t, show ud d 8 (d 0 1) q1 8 o = d 8 o from if_neg (fun h => t h.2)]; exact x6 o (by omega)
    · have sl : oS n b q2 f3 ≤ 5 := d3.2.2.2.2.2.2
      rw [if_neg (show ¬ nI (oS n b q2 f3) = 0 by rw [z_eq0 (by omega)]; exact z)]
      obtain ⟨U, V, u1, u2, u3⟩ := c_adv hF hb d3
      simp (disch := omega) only [pm_k_i, Option.toList_some, Option.toList_none, List.cons_append, List.nil_append, cond_true, cond_false, ↓reduceIte, reduceCtorEq, z_1, nI_add, z_cl, z_ib, z_lt, z_le, z_eq, z_eq0, z_le0, z_lt0, z_b0, z_b1, z_m1, z_and7, Int32.add_zero, e706_152 hF, e706_213 hF, u1, e706_217 hF]
      exact ⟨U, V, rfl, ((fa.fl.tr b2.fl).tr (c2.fl.tr d2.fl)).tr u2.fl, u3, fun h => absurd h z⟩
  rw [e706_0 hF, w, if_neg (by decide), if_neg (by decide), if_neg (by decide), if_neg (by decide), if_neg (by decide), if_pos rfl, e710_0 hF, D.1 1 (by omega), show (8 : Int32) = nI 8 from rfl]
  unfold lnO
  dsimp only
  by_cases c : d 0 1 < 8
  · simp (disch := omega) only [z_lt, c, ↓reduceIte]
    exact key I 0 FP.rf X (fun _ => c)
  · obtain ⟨A, a1, a2, a3⟩ := c_fail hF X (k := 5) (by omega) (by omega)
    have a1 : (F 704 0 [some (.ref 10), some (.int 5)] [] (49, pt_G, I, L)) = _ := a1
    simp (disch := omega) only [z_lt, c, ↓reduceIte, a1, pm_k_i, Option.toList_some, Option.toList_none, List.cons_append, List.nil_append, cond_true, cond_false, ↓reduceIte, reduceCtorEq, z_1, nI_add, z_cl, z_ib, z_lt, z_le, z_eq, z_eq0, z_le0, z_lt0, z_b0, z_b1, z_m1, z_and7, Int32.add_zero]
    exact key A 5 a2 a3 (fun z => by omega)
end
