/-! ===== coalitions: learnt ===== -/
section
variable {h : Nat → Nat → Nat} {I I' : Nat → Nat → Int32} {L L' : Nat → Nat → Int64} {e v : Nat}
variable {F : pm_F} {L0 : Nat} {xs : Nat → Int32}
theorem mid_le (W : WF h) (C : Nat) : mid h C ≤ 692307 := Nat.le_trans (Nat.div_le_self _ _) (wei_le W C)
/-- the fresh caches, c is learnt -/
def FR (h : Nat → Nat → Nat) (e v : Nat) (I : Nat → Nat → Int32) (L : Nat → Nat → Int64) : Prop := CX h e v I L ∧ I 30 14 = nI v
/-- those learnt stay so -/
def LSt (h : Nat → Nat → Nat) (I I' : Nat → Nat → Int32) : Prop := ∀ c, 0 < c → c ≤ ev h → I 33 c = 1 → I' 33 c = 1
theorem FR.ct (X : FR h e v I L) : CT h I := (X.1.ct X.2).2
theorem FR.lr (X : FR h e v I L) {c : Nat} (h0 : 0 < c) (hc : c ≤ ev h) (h1 : I 33 c = 1) : LR h I c := by
  rcases (X.ct.2.2 c h0 hc).1 with a | a
  · rw [a] at h1; exact absurd h1 (by decide)
  · exact a.2
theorem c_learnF (hF : pm_fix pt_me pt_Sg (pt_R L0 xs) F) (W : WF h) (X : FR h e v I L) {c : Nat} (h0 : 0 < c) (hc : c ≤ ev h) : ∃ I' L', (F 305 4 [some (.ref 30), some (.int (nI c)), none, none, none, none] [] (49, pt_G, I, L)) = some (none, (49, pt_G, I', L')) ∧ FX I I' L L' ∧ FR h e v I' L' ∧ I' 33 c = 1 ∧ LSt h I I' := by
  have hP := W.P
  have hO := W.O
  have hv := ev_lt W
  have c127 := z_and127 c (by omega)
  have CTI := X.ct
  obtain ⟨t1, t2, t3⟩ := CTI
  have X1 := X.1
  have e13 := (X1.ct X.2).1
  rw [e305_4 hF]
  simp (disch := omega) only [pm_k_i, Option.toList_some, Option.toList_none, List.cons_append, List.nil_append, cond_true, cond_false, ↓reduceIte, reduceCtorEq, z_1, nI_add, z_cl, z_ib, z_lt, z_le, z_eq, z_eq0, z_le0, z_lt0, z_b0, z_b1, z_m1, z_and7, Int32.add_zero, c127]
  rcases (t3 c h0 hc).1 with q | q
  · rw [if_pos q, vb1]
    have H1 : CH h (pm_ui I 33 c 1) := X1.H.of (fun j _ => z_ur (by omega)) (fun r a b j => z_ur (by omega))
    obtain ⟨J, M, j1, j2, j3, j4, j5, j6, j7, j8⟩ := c_foreseePicks (L := L) hF W H1 ((X1.ce e13).of (fun k => z_ur (by omega)) (fun k => z_ur (by omega))) (X1.pc.of ⟨z_ur (by omega), z_ur (by omega), z_ur (by omega)⟩ (z_ur (by omega)) (fun k => z_ur (by omega)) (fun k => z_ur (by omega)) (fun k => rfl)) h0 hc
    have HJ : CH h J := H1.of (fun k _ => j2 3 k (fun a => by omega) (by omega) (by omega) (fun a => by omega) (fun a => by omega)) (fun r a b k => j2 r k (fun a => by omega) (by omega) (by omega) (fun a => by omega) (fun a => by omega))
    have fk := fs_ok W h0 hc
    have fl := hp_lt fk.1
    have ml := mid_le W c
    rw [j1]
    simp (disch := omega) only [pm_k_i, Option.toList_some, Option.toList_none, List.cons_append, List.nil_append, cond_true, cond_false, ↓reduceIte, reduceCtorEq, z_1, nI_add, z_cl, z_ib, z_lt, z_le, z_eq, z_eq0, z_le0, z_lt0, z_b0, z_b1, z_m1, z_and7, Int32.add_zero, e305_31 hF, c_middleOf hF W HJ, e305_39 hF]
    refine wl (Q := fun r => ∃ I' L', r = some (none, (49, pt_G, I', L')) ∧ FX I I' L L' ∧ FR h e v I' L' ∧ I' 33 c = 1 ∧ LSt h I I') (G := fun k N => (F 305 43 [some (.ref 30), some (.int (nI c)), some (.int (nI c)), some (.int (nI (mid h c))), some (.int (nI k)), none] [] (49, pt_G, N, M))) (P := fun k N => (∀ r j, (r = 36 → j < 8 * c ∨ 8 * c + 8 ≤ j) → (r = 37 → j < 8 * c ∨ 8 * c + 8 ≤ j) → N r j = J r j) ∧ ∀ p, p < k → N 36 (8 * c + p) = pyc h c p ∧ N 37 (8 * c + p) = nI (grf h (fs h c) p)) (n := h 0 0) (fun k N hk hN go => ?_) (fun N hN => ?_) 0 J (Nat.zero_le _) ⟨fun _ _ _ _ => rfl, fun p hp => by omega⟩
    · obtain ⟨n1, n2⟩ := hN
      have HN : CH h N := HJ.of (fun j _ => n1 3 j (fun a => by omega) (fun a => by omega)) (fun r a b j => n1 r j (fun a => by omega) (fun a => by omega))
      have n35 : N 35 c = nI (hp (fs h c)) := by rw [n1 35 c (fun a => by omega) (fun a => by omega)]; exact j8
      have fin : (∀ r j, (r = 36 → j < 8 * c ∨ 8 * c + 8 ≤ j) → (r = 37 → j < 8 * c ∨ 8 * c + 8 ≤ j) → pm_ui (pm_ui N 36 (8 * c + k) (pyc h c k)) 37 (8 * c + k) (nI (grf h (fs h c) k)) r j = J r j) ∧ ∀ p, p < k + 1 → pm_ui (pm_ui N 36 (8 * c + k) (pyc h c k)) 37 (8 * c + k) (nI (grf h (fs h c) k)) 36 (8 * c + p) = pyc h c p ∧ pm_ui (pm_ui N 36 (8 * c + k) (pyc h c k)) 37 (8 * c + k) (nI (grf h (fs h c) k)) 37 (8 * c + p) = nI (grf h (fs h c) p) := by
        refine ⟨fun r j a b => ?_, fun p hp => ?_⟩
        · have z1 : pm_ui (pm_ui N 36 (8 * c + k) (pyc h c k)) 37 (8 * c + k) (nI (grf h (fs h c) k)) r j = pm_ui N 36 (8 * c + k) (pyc h c k) r j := by
            by_cases ee : r = 37
            · have := b ee; rw [z_uk (by omega)]
            · rw [z_ur ee]
          have z2 : pm_ui N 36 (8 * c + k) (pyc h c k) r j = N r j := by
            by_cases ee : r = 36
            · have := a ee; rw [z_uk (by omega)]
            · rw [z_ur ee]
          rw [z1, z2]
          exact n1 r j a b
        · by_cases ee : p = k
          · subst ee
            simp (disch := omega) only [z_ur, z_ue]
            exact ⟨trivial, trivial⟩
          · simp (disch := omega) only [z_ur, z_uk]
            exact n2 p (by omega)
      have H2 : CH h (pm_ui N 36 (8 * c + k) (pyc h c k)) := HN.of (fun j _ => z_ur (by omega)) (fun r a b j => z_ur (by omega))
      have gw : ∀ o, o < h 0 1 → gs (hp (fs h c)) o < h 0 0 := fun o ho => by rw [gs_hp fk.1]; exact fk.2 o ho
      try dsimp only
      rw [e305_43 hF, show (8 : Int32) = nI 8 from rfl]
      simp (disch := omega) only [pm_k_i, Option.toList_some, Option.toList_none, List.cons_append, List.nil_append, cond_true, cond_false, ↓reduceIte, reduceCtorEq, z_1, nI_add, z_cl, z_ib, z_lt, z_le, z_eq, z_eq0, z_le0, z_lt0, z_b0, z_b1, z_m1, z_and7, Int32.add_zero, HN.P, hk, show (k < 8) = True from propext ⟨fun _ => trivial, fun _ => by omega⟩, c_isIn hF, e305_68 hF]
      cases hb : c.testBit k with
      | false =>
        have pv : pyv h 0 k (mid h c) = pyc h c k := by unfold pyc; rw [hb]; rfl
        have pb := c_payBy (L := M) hF W HN (a := 0) hk (m := mid h c) (by omega)
        have pb2 : (F 524 0 [some (.ref 3), some (.int 0), some (.int (nI k)), some (.int (nI (mid h c)))] [] (49, pt_G, N, M)) = some (some (.int (pyc h c k)), (49, pt_G, N, M)) := by rw [← pv]; exact pb
        simp (disch := omega) only [pm_k_i, Option.toList_some, Option.toList_none, List.cons_append, List.nil_append, cond_true, cond_false, ↓reduceIte, reduceCtorEq, z_1, nI_add, z_cl, z_ib, z_lt, z_le, z_eq, z_eq0, z_le0, z_lt0, z_b0, z_b1, z_m1, z_and7, Int32.add_zero, z_8m, pb2, e305_117 hF, n35, c_griefBy hF W H2 fl gw, e305_144 hF, gs_hp fk.1]
        exact go _ fin
      | true =>
        have pv : pyv h (own h (fs h c) k k) k (mid h c) = pyc h c k := by unfold pyc; rw [hb]; rfl
        simp (disch := omega) only [pm_k_i, Option.toList_some, Option.toList_none, List.cons_append, List.nil_append, cond_true, cond_false, ↓reduceIte, reduceCtorEq, z_1, nI_add, z_cl, z_ib, z_lt, z_le, z_eq, z_eq0, z_le0, z_lt0, z_b0, z_b1, z_m1, z_and7, Int32.add_zero, z_8m, n35, c_worthOfHeld hF W HN, gs_hp fk.1, e305_88 hF, c_payBy hF W HN, pv, e305_117 hF, c_griefBy hF W H2 fl gw, e305_144 hF]
        exact go _ fin
    · obtain ⟨n1, n2⟩ := hN
      have HN : CH h N := HJ.of (fun j _ => n1 3 j (fun a => by omega) (fun a => by omega)) (fun r a b j => n1 r j (fun a => by omega) (fun a => by omega))
      have nI' : ∀ r j, (r = 23 → j < 4 ∨ 6 < j) → r ≠ 24 → r ≠ 26 → (r = 34 → j ≠ c) → (r = 35 → j ≠ c) → (r = 36 → j < 8 * c ∨ 8 * c + 8 ≤ j) → (r = 37 → j < 8 * c ∨ 8 * c + 8 ≤ j) → (r = 33 → j ≠ c) → N r j = I r j := fun r j a1 a2 a3 a4 a5 a6 a7 a8 => by
        rw [n1 r j a6 a7, j2 r j a1 a2 a3 a4 a5]
        by_cases ee : r = 33
        · rw [ee, z_uk (a8 ee)]
        · rw [z_ur ee]
      have n33 : N 33 c = 1 := by rw [n1 33 c (fun a => by omega) (fun a => by omega), j2 33 c (fun a => by omega) (by omega) (by omega) (fun a => by omega) (fun a => by omega), z_ue]
      have n34 : N 34 c = nI (hp (du h c)) := by rw [n1 34 c (fun a => by omega) (fun a => by omega)]; exact j7
      have n35 : N 35 c = nI (hp (fs h c)) := by rw [n1 35 c (fun a => by omega) (fun a => by omega)]; exact j8
      have n14 : N 30 14 = nI v := by rw [nI' 30 14 (fun a => by omega) (by omega) (by omega) (fun a => by omega) (fun a => by omega) (fun a => by omega) (fun a => by omega) (fun a => by omega)]; exact X.2
      have n13 : N 30 13 = nI e := by rw [nI' 30 13 (fun a => by omega) (by omega) (by omega) (fun a => by omega) (fun a => by omega) (fun a => by omega) (fun a => by omega) (fun a => by omega)]; exact e13
      have i38 : N 3 8 = I 3 8 := nI' 3 8 (fun a => by omega) (by omega) (by omega) (fun a => by omega) (fun a => by omega) (fun a => by omega) (fun a => by omega) (fun a => by omega)
      try dsimp only
      rw [e305_43 hF]
      simp (disch := omega) only [pm_k_i, Option.toList_some, Option.toList_none, List.cons_append, List.nil_append, cond_true, cond_false, ↓reduceIte, reduceCtorEq, z_1, nI_add, z_cl, z_ib, z_lt, z_le, z_eq, z_eq0, z_le0, z_lt0, z_b0, z_b1, z_m1, z_and7, Int32.add_zero, HN.P, Nat.lt_irrefl]
      refine ⟨N, M, rfl, ⟨fun r j hx => nI' r j (fun a => by unfold xc at hx; omega) (by unfold xc at hx; omega) (by unfold xc at hx; omega) (fun a => by unfold xc at hx; omega) (fun a => by unfold xc at hx; omega) (fun a => by unfold xc at hx; omega) (fun a => by unfold xc at hx; omega) (fun a => by unfold xc at hx; omega), j3⟩, ⟨⟨HN, by rw [i38]; exact X1.e8, ?_, X1.el, X1.vl, ?_, ?_, Or.inr ⟨e, Nat.le_refl _, n13⟩, fun _ => ?_, Or.inr ⟨v, Nat.le_refl _, n14⟩, fun _ => ⟨n13, ?_, fun x hx => ?_, fun x x0 x1 => ?_⟩⟩, n14⟩, n33, fun x x0 x1 x2 => ?_⟩
      · rw [nI' 3 9 (fun a => by omega) (by omega) (by omega) (fun a => by omega) (fun a => by omega) (fun a => by omega) (fun a => by omega) (fun a => by omega)]; exact X1.v9
      · rw [n1 23 6 (fun a => by omega) (fun a => by omega)]
        rcases j6 with a | a
        · rw [a, z_ur (by omega)]; exact X1.m6
        · rw [a, z_ur (by omega)]; exact ⟨e, Nat.le_refl _, X1.e8⟩
      · exact j5.of ⟨n1 23 4 (fun a => by omega) (fun a => by omega), n1 23 5 (fun a => by omega) (fun a => by omega), n1 23 6 (fun a => by omega) (fun a => by omega)⟩ (n1 3 8 (fun a => by omega) (fun a => by omega)) (fun k => n1 24 k (fun a => by omega) (fun a => by omega)) (fun k => n1 26 k (fun a => by omega) (fun a => by omega)) (fun _ => rfl)
      · exact j4.of (fun k => n1 34 k (fun a => by omega) (fun a => by omega)) (fun k => n1 35 k (fun a => by omega) (fun a => by omega))
      · rw [nI' 30 12 (fun a => by omega) (by omega) (by omega) (fun a => by omega) (fun a => by omega) (fun a => by omega) (fun a => by omega) (fun a => by omega)]; exact t1
      · rw [nI' 31 x (fun a => by omega) (by omega) (by omega) (fun a => by omega) (fun a => by omega) (fun a => by omega) (fun a => by omega) (fun a => by omega), nI' 32 x (fun a => by omega) (by omega) (by omega) (fun a => by omega) (fun a => by omega) (fun a => by omega) (fun a => by omega) (fun a => by omega)]
        exact t2 x hx
      · obtain ⟨y1, y2, y3⟩ := t3 x x0 x1
        refine ⟨?_, ?_, ?_⟩
        · by_cases ee : x = c
          · subst ee
            exact Or.inr ⟨n33, n34, n35, fun p hp => n2 p hp⟩
          · rw [nI' 33 x (fun a => by omega) (by omega) (by omega) (fun a => by omega) (fun a => by omega) (fun a => by omega) (fun a => by omega) (fun a => ee)]
            rcases y1 with y | ⟨y, l1, l2, l3⟩
            · exact Or.inl y
            · refine Or.inr ⟨y, ?_, ?_, fun p hp => ?_⟩
              · rw [nI' 34 x (fun a => by omega) (by omega) (by omega) (fun a => ee) (fun a => by omega) (fun a => by omega) (fun a => by omega) (fun a => by omega)]; exact l1
              · rw [nI' 35 x (fun a => by omega) (by omega) (by omega) (fun a => by omega) (fun a => ee) (fun a => by omega) (fun a => by omega) (fun a => by omega)]; exact l2
              · rw [nI' 36 (8 * x + p) (fun a => by omega) (by omega) (by omega) (fun a => by omega) (fun a => by omega) (fun a => by omega) (fun a => by omega) (fun a => by omega), nI' 37 (8 * x + p) (fun a => by omega) (by omega) (by omega) (fun a => by omega) (fun a => by omega) (fun a => by omega) (fun a => by omega) (fun a => by omega)]
                exact l3 p hp
        · rw [nI' 38 x (fun a => by omega) (by omega) (by omega) (fun a => by omega) (fun a => by omega) (fun a => by omega) (fun a => by omega) (fun a => by omega)]; exact y2
        · rw [nI' 39 x (fun a => by omega) (by omega) (by omega) (fun a => by omega) (fun a => by omega) (fun a => by omega) (fun a => by omega) (fun a => by omega)]; exact y3
      · by_cases ee : x = c
        · rw [ee]; exact n33
        · rw [nI' 33 x (fun a => by omega) (by omega) (by omega) (fun a => by omega) (fun a => by omega) (fun a => by omega) (fun a => by omega) (fun a => ee)]
          exact x2
  · rw [if_neg (by rw [q.1]; decide)]
    exact ⟨I, L, rfl, FX.rf, X, q.1, fun _ _ _ hh => hh⟩
theorem c_learn (hF : pm_fix pt_me pt_Sg (pt_R L0 xs) F) (W : WF h) (X : CX h e v I L) {c : Nat} (h0 : 0 < c) (hc : c ≤ ev h) : ∃ I' L', (F 305 0 [some (.ref 30), some (.int (nI c)), none, none, none, none] [] (49, pt_G, I, L)) = some (none, (49, pt_G, I', L')) ∧ FX I I' L L' ∧ FR h e v I' L' ∧ I' 33 c = 1 ∧ (I 30 14 = nI v → LSt h I I') := by
  obtain ⟨J, j1, j2, j3, j4, j5⟩ := c_freshen hF W X
  obtain ⟨I', L', k1, k2, k3, k4, k5⟩ := c_learnF hF W ⟨j3, j4⟩ h0 hc
  rw [e305_0 hF, j1]
  simp (disch := omega) only [pm_k_i, Option.toList_some, Option.toList_none, List.cons_append, List.nil_append, cond_true, cond_false, ↓reduceIte, reduceCtorEq, z_1, nI_add, z_cl, z_ib, z_lt, z_le, z_eq, z_eq0, z_le0, z_lt0, z_b0, z_b1, z_m1, z_and7, Int32.add_zero]
  exact ⟨I', L', k1, j2.tr k2, k3, k4, fun hh => by rw [j5 hh] at k5; exact k5⟩
theorem c_leads (hF : pm_fix pt_me pt_Sg (pt_R L0 xs) F) (W : WF h) (X : CT h I) {c : Nat} (hc : c ≤ ev h) : (F 309 0 [some (.ref 30), some (.int (nI c))] [] (49, pt_G, I, L)) = some (some (.int (nI (led h c).toNat)), (49, pt_G, I, L)) := by
  have hv := ev_lt W
  have c127 := z_and127 c (by omega)
  have n1 := need_le W
  have n2 := sIn_le W c
  rw [e309_0 hF]
  simp (disch := omega) only [pm_k_i, Option.toList_some, Option.toList_none, List.cons_append, List.nil_append, cond_true, cond_false, ↓reduceIte, reduceCtorEq, z_1, nI_add, z_cl, z_ib, z_lt, z_le, z_eq, z_eq0, z_le0, z_lt0, z_b0, z_b1, z_m1, z_and7, Int32.add_zero, c127, (X.2.1 c hc).1, X.1]
  unfold led
  by_cases q : sIn h c < need h
  · rw [if_pos q, decide_eq_false (by omega)]; rfl
  · rw [if_neg q, decide_eq_true (by omega)]; rfl
theorem c_canBe (hF : pm_fix pt_me pt_Sg (pt_R L0 xs) F) (W : WF h) (X : CT h I) {c : Nat} (hc : c ≤ ev h) : (F 310 0 [some (.ref 30), some (.int (nI c))] [] (49, pt_G, I, L)) = some (some (.int (nI (can h c).toNat)), (49, pt_G, I, L)) := by
  have hv := ev_lt W
  have c127 := z_and127 c (by omega)
  rw [e310_0 hF]
  simp (disch := omega) only [pm_k_i, Option.toList_some, Option.toList_none, List.cons_append, List.nil_append, cond_true, cond_false, ↓reduceIte, reduceCtorEq, z_1, nI_add, z_cl, z_ib, z_lt, z_le, z_eq, z_eq0, z_le0, z_lt0, z_b0, z_b1, z_m1, z_and7, Int32.add_zero, c_leads hF W X hc, e310_5 hF]
  unfold can
  cases led h c with
  | false => simp (disch := omega) only [pm_k_i, Option.toList_some, Option.toList_none, List.cons_append, List.nil_append, cond_true, cond_false, ↓reduceIte, reduceCtorEq, z_1, nI_add, z_cl, z_ib, z_lt, z_le, z_eq, z_eq0, z_le0, z_lt0, z_b0, z_b1, z_m1, z_and7, Int32.add_zero, Bool.false_and]; rfl
  | true =>
    simp (disch := omega) only [pm_k_i, Option.toList_some, Option.toList_none, List.cons_append, List.nil_append, cond_true, cond_false, ↓reduceIte, reduceCtorEq, z_1, nI_add, z_cl, z_ib, z_lt, z_le, z_eq, z_eq0, z_le0, z_lt0, z_b0, z_b1, z_m1, z_and7, Int32.add_zero, c127, (X.2.1 c hc).2, Bool.true_and]
    cases fre h c <;> rfl
theorem c_learnAll (hF : pm_fix pt_me pt_Sg (pt_R L0 xs) F) (W : WF h) (X : CX h e v I L) : ∃ I' L', (F 304 0 [some (.ref 30), none] [] (49, pt_G, I, L)) = some (none, (49, pt_G, I', L')) ∧ FX I I' L L' ∧ FR h e v I' L' ∧ (∀ c, 0 < c → c ≤ ev h → can h c = true → I' 33 c = 1) ∧ (I 30 14 = nI v → LSt h I I') := by
  have hv := ev_lt W
  obtain ⟨J, j1, j2, j3, j4, j5⟩ := c_freshen hF W X
  rw [e304_0 hF, j1]
  simp (disch := omega) only [pm_k_i, Option.toList_some, Option.toList_none, List.cons_append, List.nil_append, cond_true, cond_false, ↓reduceIte, reduceCtorEq, z_1, nI_add, z_cl, z_ib, z_lt, z_le, z_eq, z_eq0, z_le0, z_lt0, z_b0, z_b1, z_m1, z_and7, Int32.add_zero, e304_4 hF]
  refine wl (α := (Nat → Nat → Int32) × (Nat → Nat → Int64)) (Q := fun r => ∃ I' L', r = some (none, (49, pt_G, I', L')) ∧ FX I I' L L' ∧ FR h e v I' L' ∧ (∀ c, 0 < c → c ≤ ev h → can h c = true → I' 33 c = 1) ∧ (I 30 14 = nI v → LSt h I I')) (G := fun k a => (F 304 6 [some (.ref 30), some (.int (nI (k + 1)))] [] (49, pt_G, a.1, a.2))) (P := fun k a => FX I a.1 L a.2 ∧ FR h e v a.1 a.2 ∧ (∀ c, 0 < c → c ≤ k → can h c = true → a.1 33 c = 1) ∧ (I 30 14 = nI v → LSt h I a.1)) (n := ev h) (fun k a hk ha go => ?_) (fun a ha => ?_) 0 (J, L) (Nat.zero_le _) ⟨j2, ⟨j3, j4⟩, fun c a b => by omega, fun hh => by rw [j5 hh]; exact fun _ _ _ q => q⟩
  · obtain ⟨M, N⟩ := a
    obtain ⟨m1, m2, m3, m4⟩ := ha
    try dsimp only at m1 m2 m3 m4
    try dsimp only
    rw [e304_6 hF]
    simp (disch := omega) only [pm_k_i, Option.toList_some, Option.toList_none, List.cons_append, List.nil_append, cond_true, cond_false, ↓reduceIte, reduceCtorEq, z_1, nI_add, z_cl, z_ib, z_lt, z_le, z_eq, z_eq0, z_le0, z_lt0, z_b0, z_b1, z_m1, z_and7, Int32.add_zero, c_everyone hF W m2.1.H, e304_14 hF, show (k + 1 ≤ ev h) = True from propext ⟨fun _ => trivial, fun _ => by omega⟩, c_canBe hF W m2.ct, e304_22 hF]
    cases q : can h (k + 1) with
    | false =>
      simp (disch := omega) only [pm_k_i, Option.toList_some, Option.toList_none, List.cons_append, List.nil_append, cond_true, cond_false, ↓reduceIte, reduceCtorEq, z_1, nI_add, z_cl, z_ib, z_lt, z_le, z_eq, z_eq0, z_le0, z_lt0, z_b0, z_b1, z_m1, z_and7, Int32.add_zero, e304_30 hF]
      refine go (M, N) ⟨m1, m2, fun c c0 c1 c2 => ?_, m4⟩
      by_cases ee : c = k + 1
      · rw [ee, q] at c2; cases c2
      · exact m3 c c0 (by omega) c2
    | true =>
      obtain ⟨M2, N2, k1, k2, k3, k4, k5⟩ := c_learn hF W m2.1 (c := k + 1) (by omega) (by omega)
      have k5 := k5 m2.2
      simp (disch := omega) only [pm_k_i, Option.toList_some, Option.toList_none, List.cons_append, List.nil_append, cond_true, cond_false, ↓reduceIte, reduceCtorEq, z_1, nI_add, z_cl, z_ib, z_lt, z_le, z_eq, z_eq0, z_le0, z_lt0, z_b0, z_b1, z_m1, z_and7, Int32.add_zero, k1, e304_30 hF]
      refine go (M2, N2) ⟨m1.tr k2, k3, fun c c0 c1 c2 => ?_, fun hh c c0 c1 c2 => k5 c c0 c1 (m4 hh c c0 c1 c2)⟩
      by_cases ee : c = k + 1
      · rw [ee]; exact k4
      · exact k5 c c0 (by omega) (m3 c c0 (by omega) c2)
  · obtain ⟨M, N⟩ := a
    obtain ⟨m1, m2, m3, m4⟩ := ha
    try dsimp only at m1 m2 m3 m4
    try dsimp only
    rw [e304_6 hF]
    simp (disch := omega) only [pm_k_i, Option.toList_some, Option.toList_none, List.cons_append, List.nil_append, cond_true, cond_false, ↓reduceIte, reduceCtorEq, z_1, nI_add, z_cl, z_ib, z_lt, z_le, z_eq, z_eq0, z_le0, z_lt0, z_b0, z_b1, z_m1, z_and7, Int32.add_zero, c_everyone hF W m2.1.H, e304_14 hF, show (ev h + 1 ≤ ev h) = False from propext ⟨fun hh => by omega, False.elim⟩]
    exact ⟨M, N, rfl, m1, m2, m3, m4⟩
end
