/-! ===== the model: coalitions ===== -/
section
variable {h : Nat → Nat → Nat} {I I' : Nat → Nat → Int32} {L L' : Nat → Nat → Int64}
variable {F : pm_F} {L0 : Nat} {xs : Nat → Int32}
/-- what the model may write when it is asked -/
def mc (r k : Nat) : Prop := (r = 49 ∧ (k = 51 ∨ k = 57 ∨ (63 ≤ k ∧ k ≤ 65))) ∨ (66 ≤ r ∧ r ≤ 80)
def FM (I I' : Nat → Nat → Int32) : Prop := ∀ r k, ¬ mc r k → I' r k = I r k
theorem FM.tr {I1 I2 I3 : Nat → Nat → Int32} (a : FM I1 I2) (b : FM I2 I3) : FM I1 I3 := fun r k hh => (b r k hh).trans (a r k hh)
theorem FM.H (a : FM I I') (H : MH h I) : MH h I' := H.of (fun k b c => a 49 k (by unfold mc; omega)) (fun r b c k => a r k (by unfold mc; omega)) (fun k b => a 64 k (by unfold mc; omega))
def LYp (h : Nat → Nat → Nat) (I : Nat → Nat → Int32) (c : Nat) : Prop := ∀ p, p < h 0 0 → I 73 (7 * c + p) = pyc h c p ∧ I 74 (7 * c + p) = nI (grf h (fs h c) p)
def LYs (h : Nat → Nat → Nat) (I : Nat → Nat → Int32) : Prop := ∀ c, 0 < c → c ≤ ev h → LYp h I c
def LY (h : Nat → Nat → Nat) (I : Nat → Nat → Int32) : Prop := LYs h I ∧ ∀ c, 0 < c → c ≤ ev h → I 75 c = nI (rvl h c)
def MX (h : Nat → Nat → Nat) (I : Nat → Nat → Int32) : Prop := MH h I ∧ (I 49 57 = 0 ∨ (I 49 57 = 1 ∧ LY h I))
theorem LYs.of (X : LYs h I) (f : ∀ r k, r = 73 ∨ r = 74 → I' r k = I r k) : LYs h I' := fun c a b p hp => by rw [f 73 _ (Or.inl rfl), f 74 _ (Or.inr rfl)]; exact X c a b p hp
theorem m_isMajority (hF : pm_fix pt_me pt_Sg (pt_R L0 xs) F) (W : WF h) (H : MH h I) {c : Nat} (hc : c < 256) : (F 1284 0 [some (.ref 49), some (.int (nI c))] [] (81, pt_G, I, L)) = some (some (.int (nI (led h c).toNat)), (81, pt_G, I, L)) := by
  have n1 := need_le W
  have n2 := sIn_le W c
  rw [e1284_0 hF]
  simp (disch := omega) only [pm_k_i, Option.toList_some, Option.toList_none, List.cons_append, List.nil_append, cond_true, cond_false, ↓reduceIte, reduceCtorEq, z_1, nI_add, z_cl, z_ib, z_lt, z_le, z_eq, z_eq0, z_le0, z_lt0, z_b0, z_b1, z_m1, z_and7, Int32.add_zero, m_seatsIn hF W H, m_need hF W H, e1284_5 hF, e1284_9 hF]
  unfold led
  by_cases q : sIn h c < need h
  · rw [if_pos q, decide_eq_false (by omega)]; rfl
  · rw [if_neg q, decide_eq_true (by omega)]; rfl
theorem m_isFree (hF : pm_fix pt_me pt_Sg (pt_R L0 xs) F) (W : WF h) (H : MH h I) {c : Nat} (hc : c < 256) : (F 1285 0 [some (.ref 49), some (.int (nI c)), none] [] (81, pt_G, I, L)) = some (some (.int (nI (fre h c).toNat)), (81, pt_G, I, L)) := by
  have hP := W.P
  rw [e1285_0 hF]
  refine (ffE (G := fun k => (F 1285 2 [some (.ref 49), some (.int (nI c)), some (.int (nI k))] [] (81, pt_G, I, L))) (X := fun _ => (some (some (.int 0), (81, pt_G, I, L)) : pm_R)) (p := fun p => c.testBit p && !Nat.beq (h 4 p &&& c) 0) (n := h 0 0) (fun k hk => ?_)).trans ?_
  · try dsimp only
    have b1 := W.bars k
    have b2 : h 4 k &&& c ≤ h 4 k := Nat.and_le_left
    rw [e1285_2 hF]
    simp (disch := omega) only [pm_k_i, Option.toList_some, Option.toList_none, List.cons_append, List.nil_append, cond_true, cond_false, ↓reduceIte, reduceCtorEq, z_1, nI_add, z_cl, z_ib, z_lt, z_le, z_eq, z_eq0, z_le0, z_lt0, z_b0, z_b1, z_m1, z_and7, Int32.add_zero, H.P, hk, m_holds hF, e1285_15 hF]
    cases c.testBit k
    · simp (disch := omega) only [pm_k_i, Option.toList_some, Option.toList_none, List.cons_append, List.nil_append, cond_true, cond_false, ↓reduceIte, reduceCtorEq, z_1, nI_add, z_cl, z_ib, z_lt, z_le, z_eq, z_eq0, z_le0, z_lt0, z_b0, z_b1, z_m1, z_and7, Int32.add_zero, Bool.false_and]
    · simp (disch := omega) only [pm_k_i, Option.toList_some, Option.toList_none, List.cons_append, List.nil_append, cond_true, cond_false, ↓reduceIte, reduceCtorEq, z_1, nI_add, z_cl, z_ib, z_lt, z_le, z_eq, z_eq0, z_le0, z_lt0, z_b0, z_b1, z_m1, z_and7, Int32.add_zero, H.bars, nx_and, Bool.true_and]
      by_cases q : h 4 k &&& c = 0
      · rw [if_pos q, q]; rfl
      · rw [if_neg q, beq_f q]; rfl
  · unfold fre
    cases ff (fun p => c.testBit p && !Nat.beq (h 4 p &&& c) 0) (h 0 0) with
    | some k => rfl
    | none =>
      dsimp only
      rw [e1285_2 hF]
      simp (disch := omega) only [pm_k_i, Option.toList_some, Option.toList_none, List.cons_append, List.nil_append, cond_true, cond_false, ↓reduceIte, reduceCtorEq, z_1, nI_add, z_cl, z_ib, z_lt, z_le, z_eq, z_eq0, z_le0, z_lt0, z_b0, z_b1, z_m1, z_and7, Int32.add_zero, H.P, Nat.lt_irrefl]
      rfl
theorem led_0 (W : WF h) : led h 0 = false := by
  have n1 := need_le W
  have s0 : sIn h 0 = 0 := by
    unfold sIn
    refine lpP (P := fun _ a => a = 0) rfl (fun k a _ ha => ?_)
    rw [Nat.zero_testBit]
    exact ha
  unfold led
  rw [s0]
  exact decide_eq_false (by omega)
theorem m_can (hF : pm_fix pt_me pt_Sg (pt_R L0 xs) F) (W : WF h) (H : MH h I) {c : Nat} (hc : c < 256) : (F 1286 0 [some (.ref 49), some (.int (nI c))] [] (81, pt_G, I, L)) = some (some (.int (nI (can h c).toNat)), (81, pt_G, I, L)) := by
  rw [e1286_0 hF]
  simp (disch := omega) only [pm_k_i, Option.toList_some, Option.toList_none, List.cons_append, List.nil_append, cond_true, cond_false, ↓reduceIte, reduceCtorEq, z_1, nI_add, z_cl, z_ib, z_lt, z_le, z_eq, z_eq0, z_le0, z_lt0, z_b0, z_b1, z_m1, z_and7, Int32.add_zero]
  by_cases q : c = 0
  · rw [if_pos q, q]
    unfold can
    rw [led_0 W]
    rfl
  · rw [if_neg q]
    simp (disch := omega) only [pm_k_i, Option.toList_some, Option.toList_none, List.cons_append, List.nil_append, cond_true, cond_false, ↓reduceIte, reduceCtorEq, z_1, nI_add, z_cl, z_ib, z_lt, z_le, z_eq, z_eq0, z_le0, z_lt0, z_b0, z_b1, z_m1, z_and7, Int32.add_zero, m_isMajority hF W H, e1286_9 hF]
    unfold can
    cases led h c with
    | false => rfl
    | true =>
      simp (disch := omega) only [pm_k_i, Option.toList_some, Option.toList_none, List.cons_append, List.nil_append, cond_true, cond_false, ↓reduceIte, reduceCtorEq, z_1, nI_add, z_cl, z_ib, z_lt, z_le, z_eq, z_eq0, z_le0, z_lt0, z_b0, z_b1, z_m1, z_and7, Int32.add_zero, m_isFree hF W H, e1286_17 hF, Bool.true_and]
      cases fre h c <;> rfl
theorem m_isRival (hF : pm_fix pt_me pt_Sg (pt_R L0 xs) F) (W : WF h) (H : MH h I) {r c : Nat} (r0 : 0 < r) (hr : r ≤ ev h) (c0 : 0 < c) (hc : c ≤ ev h) (lr : LYp h I r) (lc : LYp h I c) : (F 1287 0 [some (.ref 49), some (.int (nI r)), some (.int (nI c)), none] [] (81, pt_G, I, L)) = some (some (.int (nI (!Nat.beq r c && (can h r && mor h r c)).toNat)), (81, pt_G, I, L)) := by
  have hE := ev_lt W
  have hP := W.P
  rw [e1287_0 hF]
  simp (disch := omega) only [pm_k_i, Option.toList_some, Option.toList_none, List.cons_append, List.nil_append, cond_true, cond_false, ↓reduceIte, reduceCtorEq, z_1, nI_add, z_cl, z_ib, z_lt, z_le, z_eq, z_eq0, z_le0, z_lt0, z_b0, z_b1, z_m1, z_and7, Int32.add_zero]
  by_cases q : r = c
  · rw [if_pos q, q, Nat.beq_refl]; rfl
  · rw [if_neg q, beq_f q]
    simp (disch := omega) only [pm_k_i, Option.toList_some, Option.toList_none, List.cons_append, List.nil_append, cond_true, cond_false, ↓reduceIte, reduceCtorEq, z_1, nI_add, z_cl, z_ib, z_lt, z_le, z_eq, z_eq0, z_le0, z_lt0, z_b0, z_b1, z_m1, z_and7, Int32.add_zero, m_can hF W H, e1287_10 hF, Bool.not_false, Bool.true_and]
    cases can h r with
    | false => rfl
    | true =>
      simp (disch := omega) only [pm_k_i, Option.toList_some, Option.toList_none, List.cons_append, List.nil_append, cond_true, cond_false, ↓reduceIte, reduceCtorEq, z_1, nI_add, z_cl, z_ib, z_lt, z_le, z_eq, z_eq0, z_le0, z_lt0, z_b0, z_b1, z_m1, z_and7, Int32.add_zero, Bool.true_and]
      refine (ffE (G := fun k => (F 1287 17 [some (.ref 49), some (.int (nI r)), some (.int (nI c)), some (.int (nI k))] [] (81, pt_G, I, L))) (X := fun _ => (some (some (.int 0), (81, pt_G, I, L)) : pm_R)) (p := fun p => r.testBit p && decide (pyc h r p ≤ pyc h c p)) (n := h 0 0) (fun k hk => ?_)).trans ?_
      · try dsimp only
        rw [e1287_17 hF]
        simp (disch := omega) only [pm_k_i, Option.toList_some, Option.toList_none, List.cons_append, List.nil_append, cond_true, cond_false, ↓reduceIte, reduceCtorEq, z_1, nI_add, z_cl, z_ib, z_lt, z_le, z_eq, z_eq0, z_le0, z_lt0, z_b0, z_b1, z_m1, z_and7, Int32.add_zero, H.P, hk, m_holds hF, e1287_30 hF]
        cases r.testBit k
        · simp (disch := omega) only [pm_k_i, Option.toList_some, Option.toList_none, List.cons_append, List.nil_append, cond_true, cond_false, ↓reduceIte, reduceCtorEq, z_1, nI_add, z_cl, z_ib, z_lt, z_le, z_eq, z_eq0, z_le0, z_lt0, z_b0, z_b1, z_m1, z_and7, Int32.add_zero, Bool.false_and]
        · simp (disch := omega) only [pm_k_i, Option.toList_some, Option.toList_none, List.cons_append, List.nil_append, cond_true, cond_false, ↓reduceIte, reduceCtorEq, z_1, nI_add, z_cl, z_ib, z_lt, z_le, z_eq, z_eq0, z_le0, z_lt0, z_b0, z_b1, z_m1, z_and7, Int32.add_zero, z_7m, (lr k hk).1, (lc k hk).1, Bool.true_and]
          by_cases q : pyc h r k ≤ pyc h c k
          · rw [if_pos q, decide_eq_true q]; rfl
          · rw [if_neg q, decide_eq_false q]; rfl
      · unfold mor
        cases ff (fun p => r.testBit p && decide (pyc h r p ≤ pyc h c p)) (h 0 0) with
        | some k => rfl
        | none =>
          dsimp only
          rw [e1287_17 hF]
          simp (disch := omega) only [pm_k_i, Option.toList_some, Option.toList_none, List.cons_append, List.nil_append, cond_true, cond_false, ↓reduceIte, reduceCtorEq, z_1, nI_add, z_cl, z_ib, z_lt, z_le, z_eq, z_eq0, z_le0, z_lt0, z_b0, z_b1, z_m1, z_and7, Int32.add_zero, H.P, Nat.lt_irrefl]
          rfl
theorem m_rivalOf (hF : pm_fix pt_me pt_Sg (pt_R L0 xs) F) (W : WF h) (H : MH h I) (Y : LYs h I) {c : Nat} (c0 : 0 < c) (hc : c ≤ ev h) : (F 1288 0 [some (.ref 49), some (.int (nI c)), none] [] (81, pt_G, I, L)) = some (some (.int (nI (rvl h c))), (81, pt_G, I, L)) := by
  have hE := ev_lt W
  rw [e1288_0 hF]
  refine (ffE (G := fun k => (F 1288 2 [some (.ref 49), some (.int (nI c)), some (.int (nI (k + 1)))] [] (81, pt_G, I, L))) (X := fun k => (some (some (.int (nI (k + 1))), (81, pt_G, I, L)) : pm_R)) (p := fun k => !Nat.beq (k + 1) c && (can h (k + 1) && mor h (k + 1) c)) (n := ev h) (fun k hk => ?_)).trans ?_
  · try dsimp only
    rw [e1288_2 hF]
    simp (disch := omega) only [pm_k_i, Option.toList_some, Option.toList_none, List.cons_append, List.nil_append, cond_true, cond_false, ↓reduceIte, reduceCtorEq, z_1, nI_add, z_cl, z_ib, z_lt, z_le, z_eq, z_eq0, z_le0, z_lt0, z_b0, z_b1, z_m1, z_and7, Int32.add_zero, m_everyone hF W H, e1288_7 hF, show (k + 1 ≤ ev h) = True from propext ⟨fun _ => trivial, fun _ => by omega⟩, m_isRival hF W H (show 0 < k + 1 by omega) (show k + 1 ≤ ev h by omega) c0 hc (Y (k + 1) (by omega) (by omega)) (Y c c0 hc), e1288_16 hF]
    cases (!Nat.beq (k + 1) c && (can h (k + 1) && mor h (k + 1) c)) <;> rfl
  · unfold rvl
    cases ff (fun k => !Nat.beq (k + 1) c && (can h (k + 1) && mor h (k + 1) c)) (ev h) with
    | some k => rfl
    | none =>
      dsimp only
      rw [e1288_2 hF]
      simp (disch := omega) only [pm_k_i, Option.toList_some, Option.toList_none, List.cons_append, List.nil_append, cond_true, cond_false, ↓reduceIte, reduceCtorEq, z_1, nI_add, z_cl, z_ib, z_lt, z_le, z_eq, z_eq0, z_le0, z_lt0, z_b0, z_b1, z_m1, z_and7, Int32.add_zero, m_everyone hF W H, e1288_7 hF, show (ev h + 1 ≤ ev h) = False from propext ⟨fun hh => by omega, False.elim⟩]
      rfl
theorem m_laysAll (hF : pm_fix pt_me pt_Sg (pt_R L0 xs) F) (W : WF h) (X : MX h I) : ∃ I', (F 1283 0 [some (.ref 49), none, none, none] [] (81, pt_G, I, L)) = some (none, (81, pt_G, I', L)) ∧ FM I I' ∧ MX h I' ∧ LY h I' ∧ I' 49 57 = 1 := by
  have hE := ev_lt W
  have hP := W.P
  obtain ⟨H, q⟩ := X
  rw [e1283_0 hF]
  rcases q with q | ⟨q, Y⟩
  · rw [if_pos q]
    refine wl (Q := fun r => ∃ I', r = some (none, (81, pt_G, I', L)) ∧ FM I I' ∧ MX h I' ∧ LY h I' ∧ I' 49 57 = 1) (G := fun k J => (F 1283 15 [some (.ref 49), some (.int (nI (k + 1))), none, none] [] (81, pt_G, J, L))) (P := fun k J => FM I J ∧ J 49 57 = 1 ∧ ∀ c, 0 < c → c ≤ k → LYp h J c) (n := ev h) (fun k J hk hJ go => ?_) (fun J hJ => ?_) 0 (pm_ui I 49 57 1) (Nat.zero_le _) ⟨fun r k hx => ?_, z_ue, fun c a b => by omega⟩
    · obtain ⟨j1, j2, j3⟩ := hJ
      have HJ := j1.H H
      obtain ⟨M, m1, m2, m3, m4⟩ := m_picks (L := L) hF W HJ (C := k + 1) (y := 1) (by omega) (by omega) (by omega)
      have HM : MH h M := HJ.of (fun k a b => m2 49 k (fun _ => by omega) (by omega) (by omega) (by omega) (by omega) (by omega)) (fun r a b k => m2 r k (fun _ => by omega) (by omega) (by omega) (by omega) (by omega) (by omega)) (fun k a => m2 64 k (fun _ => by omega) (by omega) (by omega) (by omega) (by omega) (by omega))
      have m1' : (F 1266 0 [some (.ref 49), some (.int (nI (k + 1))), some (.int 1), none, none, none] [] (81, pt_G, J, L)) = some (none, (81, pt_G, M, L)) := m1
      have ml := mid_le W (k + 1)
      try dsimp only
      rw [e1283_15 hF]
      simp (disch := omega) only [pm_k_i, Option.toList_some, Option.toList_none, List.cons_append, List.nil_append, cond_true, cond_false, ↓reduceIte, reduceCtorEq, z_1, nI_add, z_cl, z_ib, z_lt, z_le, z_eq, z_eq0, z_le0, z_lt0, z_b0, z_b1, z_m1, z_and7, Int32.add_zero, m_everyone hF W HJ, e1283_20 hF, show (k + 1 ≤ ev h) = True from propext ⟨fun _ => trivial, fun _ => by omega⟩, m1', e1283_29 hF, m_middleOf hF W HM (show k + 1 < 128 by omega) (sIn_pos W (C := k + 1) (by omega) (by omega)), e1283_34 hF]
      refine wl (Q := fun r => ∃ I', r = some (none, (81, pt_G, I', L)) ∧ FM I I' ∧ MX h I' ∧ LY h I' ∧ I' 49 57 = 1) (G := fun p N => (F 1283 37 [some (.ref 49), some (.int (nI (k + 1))), some (.int (nI (mid h (k + 1)))), some (.int (nI p))] [] (81, pt_G, N, L))) (P := fun p N => (∀ r j, (r = 73 → j < 7 * (k + 1) ∨ 7 * (k + 1) + 7 ≤ j) → (r = 74 → j < 7 * (k + 1) ∨ 7 * (k + 1) + 7 ≤ j) → N r j = M r j) ∧ ∀ x, x < p → N 73 (7 * (k + 1) + x) = pyc h (k + 1) x ∧ N 74 (7 * (k + 1) + x) = nI (grf h (fs h (k + 1)) x)) (n := h 0 0) (fun p N hp hN go2 => ?_) (fun N hN => ?_) 0 M (Nat.zero_le _) ⟨fun _ _ _ _ => rfl, fun x hx => by omega⟩
      · obtain ⟨n1, n2⟩ := hN
        have HN : MH h N := HM.of (fun k a b => n1 49 k (fun _ => by omega) (fun _ => by omega)) (fun r a b k => n1 r k (fun _ => by omega) (fun _ => by omega)) (fun k a => n1 64 k (fun _ => by omega) (fun _ => by omega))
        have ON : OW h (fs h (k + 1)) N := fun o ho => by rw [n1 70 o (fun _ => by omega) (fun _ => by omega)]; exact m3 o ho
        have H2 : ∀ v, MH h (pm_ui N 73 (7 * (k + 1) + p) v) := fun v => HN.of (fun k a b => z_ur (by omega)) (fun r a b k => z_ur (by omega)) (fun k a => z_ur (by omega))
        have O2 : ∀ v, OW h (fs h (k + 1)) (pm_ui N 73 (7 * (k + 1) + p) v) := fun v o ho => by rw [z_ur (by omega)]; exact ON o ho
        have fin : (∀ r j, (r = 73 → j < 7 * (k + 1) ∨ 7 * (k + 1) + 7 ≤ j) → (r = 74 → j < 7 * (k + 1) ∨ 7 * (k + 1) + 7 ≤ j) → pm_ui (pm_ui N 73 (7 * (k + 1) + p) (pyc h (k + 1) p)) 74 (7 * (k + 1) + p) (nI (grf h (fs h (k + 1)) p)) r j = M r j) ∧ ∀ x, x < p + 1 → pm_ui (pm_ui N 73 (7 * (k + 1) + p) (pyc h (k + 1) p)) 74 (7 * (k + 1) + p) (nI (grf h (fs h (k + 1)) p)) 73 (7 * (k + 1) + x) = pyc h (k + 1) x ∧ pm_ui (pm_ui N 73 (7 * (k + 1) + p) (pyc h (k + 1) p)) 74 (7 * (k + 1) + p) (nI (grf h (fs h (k + 1)) p)) 74 (7 * (k + 1) + x) = nI (grf h (fs h (k + 1)) x) := by
          refine ⟨fun r j a b => ?_, fun x hx => ?_⟩
          · have z1 : pm_ui (pm_ui N 73 (7 * (k + 1) + p) (pyc h (k + 1) p)) 74 (7 * (k + 1) + p) (nI (grf h (fs h (k + 1)) p)) r j = pm_ui N 73 (7 * (k + 1) + p) (pyc h (k + 1) p) r j := by
              by_cases ee : r = 74
              · have := b ee; rw [z_uk (by omega)]
              · rw [z_ur ee]
            have z2 : pm_ui N 73 (7 * (k + 1) + p) (pyc h (k + 1) p) r j = N r j := by
              by_cases ee : r = 73
              · have := a ee; rw [z_uk (by omega)]
              · rw [z_ur ee]
            rw [z1, z2]
            exact n1 r j a b
          · by_cases ee : x = p
            · subst ee
              simp (disch := omega) only [z_ur, z_ue]
              exact ⟨trivial, trivial⟩
            · simp (disch := omega) only [z_ur, z_uk]
              exact n2 x (by omega)
        try dsimp only
        rw [e1283_37 hF]
        simp (disch := omega) only [pm_k_i, Option.toList_some, Option.toList_none, List.cons_append, List.nil_append, cond_true, cond_false, ↓reduceIte, reduceCtorEq, z_1, nI_add, z_cl, z_ib, z_lt, z_le, z_eq, z_eq0, z_le0, z_lt0, z_b0, z_b1, z_m1, z_and7, Int32.add_zero, HN.P, hp, m_holds hF, z_7m, e1283_60 hF]
        cases hb : (k + 1).testBit p with
        | false =>
          have pv : 0 - nI (h 0 5 * dis (h 2 p) (mid h (k + 1))) = pyc h (k + 1) p := by unfold pyc; rw [hb]; rfl
          simp (disch := omega) only [pm_k_i, Option.toList_some, Option.toList_none, List.cons_append, List.nil_append, cond_true, cond_false, ↓reduceIte, reduceCtorEq, z_1, nI_add, z_cl, z_ib, z_lt, z_le, z_eq, z_eq0, z_le0, z_lt0, z_b0, z_b1, z_m1, z_and7, Int32.add_zero, m_far hF W HN, e1283_85 hF, HN.care, pk_mul, pv, m_griefOf hF W (H2 _) (O2 _), z_7m, e1283_103 hF]
          exact go2 _ fin
        | true =>
          have pv : nI (10 * own h (fs h (k + 1)) p p) - nI (h 0 5 * dis (h 2 p) (mid h (k + 1))) = pyc h (k + 1) p := by unfold pyc; rw [hb]; rfl
          simp (disch := omega) only [pm_k_i, Option.toList_some, Option.toList_none, List.cons_append, List.nil_append, cond_true, cond_false, ↓reduceIte, reduceCtorEq, z_1, nI_add, z_cl, z_ib, z_lt, z_le, z_eq, z_eq0, z_le0, z_lt0, z_b0, z_b1, z_m1, z_and7, Int32.add_zero, m_ownedBy hF W HN ON, e1283_70 hF, z_10m, m_far hF W HN, e1283_85 hF, HN.care, pk_mul, pv, m_griefOf hF W (H2 _) (O2 _), z_7m, e1283_103 hF]
          exact go2 _ fin
      · obtain ⟨n1, n2⟩ := hN
        have HNP : N 49 30 = nI (h 0 0) := by rw [n1 49 30 (fun _ => by omega) (fun _ => by omega)]; exact HM.P
        try dsimp only
        rw [e1283_37 hF]
        simp (disch := omega) only [pm_k_i, Option.toList_some, Option.toList_none, List.cons_append, List.nil_append, cond_true, cond_false, ↓reduceIte, reduceCtorEq, z_1, nI_add, z_cl, z_ib, z_lt, z_le, z_eq, z_eq0, z_le0, z_lt0, z_b0, z_b1, z_m1, z_and7, Int32.add_zero, HNP, Nat.lt_irrefl]
        have nJ : ∀ r j, (r = 49 → j ≠ 51) → (r < 66 ∨ 70 < r) → (r = 73 → j < 7 * (k + 1) ∨ 7 * (k + 1) + 7 ≤ j) → (r = 74 → j < 7 * (k + 1) ∨ 7 * (k + 1) + 7 ≤ j) → N r j = J r j := fun r j a b c d => by
          rw [n1 r j c d]
          exact m2 r j a (by omega) (by omega) (by omega) (by omega) (by omega)
        refine go N ⟨fun r j hx => ?_, ?_, fun c c0 c1 => ?_⟩
        · rw [nJ r j (fun a => by unfold mc at hx; omega) (by unfold mc at hx; omega) (fun a => by unfold mc at hx; omega) (fun a => by unfold mc at hx; omega)]
          exact j1 r j hx
        · rw [nJ 49 57 (fun a => by omega) (by omega) (fun a => by omega) (fun a => by omega)]
          exact j2
        · by_cases ee : c = k + 1
          · subst ee; exact n2
          · intro p hp
            rw [nJ 73 _ (fun a => by omega) (by omega) (fun a => by omega) (fun a => by omega), nJ 74 _ (fun a => by omega) (by omega) (fun a => by omega) (fun a => by omega)]
            exact j3 c c0 (by omega) p hp
    · obtain ⟨j1, j2, j3⟩ := hJ
      have HJ := j1.H H
      try dsimp only
      rw [e1283_15 hF]
      simp (disch := omega) only [pm_k_i, Option.toList_some, Option.toList_none, List.cons_append, List.nil_append, cond_true, cond_false, ↓reduceIte, reduceCtorEq, z_1, nI_add, z_cl, z_ib, z_lt, z_le, z_eq, z_eq0, z_le0, z_lt0, z_b0, z_b1, z_m1, z_and7, Int32.add_zero, m_everyone hF W HJ, e1283_20 hF, show (ev h + 1 ≤ ev h) = False from propext ⟨fun hh => by omega, False.elim⟩]
      refine wl (Q := fun r => ∃ I', r = some (none, (81, pt_G, I', L)) ∧ FM I I' ∧ MX h I' ∧ LY h I' ∧ I' 49 57 = 1) (G := fun k N => (F 1283 118 [some (.ref 49), some (.int (nI (k + 1))), none, none] [] (81, pt_G, N, L))) (P := fun k N => (∀ r j, r ≠ 75 → N r j = J r j) ∧ ∀ c, 0 < c → c ≤ k → N 75 c = nI (rvl h c)) (n := ev h) (fun k N hk hN go => ?_) (fun N hN => ?_) 0 J (Nat.zero_le _) ⟨fun _ _ _ => rfl, fun c a b => by omega⟩
      · obtain ⟨n1, n2⟩ := hN
        have HN : MH h N := HJ.of (fun k a b => n1 49 k (by omega)) (fun r a b k => n1 r k (by omega)) (fun k a => n1 64 k (by omega))
        have YN : LYs h N := LYs.of (fun c a b => j3 c a b) (fun r k a => n1 r k (by omega))
        try dsimp only
        rw [e1283_118 hF]
        simp (disch := omega) only [pm_k_i, Option.toList_some, Option.toList_none, List.cons_append, List.nil_append, cond_true, cond_false, ↓reduceIte, reduceCtorEq, z_1, nI_add, z_cl, z_ib, z_lt, z_le, z_eq, z_eq0, z_le0, z_lt0, z_b0, z_b1, z_m1, z_and7, Int32.add_zero, m_everyone hF W HN, e1283_123 hF, show (k + 1 ≤ ev h) = True from propext ⟨fun _ => trivial, fun _ => by omega⟩, m_rivalOf hF W HN YN (show 0 < k + 1 by omega) (show k + 1 ≤ ev h by omega), e1283_136 hF]
        refine go _ ⟨fun r j hr => by rw [z_ur hr]; exact n1 r j hr, fun c c0 c1 => ?_⟩
        by_cases ee : c = k + 1
        · subst ee; rw [z_ue]
        · rw [z_uk ee]; exact n2 c c0 (by omega)
      · obtain ⟨n1, n2⟩ := hN
        have HN : MH h N := HJ.of (fun k a b => n1 49 k (by omega)) (fun r a b k => n1 r k (by omega)) (fun k a => n1 64 k (by omega))
        have YN : LYs h N := LYs.of (fun c a b => j3 c a b) (fun r k a => n1 r k (by omega))
        have n57 : N 49 57 = 1 := by rw [n1 49 57 (by omega)]; exact j2
        try dsimp only
        rw [e1283_118 hF]
        simp (disch := omega) only [pm_k_i, Option.toList_some, Option.toList_none, List.cons_append, List.nil_append, cond_true, cond_false, ↓reduceIte, reduceCtorEq, z_1, nI_add, z_cl, z_ib, z_lt, z_le, z_eq, z_eq0, z_le0, z_lt0, z_b0, z_b1, z_m1, z_and7, Int32.add_zero, m_everyone hF W HN, e1283_123 hF, show (ev h + 1 ≤ ev h) = False from propext ⟨fun hh => by omega, False.elim⟩]
        exact ⟨N, rfl, fun r j hx => by rw [n1 r j (by unfold mc at hx; omega)]; exact j1 r j hx, ⟨HN, Or.inr ⟨n57, YN, n2⟩⟩, ⟨YN, n2⟩, n57⟩
    · by_cases ee : r = 49
      · rw [ee, z_uk (by unfold mc at hx; omega)]
      · rw [z_ur ee]
  · rw [if_neg (by rw [q]; decide)]
    exact ⟨I, rfl, fun _ _ _ => rfl, ⟨H, Or.inr ⟨q, Y⟩⟩, Y, q⟩
/-! kinds -/
theorem m_isMinimal (hF : pm_fix pt_me pt_Sg (pt_R L0 xs) F) (W : WF h) (H : MH h I) {c : Nat} (hc : c ≤ ev h) : (F 1289 0 [some (.ref 49), some (.int (nI c)), none] [] (81, pt_G, I, L)) = some (some (.int (nI (mnl h c).toNat)), (81, pt_G, I, L)) := by
  have hE := ev_lt W
  have hP := W.P
  rw [e1289_0 hF]
  simp (disch := omega) only [pm_k_i, Option.toList_some, Option.toList_none, List.cons_append, List.nil_append, cond_true, cond_false, ↓reduceIte, reduceCtorEq, z_1, nI_add, z_cl, z_ib, z_lt, z_le, z_eq, z_eq0, z_le0, z_lt0, z_b0, z_b1, z_m1, z_and7, Int32.add_zero, m_isMajority hF W H, e1289_5 hF]
  unfold mnl
  cases led h c with
  | false => simp (disch := omega) only [pm_k_i, Option.toList_some, Option.toList_none, List.cons_append, List.nil_append, cond_true, cond_false, ↓reduceIte, reduceCtorEq, z_1, nI_add, z_cl, z_ib, z_lt, z_le, z_eq, z_eq0, z_le0, z_lt0, z_b0, z_b1, z_m1, z_and7, Int32.add_zero, Bool.false_and]; rfl
  | true =>
    simp (disch := omega) only [pm_k_i, Option.toList_some, Option.toList_none, List.cons_append, List.nil_append, cond_true, cond_false, ↓reduceIte, reduceCtorEq, z_1, nI_add, z_cl, z_ib, z_lt, z_le, z_eq, z_eq0, z_le0, z_lt0, z_b0, z_b1, z_m1, z_and7, Int32.add_zero, Bool.true_and]
    refine (ffE (G := fun k => (F 1289 12 [some (.ref 49), some (.int (nI c)), some (.int (nI k))] [] (81, pt_G, I, L))) (X := fun _ => (some (some (.int 0), (81, pt_G, I, L)) : pm_R)) (p := fun p => c.testBit p && led h (rm c p)) (n := h 0 0) (fun k hk => ?_)).trans ?_
    · try dsimp only
      have rl := rm_le W hc (show k < 8 by omega)
      rw [e1289_12 hF]
      simp (disch := omega) only [pm_k_i, Option.toList_some, Option.toList_none, List.cons_append, List.nil_append, cond_true, cond_false, ↓reduceIte, reduceCtorEq, z_1, nI_add, z_cl, z_ib, z_lt, z_le, z_eq, z_eq0, z_le0, z_lt0, z_b0, z_b1, z_m1, z_and7, Int32.add_zero, H.P, hk, m_holds hF, e1289_25 hF]
      cases c.testBit k
      · simp (disch := omega) only [pm_k_i, Option.toList_some, Option.toList_none, List.cons_append, List.nil_append, cond_true, cond_false, ↓reduceIte, reduceCtorEq, z_1, nI_add, z_cl, z_ib, z_lt, z_le, z_eq, z_eq0, z_le0, z_lt0, z_b0, z_b1, z_m1, z_and7, Int32.add_zero, Bool.false_and]
      · simp (disch := omega) only [pm_k_i, Option.toList_some, Option.toList_none, List.cons_append, List.nil_append, cond_true, cond_false, ↓reduceIte, reduceCtorEq, z_1, nI_add, z_cl, z_ib, z_lt, z_le, z_eq, z_eq0, z_le0, z_lt0, z_b0, z_b1, z_m1, z_and7, Int32.add_zero, z_rm, m_isMajority hF W H, e1289_39 hF, Bool.true_and]
        cases led h (rm c k) <;> rfl
    · cases ff (fun p => c.testBit p && led h (rm c p)) (h 0 0) with
      | some k => rfl
      | none =>
        dsimp only
        rw [e1289_12 hF]
        simp (disch := omega) only [pm_k_i, Option.toList_some, Option.toList_none, List.cons_append, List.nil_append, cond_true, cond_false, ↓reduceIte, reduceCtorEq, z_1, nI_add, z_cl, z_ib, z_lt, z_le, z_eq, z_eq0, z_le0, z_lt0, z_b0, z_b1, z_m1, z_and7, Int32.add_zero, H.P, Nat.lt_irrefl]
        rfl
/-- where places begin doesn't matter, with somebody there -/
theorem lpi_min (C : Nat) {i j : Nat} (hij : i ≤ j) : lpi h C i = min i (lpi h C j) := by
  unfold lpi
  have : ∀ n, lp (fun p a => bif C.testBit p then min a (h 2 p) else a) n i = min i (lp (fun p a => bif C.testBit p then min a (h 2 p) else a) n j) := by
    intro n
    induction n with
    | zero => show i = min i j; omega
    | succ n ih =>
      show (bif C.testBit n then min (lp _ n i) (h 2 n) else lp _ n i) = min i (bif C.testBit n then min (lp _ n j) (h 2 n) else lp _ n j)
      rw [ih]
      cases C.testBit n
      · rfl
      · show min (min i _) _ = min i (min _ _); omega
  exact this _
theorem lpi_99 (W : WF h) {C : Nat} (h0 : 0 < C) (hC : C ≤ ev h) (i : Nat) : lpi h C i ≤ 99 := by
  obtain ⟨p, hp, hb⟩ := mem_ex W h0 hC
  have key : ∀ n, p < n → lp (fun p a => bif C.testBit p then min a (h 2 p) else a) n i ≤ 99 := by
    intro n
    induction n with
    | zero => intro hn; omega
    | succ n ih =>
      intro hn
      show (bif C.testBit n then min (lp _ n i) (h 2 n) else lp _ n i) ≤ 99
      by_cases ee : p = n
      · subst ee
        have := W.place p
        rw [hb, cond_true]
        omega
      · have := ih (by omega)
        cases C.testBit n
        · exact this
        · show min _ _ ≤ 99; omega
  exact key _ hp
theorem lpi_eq (W : WF h) {C : Nat} (h0 : 0 < C) (hC : C ≤ ev h) {i : Nat} (hi : 99 ≤ i) (hi2 : i ≤ 999) : lpi h C i = lpi h C 999 := by
  have h1 := lpi_min (h := h) C hi2
  have h2 := lpi_99 W h0 hC 999
  omega
theorem m_greater (hF : pm_fix pt_me pt_Sg (pt_R L0 xs) F) {a b : Nat} (ha : a < 2147483648) (hb : b < 2147483648) : (F 1204 0 [some (.int (nI a)), some (.int (nI b))] [] (81, pt_G, I, L)) = some (some (.int (nI (max a b))), (81, pt_G, I, L)) := by
  rw [e1204_0 hF]
  simp (disch := omega) only [z_le]
  by_cases q : a ≤ b
  · rw [if_pos q, Nat.max_eq_right q]
  · rw [if_neg q, Nat.max_eq_left (by omega)]
theorem m_greater1 (hF : pm_fix pt_me pt_Sg (pt_R L0 xs) F) {b : Option Nat} {x : Nat} (hb : ∀ q, b = some q → q ≤ 99) (hx : x ≤ 99) : (F 1204 0 [some (.int (oI b)), some (.int (nI x))] [] (81, pt_G, I, L)) = some (some (.int (nI (gp1 b x))), (81, pt_G, I, L)) := by
  cases b with
  | none =>
    show (F 1204 0 [some (.int (-1)), some (.int (nI x))] [] (81, pt_G, I, L)) = _
    rw [e1204_0 hF, if_pos (Int32.le_of_lt (by rw [z_mlt (by omega)]; trivial))]
    rfl
  | some q =>
    have := hb q rfl
    exact m_greater hF (by omega) (by omega)
theorem min_if (a b : Nat) : (if b < a then b else a) = min a b := by
  by_cases q : b < a
  · rw [if_pos q]; omega
  · rw [if_neg q]; omega
theorem m_isConnected (hF : pm_fix pt_me pt_Sg (pt_R L0 xs) F) (W : WF h) (H : MH h I) {C : Nat} (h0 : 0 < C) (hC : C ≤ ev h) : (F 1290 0 [some (.ref 49), some (.int (nI C)), none, none, none] [] (81, pt_G, I, L)) = some (some (.int (nI (cnn h C).toNat)), (81, pt_G, I, L)) := by
  have hP := W.P
  have hE := ev_lt W
  have l1 := lpi_le (h := h) C 999
  have g1 := gpl_le W C (gpv h C) (gpl_some W h0 hC)
  rw [e1290_0 hF]
  refine ((lpI (G := fun k (b : Nat × Option Nat) => (F 1290 8 [some (.ref 49), some (.int (nI C)), some (.int (nI b.1)), some (.int (oI b.2)), some (.int (nI k))] [] (81, pt_G, I, L))) (f := fun p b => (bif C.testBit p then min b.1 (h 2 p) else b.1, bif C.testBit p then some (gp1 b.2 (h 2 p)) else b.2)) (P := fun _ b => b.1 ≤ 100 ∧ ∀ q, b.2 = some q → q ≤ 99) (n := h 0 0) (a := (100, none)) ⟨Nat.le_refl _, fun q hq => by cases hq⟩ (fun k b hk hb => ⟨?_, ?_⟩)).1).trans ?_
  · obtain ⟨x, y⟩ := b
    obtain ⟨b1, b2⟩ := hb
    try dsimp only at b1 b2
    try dsimp only
    have hp := W.place k
    rw [e1290_8 hF]
    simp (disch := omega) only [pm_k_i, Option.toList_some, Option.toList_none, List.cons_append, List.nil_append, cond_true, cond_false, ↓reduceIte, reduceCtorEq, z_1, nI_add, z_cl, z_ib, z_lt, z_le, z_eq, z_eq0, z_le0, z_lt0, z_b0, z_b1, z_m1, z_and7, Int32.add_zero, H.P, hk, m_holds hF, e1290_23 hF]
    cases C.testBit k
    · simp (disch := omega) only [pm_k_i, Option.toList_some, Option.toList_none, List.cons_append, List.nil_append, cond_true, cond_false, ↓reduceIte, reduceCtorEq, z_1, nI_add, z_cl, z_ib, z_lt, z_le, z_eq, z_eq0, z_le0, z_lt0, z_b0, z_b1, z_m1, z_and7, Int32.add_zero]
    · simp (disch := omega) only [pm_k_i, Option.toList_some, Option.toList_none, List.cons_append, List.nil_append, cond_true, cond_false, ↓reduceIte, reduceCtorEq, z_1, nI_add, z_cl, z_ib, z_lt, z_le, z_eq, z_eq0, z_le0, z_lt0, z_b0, z_b1, z_m1, z_and7, Int32.add_zero, H.place, m_greater1 hF b2 hp, e1290_63 hF]
      by_cases q : h 2 k < x
      · rw [if_pos q, Nat.min_eq_right (by omega)]; rfl
      · rw [if_neg q, Nat.min_eq_left (by omega)]; rfl
  · obtain ⟨x, y⟩ := b
    obtain ⟨b1, b2⟩ := hb
    try dsimp only at b1 b2
    have hp := W.place k
    cases C.testBit k
    · exact ⟨b1, b2⟩
    · refine ⟨by show min x (h 2 k) ≤ 100; omega, fun q hq => ?_⟩
      cases y with
      | none => cases hq; exact hp
      | some z =>
        have := b2 z rfl
        cases hq
        show max z (h 2 k) ≤ 99
        omega
  · rw [lp_pair (fun p a => bif C.testBit p then min a (h 2 p) else a) (fun p b => bif C.testBit p then some (gp1 b (h 2 p)) else b)]
    show (F 1290 8 [some (.ref 49), some (.int (nI C)), some (.int (nI (lpi h C 100))), some (.int (oI (gpl h C))), some (.int (nI (h 0 0)))] [] (81, pt_G, I, L)) = _
    rw [lpi_eq W h0 hC (by omega) (by omega), gpl_some W h0 hC, e1290_8 hF]
    simp (disch := omega) only [pm_k_i, Option.toList_some, Option.toList_none, List.cons_append, List.nil_append, cond_true, cond_false, ↓reduceIte, reduceCtorEq, z_1, nI_add, z_cl, z_ib, z_lt, z_le, z_eq, z_eq0, z_le0, z_lt0, z_b0, z_b1, z_m1, z_and7, Int32.add_zero, H.P, Nat.lt_irrefl, oI]
    refine (ffE (G := fun k => (F 1290 73 [some (.ref 49), some (.int (nI C)), some (.int (nI (lpi h C 999))), some (.int (nI (gpv h C))), some (.int (nI k))] [] (81, pt_G, I, L))) (X := fun _ => (some (some (.int 0), (81, pt_G, I, L)) : pm_R)) (p := fun p => !C.testBit p && (decide (lpi h C 999 < h 2 p) && decide (h 2 p < gpv h C))) (n := h 0 0) (fun k hk => ?_)).trans ?_
    · try dsimp only
      have hp := W.place k
      rw [e1290_73 hF]
      simp (disch := omega) only [pm_k_i, Option.toList_some, Option.toList_none, List.cons_append, List.nil_append, cond_true, cond_false, ↓reduceIte, reduceCtorEq, z_1, nI_add, z_cl, z_ib, z_lt, z_le, z_eq, z_eq0, z_le0, z_lt0, z_b0, z_b1, z_m1, z_and7, Int32.add_zero, H.P, hk, m_holds hF, e1290_88 hF]
      cases C.testBit k
      · simp (disch := omega) only [pm_k_i, Option.toList_some, Option.toList_none, List.cons_append, List.nil_append, cond_true, cond_false, ↓reduceIte, reduceCtorEq, z_1, nI_add, z_cl, z_ib, z_lt, z_le, z_eq, z_eq0, z_le0, z_lt0, z_b0, z_b1, z_m1, z_and7, Int32.add_zero, H.place, Bool.not_false, Bool.true_and]
        by_cases c1 : h 2 k ≤ lpi h C 999
        · rw [if_pos c1, decide_eq_false (by omega)]
          rfl
        · rw [if_neg c1, decide_eq_true (by omega), Bool.true_and]
          by_cases c2 : h 2 k < gpv h C
          · rw [if_pos c2, decide_eq_true c2]; rfl
          · rw [if_neg c2, decide_eq_false c2]; rfl
      · simp (disch := omega) only [pm_k_i, Option.toList_some, Option.toList_none, List.cons_append, List.nil_append, cond_true, cond_false, ↓reduceIte, reduceCtorEq, z_1, nI_add, z_cl, z_ib, z_lt, z_le, z_eq, z_eq0, z_le0, z_lt0, z_b0, z_b1, z_m1, z_and7, Int32.add_zero, Bool.not_true, Bool.false_and]
    · unfold cnn
      cases ff (fun p => !C.testBit p && (decide (lpi h C 999 < h 2 p) && decide (h 2 p < gpv h C))) (h 0 0) with
      | some k => rfl
      | none =>
        dsimp only
        rw [e1290_73 hF]
        simp (disch := omega) only [pm_k_i, Option.toList_some, Option.toList_none, List.cons_append, List.nil_append, cond_true, cond_false, ↓reduceIte, reduceCtorEq, z_1, nI_add, z_cl, z_ib, z_lt, z_le, z_eq, z_eq0, z_le0, z_lt0, z_b0, z_b1, z_m1, z_and7, Int32.add_zero, H.P, Nat.lt_irrefl]
        rfl
theorem m_kindOf (hF : pm_fix pt_me pt_Sg (pt_R L0 xs) F) (W : WF h) (H : MH h I) (Y : LY h I) {c : Nat} (h0 : 0 < c) (hc : c ≤ ev h) : (F 1291 0 [some (.ref 49), some (.int (nI c))] [] (81, pt_G, I, L)) = some (some (.int (nI (kin h c))), (81, pt_G, I, L)) := by
  have hE := ev_lt W
  have r1 := rvl_le W c
  have k1 : ∀ b1 b2 b3 b4 b5 : Bool, (1 * nI b1.toNat + 2 * nI b2.toNat + 4 * nI b3.toNat + 8 * nI b4.toNat + 16 * nI b5.toNat) = nI (b1.toNat + 2 * b2.toNat + 4 * b3.toNat + 8 * b4.toNat + 16 * b5.toNat) := by decide +kernel
  have k2 := k1 (led h c) (fre h c) (mnl h c) (cnn h c) (can h c && Nat.beq (rvl h c) 0)
  have k3 : (kin h c) = (led h c).toNat + 2 * (fre h c).toNat + 4 * (mnl h c).toNat + 8 * (cnn h c).toNat + 16 * (can h c && Nat.beq (rvl h c) 0).toNat := rfl
  rw [e1291_0 hF, k3, ← k2, m_isMajority hF W H (by omega)]
  simp only [pm_k_i, Option.toList_some, List.cons_append, List.nil_append, e1291_6 hF, m_truth hF, e1291_9 hF, m_isFree hF W H (show c < 256 by omega), e1291_16 hF, e1291_19 hF, m_isMinimal hF W H hc, e1291_27 hF, e1291_30 hF, m_isConnected hF W H h0 hc, e1291_39 hF, e1291_42 hF, m_can hF W H (show c < 256 by omega), e1291_51 hF]
  cases can h c with
  | false =>
    simp only [z_b0, ↓reduceIte, m_truth0 hF, pm_k_i, Option.toList_some, List.cons_append, List.nil_append, e1291_71 hF, Bool.false_and]
    rfl
  | true =>
    simp (disch := omega) only [z_b0, ↓reduceIte, reduceCtorEq, z_ib, z_cl, cond_true, Y.2 c h0 hc, z_eq0]
    by_cases q : rvl h c = 0
    · rw [if_pos q, q]
      simp only [m_truth1 hF, pm_k_i, Option.toList_some, List.cons_append, List.nil_append, e1291_71 hF]
      rfl
    · rw [if_neg q, beq_f q]
      simp only [m_truth0 hF, pm_k_i, Option.toList_some, List.cons_append, List.nil_append, e1291_71 hF]
      rfl
end
