/-! ===== the model: a cabinet in office ===== -/
section
variable {h : Nat → Nat → Nat} {I I' : Nat → Nat → Int32} {L L' : Nat → Nat → Int64}
/-- what the model keeps of it: coalition, holders, seats -/
def SR (h : Nat → Nat → Nat) (x : SN) (f : Nat → Int32) : Prop := f 0 = nI x.1 ∧ (∀ o, o < h 0 1 → f (1 + o) = if x.1 = 0 then -1 else nI (x.2.1 o)) ∧ ∀ p, p < h 0 0 → f (9 + p) = nI (x.2.2 p)
def NM (h : Nat → Nat → Nat) (C : Nat) (w : Nat → Nat) (I : Nat → Nat → Int32) : Prop := I 64 0 = nI C ∧ ∀ o, o < h 0 1 → I 64 (1 + o) = if C = 0 then -1 else nI (w o)
/-- some are free -/
def NF (h : Nat → Nat → Nat) (l : Nat) (w : Nat → Nat) (I : Nat → Nat → Int32) : Prop := ∀ o, o < h 0 1 → I 64 (1 + o) = bif l.testBit o then -1 else nI (w o)
theorem ib16 : pm_ib 0 16 = true := by decide +kernel
theorem cl0 : Int32.toNatClampNeg 0 = 0 := by decide +kernel
theorem NM.nf (W : WF h) {C : Nat} {w : Nat → Nat} (N : NM h C w I) : NF h (if C = 0 then 2 ^ h 0 1 - 1 else 0) w I := by
  have hO := W.O
  intro o ho
  rw [N.2 o ho]
  by_cases c : C = 0
  · rw [if_pos c, if_pos c, all_tb (h 0 1) (by omega) o (by omega), decide_eq_true ho]; rfl
  · rw [if_neg c, if_neg c, Nat.zero_testBit]; rfl
theorem pc_fro (W : WF h) (w : Nat → Nat) (p : Nat) : pc (fro h w p) = hcl h w 0 p := by
  have hO := W.O
  obtain ⟨f1, f2, f3⟩ := fro_ok W w p
  rw [hcl_lp]
  unfold pc
  refine lp_fix (n := h 0 1) (by omega) (lp_congr (fun o n ho => ?_) 0) (fun q q1 q2 => ?_)
  · rw [f3 o (by omega), decide_eq_true ho, Bool.true_and, Nat.zero_testBit, Bool.not_false, Bool.true_and]
  · rw [z_tbig (n := h 0 1) f1 q1]; rfl
theorem hcl_all (W : WF h) (w : Nat → Nat) (p : Nat) : hcl h w (2 ^ h 0 1 - 1) p = 0 := by
  have hO := W.O
  rw [hcl_lp]
  refine lpP (P := fun _ a => a = 0) rfl (fun o a ho ha => ?_)
  rw [all_tb (h 0 1) (by omega) o (by omega), decide_eq_true ho, ha]
  rfl
theorem hcl_hld (W : WF h) (C : Nat) (w : Nat → Nat) (p : Nat) : hcl h w (if C = 0 then 2 ^ h 0 1 - 1 else 0) p = pc (hld h C w p) := by
  unfold hld
  by_cases c : C = 0
  · rw [if_pos c, hcl_all W, c]
    show 0 = pc 0
    decide +kernel
  · rw [if_neg c, beq_f c, ← pc_fro W]; rfl
variable {F : pm_F} {L0 : Nat} {xs : Nat → Int32}
theorem m_held (hF : pm_fix pt_me pt_Sg (pt_R L0 xs) F) (W : WF h) (HO : I 49 31 = nI (h 0 1)) {l q : Nat} {w : Nat → Nat} (k : ∀ o, o < h 0 1 → l.testBit o = false → w o < 8) (N : NF h l w I) (q8 : q < 8) : (F 1250 0 [some (.ref 49), some (.int (nI q)), none, none] [] (81, pt_G, I, L)) = some (some (.int (nI (hcl h w l q))), (81, pt_G, I, L)) := by
  have hO := W.O
  rw [e1250_0 hF, hcl_lp]
  refine (lpE (G := fun o a => (F 1250 4 [some (.ref 49), some (.int (nI q)), some (.int (nI a)), some (.int (nI o))] [] (81, pt_G, I, L))) (f := fun o a => a + (!l.testBit o && Nat.beq (w o) q).toNat) (n := h 0 1) (fun o a ho => ?_) 0).trans ?_
  · try dsimp only
    have n0 := N o ho
    have k0 := k o ho
    rw [e1250_4 hF, HO, show (1 : Int32) = nI 1 from rfl]
    simp (disch := omega) only [pm_k_i, Option.toList_some, Option.toList_none, List.cons_append, List.nil_append, cond_true, cond_false, ↓reduceIte, reduceCtorEq, z_1, nI_add, z_cl, z_ib, z_lt, z_le, z_eq, z_eq0, z_le0, z_lt0, z_b0, z_b1, z_m1, z_and7, Int32.add_zero, ho, n0]
    rw [show nI 1 = (1 : Int32) from rfl]
    cases b : l.testBit o with
    | true =>
      simp (disch := omega) only [pm_k_i, Option.toList_some, Option.toList_none, List.cons_append, List.nil_append, cond_true, cond_false, ↓reduceIte, reduceCtorEq, z_1, nI_add, z_cl, z_ib, z_lt, z_le, z_eq, z_eq0, z_le0, z_lt0, z_b0, z_b1, z_m1, z_and7, Int32.add_zero, z_m1', m_truth0 hF, e1250_33 hF, Bool.not_true, Bool.false_and, Bool.toNat_false, Nat.add_zero]
    | false =>
      have k0 := k0 b
      simp (disch := omega) only [pm_k_i, Option.toList_some, Option.toList_none, List.cons_append, List.nil_append, cond_true, cond_false, ↓reduceIte, reduceCtorEq, z_1, nI_add, z_cl, z_ib, z_lt, z_le, z_eq, z_eq0, z_le0, z_lt0, z_b0, z_b1, z_m1, z_and7, Int32.add_zero, Bool.not_false, Bool.true_and]
      by_cases c : w o = q
      · rw [if_pos c, c, Nat.beq_refl]
        simp (disch := omega) only [pm_k_i, Option.toList_some, Option.toList_none, List.cons_append, List.nil_append, cond_true, cond_false, ↓reduceIte, reduceCtorEq, z_1, nI_add, z_cl, z_ib, z_lt, z_le, z_eq, z_eq0, z_le0, z_lt0, z_b0, z_b1, z_m1, z_and7, Int32.add_zero, m_truth1 hF, e1250_33 hF, Bool.toNat_true]
      · rw [if_neg c, beq_f c]
        simp (disch := omega) only [pm_k_i, Option.toList_some, Option.toList_none, List.cons_append, List.nil_append, cond_true, cond_false, ↓reduceIte, reduceCtorEq, z_1, nI_add, z_cl, z_ib, z_lt, z_le, z_eq, z_eq0, z_le0, z_lt0, z_b0, z_b1, z_m1, z_and7, Int32.add_zero, m_truth0 hF, e1250_33 hF, Bool.toNat_false, Nat.add_zero]
  · try dsimp only
    rw [e1250_4 hF, HO]
    simp (disch := omega) only [pm_k_i, Option.toList_some, Option.toList_none, List.cons_append, List.nil_append, cond_true, cond_false, ↓reduceIte, reduceCtorEq, z_1, nI_add, z_cl, z_ib, z_lt, z_le, z_eq, z_eq0, z_le0, z_lt0, z_b0, z_b1, z_m1, z_and7, Int32.add_zero, Nat.lt_irrefl]
theorem m_paysNow (hF : pm_fix pt_me pt_Sg (pt_R L0 xs) F) (W : WF h) (H : MH h I) {C p : Nat} {w : Nat → Nat} (c0 : 0 < C) (hC : C ≤ ev h) (k : WK h w) (N : NM h C w I) (p0 : p < h 0 0) : (F 1322 0 [some (.ref 49), some (.int (nI p)), none, none] [] (81, pt_G, I, L)) = some (some (.int (pnw h C w p)), (81, pt_G, I, L)) := by
  have hP := W.P
  have hO := W.O
  have hE := ev_lt W
  have m := mid_le W C
  have sp := sIn_pos W c0 hC
  obtain ⟨N0, N1⟩ := N
  rw [e1322_0 hF]
  refine (lpE (G := fun o a => (F 1322 4 [some (.ref 49), some (.int (nI p)), some (.int (nI a)), some (.int (nI o))] [] (81, pt_G, I, L))) (f := fun o a => bif Nat.beq (w o) p then a + h 5 (8 * p + o) else a) (n := h 0 1) (fun o a ho => ?_) 0).trans ?_
  · try dsimp only
    have n0 := N1 o ho
    rw [if_neg (show ¬ C = 0 by omega)] at n0
    have k0 := k.2 o ho
    rw [e1322_4 hF, show (1 : Int32) = nI 1 from rfl]
    simp (disch := omega) only [pm_k_i, Option.toList_some, Option.toList_none, List.cons_append, List.nil_append, cond_true, cond_false, ↓reduceIte, reduceCtorEq, z_1, nI_add, z_cl, z_ib, z_lt, z_le, z_eq, z_eq0, z_le0, z_lt0, z_b0, z_b1, z_m1, z_and7, Int32.add_zero, H.O, ho, n0]
    by_cases c : w o = p
    · subst c
      simp (disch := omega) only [pm_k_i, Option.toList_some, Option.toList_none, List.cons_append, List.nil_append, cond_true, cond_false, ↓reduceIte, reduceCtorEq, z_1, nI_add, z_cl, z_ib, z_lt, z_le, z_eq, z_eq0, z_le0, z_lt0, z_b0, z_b1, z_m1, z_and7, Int32.add_zero, Nat.beq_refl, m_worthOf hF W H, e1322_31 hF]
    · simp (disch := omega) only [pm_k_i, Option.toList_some, Option.toList_none, List.cons_append, List.nil_append, cond_true, cond_false, ↓reduceIte, reduceCtorEq, z_1, nI_add, z_cl, z_ib, z_lt, z_le, z_eq, z_eq0, z_le0, z_lt0, z_b0, z_b1, z_m1, z_and7, Int32.add_zero, beq_f c, c]
  · try dsimp only
    rw [e1322_4 hF]
    simp (disch := omega) only [pm_k_i, Option.toList_some, Option.toList_none, List.cons_append, List.nil_append, cond_true, cond_false, ↓reduceIte, reduceCtorEq, z_1, nI_add, z_cl, z_ib, z_lt, z_le, z_eq, z_eq0, z_le0, z_lt0, z_b0, z_b1, z_m1, z_and7, Int32.add_zero, H.O, Nat.lt_irrefl, ib16, cl0, N0, m_middleOf hF W H, e1322_63 hF, m_far hF W H, e1322_66 hF, H.care, z_10m, pk_mul]
    rfl
theorem m_goer (hF : pm_fix pt_me pt_Sg (pt_R L0 xs) F) (W : WF h) (H : MH h I) {C : Nat} {w : Nat → Nat} (hc : CAB h C w) (N : NM h C w I) : (F 1324 0 [some (.ref 49), none] [] (81, pt_G, I, L)) = some (some (.int (oI (fup h C w))), (81, pt_G, I, L)) := by
  have hP := W.P
  have hE := ev_lt W
  have hc1 := hc.1
  rw [e1324_0 hF]
  refine (ffE (G := fun k => (F 1324 2 [some (.ref 49), some (.int (nI k))] [] (81, pt_G, I, L))) (X := fun p => (some (some (.int (nI p)), (81, pt_G, I, L)) : pm_R)) (p := fun p => C.testBit p && decide (pnw h C w p < nI (h 3 p))) (n := h 0 0) (fun p p0 => ?_)).trans ?_
  · try dsimp only
    rw [e1324_2 hF]
    simp (disch := omega) only [pm_k_i, Option.toList_some, Option.toList_none, List.cons_append, List.nil_append, cond_true, cond_false, ↓reduceIte, reduceCtorEq, z_1, nI_add, z_cl, z_ib, z_lt, z_le, z_eq, z_eq0, z_le0, z_lt0, z_b0, z_b1, z_m1, z_and7, Int32.add_zero, H.P, p0, ib16, cl0, N.1, m_holds hF, e1324_20 hF]
    cases q : C.testBit p with
    | false => simp (disch := omega) only [pm_k_i, Option.toList_some, Option.toList_none, List.cons_append, List.nil_append, cond_true, cond_false, ↓reduceIte, reduceCtorEq, z_1, nI_add, z_cl, z_ib, z_lt, z_le, z_eq, z_eq0, z_le0, z_lt0, z_b0, z_b1, z_m1, z_and7, Int32.add_zero, Bool.false_and]
    | true =>
      have c0 := bit_pos q
      simp (disch := omega) only [pm_k_i, Option.toList_some, Option.toList_none, List.cons_append, List.nil_append, cond_true, cond_false, ↓reduceIte, reduceCtorEq, z_1, nI_add, z_cl, z_ib, z_lt, z_le, z_eq, z_eq0, z_le0, z_lt0, z_b0, z_b1, z_m1, z_and7, Int32.add_zero, Bool.true_and, m_paysNow hF W H (Nat.pos_of_ne_zero c0) hc.1 (hc.2 c0).1 N p0, e1324_28 hF, H.walk]
      by_cases d : pnw h C w p < nI (h 3 p)
      · rw [if_pos d, decide_eq_true d]; rfl
      · rw [if_neg d, decide_eq_false d]; rfl
  · unfold fup
    cases ff (fun p => C.testBit p && decide (pnw h C w p < nI (h 3 p))) (h 0 0) with
    | some k => rfl
    | none =>
      dsimp only
      rw [e1324_2 hF]
      simp (disch := omega) only [pm_k_i, Option.toList_some, Option.toList_none, List.cons_append, List.nil_append, cond_true, cond_false, ↓reduceIte, reduceCtorEq, z_1, nI_add, z_cl, z_ib, z_lt, z_le, z_eq, z_eq0, z_le0, z_lt0, z_b0, z_b1, z_m1, z_and7, Int32.add_zero, H.P, Nat.lt_irrefl]
      rfl
theorem m_goesOut (hF : pm_fix pt_me pt_Sg (pt_R L0 xs) F) (W : WF h) (H : MH h I) {C p : Nat} {w : Nat → Nat} (hc : CAB h C w) (N : NM h C w I) (hb : C.testBit p = true) : ∃ I', (F 1320 0 [some (.ref 49), some (.int (nI p)), none, none, none, none] [] (81, pt_G, I, L)) = some (some (.int (nI (pc (fro h w p)))), (81, pt_G, I', L)) ∧ (∀ r j, (r = 64 → 9 ≤ j) → r ≠ 67 → I' r j = I r j) ∧ NM h (rm C p) (lgw h C w p) I' := by
  have hP := W.P
  have hO := W.O
  have hE := ev_lt W
  have h2 := o256 W
  have p1 := bit_lt hc.1 hb
  have c0 := bit_pos hb
  have r := rm_le W hc.1 (p := p) (by omega)
  have hc1 := hc.1
  obtain ⟨k, hin⟩ := hc.2 c0
  obtain ⟨f1, f2, f3⟩ := fro_ok W w p
  obtain ⟨N0, N1⟩ := N
  have l8 := pc_le8 f2
  have i64 : ∀ J : Nat → Nat → Int32, (∀ r j, (r = 64 → 9 ≤ j) → r ≠ 67 → J r j = I r j) → MH h J := fun J f => H.of (fun k _ _ => f 49 k (by omega) (by omega)) (fun r a b k => f r k (by omega) (by omega)) (fun k a => f 64 k (fun _ => a) (by omega))
  rw [e1320_0 hF]
  simp (disch := omega) only [pm_k_i, Option.toList_some, Option.toList_none, List.cons_append, List.nil_append, cond_true, cond_false, ↓reduceIte, reduceCtorEq, z_1, nI_add, z_cl, z_ib, z_lt, z_le, z_eq, z_eq0, z_le0, z_lt0, z_b0, z_b1, z_m1, z_and7, Int32.add_zero, ib16, cl0, N0, z_rm]
  have s0 : ∀ n, n ≤ h 0 1 → lp (fun i a => bif Nat.beq (w i) p then ad a i else a) n 0 < 256 := fun n hn => (set_lp (fun i => Nat.beq (w i) p) n (by omega)).1
  refine wl (Q := fun x => ∃ I', x = some (some (.int (nI (pc (fro h w p)))), (81, pt_G, I', L)) ∧ (∀ r j, (r = 64 → 9 ≤ j) → r ≠ 67 → I' r j = I r j) ∧ NM h (rm C p) (lgw h C w p) I') (G := fun n J => (F 1320 18 [some (.ref 49), some (.int (nI p)), some (.int (nI (lp (fun i a => bif Nat.beq (w i) p then ad a i else a) n 0))), some (.int (nI n)), none, none] [] (81, pt_G, J, L))) (P := fun n J => (∀ r j, (r = 64 → 9 ≤ j) → r ≠ 67 → J r j = I r j) ∧ J 64 0 = nI (rm C p) ∧ ∀ o, o < h 0 1 → J 64 (1 + o) = bif decide (o < n) && Nat.beq (w o) p then -1 else nI (w o)) (n := h 0 1) (fun n J hn hJ go => ?_) (fun J hJ => ?_) 0 _ (Nat.zero_le _) ⟨fun r j x y => ?_, by rw [z_ue], fun o ho => ?_⟩
  · obtain ⟨j1, j2, j3⟩ := hJ
    have HJ := i64 J j1
    have jn := j3 n hn
    have kn := k.2 n hn
    have sn0 := s0 n (by omega)
    rw [decide_eq_false (Nat.lt_irrefl n), Bool.false_and] at jn
    try dsimp only
    rw [e1320_18 hF, show (1 : Int32) = nI 1 from rfl]
    simp (disch := omega) only [pm_k_i, Option.toList_some, Option.toList_none, List.cons_append, List.nil_append, cond_true, cond_false, ↓reduceIte, reduceCtorEq, z_1, nI_add, z_cl, z_ib, z_lt, z_le, z_eq, z_eq0, z_le0, z_lt0, z_b0, z_b1, z_m1, z_and7, Int32.add_zero, HJ.O, hn, jn]
    rw [show nI 1 = (1 : Int32) from rfl]
    by_cases q : w n = p
    · have e1 : lp (fun i a => bif Nat.beq (w i) p then ad a i else a) (n + 1) 0 = ad (lp (fun i a => bif Nat.beq (w i) p then ad a i else a) n 0) n := by
        show (bif Nat.beq (w n) p then ad (lp (fun i a => bif Nat.beq (w i) p then ad a i else a) n 0) n else lp (fun i a => bif Nat.beq (w i) p then ad a i else a) n 0) = _
        rw [q, Nat.beq_refl]; rfl
      rw [if_pos q, z_ad _ sn0 n (by omega), ← e1]
      refine go _ ⟨fun r j x y => ?_, by rw [z_uk (by omega)]; exact j2, fun o ho => ?_⟩
      · by_cases z : r = 64
        · have := x z; rw [z, z_uk (by omega)]; exact j1 64 j (fun _ => this) (by omega)
        · rw [z_ur z]; exact j1 r j x y
      · by_cases z : o = n
        · subst z
          rw [z_ue, decide_eq_true (Nat.lt_succ_self o), q, Nat.beq_refl]; rfl
        · rw [z_uk (by omega), j3 o ho]
          by_cases u : o < n
          · rw [decide_eq_true u, decide_eq_true (by omega)]
          · rw [decide_eq_false u, decide_eq_false (by omega)]
    · have e1 : lp (fun i a => bif Nat.beq (w i) p then ad a i else a) (n + 1) 0 = lp (fun i a => bif Nat.beq (w i) p then ad a i else a) n 0 := by
        show (bif Nat.beq (w n) p then ad (lp (fun i a => bif Nat.beq (w i) p then ad a i else a) n 0) n else lp (fun i a => bif Nat.beq (w i) p then ad a i else a) n 0) = _
        rw [beq_f q]; rfl
      rw [if_neg q, ← e1]
      refine go J ⟨j1, j2, fun o ho => ?_⟩
      rw [j3 o ho]
      by_cases z : o = n
      · rw [z, beq_f q, Bool.and_false, Bool.and_false]
      · by_cases u : o < n
        · rw [decide_eq_true u, decide_eq_true (by omega)]
        · rw [decide_eq_false u, decide_eq_false (by omega)]
  · obtain ⟨j1, j2, j3⟩ := hJ
    have HJ := i64 J j1
    have jf : NF h (fro h w p) w J := fun o ho => by rw [j3 o ho, f3 o (by omega)]
    have e0 : lp (fun i a => bif Nat.beq (w i) p then ad a i else a) (h 0 1) 0 = fro h w p := rfl
    try dsimp only
    rw [e1320_18 hF, e0]
    simp (disch := omega) only [pm_k_i, Option.toList_some, Option.toList_none, List.cons_append, List.nil_append, cond_true, cond_false, ↓reduceIte, reduceCtorEq, z_1, nI_add, z_cl, z_ib, z_lt, z_le, z_eq, z_eq0, z_le0, z_lt0, z_b0, z_b1, z_m1, z_and7, Int32.add_zero, HJ.O, Nat.lt_irrefl, m_ones hF, e1320_66 hF]
    by_cases z : rm C p = 0
    · rw [e1320_67 hF]
      have all : ∀ o, o < h 0 1 → w o = p := by
        intro o ho
        have b := hin o ho
        have wo := k.2 o ho
        by_cases q : w o = p
        · exact q
        · have := z_rmb C (by omega) p (by omega) (w o) (by omega)
          rw [z, Nat.zero_testBit, b, beq_f q] at this
          cases this
      have fin : ∃ I', (some (some (.int (nI (pc (fro h w p)))), (81, pt_G, J, L)) : pm_R) = some (some (.int (nI (pc (fro h w p)))), (81, pt_G, I', L)) ∧ (∀ r j, (r = 64 → 9 ≤ j) → r ≠ 67 → I' r j = I r j) ∧ NM h (rm C p) (lgw h C w p) I' := by
        refine ⟨J, rfl, j1, j2, fun o ho => ?_⟩
        rw [jf o ho, f3 o (by omega), decide_eq_true ho, all o ho, Nat.beq_refl, if_pos z]
        rfl
      simp (disch := omega) only [pm_k_i, Option.toList_some, Option.toList_none, List.cons_append, List.nil_append, cond_true, cond_false, ↓reduceIte, reduceCtorEq, z_1, nI_add, z_cl, z_ib, z_lt, z_le, z_eq, z_eq0, z_le0, z_lt0, z_b0, z_b1, z_m1, z_and7, Int32.add_zero, ib16, cl0, j2, z]
      rw [z] at fin
      by_cases q : fro h w p = 0
      · rw [if_pos q]; exact fin
      · rw [if_neg q]; exact fin
    · have gk := gtn_ok W (C := rm C p) (l := fro h w p) (w := w) (Nat.pos_of_ne_zero z) r f1 k (fun o ho q => by
        have c8 := k.2 o ho
        rw [f3 o (by omega), decide_eq_true ho, Bool.true_and] at q
        rw [z_rmb C (by omega) p (by omega) (w o) (by omega), hin o ho, q]
        rfl)
      refine wl (Q := fun x => ∃ I', x = some (some (.int (nI (pc (fro h w p)))), (81, pt_G, I', L)) ∧ (∀ r j, (r = 64 → 9 ≤ j) → r ≠ 67 → I' r j = I r j) ∧ NM h (rm C p) (lgw h C w p) I') (G := fun n J => (F 1320 67 [some (.ref 49), some (.int (nI p)), some (.int (nI (gtn h (rm C p) (fro h w p) w n).1)), some (.int (nI (pc (fro h w p)))), none, none] [] (81, pt_G, J, L))) (P := fun n J => (∀ r j, (r = 64 → 9 ≤ j) → r ≠ 67 → J r j = I r j) ∧ J 64 0 = nI (rm C p) ∧ NF h (gtn h (rm C p) (fro h w p) w n).1 (gtn h (rm C p) (fro h w p) w n).2 J) (n := pc (fro h w p)) (fun n J hn hJ go => ?_) (fun J hJ => ?_) 0 J (Nat.zero_le _) ⟨j1, j2, jf⟩
      · obtain ⟨j1, j2, j3⟩ := hJ
        obtain ⟨g1, g2, g3, g4⟩ := gk n (by omega)
        have HJ := i64 J j1
        have t0 : 0 < (gtn h (rm C p) (fro h w p) w n).1 := by
          rcases Nat.eq_zero_or_pos (gtn h (rm C p) (fro h w p) w n).1 with e | e
          · rw [e, show pc 0 = 0 from by decide +kernel] at g2; omega
          · exact e
        obtain ⟨t1, t2, t3, t4, t5, t6⟩ := gt1_ok W (Nat.pos_of_ne_zero z) r t0 g1
        try dsimp only
        rw [e1320_67 hF]
        simp (disch := omega) only [pm_k_i, Option.toList_some, Option.toList_none, List.cons_append, List.nil_append, cond_true, cond_false, ↓reduceIte, reduceCtorEq, z_1, nI_add, z_cl, z_ib, z_lt, z_le, z_eq, z_eq0, z_le0, z_lt0, z_b0, z_b1, z_m1, z_and7, Int32.add_zero, ib16, cl0, j2, z, show ((gtn h (rm C p) (fro h w p) w n).1 = 0) = False from propext ⟨fun q => by omega, False.elim⟩]
        refine wl (Q := fun x => ∃ I', x = some (some (.int (nI (pc (fro h w p)))), (81, pt_G, I', L)) ∧ (∀ r j, (r = 64 → 9 ≤ j) → r ≠ 67 → I' r j = I r j) ∧ NM h (rm C p) (lgw h C w p) I') (G := fun q K => (F 1320 83 [some (.ref 49), some (.int (nI p)), some (.int (nI (gtn h (rm C p) (fro h w p) w n).1)), some (.int (nI (pc (fro h w p)))), some (.int (nI q)), none] [] (81, pt_G, K, L))) (P := fun q K => (∀ r j, r ≠ 67 → K r j = J r j) ∧ ∀ x, x < q → K 67 x = nI (hcl h (gtn h (rm C p) (fro h w p) w n).2 (gtn h (rm C p) (fro h w p) w n).1 x)) (n := h 0 0) (fun q K hq hK go2 => ?_) (fun K hK => ?_) 0 J (Nat.zero_le _) ⟨fun _ _ _ => rfl, fun x hx => by omega⟩
        · obtain ⟨k1, k2⟩ := hK
          have KP : K 49 30 = nI (h 0 0) := by rw [k1 49 30 (by omega)]; exact HJ.P
          have KO : K 49 31 = nI (h 0 1) := by rw [k1 49 31 (by omega)]; exact HJ.O
          have KN : NF h (gtn h (rm C p) (fro h w p) w n).1 (gtn h (rm C p) (fro h w p) w n).2 K := fun o ho => by rw [k1 64 _ (by omega)]; exact j3 o ho
          try dsimp only
          rw [e1320_83 hF, KP]
          simp (disch := omega) only [pm_k_i, Option.toList_some, Option.toList_none, List.cons_append, List.nil_append, cond_true, cond_false, ↓reduceIte, reduceCtorEq, z_1, nI_add, z_cl, z_ib, z_lt, z_le, z_eq, z_eq0, z_le0, z_lt0, z_b0, z_b1, z_m1, z_and7, Int32.add_zero, hq, m_held hF W KO (fun o ho _ => by have := g3.2 o ho; omega) KN (show q < 8 by omega), e1320_104 hF]
          refine go2 _ ⟨fun r j x => by rw [z_ur x]; exact k1 r j x, fun x hx => ?_⟩
          by_cases u : x = q
          · rw [u, z_ue]
          · rw [z_uk u]; exact k2 x (by omega)
        · obtain ⟨k1, k2⟩ := hK
          have HK : MH h K := HJ.of (fun k _ _ => k1 49 k (by omega)) (fun r a b k => k1 r k (by omega)) (fun k a => k1 64 k (by omega))
          have n0 := m_nextOf (L := L) hF W HK (C := rm C p) (had := hcl h (gtn h (rm C p) (fro h w p) w n).2 (gtn h (rm C p) (fro h w p) w n).1) (by omega) (hcl_le W _ _) k2
          have n1 := m_bestLeft (L := L) hF W HK (l := (gtn h (rm C p) (fro h w p) w n).1) t2 (by omega)
          rw [t1] at n0
          rw [t4] at n1
          have k64 : K 64 0 = nI (rm C p) := by rw [k1 64 0 (by omega)]; exact j2
          try dsimp only
          rw [e1320_83 hF]
          simp (disch := omega) only [pm_k_i, Option.toList_some, Option.toList_none, List.cons_append, List.nil_append, cond_true, cond_false, ↓reduceIte, reduceCtorEq, z_1, nI_add, z_cl, z_ib, z_lt, z_le, z_eq, z_eq0, z_le0, z_lt0, z_b0, z_b1, z_m1, z_and7, Int32.add_zero, HK.P, Nat.lt_irrefl, ib16, cl0, k64, n0, oI, e1320_121 hF, n1, e1320_130 hF]
          rw [show (1 : Int32) = nI 1 from rfl]
          simp (disch := omega) only [pm_k_i, Option.toList_some, Option.toList_none, List.cons_append, List.nil_append, cond_true, cond_false, ↓reduceIte, reduceCtorEq, z_1, nI_add, z_cl, z_ib, z_lt, z_le, z_eq, z_eq0, z_le0, z_lt0, z_b0, z_b1, z_m1, z_and7, Int32.add_zero]
          rw [show nI 1 = (1 : Int32) from rfl, z_rm _ (by omega) _ (by omega)]
          refine go _ ⟨fun r j x y => ?_, by rw [z_uk (by omega)]; exact k64, fun o ho => ?_⟩
          · by_cases u : r = 64
            · have := x u; rw [u, z_uk (by omega), k1 64 j (by omega)]; exact j1 64 j (fun _ => this) (by omega)
            · rw [z_ur u, k1 r j y]; exact j1 r j x y
          · show _ = bif (rm (gtn h (rm C p) (fro h w p) w n).1 (gto h (rm C p) (gtn h (rm C p) (fro h w p) w n))).testBit o then -1 else nI (up (gtn h (rm C p) (fro h w p) w n).2 (gto h (rm C p) (gtn h (rm C p) (fro h w p) w n)) (gtt h (rm C p) (gtn h (rm C p) (fro h w p) w n)) o)
            rw [z_rmb _ (by omega) _ (by omega) o (by omega)]
            unfold up
            by_cases u : o = gto h (rm C p) (gtn h (rm C p) (fro h w p) w n)
            · rw [u, z_ue, Nat.beq_refl, if_pos rfl, Bool.not_true, Bool.and_false]; rfl
            · rw [z_uk (by omega), k1 64 _ (by omega), j3 o ho, beq_f u, Bool.not_false, Bool.and_true, if_neg u]
      · obtain ⟨j1, j2, j3⟩ := hJ
        obtain ⟨g1, g2, g3, g4⟩ := gk (pc (fro h w p)) (Nat.le_refl _)
        have e := pc_0 _ (show (gtn h (rm C p) (fro h w p) w (pc (fro h w p))).1 < 256 by omega) (by omega)
        try dsimp only
        rw [e1320_67 hF, e]
        simp (disch := omega) only [pm_k_i, Option.toList_some, Option.toList_none, List.cons_append, List.nil_append, cond_true, cond_false, ↓reduceIte, reduceCtorEq, z_1, nI_add, z_cl, z_ib, z_lt, z_le, z_eq, z_eq0, z_le0, z_lt0, z_b0, z_b1, z_m1, z_and7, Int32.add_zero]
        refine ⟨J, rfl, j1, j2, fun o ho => ?_⟩
        rw [j3 o ho, e, Nat.zero_testBit, if_neg z]
        rfl
  · by_cases z : r = 64
    · have := x z; rw [z, z_uk (by omega)]
    · rw [z_ur z]
  · rw [z_uk (by omega), N1 o ho, if_neg c0, decide_eq_false (Nat.not_lt_zero o), Bool.false_and]
    rfl
end
