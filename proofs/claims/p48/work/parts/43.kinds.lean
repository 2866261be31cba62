/-! ===== coalitions: kinds, rivals, drift ===== -/
section
variable {h : Nat → Nat → Nat} {I I' : Nat → Nat → Int32} {L L' : Nat → Nat → Int64} {e v : Nat}
variable {F : pm_F} {L0 : Nat} {xs : Nat → Int32}
def mnl (h : Nat → Nat → Nat) (C : Nat) : Bool := led h C && (ff (fun p => C.testBit p && led h (rm C p)) (h 0 0)).isNone
def lpi (h : Nat → Nat → Nat) (C i : Nat) : Nat := lp (fun p a => bif C.testBit p then min a (h 2 p) else a) (h 0 0) i
def gp1 (b : Option Nat) (x : Nat) : Nat := match b with
  | none => x
  | some q => max q x
def gpl (h : Nat → Nat → Nat) (C : Nat) : Option Nat := lp (fun p b => bif C.testBit p then some (gp1 b (h 2 p)) else b) (h 0 0) none
def gpv (h : Nat → Nat → Nat) (C : Nat) : Nat := (gpl h C).getD 0
def cnn (h : Nat → Nat → Nat) (C : Nat) : Bool := (ff (fun p => !C.testBit p && (decide (lpi h C 999 < h 2 p) && decide (h 2 p < gpv h C))) (h 0 0)).isNone
def kin (h : Nat → Nat → Nat) (C : Nat) : Nat := (led h C).toNat + 2 * (fre h C).toNat + 4 * (mnl h C).toNat + 8 * (cnn h C).toNat + 16 * (can h C && Nat.beq (rvl h C) 0).toNat
theorem gpl_some (W : WF h) {C : Nat} (h0 : 0 < C) (hC : C ≤ ev h) : gpl h C = some (gpv h C) := by
  obtain ⟨p, hp, hb⟩ := mem_ex W h0 hC
  have : gpl h C ≠ none := by
    refine lp_some (f := fun p b => bif C.testBit p then some (gp1 b (h 2 p)) else b) (fun k b hb => ?_) hp (fun b => ?_) none
    · cases C.testBit k
      · exact hb
      · intro e; cases e
    · rw [hb]; intro e; cases e
  unfold gpv
  cases e : gpl h C with
  | none => exact absurd e this
  | some x => rfl
theorem gpl_le (W : WF h) (C : Nat) : ∀ q, gpl h C = some q → q ≤ 99 := by
  refine lpP (f := fun p b => bif C.testBit p then some (gp1 b (h 2 p)) else b) (P := fun _ b => ∀ q, b = some q → q ≤ 99) (fun q hq => by cases hq) (fun k b _ hb q hq => ?_)
  have hp := W.place k
  revert hq
  cases C.testBit k
  · exact hb q
  · intro hq
    cases b with
    | none => cases hq; exact hp
    | some x =>
      have := hb x rfl
      cases hq
      show max x (h 2 k) ≤ 99
      omega
theorem c_max1 (hF : pm_fix pt_me pt_Sg (pt_R L0 xs) F) {b : Option Nat} {x : Nat} (hb : ∀ q, b = some q → q ≤ 99) (hx : x ≤ 99) : (F 1512 0 [some (.int (oI b)), some (.int (nI x))] [] (49, pt_G, I, L)) = some (some (.int (nI (gp1 b x))), (49, pt_G, I, L)) := by
  cases b with
  | none =>
    show (F 1512 0 [some (.int (-1)), some (.int (nI x))] [] (49, pt_G, I, L)) = _
    rw [e1512_0 hF]
    simp (disch := omega) only [z_mlt, ↓reduceIte]
    rfl
  | some q =>
    have := hb q rfl
    exact c_max hF (by omega) (by omega)
theorem lpi_le (C i : Nat) : lpi h C i ≤ i := by
  refine lpP (P := fun _ a => a ≤ i) (Nat.le_refl _) (fun k a _ ha => ?_)
  show (bif C.testBit k then min a (h 2 k) else a) ≤ i
  cases C.testBit k
  · exact ha
  · show min a (h 2 k) ≤ i; omega
theorem c_leastPlace (hF : pm_fix pt_me pt_Sg (pt_R L0 xs) F) (W : WF h) (H : CH h I) {C : Nat} (hC : C < 128) : (F 527 0 [some (.ref 3), some (.int (nI C)), none, none] [] (49, pt_G, I, L)) = some (some (.int (nI (lpi h C 999))), (49, pt_G, I, L)) := by
  have hP := W.P
  rw [e527_0 hF]
  refine ((lpI (G := fun k a => (F 527 6 [some (.ref 3), some (.int (nI C)), some (.int (nI a)), some (.int (nI k))] [] (49, pt_G, I, L))) (f := fun p a => bif C.testBit p then min a (h 2 p) else a) (P := fun _ a => a ≤ 999) (n := h 0 0) (a := 999) (Nat.le_refl _) (fun k a hk ha => ⟨?_, ?_⟩)).1).trans ?_
  · try dsimp only
    have hp := W.place k
    rw [e527_6 hF]
    simp (disch := omega) only [pm_k_i, Option.toList_some, Option.toList_none, List.cons_append, List.nil_append, cond_true, cond_false, ↓reduceIte, reduceCtorEq, z_1, nI_add, z_cl, z_ib, z_lt, z_le, z_eq, z_eq0, z_le0, z_lt0, z_b0, z_b1, z_m1, z_and7, Int32.add_zero, H.P, hk, c_isIn hF, e527_19 hF]
    cases C.testBit k
    · simp (disch := omega) only [pm_k_i, Option.toList_some, Option.toList_none, List.cons_append, List.nil_append, cond_true, cond_false, ↓reduceIte, reduceCtorEq, z_1, nI_add, z_cl, z_ib, z_lt, z_le, z_eq, z_eq0, z_le0, z_lt0, z_b0, z_b1, z_m1, z_and7, Int32.add_zero]
    · simp (disch := omega) only [pm_k_i, Option.toList_some, Option.toList_none, List.cons_append, List.nil_append, cond_true, cond_false, ↓reduceIte, reduceCtorEq, z_1, nI_add, z_cl, z_ib, z_lt, z_le, z_eq, z_eq0, z_le0, z_lt0, z_b0, z_b1, z_m1, z_and7, Int32.add_zero, c_placeOf hF W H, e527_28 hF, c_min hF, e527_31 hF]
  · cases C.testBit k
    · exact ha
    · show min a (h 2 k) ≤ 999; omega
  · try dsimp only
    rw [e527_6 hF]
    simp (disch := omega) only [pm_k_i, Option.toList_some, Option.toList_none, List.cons_append, List.nil_append, cond_true, cond_false, ↓reduceIte, reduceCtorEq, z_1, nI_add, z_cl, z_ib, z_lt, z_le, z_eq, z_eq0, z_le0, z_lt0, z_b0, z_b1, z_m1, z_and7, Int32.add_zero, H.P, Nat.lt_irrefl]
    rfl
theorem c_greatestPlace (hF : pm_fix pt_me pt_Sg (pt_R L0 xs) F) (W : WF h) (H : CH h I) {C : Nat} (h0 : 0 < C) (hC : C ≤ ev h) : (F 528 0 [some (.ref 3), some (.int (nI C)), none, none] [] (49, pt_G, I, L)) = some (some (.int (nI (gpv h C))), (49, pt_G, I, L)) := by
  have hP := W.P
  have hE := ev_lt W
  rw [e528_0 hF]
  refine ((lpI (G := fun k b => (F 528 4 [some (.ref 3), some (.int (nI C)), some (.int (oI b)), some (.int (nI k))] [] (49, pt_G, I, L))) (f := fun p b => bif C.testBit p then some (gp1 b (h 2 p)) else b) (P := fun _ b => ∀ q, b = some q → q ≤ 99) (n := h 0 0) (a := none) (fun q hq => by cases hq) (fun k b hk hb => ⟨?_, fun q hq => ?_⟩)).1).trans ?_
  · try dsimp only
    have hp := W.place k
    rw [e528_4 hF]
    simp (disch := omega) only [pm_k_i, Option.toList_some, Option.toList_none, List.cons_append, List.nil_append, cond_true, cond_false, ↓reduceIte, reduceCtorEq, z_1, nI_add, z_cl, z_ib, z_lt, z_le, z_eq, z_eq0, z_le0, z_lt0, z_b0, z_b1, z_m1, z_and7, Int32.add_zero, H.P, hk, c_isIn hF, e528_17 hF]
    cases C.testBit k
    · simp (disch := omega) only [pm_k_i, Option.toList_some, Option.toList_none, List.cons_append, List.nil_append, cond_true, cond_false, ↓reduceIte, reduceCtorEq, z_1, nI_add, z_cl, z_ib, z_lt, z_le, z_eq, z_eq0, z_le0, z_lt0, z_b0, z_b1, z_m1, z_and7, Int32.add_zero]
    · simp (disch := omega) only [pm_k_i, Option.toList_some, Option.toList_none, List.cons_append, List.nil_append, cond_true, cond_false, ↓reduceIte, reduceCtorEq, z_1, nI_add, z_cl, z_ib, z_lt, z_le, z_eq, z_eq0, z_le0, z_lt0, z_b0, z_b1, z_m1, z_and7, Int32.add_zero, c_placeOf hF W H, e528_26 hF, c_max1 hF hb hp, e528_29 hF]
      rfl
  · have hp := W.place k
    revert hq
    cases C.testBit k
    · exact hb q
    · intro hq
      cases b with
      | none => cases hq; exact hp
      | some x =>
        have := hb x rfl
        cases hq
        show max x (h 2 k) ≤ 99
        omega
  · show (F 528 4 [some (.ref 3), some (.int (nI C)), some (.int (oI (gpl h C))), some (.int (nI (h 0 0)))] [] (49, pt_G, I, L)) = _
    rw [gpl_some W h0 hC, e528_4 hF]
    simp (disch := omega) only [pm_k_i, Option.toList_some, Option.toList_none, List.cons_append, List.nil_append, cond_true, cond_false, ↓reduceIte, reduceCtorEq, z_1, nI_add, z_cl, z_ib, z_lt, z_le, z_eq, z_eq0, z_le0, z_lt0, z_b0, z_b1, z_m1, z_and7, Int32.add_zero, H.P, Nat.lt_irrefl, oI]
theorem c_isConnected (hF : pm_fix pt_me pt_Sg (pt_R L0 xs) F) (W : WF h) (H : CH h I) {C : Nat} (h0 : 0 < C) (hC : C ≤ ev h) : (F 529 0 [some (.ref 3), some (.int (nI C)), none, none, none] [] (49, pt_G, I, L)) = some (some (.int (nI (cnn h C).toNat)), (49, pt_G, I, L)) := by
  have hP := W.P
  have hE := ev_lt W
  have l1 := lpi_le (h := h) C 999
  have g1 := gpl_le W C (gpv h C) (gpl_some W h0 hC)
  rw [e529_0 hF]
  simp (disch := omega) only [pm_k_i, Option.toList_some, Option.toList_none, List.cons_append, List.nil_append, cond_true, cond_false, ↓reduceIte, reduceCtorEq, z_1, nI_add, z_cl, z_ib, z_lt, z_le, z_eq, z_eq0, z_le0, z_lt0, z_b0, z_b1, z_m1, z_and7, Int32.add_zero, c_leastPlace hF W H, e529_5 hF, c_greatestPlace hF W H h0 hC, e529_11 hF]
  refine (ffE (G := fun k => (F 529 15 [some (.ref 3), some (.int (nI C)), some (.int (nI (lpi h C 999))), some (.int (nI (gpv h C))), some (.int (nI k))] [] (49, pt_G, I, L))) (X := fun _ => (some (some (.int 0), (49, pt_G, I, L)) : pm_R)) (p := fun p => !C.testBit p && (decide (lpi h C 999 < h 2 p) && decide (h 2 p < gpv h C))) (n := h 0 0) (fun k hk => ?_)).trans ?_
  · try dsimp only
    have hp := W.place k
    rw [e529_15 hF]
    simp (disch := omega) only [pm_k_i, Option.toList_some, Option.toList_none, List.cons_append, List.nil_append, cond_true, cond_false, ↓reduceIte, reduceCtorEq, z_1, nI_add, z_cl, z_ib, z_lt, z_le, z_eq, z_eq0, z_le0, z_lt0, z_b0, z_b1, z_m1, z_and7, Int32.add_zero, H.P, hk, c_isIn hF, e529_30 hF]
    cases C.testBit k
    · simp (disch := omega) only [pm_k_i, Option.toList_some, Option.toList_none, List.cons_append, List.nil_append, cond_true, cond_false, ↓reduceIte, reduceCtorEq, z_1, nI_add, z_cl, z_ib, z_lt, z_le, z_eq, z_eq0, z_le0, z_lt0, z_b0, z_b1, z_m1, z_and7, Int32.add_zero, c_placeOf hF W H, e529_39 hF, Bool.not_false, Bool.true_and]
      by_cases c1 : h 2 k ≤ lpi h C 999
      · rw [if_pos c1, decide_eq_false (by omega)]
        rfl
      · rw [if_neg c1, decide_eq_true (by omega), Bool.true_and]
        simp (disch := omega) only [pm_k_i, Option.toList_some, Option.toList_none, List.cons_append, List.nil_append, cond_true, cond_false, ↓reduceIte, reduceCtorEq, z_1, nI_add, z_cl, z_ib, z_lt, z_le, z_eq, z_eq0, z_le0, z_lt0, z_b0, z_b1, z_m1, z_and7, Int32.add_zero, c_placeOf hF W H, e529_49 hF]
        by_cases c2 : h 2 k < gpv h C
        · rw [if_pos c2, decide_eq_true c2]; rfl
        · rw [if_neg c2, decide_eq_false c2]; rfl
    · simp (disch := omega) only [pm_k_i, Option.toList_some, Option.toList_none, List.cons_append, List.nil_append, cond_true, cond_false, ↓reduceIte, reduceCtorEq, z_1, nI_add, z_cl, z_ib, z_lt, z_le, z_eq, z_eq0, z_le0, z_lt0, z_b0, z_b1, z_m1, z_and7, Int32.add_zero, Bool.not_true, Bool.false_and]
  · unfold cnn
    cases ff (fun p => !C.testBit p && (decide (lpi h C 999 < h 2 p) && decide (h 2 p < gpv h C))) (h 0 0) with
    | some k => rfl
    | none =>
      dsimp only
      rw [e529_15 hF]
      simp (disch := omega) only [pm_k_i, Option.toList_some, Option.toList_none, List.cons_append, List.nil_append, cond_true, cond_false, ↓reduceIte, reduceCtorEq, z_1, nI_add, z_cl, z_ib, z_lt, z_le, z_eq, z_eq0, z_le0, z_lt0, z_b0, z_b1, z_m1, z_and7, Int32.add_zero, H.P, Nat.lt_irrefl]
      rfl
theorem rm_le (W : WF h) {c p : Nat} (hc : c ≤ ev h) (hp : p < 8) : rm c p ≤ ev h := by
  have hE := ev_lt W
  have := rm_lt c (by omega) p hp
  omega
theorem c_leadsWithout (hF : pm_fix pt_me pt_Sg (pt_R L0 xs) F) (W : WF h) (X : CT h I) {c p : Nat} (hc : c ≤ ev h) (hp : p < 8) : (F 311 0 [some (.ref 30), some (.int (nI c)), some (.int (nI p))] [] (49, pt_G, I, L)) = some (some (.int (nI (led h (rm c p)).toNat)), (49, pt_G, I, L)) := by
  have hE := ev_lt W
  rw [e311_0 hF]
  simp (disch := omega) only [pm_k_i, Option.toList_some, Option.toList_none, List.cons_append, List.nil_append, cond_true, cond_false, ↓reduceIte, reduceCtorEq, z_1, nI_add, z_cl, z_ib, z_lt, z_le, z_eq, z_eq0, z_le0, z_lt0, z_b0, z_b1, z_m1, z_and7, Int32.add_zero, z_rm, c_leads hF W X (rm_le W hc hp), e311_11 hF, z_and1, decide_true]
theorem c_isMinimal (hF : pm_fix pt_me pt_Sg (pt_R L0 xs) F) (W : WF h) (H : CH h I) (X : CT h I) {c : Nat} (hc : c ≤ ev h) : (F 312 0 [some (.ref 30), some (.int (nI c)), none] [] (49, pt_G, I, L)) = some (some (.int (nI (mnl h c).toNat)), (49, pt_G, I, L)) := by
  have hE := ev_lt W
  have hP := W.P
  rw [e312_0 hF]
  simp (disch := omega) only [pm_k_i, Option.toList_some, Option.toList_none, List.cons_append, List.nil_append, cond_true, cond_false, ↓reduceIte, reduceCtorEq, z_1, nI_add, z_cl, z_ib, z_lt, z_le, z_eq, z_eq0, z_le0, z_lt0, z_b0, z_b1, z_m1, z_and7, Int32.add_zero, c_leads hF W X hc, e312_5 hF]
  unfold mnl
  cases led h c with
  | false => simp (disch := omega) only [pm_k_i, Option.toList_some, Option.toList_none, List.cons_append, List.nil_append, cond_true, cond_false, ↓reduceIte, reduceCtorEq, z_1, nI_add, z_cl, z_ib, z_lt, z_le, z_eq, z_eq0, z_le0, z_lt0, z_b0, z_b1, z_m1, z_and7, Int32.add_zero, Bool.false_and]; rfl
  | true =>
    simp (disch := omega) only [pm_k_i, Option.toList_some, Option.toList_none, List.cons_append, List.nil_append, cond_true, cond_false, ↓reduceIte, reduceCtorEq, z_1, nI_add, z_cl, z_ib, z_lt, z_le, z_eq, z_eq0, z_le0, z_lt0, z_b0, z_b1, z_m1, z_and7, Int32.add_zero, Bool.true_and]
    refine (ffE (G := fun k => (F 312 12 [some (.ref 30), some (.int (nI c)), some (.int (nI k))] [] (49, pt_G, I, L))) (X := fun _ => (some (some (.int 0), (49, pt_G, I, L)) : pm_R)) (p := fun p => c.testBit p && led h (rm c p)) (n := h 0 0) (fun k hk => ?_)).trans ?_
    · try dsimp only
      rw [e312_12 hF]
      simp (disch := omega) only [pm_k_i, Option.toList_some, Option.toList_none, List.cons_append, List.nil_append, cond_true, cond_false, ↓reduceIte, reduceCtorEq, z_1, nI_add, z_cl, z_ib, z_lt, z_le, z_eq, z_eq0, z_le0, z_lt0, z_b0, z_b1, z_m1, z_and7, Int32.add_zero, H.P, hk, c_isIn hF, e312_28 hF]
      cases c.testBit k
      · simp (disch := omega) only [pm_k_i, Option.toList_some, Option.toList_none, List.cons_append, List.nil_append, cond_true, cond_false, ↓reduceIte, reduceCtorEq, z_1, nI_add, z_cl, z_ib, z_lt, z_le, z_eq, z_eq0, z_le0, z_lt0, z_b0, z_b1, z_m1, z_and7, Int32.add_zero, Bool.false_and]
      · simp (disch := omega) only [pm_k_i, Option.toList_some, Option.toList_none, List.cons_append, List.nil_append, cond_true, cond_false, ↓reduceIte, reduceCtorEq, z_1, nI_add, z_cl, z_ib, z_lt, z_le, z_eq, z_eq0, z_le0, z_lt0, z_b0, z_b1, z_m1, z_and7, Int32.add_zero, c_leadsWithout hF W X hc (show k < 8 by omega), e312_37 hF, Bool.true_and]
        cases led h (rm c k) <;> rfl
    · cases ff (fun p => c.testBit p && led h (rm c p)) (h 0 0) with
      | some k => rfl
      | none =>
        dsimp only
        rw [e312_12 hF]
        simp (disch := omega) only [pm_k_i, Option.toList_some, Option.toList_none, List.cons_append, List.nil_append, cond_true, cond_false, ↓reduceIte, reduceCtorEq, z_1, nI_add, z_cl, z_ib, z_lt, z_le, z_eq, z_eq0, z_le0, z_lt0, z_b0, z_b1, z_m1, z_and7, Int32.add_zero, H.P, Nat.lt_irrefl]
        rfl
theorem c_payOf (hF : pm_fix pt_me pt_Sg (pt_R L0 xs) F) (W : WF h) (X : FR h e v I L) {c p : Nat} (h0 : 0 < c) (hc : c ≤ ev h) (h1 : I 33 c = 1) (hp : p < h 0 0) : (F 308 0 [some (.ref 30), some (.int (nI c)), some (.int (nI p))] [] (49, pt_G, I, L)) = some (some (.int (pyc h c p)), (49, pt_G, I, L)) := by
  have hE := ev_lt W
  have hP := W.P
  have c127 := z_and127 c (by omega)
  have l := ((X.lr h0 hc h1).2.2 p hp).1
  rw [e308_0 hF]
  simp (disch := omega) only [pm_k_i, Option.toList_some, Option.toList_none, List.cons_append, List.nil_append, cond_true, cond_false, ↓reduceIte, reduceCtorEq, z_1, nI_add, z_cl, z_ib, z_lt, z_le, z_eq, z_eq0, z_le0, z_lt0, z_b0, z_b1, z_m1, z_and7, Int32.add_zero, c127, z_8m, l]
theorem c_paysMore (hF : pm_fix pt_me pt_Sg (pt_R L0 xs) F) (W : WF h) (X : FR h e v I L) {r c : Nat} (h0 : 0 < c) (hc : c ≤ ev h) (h1 : I 33 c = 1) (r0 : 0 < r) (hr : r ≤ ev h) (r1 : I 33 r = 1) : (F 318 0 [some (.ref 30), some (.int (nI r)), some (.int (nI c)), none] [] (49, pt_G, I, L)) = some (some (.int (nI (mor h r c).toNat)), (49, pt_G, I, L)) := by
  have hE := ev_lt W
  have hP := W.P
  rw [e318_0 hF]
  refine (ffE (G := fun k => (F 318 2 [some (.ref 30), some (.int (nI r)), some (.int (nI c)), some (.int (nI k))] [] (49, pt_G, I, L))) (X := fun _ => (some (some (.int 0), (49, pt_G, I, L)) : pm_R)) (p := fun p => r.testBit p && decide (pyc h r p ≤ pyc h c p)) (n := h 0 0) (fun k hk => ?_)).trans ?_
  · try dsimp only
    rw [e318_2 hF]
    simp (disch := omega) only [pm_k_i, Option.toList_some, Option.toList_none, List.cons_append, List.nil_append, cond_true, cond_false, ↓reduceIte, reduceCtorEq, z_1, nI_add, z_cl, z_ib, z_lt, z_le, z_eq, z_eq0, z_le0, z_lt0, z_b0, z_b1, z_m1, z_and7, Int32.add_zero, X.1.H.P, hk, c_isIn hF, e318_18 hF]
    cases r.testBit k
    · simp (disch := omega) only [pm_k_i, Option.toList_some, Option.toList_none, List.cons_append, List.nil_append, cond_true, cond_false, ↓reduceIte, reduceCtorEq, z_1, nI_add, z_cl, z_ib, z_lt, z_le, z_eq, z_eq0, z_le0, z_lt0, z_b0, z_b1, z_m1, z_and7, Int32.add_zero, Bool.false_and]
    · simp (disch := omega) only [pm_k_i, Option.toList_some, Option.toList_none, List.cons_append, List.nil_append, cond_true, cond_false, ↓reduceIte, reduceCtorEq, z_1, nI_add, z_cl, z_ib, z_lt, z_le, z_eq, z_eq0, z_le0, z_lt0, z_b0, z_b1, z_m1, z_and7, Int32.add_zero, c_payOf hF W X r0 hr r1 hk, e318_27 hF, c_payOf hF W X h0 hc h1 hk, e318_33 hF, Bool.true_and]
      by_cases q : pyc h r k ≤ pyc h c k
      · rw [if_pos q, decide_eq_true q]; rfl
      · rw [if_neg q, decide_eq_false q]; rfl
  · unfold mor
    cases ff (fun p => r.testBit p && decide (pyc h r p ≤ pyc h c p)) (h 0 0) with
    | some k => rfl
    | none =>
      dsimp only
      rw [e318_2 hF]
      simp (disch := omega) only [pm_k_i, Option.toList_some, Option.toList_none, List.cons_append, List.nil_append, cond_true, cond_false, ↓reduceIte, reduceCtorEq, z_1, nI_add, z_cl, z_ib, z_lt, z_le, z_eq, z_eq0, z_le0, z_lt0, z_b0, z_b1, z_m1, z_and7, Int32.add_zero, X.1.H.P, Nat.lt_irrefl]
      rfl
/-- those that can be are learnt -/
def AL (h : Nat → Nat → Nat) (I : Nat → Nat → Int32) : Prop := ∀ r, 0 < r → r ≤ ev h → can h r = true → I 33 r = 1
theorem c_firstRival (hF : pm_fix pt_me pt_Sg (pt_R L0 xs) F) (W : WF h) (X : FR h e v I L) (A : AL h I) {c : Nat} (h0 : 0 < c) (hc : c ≤ ev h) (h1 : I 33 c = 1) : (F 317 0 [some (.ref 30), some (.int (nI c)), none] [] (49, pt_G, I, L)) = some (some (.int (nI (rvl h c))), (49, pt_G, I, L)) := by
  have hE := ev_lt W
  rw [e317_0 hF]
  refine (ffE (G := fun k => (F 317 2 [some (.ref 30), some (.int (nI c)), some (.int (nI (k + 1)))] [] (49, pt_G, I, L))) (X := fun k => (some (some (.int (nI (k + 1))), (49, pt_G, I, L)) : pm_R)) (p := fun k => !Nat.beq (k + 1) c && (can h (k + 1) && mor h (k + 1) c)) (n := ev h) (fun k hk => ?_)).trans ?_
  · try dsimp only
    rw [e317_2 hF]
    simp (disch := omega) only [pm_k_i, Option.toList_some, Option.toList_none, List.cons_append, List.nil_append, cond_true, cond_false, ↓reduceIte, reduceCtorEq, z_1, nI_add, z_cl, z_ib, z_lt, z_le, z_eq, z_eq0, z_le0, z_lt0, z_b0, z_b1, z_m1, z_and7, Int32.add_zero, c_everyone hF W X.1.H, e317_10 hF, show (k + 1 ≤ ev h) = True from propext ⟨fun _ => trivial, fun _ => by omega⟩]
    by_cases q : k + 1 = c
    · rw [if_pos q, q, Nat.beq_refl]
      rfl
    · rw [if_neg q, beq_f q]
      simp (disch := omega) only [pm_k_i, Option.toList_some, Option.toList_none, List.cons_append, List.nil_append, cond_true, cond_false, ↓reduceIte, reduceCtorEq, z_1, nI_add, z_cl, z_ib, z_lt, z_le, z_eq, z_eq0, z_le0, z_lt0, z_b0, z_b1, z_m1, z_and7, Int32.add_zero, c_canBe hF W X.ct (show k + 1 ≤ ev h by omega), e317_23 hF, Bool.not_false, Bool.true_and]
      cases g : can h (k + 1) with
      | false => simp (disch := omega) only [pm_k_i, Option.toList_some, Option.toList_none, List.cons_append, List.nil_append, cond_true, cond_false, ↓reduceIte, reduceCtorEq, z_1, nI_add, z_cl, z_ib, z_lt, z_le, z_eq, z_eq0, z_le0, z_lt0, z_b0, z_b1, z_m1, z_and7, Int32.add_zero, Bool.false_and]
      | true =>
        simp (disch := omega) only [pm_k_i, Option.toList_some, Option.toList_none, List.cons_append, List.nil_append, cond_true, cond_false, ↓reduceIte, reduceCtorEq, z_1, nI_add, z_cl, z_ib, z_lt, z_le, z_eq, z_eq0, z_le0, z_lt0, z_b0, z_b1, z_m1, z_and7, Int32.add_zero, c_paysMore hF W X h0 hc h1 (show 0 < k + 1 by omega) (show k + 1 ≤ ev h by omega) (A (k + 1) (by omega) (by omega) g), e317_32 hF, Bool.true_and]
        cases mor h (k + 1) c <;> rfl
  · unfold rvl
    cases ff (fun k => !Nat.beq (k + 1) c && (can h (k + 1) && mor h (k + 1) c)) (ev h) with
    | some k => rfl
    | none =>
      dsimp only
      rw [e317_2 hF]
      simp (disch := omega) only [pm_k_i, Option.toList_some, Option.toList_none, List.cons_append, List.nil_append, cond_true, cond_false, ↓reduceIte, reduceCtorEq, z_1, nI_add, z_cl, z_ib, z_lt, z_le, z_eq, z_eq0, z_le0, z_lt0, z_b0, z_b1, z_m1, z_and7, Int32.add_zero, c_everyone hF W X.1.H, e317_10 hF, show (ev h + 1 ≤ ev h) = False from propext ⟨fun hh => by omega, False.elim⟩]
      rfl
theorem rvl_le (W : WF h) (c : Nat) : rvl h c ≤ ev h ∧ (0 < rvl h c → can h (rvl h c) = true) := by
  unfold rvl
  cases q : ff (fun k => !Nat.beq (k + 1) c && (can h (k + 1) && mor h (k + 1) c)) (ev h) with
  | none => exact ⟨Nat.zero_le _, fun hh => by dsimp only at hh; omega⟩
  | some k =>
    obtain ⟨a, b, _⟩ := ff_some q
    rw [Bool.and_eq_true, Bool.and_eq_true] at b
    exact ⟨by show k + 1 ≤ _; omega, fun _ => b.2.1⟩
/-- only what rivals and standings are kept in may change -/
theorem FR.of (X : FR h e v I L) (fr : ∀ r k, r ≠ 38 → r ≠ 39 → r ≠ 40 → I' r k = I r k) (f38 : ∀ c, 0 < c → c ≤ ev h → I' 38 c = I 38 c ∨ I' 38 c = nI (rvl h c)) (f39 : ∀ c, 0 < c → c ≤ ev h → I' 39 c = I 39 c ∨ I' 39 c = bif unb h c then 2 else 1) : FR h e v I' L := by
  obtain ⟨X1, X2⟩ := X
  have f : ∀ r k, r < 38 → I' r k = I r k := fun r k hr => fr r k (by omega) (by omega) (by omega)
  have Y := X1.ct X2
  refine ⟨⟨X1.H.of (fun k _ => f 3 k (by omega)) (fun r a b k => f r k (by omega)), by rw [f 3 8 (by omega)]; exact X1.e8, by rw [f 3 9 (by omega)]; exact X1.v9, X1.el, X1.vl, by rw [f 23 6 (by omega)]; exact X1.m6, X1.pc.of ⟨f 23 4 (by omega), f 23 5 (by omega), f 23 6 (by omega)⟩ (f 3 8 (by omega)) (fun k => f 24 k (by omega)) (fun k => f 26 k (by omega)) (fun _ => rfl), by rw [f 30 13 (by omega)]; exact X1.o13, fun q => (X1.ce (by rw [f 30 13 (by omega)] at q; exact q)).of (fun k => f 34 k (by omega)) (fun k => f 35 k (by omega)), by rw [f 30 14 (by omega)]; exact X1.o14, fun _ => ⟨by rw [f 30 13 (by omega)]; exact Y.1, by rw [f 30 12 (by omega)]; exact Y.2.1, fun c hc => by rw [f 31 c (by omega), f 32 c (by omega)]; exact Y.2.2.1 c hc, fun c c0 c1 => ?_⟩⟩, by rw [f 30 14 (by omega)]; exact X2⟩
  obtain ⟨y1, y2, y3⟩ := Y.2.2.2 c c0 c1
  refine ⟨?_, ?_, ?_⟩
  · rw [f 33 c (by omega)]
    rcases y1 with y | ⟨y, l1, l2, l3⟩
    · exact Or.inl y
    · exact Or.inr ⟨y, by rw [f 34 c (by omega)]; exact l1, by rw [f 35 c (by omega)]; exact l2, fun p hp => by rw [f 36 _ (by omega), f 37 _ (by omega)]; exact l3 p hp⟩
  · rcases f38 c c0 c1 with q | q
    · rw [q]; exact y2
    · exact Or.inr q
  · rcases f39 c c0 c1 with q | q
    · rw [q]; exact y3
    · exact Or.inr q
theorem c_rivalOf (hF : pm_fix pt_me pt_Sg (pt_R L0 xs) F) (W : WF h) (X : FR h e v I L) (A : AL h I) {c : Nat} (h0 : 0 < c) (hc : c ≤ ev h) (h1 : I 33 c = 1) : ∃ I', (F 316 0 [some (.ref 30), some (.int (nI c)), none] [] (49, pt_G, I, L)) = some (some (.int (nI (rvl h c))), (49, pt_G, I', L)) ∧ (∀ r k, r ≠ 38 → I' r k = I r k) ∧ FR h e v I' L := by
  have hE := ev_lt W
  have c127 := z_and127 c (by omega)
  have r1 := rvl_le W c
  rw [e316_0 hF]
  simp (disch := omega) only [pm_k_i, Option.toList_some, Option.toList_none, List.cons_append, List.nil_append, cond_true, cond_false, ↓reduceIte, reduceCtorEq, z_1, nI_add, z_cl, z_ib, z_lt, z_le, z_eq, z_eq0, z_le0, z_lt0, z_b0, z_b1, z_m1, z_and7, Int32.add_zero, c127]
  rcases (X.ct.2.2 c h0 hc).2.1 with q | q
  · rw [if_pos q]
    simp (disch := omega) only [pm_k_i, Option.toList_some, Option.toList_none, List.cons_append, List.nil_append, cond_true, cond_false, ↓reduceIte, reduceCtorEq, z_1, nI_add, z_cl, z_ib, z_lt, z_le, z_eq, z_eq0, z_le0, z_lt0, z_b0, z_b1, z_m1, z_and7, Int32.add_zero, c_firstRival hF W X A h0 hc h1, e316_25 hF, z_ue]
    refine ⟨_, rfl, fun r k hr => z_ur hr, X.of (fun r k a b c => z_ur a) (fun x x0 x1 => ?_) (fun x x0 x1 => Or.inl (z_ur (by omega)))⟩
    by_cases ee : x = c
    · subst ee; right; rw [z_ue]
    · left; rw [z_uk ee]
  · rw [if_neg (by rw [q, z_m1 (by omega)]; exact id)]
    simp (disch := omega) only [pm_k_i, Option.toList_some, Option.toList_none, List.cons_append, List.nil_append, cond_true, cond_false, ↓reduceIte, reduceCtorEq, z_1, nI_add, z_cl, z_ib, z_lt, z_le, z_eq, z_eq0, z_le0, z_lt0, z_b0, z_b1, z_m1, z_and7, Int32.add_zero, q]
    exact ⟨I, rfl, fun _ _ _ => rfl, X⟩
theorem c_kindOf (hF : pm_fix pt_me pt_Sg (pt_R L0 xs) F) (W : WF h) (X : FR h e v I L) (A : AL h I) {c : Nat} (h0 : 0 < c) (hc : c ≤ ev h) : ∃ I', (F 313 0 [some (.ref 30), some (.int (nI c)), none] [] (49, pt_G, I, L)) = some (some (.int (nI (kin h c))), (49, pt_G, I', L)) ∧ (∀ r k, r ≠ 38 → I' r k = I r k) ∧ FR h e v I' L := by
  have hE := ev_lt W
  have c127 := z_and127 c (by omega)
  have r1 := rvl_le W c
  have l32 := (X.ct.2.1 c hc).2
  rw [e313_0 hF]
  simp (disch := omega) only [pm_k_i, Option.toList_some, Option.toList_none, List.cons_append, List.nil_append, cond_true, cond_false, ↓reduceIte, reduceCtorEq, z_1, nI_add, z_cl, z_ib, z_lt, z_le, z_eq, z_eq0, z_le0, z_lt0, z_b0, z_b1, z_m1, z_and7, Int32.add_zero, c_leads hF W X.ct hc, e313_7 hF, c127, l32]
  have nocan : ∀ b, can h c = b → ∀ x : Int32, ∃ I', (F 313 63 [some (.ref 30), some (.int (nI c)), some (.int x)] [.int (nI b.toNat)] (49, pt_G, I, L)) = some (some (.int (if (can h c && Nat.beq (rvl h c) 0) = true then x ||| 16 else x)), (49, pt_G, I', L)) ∧ (∀ r k, r ≠ 38 → I' r k = I r k) ∧ FR h e v I' L := by
    intro b hb x
    rw [e313_63 hF, hb]
    cases b with
    | false =>
      simp (disch := omega) only [pm_k_i, Option.toList_some, Option.toList_none, List.cons_append, List.nil_append, cond_true, cond_false, ↓reduceIte, reduceCtorEq, z_1, nI_add, z_cl, z_ib, z_lt, z_le, z_eq, z_eq0, z_le0, z_lt0, z_b0, z_b1, z_m1, z_and7, Int32.add_zero, Bool.false_and]
      exact ⟨I, rfl, fun _ _ _ => rfl, X⟩
    | true =>
      obtain ⟨I', q1, q2, q3⟩ := c_rivalOf hF W X A h0 hc (A c h0 hc hb)
      simp (disch := omega) only [pm_k_i, Option.toList_some, Option.toList_none, List.cons_append, List.nil_append, cond_true, cond_false, ↓reduceIte, reduceCtorEq, z_1, nI_add, z_cl, z_ib, z_lt, z_le, z_eq, z_eq0, z_le0, z_lt0, z_b0, z_b1, z_m1, z_and7, Int32.add_zero, q1, e313_71 hF, Bool.true_and]
      refine ⟨I', ?_, q2, q3⟩
      by_cases z : rvl h c = 0
      · rw [if_pos z, z]; rfl
      · rw [if_neg z, beq_f z]; rfl
  have g := c_isMinimal (L := L) hF W X.1.H X.ct hc
  have gc := c_isConnected (L := L) hF W X.1.H h0 hc
  have gb := c_canBe (L := L) hF W X.ct hc
  have fin : ∀ x : Int32, x = nI ((led h c).toNat + 2 * (fre h c).toNat) → ∃ I', pm_k (F 312 0 [some (.ref 30), some (.int (nI c)), none] [] (49, pt_G, I, L)) (fun v S => F 313 35 [some (.ref 30), some (.int (nI c)), some (.int x)] (v.toList ++ []) S) = some (some (.int (nI (kin h c))), (49, pt_G, I', L)) ∧ (∀ r k, r ≠ 38 → I' r k = I r k) ∧ FR h e v I' L := by
    intro x hx
    have k1 : ∀ b1 b2 b3 b4 b5 : Bool, (if b5 = true then (if b4 = true then (if b3 = true then nI (b1.toNat + 2 * b2.toNat) ||| 4 else nI (b1.toNat + 2 * b2.toNat)) ||| 8 else (if b3 = true then nI (b1.toNat + 2 * b2.toNat) ||| 4 else nI (b1.toNat + 2 * b2.toNat))) ||| 16 else (if b4 = true then (if b3 = true then nI (b1.toNat + 2 * b2.toNat) ||| 4 else nI (b1.toNat + 2 * b2.toNat)) ||| 8 else (if b3 = true then nI (b1.toNat + 2 * b2.toNat) ||| 4 else nI (b1.toNat + 2 * b2.toNat)))) = nI (b1.toNat + 2 * b2.toNat + 4 * b3.toNat + 8 * b4.toNat + 16 * b5.toNat) := by decide +kernel
    have k2 := k1 (led h c) (fre h c) (mnl h c) (cnn h c) (can h c && Nat.beq (rvl h c) 0)
    subst hx
    rw [g]
    simp (disch := omega) only [pm_k_i, Option.toList_some, Option.toList_none, List.cons_append, List.nil_append, cond_true, cond_false, ↓reduceIte, reduceCtorEq, z_1, nI_add, z_cl, z_ib, z_lt, z_le, z_eq, z_eq0, z_le0, z_lt0, z_b0, z_b1, z_m1, z_and7, Int32.add_zero, e313_35 hF]
    have k3 : (kin h c) = (led h c).toNat + 2 * (fre h c).toNat + 4 * (mnl h c).toNat + 8 * (cnn h c).toNat + 16 * (can h c && Nat.beq (rvl h c) 0).toNat := rfl
    rw [k3, ← k2]
    cases mnl h c <;> cases hcn : cnn h c <;> simp (disch := omega) only [pm_k_i, Option.toList_some, Option.toList_none, List.cons_append, List.nil_append, cond_true, cond_false, ↓reduceIte, reduceCtorEq, z_1, nI_add, z_cl, z_ib, z_lt, z_le, z_eq, z_eq0, z_le0, z_lt0, z_b0, z_b1, z_m1, z_and7, Int32.add_zero, gc, e313_50 hF, gb, hcn] <;> exact nocan _ rfl _
  revert fin
  cases led h c <;> cases fre h c <;> intro fin <;> simp (disch := omega) only [pm_k_i, Option.toList_some, Option.toList_none, List.cons_append, List.nil_append, cond_true, cond_false, ↓reduceIte, reduceCtorEq, z_1, nI_add, z_cl, z_ib, z_lt, z_le, z_eq, z_eq0, z_le0, z_lt0, z_b0, z_b1, z_m1, z_and7, Int32.add_zero] <;> exact fin _ (by decide +kernel)
end
