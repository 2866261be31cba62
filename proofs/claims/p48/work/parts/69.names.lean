/-! ===== names that are told, what is told so far ===== -/
section
variable {I I' : Nat → Nat → Int32} {L L' : Nat → Nat → Int64}
variable {F : pm_F} {L0 : Nat} {xs : Nat → Int32}
variable {n q f : Nat} {b : Nat → Nat} {d : Nat → Nat → Nat}
/-- d: a house that is being told (WF), and: 0 8 which lines came; 7, 8 where names of parties, offices stand; 9, 10 whose worths, stances are told -/
def pfn (n : Nat) (b : Nat → Nat) (d : Nat → Nat → Nat) (q : Nat) : Option Nat := ff (fun p => Nat.beq (e5 n b (d 7 p)) (e5 n b q)) (d 0 0)
def ofn (n : Nat) (b : Nat → Nat) (d : Nat → Nat → Nat) (q : Nat) : Option Nat := ff (fun o => Nat.beq (e5 n b (d 8 o)) (e5 n b q)) (d 0 1)
def oF (n : Nat) (b : Nat → Nat) (d : Nat → Nat → Nat) (q f : Nat) : Nat := if f = 0 then (bif (pfn n b d q).isSome || (ofn n b d q).isSome then 3 else 0) else f
def oK (r : Option Nat) (f : Nat) : Nat := if f = 0 then (bif r.isSome then 0 else 3) else f
/-- one thing more is told -/
def ud (d : Nat → Nat → Nat) (a k v : Nat) : Nat → Nat → Nat := fun x y => if x = a ∧ y = k then v else d x y
/-- what has been told is in order -/
def DG (n : Nat) (b : Nat → Nat) (d : Nat → Nat → Nat) : Prop := WF d ∧ d 0 8 < 32 ∧ (∀ p, p < d 0 0 → kd n b (d 7 p) = 1) ∧ (∀ o, o < d 0 1 → kd n b (d 8 o) = 1) ∧ (∀ p, d 9 p < 256 ∧ d 10 p < 256) ∧ (∀ p o, o < 8 → (d 9 p).testBit o = false → d 5 (8 * p + o) = 0) ∧ ∀ p o, o < 8 → (d 10 p).testBit o = false → d 6 (8 * p + o) = 0
def CD (n : Nat) (b : Nat → Nat) (d : Nat → Nat → Nat) (I : Nat → Nat → Int32) (L : Nat → Nat → Int64) : Prop := (∀ k, k < 8 → I 11 k = nI (d 0 k)) ∧ I 10 7 = nI (d 0 8) ∧ (∀ p, p < d 0 0 → I 12 p = nI (d 1 p) ∧ I 13 p = nI (d 2 p) ∧ I 14 p = nI (d 3 p) ∧ L 19 p = lN (e5 n b (d 7 p))) ∧ (∀ p, p < 8 → I 15 p = nI (d 4 p) ∧ I 21 p = nI (d 9 p) ∧ I 22 p = nI (d 10 p)) ∧ (∀ x, x < 64 → I 16 x = nI (d 5 x) ∧ I 17 x = nI (d 6 x)) ∧ ∀ o, o < d 0 1 → L 20 o = lN (e5 n b (d 8 o))
theorem CD.of (X : CD n b d I L) (f10 : I' 10 7 = I 10 7) (f : ∀ r j, 11 ≤ r → r ≤ 22 → I' r j = I r j) (g : ∀ r j, r = 19 ∨ r = 20 → L' r j = L r j) : CD n b d I' L' := by
  obtain ⟨x1, x2, x3, x4, x5, x6⟩ := X
  exact ⟨fun k hk => by rw [f 11 k (by omega) (by omega)]; exact x1 k hk, by rw [f10]; exact x2, fun p hp => by rw [f 12 p (by omega) (by omega), f 13 p (by omega) (by omega), f 14 p (by omega) (by omega), g 19 p (by omega)]; exact x3 p hp, fun p hp => by rw [f 15 p (by omega) (by omega), f 21 p (by omega) (by omega), f 22 p (by omega) (by omega)]; exact x4 p hp, fun x hx => by rw [f 16 x (by omega) (by omega), f 17 x (by omega) (by omega)]; exact x5 x hx, fun o ho => by rw [g 20 o (by omega)]; exact x6 o ho⟩
theorem FP.cd (a : FP I I' L L') (X : CD n b d I L) : CD n b d I' L' := X.of (a.1 10 7 (by omega)) (fun r j p q => a.1 r j (by omega)) (fun r j p => a.2 r j (by omega))
theorem DG.P (X : DG n b d) : d 0 0 ≤ 7 := X.1.P
theorem DG.O (X : DG n b d) : d 0 1 ≤ 8 := X.1.O
theorem c_findB (hF : pm_fix pt_me pt_Sg (pt_R L0 xs) F) {m : Nat} (hm : m ≤ 8) (y : Int64) : (F 720 0 [some (.ref 19), some (.int (nI m)), some (.long y), none, none] [] (49, pt_G, I, L)) = some (some (.int (oI (ff (fun k => decide (L 19 k = y)) m))), (49, pt_G, I, L)) := by
  rw [e720_0b hF]
  refine (ffE (G := fun k => (F 720 3 [some (.ref 19), some (.int (nI m)), some (.long y), none, some (.int (nI k))] [] (49, pt_G, I, L))) (X := fun k => (some (some (.int (nI k)), (49, pt_G, I, L)) : pm_R)) (p := fun k => decide (L 19 k = y)) (n := m) (fun k hk => ?_)).trans ?_
  · try dsimp only
    rw [e720_3b hF]
    simp (disch := omega) only [pm_k_i, Option.toList_some, Option.toList_none, List.cons_append, List.nil_append, cond_true, cond_false, ↓reduceIte, reduceCtorEq, z_1, nI_add, z_cl, z_ib, z_lt, z_le, z_eq, z_eq0, z_le0, z_lt0, z_b0, z_b1, z_m1, z_and7, Int32.add_zero, hk, show (k < 8) = True from propext ⟨fun _ => trivial, fun _ => by omega⟩, lc_eq]
    by_cases c : L 19 k = y
    · rw [if_pos c, decide_eq_true c]; rfl
    · rw [if_neg c, decide_eq_false c]; rfl
  · cases ff (fun k => decide (L 19 k = y)) m with
    | some k => rfl
    | none =>
      dsimp only
      rw [e720_3b hF]
      simp (disch := omega) only [pm_k_i, Option.toList_some, Option.toList_none, List.cons_append, List.nil_append, cond_true, cond_false, ↓reduceIte, reduceCtorEq, z_1, nI_add, z_cl, z_ib, z_lt, z_le, z_eq, z_eq0, z_le0, z_lt0, z_b0, z_b1, z_m1, z_and7, Int32.add_zero, Nat.lt_irrefl]
      rfl
theorem c_findC (hF : pm_fix pt_me pt_Sg (pt_R L0 xs) F) {m : Nat} (hm : m ≤ 8) (y : Int64) : (F 720 0 [some (.ref 20), some (.int (nI m)), some (.long y), none, none] [] (49, pt_G, I, L)) = some (some (.int (oI (ff (fun k => decide (L 20 k = y)) m))), (49, pt_G, I, L)) := by
  rw [e720_0c hF]
  refine (ffE (G := fun k => (F 720 3 [some (.ref 20), some (.int (nI m)), some (.long y), none, some (.int (nI k))] [] (49, pt_G, I, L))) (X := fun k => (some (some (.int (nI k)), (49, pt_G, I, L)) : pm_R)) (p := fun k => decide (L 20 k = y)) (n := m) (fun k hk => ?_)).trans ?_
  · try dsimp only
    rw [e720_3c hF]
    simp (disch := omega) only [pm_k_i, Option.toList_some, Option.toList_none, List.cons_append, List.nil_append, cond_true, cond_false, ↓reduceIte, reduceCtorEq, z_1, nI_add, z_cl, z_ib, z_lt, z_le, z_eq, z_eq0, z_le0, z_lt0, z_b0, z_b1, z_m1, z_and7, Int32.add_zero, hk, show (k < 8) = True from propext ⟨fun _ => trivial, fun _ => by omega⟩, lc_eq]
    by_cases c : L 20 k = y
    · rw [if_pos c, decide_eq_true c]; rfl
    · rw [if_neg c, decide_eq_false c]; rfl
  · cases ff (fun k => decide (L 20 k = y)) m with
    | some k => rfl
    | none =>
      dsimp only
      rw [e720_3c hF]
      simp (disch := omega) only [pm_k_i, Option.toList_some, Option.toList_none, List.cons_append, List.nil_append, cond_true, cond_false, ↓reduceIte, reduceCtorEq, z_1, nI_add, z_cl, z_ib, z_lt, z_le, z_eq, z_eq0, z_le0, z_lt0, z_b0, z_b1, z_m1, z_and7, Int32.add_zero, Nat.lt_irrefl]
      rfl
theorem e5_dec {a c : Nat} (ha : wln n b a ≤ 8) (hc : wln n b c ≤ 8) : decide (lN (e5 n b a) = lN (e5 n b c)) = Nat.beq (e5 n b a) (e5 n b c) := by
  have h1 := e5_le (n := n) (q := a) (b := b) ha
  have h2 := e5_le (n := n) (q := c) (b := b) hc
  by_cases e : e5 n b a = e5 n b c
  · rw [e, Nat.beq_refl, decide_eq_true rfl]
  · rw [beq_f e, decide_eq_false (fun z => e ((pk_lEQ (by omega) (by omega)).mp z))]
theorem CD.pf (X : CD n b d I L) (G : DG n b d) (hq : wln n b q ≤ 8) : ff (fun k => decide (L 19 k = lN (e5 n b q))) (d 0 0) = pfn n b d q :=
  ff_congr (fun p hp => by rw [(X.2.2.1 p hp).2.2.2]; exact e5_dec (kd_1 (G.2.2.1 p hp)).2.1 hq)
theorem CD.off (X : CD n b d I L) (G : DG n b d) (hq : wln n b q ≤ 8) : ff (fun k => decide (L 20 k = lN (e5 n b q))) (d 0 1) = ofn n b d q :=
  ff_congr (fun o ho => by rw [X.2.2.2.2.2 o ho]; exact e5_dec (kd_1 (G.2.2.2.1 o ho)).2.1 hq)
theorem c_checkNew (hF : pm_fix pt_me pt_Sg (pt_R L0 xs) F) (X : CP n b q f I L) (D : CD n b d I L) (G : DG n b d) {y : Int64} (hy : f = 0 → y = lN (e5 n b q) ∧ wln n b q ≤ 8) : ∃ I', (F 717 0 [some (.ref 10), some (.long y), none] [] (49, pt_G, I, L)) = some (none, (49, pt_G, I', L)) ∧ FP I I' L L ∧ CP n b q (oF n b d q f) I' L := by
  have hP := G.P
  have hO := G.O
  rw [e717_0 hF, D.1 0 (by omega), c_findB hF (by omega) y]
  simp (disch := omega) only [pm_k_i, Option.toList_some, Option.toList_none, List.cons_append, List.nil_append, cond_true, cond_false, ↓reduceIte, reduceCtorEq, z_1, nI_add, z_cl, z_ib, z_lt, z_le, z_eq, z_eq0, z_le0, z_lt0, z_b0, z_b1, z_m1, z_and7, Int32.add_zero, e717_15 hF]
  -- behind the first
  have key : ∀ (J : Nat → Nat → Int32) (g : Nat), FP I J L L → CP n b q g J L → ∃ I', (F 717 24 [some (.ref 10), some (.long y), none] [] (49, pt_G, J, L)) = some (none, (49, pt_G, I', L)) ∧ FP I I' L L ∧ CP n b q (bif (ff (fun k => decide (L 20 k = y)) (d 0 1)).isSome then fk g 3 else g) I' L := by
    intro J g f1 XJ
    obtain ⟨A, a1, a2, a3⟩ := c_fail hF XJ (k := 3) (by omega) (by omega)
    have a1 : (F 704 0 [some (.ref 10), some (.int 3)] [] (49, pt_G, J, L)) = _ := a1
    have j11 : J 11 1 = nI (d 0 1) := by rw [f1.1 11 1 (by omega)]; exact D.1 1 (by omega)
    rw [e717_24 hF, j11, c_findC hF (by omega) y]
    simp (disch := omega) only [pm_k_i, Option.toList_some, Option.toList_none, List.cons_append, List.nil_append, cond_true, cond_false, ↓reduceIte, reduceCtorEq, z_1, nI_add, z_cl, z_ib, z_lt, z_le, z_eq, z_eq0, z_le0, z_lt0, z_b0, z_b1, z_m1, z_and7, Int32.add_zero, e717_39 hF, a1]
    cases e : ff (fun k => decide (L 20 k = y)) (d 0 1) with
    | none =>
      rw [if_pos (show oI none = -1 from rfl), e717_48 hF]
      exact ⟨J, rfl, f1, XJ⟩
    | some k =>
      have := (ff_some e).1
      rw [if_neg (show ¬ oI (some k) = -1 by rw [show oI (some k) = nI k from rfl, z_m1 (by omega)]; exact id), e717_48 hF]
      exact ⟨A, rfl, f1.tr a2, a3⟩
  obtain ⟨A, a1, a2, a3⟩ := c_fail hF X (k := 3) (by omega) (by omega)
  have a1 : (F 704 0 [some (.ref 10), some (.int 3)] [] (49, pt_G, I, L)) = _ := a1
  rw [a1]
  simp (disch := omega) only [pm_k_i, Option.toList_some, Option.toList_none, List.cons_append, List.nil_append, cond_true, cond_false, ↓reduceIte, reduceCtorEq, z_1, nI_add, z_cl, z_ib, z_lt, z_le, z_eq, z_eq0, z_le0, z_lt0, z_b0, z_b1, z_m1, z_and7, Int32.add_zero]
  have fin : oF n b d q f = (bif (ff (fun k => decide (L 20 k = y)) (d 0 1)).isSome then fk (bif (ff (fun k => decide (L 19 k = y)) (d 0 0)).isSome then fk f 3 else f) 3 else (bif (ff (fun k => decide (L 19 k = y)) (d 0 0)).isSome then fk f 3 else f)) := by
    by_cases c : f = 0
    · obtain ⟨y1, y2⟩ := hy c
      rw [y1, D.pf G y2, D.off G y2]
      unfold oF
      rw [c]
      cases (pfn n b d q).isSome <;> cases (ofn n b d q).isSome <;> rfl
    · have e1 : fk f 3 = f := if_neg c
      have e2 : oF n b d q f = f := if_neg c
      rw [e1, e2]
      cases (ff (fun k => decide (L 19 k = y)) (d 0 0)).isSome <;> cases (ff (fun k => decide (L 20 k = y)) (d 0 1)).isSome <;> first | rfl | exact e1.symm
  rw [fin]
  cases e : ff (fun k => decide (L 19 k = y)) (d 0 0) with
  | none =>
    rw [if_pos (show oI none = -1 from rfl)]
    exact key I f FP.rf X
  | some k =>
    have := (ff_some e).1
    rw [if_neg (show ¬ oI (some k) = -1 by rw [show oI (some k) = nI k from rfl, z_m1 (by omega)]; exact id)]
    exact key A (fk f 3) a2 a3
theorem c_knownP (hF : pm_fix pt_me pt_Sg (pt_R L0 xs) F) (X : CP n b q f I L) (D : CD n b d I L) (G : DG n b d) {y : Int64} (hy : f = 0 → y = lN (e5 n b q) ∧ wln n b q ≤ 8) : ∃ I' i, (F 718 0 [some (.ref 10), some (.ref 19), some (.int (nI (d 0 0))), some (.long y), none, none] [] (49, pt_G, I, L)) = some (some (.int (nI i)), (49, pt_G, I', L)) ∧ i < 8 ∧ FP I I' L L ∧ CP n b q (oK (pfn n b d q) f) I' L ∧ (oK (pfn n b d q) f = 0 → pfn n b d q = some i) := by
  have hP := G.P
  obtain ⟨A, a1, a2, a3⟩ := c_fail hF X (k := 3) (by omega) (by omega)
  have a1 : (F 704 0 [some (.ref 10), some (.int 3)] [] (49, pt_G, I, L)) = _ := a1
  rw [e718_0a hF, c_findB hF (by omega) y]
  simp (disch := omega) only [pm_k_i, Option.toList_some, Option.toList_none, List.cons_append, List.nil_append, cond_true, cond_false, ↓reduceIte, reduceCtorEq, z_1, nI_add, z_cl, z_ib, z_lt, z_le, z_eq, z_eq0, z_le0, z_lt0, z_b0, z_b1, z_m1, z_and7, Int32.add_zero, e718_6a hF, a1, e718_19a hF]
  by_cases c : f = 0
  · obtain ⟨y1, y2⟩ := hy c
    rw [y1, D.pf G y2]
    have eo : oK (pfn n b d q) f = bif (pfn n b d q).isSome then 0 else 3 := if_pos c
    have e3 : fk f 3 = 3 := if_pos c
    rw [e3] at a3
    rw [eo]
    cases e : pfn n b d q with
    | none =>
      rw [if_pos (show oI none = -1 from rfl)]
      exact ⟨A, 7, rfl, by omega, a2, a3, fun z => by cases z⟩
    | some k =>
      have := (ff_some e).1
      rw [if_neg (show ¬ oI (some k) = -1 by rw [show oI (some k) = nI k from rfl, z_m1 (by omega)]; exact id), show oI (some k) = nI k from rfl, z_and7 k (by omega)]
      subst c
      exact ⟨I, k, rfl, by omega, FP.rf, X, fun _ => rfl⟩
  · have eo : oK (pfn n b d q) f = f := if_neg c
    have e3 : fk f 3 = f := if_neg c
    rw [e3] at a3
    rw [eo]
    cases e : ff (fun k => decide (L 19 k = y)) (d 0 0) with
    | none =>
      rw [if_pos (show oI none = -1 from rfl)]
      exact ⟨A, 7, rfl, by omega, a2, a3, fun z => absurd z c⟩
    | some k =>
      have := (ff_some e).1
      rw [if_neg (show ¬ oI (some k) = -1 by rw [show oI (some k) = nI k from rfl, z_m1 (by omega)]; exact id), show oI (some k) = nI k from rfl, z_and7 k (by omega)]
      exact ⟨I, k, rfl, by omega, FP.rf, X, fun z => absurd z c⟩
theorem c_knownO (hF : pm_fix pt_me pt_Sg (pt_R L0 xs) F) (X : CP n b q f I L) (D : CD n b d I L) (G : DG n b d) {y : Int64} (hy : f = 0 → y = lN (e5 n b q) ∧ wln n b q ≤ 8) : ∃ I' i, (F 718 0 [some (.ref 10), some (.ref 20), some (.int (nI (d 0 1))), some (.long y), none, none] [] (49, pt_G, I, L)) = some (some (.int (nI i)), (49, pt_G, I', L)) ∧ i < 8 ∧ FP I I' L L ∧ CP n b q (oK (ofn n b d q) f) I' L ∧ (oK (ofn n b d q) f = 0 → ofn n b d q = some i) := by
  have hP := G.O
  obtain ⟨A, a1, a2, a3⟩ := c_fail hF X (k := 3) (by omega) (by omega)
  have a1 : (F 704 0 [some (.ref 10), some (.int 3)] [] (49, pt_G, I, L)) = _ := a1
  rw [e718_0b hF, c_findC hF (by omega) y]
  simp (disch := omega) only [pm_k_i, Option.toList_some, Option.toList_none, List.cons_append, List.nil_append, cond_true, cond_false, ↓reduceIte, reduceCtorEq, z_1, nI_add, z_cl, z_ib, z_lt, z_le, z_eq, z_eq0, z_le0, z_lt0, z_b0, z_b1, z_m1, z_and7, Int32.add_zero, e718_6b hF, a1, e718_19b hF]
  by_cases c : f = 0
  · obtain ⟨y1, y2⟩ := hy c
    rw [y1, D.off G y2]
    have eo : oK (ofn n b d q) f = bif (ofn n b d q).isSome then 0 else 3 := if_pos c
    have e3 : fk f 3 = 3 := if_pos c
    rw [e3] at a3
    rw [eo]
    cases e : ofn n b d q with
    | none =>
      rw [if_pos (show oI none = -1 from rfl)]
      exact ⟨A, 7, rfl, by omega, a2, a3, fun z => by cases z⟩
    | some k =>
      have := (ff_some e).1
      rw [if_neg (show ¬ oI (some k) = -1 by rw [show oI (some k) = nI k from rfl, z_m1 (by omega)]; exact id), show oI (some k) = nI k from rfl, z_and7 k (by omega)]
      subst c
      exact ⟨I, k, rfl, by omega, FP.rf, X, fun _ => rfl⟩
  · have eo : oK (ofn n b d q) f = f := if_neg c
    have e3 : fk f 3 = f := if_neg c
    rw [e3] at a3
    rw [eo]
    cases e : ff (fun k => decide (L 20 k = y)) (d 0 1) with
    | none =>
      rw [if_pos (show oI none = -1 from rfl)]
      exact ⟨A, 7, rfl, by omega, a2, a3, fun z => absurd z c⟩
    | some k =>
      have := (ff_some e).1
      rw [if_neg (show ¬ oI (some k) = -1 by rw [show oI (some k) = nI k from rfl, z_m1 (by omega)]; exact id), show oI (some k) = nI k from rfl, z_and7 k (by omega)]
      exact ⟨I, k, rfl, by omega, FP.rf, X, fun z => absurd z c⟩
/-- a line that comes once -/
def oO (d : Nat → Nat → Nat) (k : Nat) : Nat := bif (d 0 8).testBit k then 2 else 0
theorem c_checkOnce (hF : pm_fix pt_me pt_Sg (pt_R L0 xs) F) (X : CP n b q 0 I L) (D : CD n b d I L) (G : DG n b d) {k : Nat} (hk : k < 5) (h1 : kd n b q = 1) (hw : kw n b q = some k) : ∃ I', (F 707 0 [some (.ref 10)] [] (49, pt_G, I, L)) = some (none, (49, pt_G, I', L)) ∧ (∀ r j, (r = 10 → j < 7) → I' r j = I r j) ∧ CP n b q (oO d k) I' L ∧ CD n b (ud d 0 8 (ad (d 0 8) k)) I' L := by
  have g8 := G.2.1
  have d8 := D.2.1
  have ck := X.2.2.2.2.2.1 rfl
  have w : I 10 15 = nI k := by rw [ck.2.2.2.1, if_pos h1, hw]; rfl
  have h8 : I 10 8 = nI 0 := X.2.2.2.1
  have m0 : nI (d 0 8) ||| ((1 : Int32) <<< (nI k &&& 31)) = nI (ad (d 0 8) k) := z_ad _ (by omega) k (by omega)
  have cd : ∀ J : Nat → Nat → Int32, (∀ r j, (r = 10 → j < 7) → J r j = I r j) → J 10 7 = nI (ad (d 0 8) k) → CD n b (ud d 0 8 (ad (d 0 8) k)) J L := by
    intro J f j7
    obtain ⟨x1, x2, x3, x4, x5, x6⟩ := D
    refine ⟨fun j hj => ?_, ?_, fun p p0 => ?_, fun p p0 => ?_, fun x hx => ?_, x6⟩
    · rw [f 11 j (by omega), show ud d 0 8 (ad (d 0 8) k) 0 j = d 0 j from if_neg (by omega)]; exact x1 j hj
    · exact j7
    · rw [f 12 p (by omega), f 13 p (by omega), f 14 p (by omega)]; exact x3 p p0
    · rw [f 15 p (by omega), f 21 p (by omega), f 22 p (by omega)]; exact x4 p p0
    · rw [f 16 x (by omega), f 17 x (by omega)]; exact x5 x hx
  obtain ⟨x1, x2, x3, x4, x5, x6, x7⟩ := X
  rw [e707_0 hF, w, d8]
  simp (disch := omega) only [pm_k_i, Option.toList_some, Option.toList_none, List.cons_append, List.nil_append, cond_true, cond_false, ↓reduceIte, reduceCtorEq, z_1, nI_add, z_cl, z_ib, z_lt, z_le, z_eq, z_eq0, z_le0, z_lt0, z_b0, z_b1, z_m1, z_and7, Int32.add_zero, c_isIn hF, e707_11 hF, e704_0 hF, h8]
  unfold oO
  cases (d 0 8).testBit k with
  | false =>
    simp (disch := omega) only [pm_k_i, Option.toList_some, Option.toList_none, List.cons_append, List.nil_append, cond_true, cond_false, ↓reduceIte, reduceCtorEq, z_1, nI_add, z_cl, z_ib, z_lt, z_le, z_eq, z_eq0, z_le0, z_lt0, z_b0, z_b1, z_m1, z_and7, Int32.add_zero, e707_19 hF, w, d8, m0]
    have fr : ∀ r j, (r = 10 → j < 7) → (pm_ui I 10 7 (nI (ad (d 0 8) k))) r j = I r j := by
      intro r j a
      by_cases z : r = 10
      · have := a z; rw [z, z_uk (by omega)]
      · rw [z_ur z]
    refine ⟨_, rfl, fr, ⟨x1.of (by rw [z_ur (by omega)]) (fun i => by rw [z_ur (by omega)]), x2, x3, by rw [z_uk (by omega)]; exact x4, by rw [z_uk (by omega)]; exact x5, fun _ => ?_, x7⟩, cd _ fr (by rw [z_ue])⟩
    obtain ⟨c1, c2, c3, c4, c5, c6⟩ := ck
    exact ⟨by rw [z_uk (by omega)]; exact c1, by rw [z_uk (by omega)]; exact c2, by rw [z_uk (by omega)]; exact c3, by rw [z_uk (by omega)]; exact c4, fun z => by rw [z_uk (by omega)]; exact c5 z, c6⟩
  | true =>
    simp (disch := omega) only [pm_k_i, Option.toList_some, Option.toList_none, List.cons_append, List.nil_append, cond_true, cond_false, ↓reduceIte, reduceCtorEq, z_1, nI_add, z_cl, z_ib, z_lt, z_le, z_eq, z_eq0, z_le0, z_lt0, z_b0, z_b1, z_m1, z_and7, Int32.add_zero, e707_19 hF, z_uk, w, d8, m0]
    have fr : ∀ r j, (r = 10 → j < 7) → (pm_ui (pm_ui (pm_ui I 10 8 2) 10 9 (I 10 11)) 10 7 (nI (ad (d 0 8) k))) r j = I r j := by
      intro r j a
      by_cases z : r = 10
      · have := a z; rw [z, z_uk (by omega), z_uk (by omega), z_uk (by omega)]
      · rw [z_ur z, z_ur z, z_ur z]
    refine ⟨_, rfl, fr, ⟨x1.of (by rw [z_ur (by omega), z_ur (by omega), z_ur (by omega)]) (fun i => by rw [z_ur (by omega), z_ur (by omega), z_ur (by omega)]), x2, x3, by rw [z_uk (by omega), z_uk (by omega), z_ue]; rfl, ?_, fun z => by omega, by omega⟩, cd _ fr (by rw [z_ue])⟩
    rw [z_uk (by omega), z_ue, if_neg (by omega)]
    exact ck.2.1
end
