/-! ===== the grown text, line by line ===== -/
/-- a line: which kind, its numbers: 0 divisors, 1 care, 2 tries, 3 tire, 4 office, 5 party, 6 party that walks, 7 worth, 8 stance, 9 bar, 10 need -/
abbrev LN : Type := Nat × Nat × Nat × Nat × Nat
def ltx : LN → List Nat
  | (0, f, s, _, _) => qt_sn 0 ++ qt_dg f ++ qt_sn 1 ++ qt_dg s ++ qt_sn 2
  | (1, c, _, _, _) => qt_sn 3 ++ qt_dg c ++ qt_sn 2
  | (2, n, _, _, _) => qt_sn 4 ++ qt_dg n ++ qt_sn 2
  | (3, n, _, _, _) => qt_sn 5 ++ qt_dg n ++ qt_sn 2
  | (4, o, _, _, _) => qt_sn 6 ++ [97 + o] ++ qt_sn 2
  | (5, p, s, a, _) => qt_sn 7 ++ [97 + p] ++ qt_sn 8 ++ qt_dg s ++ qt_sn 9 ++ qt_dg a ++ qt_sn 2
  | (6, p, s, a, w) => qt_sn 7 ++ [97 + p] ++ qt_sn 8 ++ qt_dg s ++ qt_sn 9 ++ qt_dg a ++ qt_sn 10 ++ qt_dg w ++ qt_sn 2
  | (7, p, o, n, _) => qt_sn 11 ++ [97 + p] ++ qt_sn 12 ++ [97 + o] ++ qt_sn 1 ++ qt_dg n ++ qt_sn 2
  | (8, p, o, n, _) => qt_sn 13 ++ [97 + p] ++ qt_sn 12 ++ [97 + o] ++ qt_sn 1 ++ qt_dg n ++ qt_sn 2
  | (9, p, q, _, _) => qt_sn 14 ++ [97 + p] ++ qt_sn 15 ++ [97 + q] ++ qt_sn 2
  | (_, n, _, _, _) => qt_sn 16 ++ qt_dg n ++ qt_sn 2
def TXT (ls : List LN) : List Nat := ls.flatMap ltx
/-- what the lines so far are closed under: stage, how far in it -/
def GTc (P O : Nat) (R : Nat → Nat → Nat → List LN → Prop) : Prop := (R 0 0 0 []) ∧
  (∀ (ls : List LN), R 0 0 0 ls → R 1 0 0 ls) ∧
  (∀ (ls : List LN) (f : Nat) (s : Nat), R 0 0 0 ls → (1 ≤ f ∧ f ≤ 9) → (1 ≤ s ∧ s ≤ 9) → R 1 0 0 (ls ++ [(0, f, s, 0, 0)])) ∧
  (∀ (ls : List LN), R 1 0 0 ls → R 2 0 0 ls) ∧
  (∀ (ls : List LN) (c : Nat), R 1 0 0 ls → c < 10 → R 2 0 0 (ls ++ [(1, c, 0, 0, 0)])) ∧
  (∀ (ls : List LN), R 2 0 0 ls → R 3 0 0 ls) ∧
  (∀ (ls : List LN) (n : Nat), R 2 0 0 ls → (1 ≤ n ∧ n ≤ 4) → R 3 0 0 (ls ++ [(2, n, 0, 0, 0)])) ∧
  (∀ (ls : List LN), R 3 0 0 ls → R 4 0 0 ls) ∧
  (∀ (ls : List LN) (n : Nat), R 3 0 0 ls → n < 40 → R 4 0 0 (ls ++ [(3, n, 0, 0, 0)])) ∧
  (∀ (ls : List LN) (o : Nat), R 4 0 o ls → o < O → R 4 0 (o + 1) (ls ++ [(4, o, 0, 0, 0)])) ∧
  (∀ (ls : List LN), R 4 0 O ls → R 5 0 0 ls) ∧
  (∀ (ls : List LN) (p : Nat) (s : Nat) (a : Nat), R 5 p 0 ls → p < P → (1 ≤ s ∧ s ≤ 30) → a < 100 → R 5 (p + 1) 0 (ls ++ [(5, p, s, a, 0)])) ∧
  (∀ (ls : List LN) (p : Nat) (s : Nat) (a : Nat) (w : Nat), R 5 p 0 ls → p < P → (1 ≤ s ∧ s ≤ 30) → a < 100 → w < 200 → R 5 (p + 1) 0 (ls ++ [(6, p, s, a, w)])) ∧
  (∀ (ls : List LN), R 5 P 0 ls → R 6 0 0 ls) ∧
  (∀ (ls : List LN) (p : Nat) (o : Nat), R 6 p o ls → p < P → o < O → R 6 p (o + 1) ls) ∧
  (∀ (ls : List LN) (p : Nat) (o : Nat) (n : Nat), R 6 p o ls → p < P → o < O → n < 25 → R 6 p (o + 1) (ls ++ [(7, p, o, n, 0)])) ∧
  (∀ (ls : List LN) (p : Nat), R 6 p O ls → p < P → R 6 (p + 1) 0 ls) ∧
  (∀ (ls : List LN), R 6 P 0 ls → R 7 0 0 ls) ∧
  (∀ (ls : List LN) (p : Nat) (o : Nat), R 7 p o ls → p < P → o < O → R 7 p (o + 1) ls) ∧
  (∀ (ls : List LN) (p : Nat) (o : Nat) (n : Nat), R 7 p o ls → p < P → o < O → n < 10 → R 7 p (o + 1) (ls ++ [(8, p, o, n, 0)])) ∧
  (∀ (ls : List LN) (p : Nat), R 7 p O ls → p < P → R 7 (p + 1) 0 ls) ∧
  (∀ (ls : List LN), R 7 P 0 ls → R 8 0 0 ls) ∧
  (∀ (ls : List LN) (b : Nat) (p : Nat) (q : Nat), R 8 b 0 ls → b < 2 → p < P → q < P → p ≠ q → R 8 (b + 1) 0 (ls ++ [(9, p, q, 0, 0)])) ∧
  (∀ (ls : List LN) (b : Nat), R 8 b 0 ls → R 9 0 0 ls) ∧
  (∀ (ls : List LN), R 9 0 0 ls → R 10 0 0 ls) ∧
  (∀ (ls : List LN) (n : Nat), R 9 0 0 ls → (1 ≤ n ∧ n ≤ 60) → R 10 0 0 (ls ++ [(10, n, 0, 0, 0)]))
def GT (P O st p o : Nat) (ls : List LN) : Prop := ∀ R, GTc P O R → R st p o ls
theorem GT.start {P O : Nat} : GT P O 0 0 0 [] := fun R hc => hc.1
theorem GT.div0 {P O : Nat} {ls : List LN} (h : GT P O 0 0 0 ls) : GT P O 1 0 0 ls := fun R hc => hc.2.1 _ (h R hc)
theorem GT.div1 {P O : Nat} {ls : List LN} {f : Nat} {s : Nat} (h : GT P O 0 0 0 ls) (h0 : 1 ≤ f ∧ f ≤ 9) (h1 : 1 ≤ s ∧ s ≤ 9) : GT P O 1 0 0 (ls ++ [(0, f, s, 0, 0)]) := fun R hc => hc.2.2.1 _ _ _ (h R hc) h0 h1
theorem GT.care0 {P O : Nat} {ls : List LN} (h : GT P O 1 0 0 ls) : GT P O 2 0 0 ls := fun R hc => hc.2.2.2.1 _ (h R hc)
theorem GT.care1 {P O : Nat} {ls : List LN} {c : Nat} (h : GT P O 1 0 0 ls) (h0 : c < 10) : GT P O 2 0 0 (ls ++ [(1, c, 0, 0, 0)]) := fun R hc => hc.2.2.2.2.1 _ _ (h R hc) h0
theorem GT.tries0 {P O : Nat} {ls : List LN} (h : GT P O 2 0 0 ls) : GT P O 3 0 0 ls := fun R hc => hc.2.2.2.2.2.1 _ (h R hc)
theorem GT.tries1 {P O : Nat} {ls : List LN} {n : Nat} (h : GT P O 2 0 0 ls) (h0 : 1 ≤ n ∧ n ≤ 4) : GT P O 3 0 0 (ls ++ [(2, n, 0, 0, 0)]) := fun R hc => hc.2.2.2.2.2.2.1 _ _ (h R hc) h0
theorem GT.tire0 {P O : Nat} {ls : List LN} (h : GT P O 3 0 0 ls) : GT P O 4 0 0 ls := fun R hc => hc.2.2.2.2.2.2.2.1 _ (h R hc)
theorem GT.tire1 {P O : Nat} {ls : List LN} {n : Nat} (h : GT P O 3 0 0 ls) (h0 : n < 40) : GT P O 4 0 0 (ls ++ [(3, n, 0, 0, 0)]) := fun R hc => hc.2.2.2.2.2.2.2.2.1 _ _ (h R hc) h0
theorem GT.off {P O : Nat} {ls : List LN} {o : Nat} (h : GT P O 4 0 o ls) (h0 : o < O) : GT P O 4 0 (o + 1) (ls ++ [(4, o, 0, 0, 0)]) := fun R hc => hc.2.2.2.2.2.2.2.2.2.1 _ _ (h R hc) h0
theorem GT.offs {P O : Nat} {ls : List LN} (h : GT P O 4 0 O ls) : GT P O 5 0 0 ls := fun R hc => hc.2.2.2.2.2.2.2.2.2.2.1 _ (h R hc)
theorem GT.par0 {P O : Nat} {ls : List LN} {p : Nat} {s : Nat} {a : Nat} (h : GT P O 5 p 0 ls) (h0 : p < P) (h1 : 1 ≤ s ∧ s ≤ 30) (h2 : a < 100) : GT P O 5 (p + 1) 0 (ls ++ [(5, p, s, a, 0)]) := fun R hc => hc.2.2.2.2.2.2.2.2.2.2.2.1 _ _ _ _ (h R hc) h0 h1 h2
theorem GT.par1 {P O : Nat} {ls : List LN} {p : Nat} {s : Nat} {a : Nat} {w : Nat} (h : GT P O 5 p 0 ls) (h0 : p < P) (h1 : 1 ≤ s ∧ s ≤ 30) (h2 : a < 100) (h3 : w < 200) : GT P O 5 (p + 1) 0 (ls ++ [(6, p, s, a, w)]) := fun R hc => hc.2.2.2.2.2.2.2.2.2.2.2.2.1 _ _ _ _ _ (h R hc) h0 h1 h2 h3
theorem GT.pars {P O : Nat} {ls : List LN} (h : GT P O 5 P 0 ls) : GT P O 6 0 0 ls := fun R hc => hc.2.2.2.2.2.2.2.2.2.2.2.2.2.1 _ (h R hc)
theorem GT.wor0 {P O : Nat} {ls : List LN} {p : Nat} {o : Nat} (h : GT P O 6 p o ls) (h0 : p < P) (h1 : o < O) : GT P O 6 p (o + 1) ls := fun R hc => hc.2.2.2.2.2.2.2.2.2.2.2.2.2.2.1 _ _ _ (h R hc) h0 h1
theorem GT.wor1 {P O : Nat} {ls : List LN} {p : Nat} {o : Nat} {n : Nat} (h : GT P O 6 p o ls) (h0 : p < P) (h1 : o < O) (h2 : n < 25) : GT P O 6 p (o + 1) (ls ++ [(7, p, o, n, 0)]) := fun R hc => hc.2.2.2.2.2.2.2.2.2.2.2.2.2.2.2.1 _ _ _ _ (h R hc) h0 h1 h2
theorem GT.wors {P O : Nat} {ls : List LN} {p : Nat} (h : GT P O 6 p O ls) (h0 : p < P) : GT P O 6 (p + 1) 0 ls := fun R hc => hc.2.2.2.2.2.2.2.2.2.2.2.2.2.2.2.2.1 _ _ (h R hc) h0
theorem GT.wore {P O : Nat} {ls : List LN} (h : GT P O 6 P 0 ls) : GT P O 7 0 0 ls := fun R hc => hc.2.2.2.2.2.2.2.2.2.2.2.2.2.2.2.2.2.1 _ (h R hc)
theorem GT.sta0 {P O : Nat} {ls : List LN} {p : Nat} {o : Nat} (h : GT P O 7 p o ls) (h0 : p < P) (h1 : o < O) : GT P O 7 p (o + 1) ls := fun R hc => hc.2.2.2.2.2.2.2.2.2.2.2.2.2.2.2.2.2.2.1 _ _ _ (h R hc) h0 h1
theorem GT.sta1 {P O : Nat} {ls : List LN} {p : Nat} {o : Nat} {n : Nat} (h : GT P O 7 p o ls) (h0 : p < P) (h1 : o < O) (h2 : n < 10) : GT P O 7 p (o + 1) (ls ++ [(8, p, o, n, 0)]) := fun R hc => hc.2.2.2.2.2.2.2.2.2.2.2.2.2.2.2.2.2.2.2.1 _ _ _ _ (h R hc) h0 h1 h2
theorem GT.stas {P O : Nat} {ls : List LN} {p : Nat} (h : GT P O 7 p O ls) (h0 : p < P) : GT P O 7 (p + 1) 0 ls := fun R hc => hc.2.2.2.2.2.2.2.2.2.2.2.2.2.2.2.2.2.2.2.2.1 _ _ (h R hc) h0
theorem GT.stae {P O : Nat} {ls : List LN} (h : GT P O 7 P 0 ls) : GT P O 8 0 0 ls := fun R hc => hc.2.2.2.2.2.2.2.2.2.2.2.2.2.2.2.2.2.2.2.2.2.1 _ (h R hc)
theorem GT.bar {P O : Nat} {ls : List LN} {b : Nat} {p : Nat} {q : Nat} (h : GT P O 8 b 0 ls) (h0 : b < 2) (h1 : p < P) (h2 : q < P) (h3 : p ≠ q) : GT P O 8 (b + 1) 0 (ls ++ [(9, p, q, 0, 0)]) := fun R hc => hc.2.2.2.2.2.2.2.2.2.2.2.2.2.2.2.2.2.2.2.2.2.2.1 _ _ _ _ (h R hc) h0 h1 h2 h3
theorem GT.bars {P O : Nat} {ls : List LN} {b : Nat} (h : GT P O 8 b 0 ls) : GT P O 9 0 0 ls := fun R hc => hc.2.2.2.2.2.2.2.2.2.2.2.2.2.2.2.2.2.2.2.2.2.2.2.1 _ _ (h R hc)
theorem GT.need0 {P O : Nat} {ls : List LN} (h : GT P O 9 0 0 ls) : GT P O 10 0 0 ls := fun R hc => hc.2.2.2.2.2.2.2.2.2.2.2.2.2.2.2.2.2.2.2.2.2.2.2.2.1 _ (h R hc)
theorem GT.need1 {P O : Nat} {ls : List LN} {n : Nat} (h : GT P O 9 0 0 ls) (h0 : 1 ≤ n ∧ n ≤ 60) : GT P O 10 0 0 (ls ++ [(10, n, 0, 0, 0)]) := fun R hc => hc.2.2.2.2.2.2.2.2.2.2.2.2.2.2.2.2.2.2.2.2.2.2.2.2.2 _ _ (h R hc) h0
/-- how long the text may be by then -/
def LB (O st p o : Nat) : Nat := match st with
  | 0 => 0
  | 1 => 13
  | 2 => 20
  | 3 => 28
  | 4 => 36 + 10 * o
  | 5 => 86 + 33 * p
  | 6 => 218 + 15 * (O * p + o)
  | 7 => 518 + 15 * (O * p + o)
  | 8 => 818 + 10 * p
  | 9 => 838
  | _ => 846
theorem TXT_add (ls : List LN) (l : LN) : TXT (ls ++ [l]) = TXT ls ++ ltx l := by
  unfold TXT
  rw [List.flatMap_append, List.flatMap_cons, List.flatMap_nil, List.append_nil]
theorem sn_len : (qt_sn 0).length = 9 ∧ (qt_sn 1).length = 1 ∧ (qt_sn 2).length = 1 ∧ (qt_sn 3).length = 5 ∧ (qt_sn 4).length = 6 ∧ (qt_sn 5).length = 5 ∧ (qt_sn 6).length = 8 ∧ (qt_sn 7).length = 7 ∧ (qt_sn 8).length = 7 ∧ (qt_sn 9).length = 4 ∧ (qt_sn 10).length = 6 ∧ (qt_sn 11).length = 7 ∧ (qt_sn 12).length = 2 ∧ (qt_sn 13).length = 8 ∧ (qt_sn 14).length = 5 ∧ (qt_sn 15).length = 2 ∧ (qt_sn 16).length = 5 := by decide +kernel
theorem dg1 {x : Nat} (h : x < 10) : (qt_dg x).length = 1 := by unfold qt_dg; rw [if_pos h]; rfl
theorem dg2 {x : Nat} (h : x < 100) : (qt_dg x).length ≤ 2 := by
  unfold qt_dg
  by_cases c : x < 10
  · rw [if_pos c]; exact Nat.le_succ 1
  · rw [if_neg c, if_pos h]; exact Nat.le_refl _
theorem GT.len {P O : Nat} (hP : P ≤ 4) (hO : O ≤ 5) {st p o : Nat} {ls : List LN} (h : GT P O st p o ls) : (TXT ls).length ≤ LB O st p o ∧ (st = 8 → p ≤ 2) := by
  obtain ⟨s0, s1, s2, s3, s4, s5, s6, s7, s8, s9, s10, s11, s12, s13, s14, s15, s16⟩ := sn_len
  have hPO : O * P ≤ 20 := Nat.mul_le_mul hO hP
  have hm : ∀ p, O * (p + 1) = O * p + O := fun p => Nat.mul_succ O p
  refine h (fun st p o ls => (TXT ls).length ≤ LB O st p o ∧ (st = 8 → p ≤ 2)) ⟨?_, ?_, ?_, ?_, ?_, ?_, ?_, ?_, ?_, ?_, ?_, ?_, ?_, ?_, ?_, ?_, ?_, ?_, ?_, ?_, ?_, ?_, ?_, ?_, ?_, ?_⟩
  · exact ⟨Nat.le_refl _, fun h => by cases h⟩
  · intro ls ih 
    have ih1 := ih.1
    refine ⟨?_, fun h => by cases h⟩
    unfold LB at *
    simp only at *
    omega
  · intro ls f s ih h0 h1
    have ih1 := ih.1
    have lf := dg1 (x := f) (by omega)
    have ls := dg1 (x := s) (by omega)
    refine ⟨?_, fun h => by cases h⟩
    rw [TXT_add, List.length_append]
    simp only [ltx, List.length_append, List.length_cons, List.length_nil, s0, s1, s2, s3, s4, s5, s6, s7, s8, s9, s10, s11, s12, s13, s14, s15, s16]
    unfold LB at *
    simp only at *
    omega
  · intro ls ih 
    have ih1 := ih.1
    refine ⟨?_, fun h => by cases h⟩
    unfold LB at *
    simp only at *
    omega
  · intro ls c ih h0
    have ih1 := ih.1
    have lc := dg1 (x := c) (by omega)
    refine ⟨?_, fun h => by cases h⟩
    rw [TXT_add, List.length_append]
    simp only [ltx, List.length_append, List.length_cons, List.length_nil, s0, s1, s2, s3, s4, s5, s6, s7, s8, s9, s10, s11, s12, s13, s14, s15, s16]
    unfold LB at *
    simp only at *
    omega
  · intro ls ih 
    have ih1 := ih.1
    refine ⟨?_, fun h => by cases h⟩
    unfold LB at *
    simp only at *
    omega
  · intro ls n ih h0
    have ih1 := ih.1
    have ln := dg1 (x := n) (by omega)
    refine ⟨?_, fun h => by cases h⟩
    rw [TXT_add, List.length_append]
    simp only [ltx, List.length_append, List.length_cons, List.length_nil, s0, s1, s2, s3, s4, s5, s6, s7, s8, s9, s10, s11, s12, s13, s14, s15, s16]
    unfold LB at *
    simp only at *
    omega
  · intro ls ih 
    have ih1 := ih.1
    refine ⟨?_, fun h => by cases h⟩
    unfold LB at *
    simp only at *
    omega
  · intro ls n ih h0
    have ih1 := ih.1
    have ln := dg2 (x := n) (by omega)
    refine ⟨?_, fun h => by cases h⟩
    rw [TXT_add, List.length_append]
    simp only [ltx, List.length_append, List.length_cons, List.length_nil, s0, s1, s2, s3, s4, s5, s6, s7, s8, s9, s10, s11, s12, s13, s14, s15, s16]
    unfold LB at *
    simp only at *
    omega
  · intro ls o ih h0
    have ih1 := ih.1
    refine ⟨?_, fun h => by cases h⟩
    rw [TXT_add, List.length_append]
    simp only [ltx, List.length_append, List.length_cons, List.length_nil, s0, s1, s2, s3, s4, s5, s6, s7, s8, s9, s10, s11, s12, s13, s14, s15, s16]
    unfold LB at *
    simp only at *
    omega
  · intro ls ih 
    have ih1 := ih.1
    refine ⟨?_, fun h => by cases h⟩
    unfold LB at *
    simp only at *
    omega
  · intro ls p s a ih h0 h1 h2
    have ih1 := ih.1
    have ls := dg2 (x := s) (by omega)
    have la := dg2 (x := a) (by omega)
    refine ⟨?_, fun h => by cases h⟩
    rw [TXT_add, List.length_append]
    simp only [ltx, List.length_append, List.length_cons, List.length_nil, s0, s1, s2, s3, s4, s5, s6, s7, s8, s9, s10, s11, s12, s13, s14, s15, s16]
    unfold LB at *
    simp only at *
    omega
  · intro ls p s a w ih h0 h1 h2 h3
    have ih1 := ih.1
    have ls := dg2 (x := s) (by omega)
    have la := dg2 (x := a) (by omega)
    have lw := (qt_dg_ok w h3).1
    refine ⟨?_, fun h => by cases h⟩
    rw [TXT_add, List.length_append]
    simp only [ltx, List.length_append, List.length_cons, List.length_nil, s0, s1, s2, s3, s4, s5, s6, s7, s8, s9, s10, s11, s12, s13, s14, s15, s16]
    unfold LB at *
    simp only at *
    omega
  · intro ls ih 
    have ih1 := ih.1
    refine ⟨?_, fun h => by cases h⟩
    unfold LB at *
    simp only at *
    omega
  · intro ls p o ih h0 h1
    have ih1 := ih.1
    refine ⟨?_, fun h => by cases h⟩
    unfold LB at *
    simp only at *
    omega
  · intro ls p o n ih h0 h1 h2
    have ih1 := ih.1
    have ln := dg2 (x := n) (by omega)
    refine ⟨?_, fun h => by cases h⟩
    rw [TXT_add, List.length_append]
    simp only [ltx, List.length_append, List.length_cons, List.length_nil, s0, s1, s2, s3, s4, s5, s6, s7, s8, s9, s10, s11, s12, s13, s14, s15, s16]
    unfold LB at *
    simp only at *
    omega
  · intro ls p ih h0
    have ih1 := ih.1
    have := hm p
    refine ⟨?_, fun h => by cases h⟩
    unfold LB at *
    simp only at *
    omega
  · intro ls ih 
    have ih1 := ih.1
    refine ⟨?_, fun h => by cases h⟩
    unfold LB at *
    simp only at *
    omega
  · intro ls p o ih h0 h1
    have ih1 := ih.1
    refine ⟨?_, fun h => by cases h⟩
    unfold LB at *
    simp only at *
    omega
  · intro ls p o n ih h0 h1 h2
    have ih1 := ih.1
    have ln := dg1 (x := n) (by omega)
    refine ⟨?_, fun h => by cases h⟩
    rw [TXT_add, List.length_append]
    simp only [ltx, List.length_append, List.length_cons, List.length_nil, s0, s1, s2, s3, s4, s5, s6, s7, s8, s9, s10, s11, s12, s13, s14, s15, s16]
    unfold LB at *
    simp only at *
    omega
  · intro ls p ih h0
    have ih1 := ih.1
    have := hm p
    refine ⟨?_, fun h => by cases h⟩
    unfold LB at *
    simp only at *
    omega
  · intro ls ih 
    have ih1 := ih.1
    refine ⟨?_, fun _ => by omega⟩
    unfold LB at *
    simp only at *
    omega
  · intro ls b p q ih h0 h1 h2 h3
    have ih1 := ih.1
    have ih2 := ih.2 rfl
    refine ⟨?_, fun _ => by omega⟩
    rw [TXT_add, List.length_append]
    simp only [ltx, List.length_append, List.length_cons, List.length_nil, s0, s1, s2, s3, s4, s5, s6, s7, s8, s9, s10, s11, s12, s13, s14, s15, s16]
    unfold LB at *
    simp only at *
    omega
  · intro ls b ih 
    have ih1 := ih.1
    have ih2 := ih.2 rfl
    refine ⟨?_, fun h => by cases h⟩
    unfold LB at *
    simp only at *
    omega
  · intro ls ih 
    have ih1 := ih.1
    refine ⟨?_, fun h => by cases h⟩
    unfold LB at *
    simp only at *
    omega
  · intro ls n ih h0
    have ih1 := ih.1
    have ln := dg2 (x := n) (by omega)
    refine ⟨?_, fun h => by cases h⟩
    rw [TXT_add, List.length_append]
    simp only [ltx, List.length_append, List.length_cons, List.length_nil, s0, s1, s2, s3, s4, s5, s6, s7, s8, s9, s10, s11, s12, s13, s14, s15, s16]
    unfold LB at *
    simp only at *
    omega
