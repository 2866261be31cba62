/-! ===== the grown text, line by line ===== -/
inductive LN where
  | div (f s : Nat)
  | care (c : Nat)
  | tries (n : Nat)
  | tire (n : Nat)
  | off (o : Nat)
  | par (p s a : Nat) (w : Option Nat)
  | wor (p o n : Nat)
  | sta (p o n : Nat)
  | bar (p q : Nat)
  | need (n : Nat)
def LN.txt : LN → List Nat
  | .div f s => qt_sn 0 ++ qt_dg f ++ qt_sn 1 ++ qt_dg s ++ qt_sn 2
  | .care c => qt_sn 3 ++ qt_dg c ++ qt_sn 2
  | .tries n => qt_sn 4 ++ qt_dg n ++ qt_sn 2
  | .tire n => qt_sn 5 ++ qt_dg n ++ qt_sn 2
  | .off o => qt_sn 6 ++ [97 + o] ++ qt_sn 2
  | .par p s a none => qt_sn 7 ++ [97 + p] ++ qt_sn 8 ++ qt_dg s ++ qt_sn 9 ++ qt_dg a ++ qt_sn 2
  | .par p s a (some w) => qt_sn 7 ++ [97 + p] ++ qt_sn 8 ++ qt_dg s ++ qt_sn 9 ++ qt_dg a ++ qt_sn 10 ++ qt_dg w ++ qt_sn 2
  | .wor p o n => qt_sn 11 ++ [97 + p] ++ qt_sn 12 ++ [97 + o] ++ qt_sn 1 ++ qt_dg n ++ qt_sn 2
  | .sta p o n => qt_sn 13 ++ [97 + p] ++ qt_sn 12 ++ [97 + o] ++ qt_sn 1 ++ qt_dg n ++ qt_sn 2
  | .bar p q => qt_sn 14 ++ [97 + p] ++ qt_sn 15 ++ [97 + q] ++ qt_sn 2
  | .need n => qt_sn 16 ++ qt_dg n ++ qt_sn 2
def TXT (ls : List LN) : List Nat := ls.flatMap LN.txt
/-- the lines so far: stage, how far in it -/
inductive GT (P O : Nat) : Nat → Nat → Nat → List LN → Prop where
  | start : GT P O 0 0 0 []
  | div0 {ls} (h : GT P O 0 0 0 ls) : GT P O 1 0 0 ls
  | div1 {ls f s} (h : GT P O 0 0 0 ls) (hf : 1 ≤ f ∧ f ≤ 9) (hs : 1 ≤ s ∧ s ≤ 9) : GT P O 1 0 0 (ls ++ [.div f s])
  | care0 {ls} (h : GT P O 1 0 0 ls) : GT P O 2 0 0 ls
  | care1 {ls c} (h : GT P O 1 0 0 ls) (hc : c < 10) : GT P O 2 0 0 (ls ++ [.care c])
  | tries0 {ls} (h : GT P O 2 0 0 ls) : GT P O 3 0 0 ls
  | tries1 {ls n} (h : GT P O 2 0 0 ls) (hn : 1 ≤ n ∧ n ≤ 4) : GT P O 3 0 0 (ls ++ [.tries n])
  | tire0 {ls} (h : GT P O 3 0 0 ls) : GT P O 4 0 0 ls
  | tire1 {ls n} (h : GT P O 3 0 0 ls) (hn : n < 40) : GT P O 4 0 0 (ls ++ [.tire n])
  | off {ls o} (h : GT P O 4 0 o ls) (ho : o < O) : GT P O 4 0 (o + 1) (ls ++ [.off o])
  | offs {ls} (h : GT P O 4 0 O ls) : GT P O 5 0 0 ls
  | par {ls p s a w} (h : GT P O 5 p 0 ls) (hp : p < P) (hs : 1 ≤ s ∧ s ≤ 30) (ha : a < 100) (hw : ∀ x, w = some x → x < 200) : GT P O 5 (p + 1) 0 (ls ++ [.par p s a w])
  | pars {ls} (h : GT P O 5 P 0 ls) : GT P O 6 0 0 ls
  | wor0 {ls p o} (h : GT P O 6 p o ls) (hp : p < P) (ho : o < O) : GT P O 6 p (o + 1) ls
  | wor1 {ls p o n} (h : GT P O 6 p o ls) (hp : p < P) (ho : o < O) (hn : n < 25) : GT P O 6 p (o + 1) (ls ++ [.wor p o n])
  | wors {ls p} (h : GT P O 6 p O ls) (hp : p < P) : GT P O 6 (p + 1) 0 ls
  | wore {ls} (h : GT P O 6 P 0 ls) : GT P O 7 0 0 ls
  | sta0 {ls p o} (h : GT P O 7 p o ls) (hp : p < P) (ho : o < O) : GT P O 7 p (o + 1) ls
  | sta1 {ls p o n} (h : GT P O 7 p o ls) (hp : p < P) (ho : o < O) (hn : n < 10) : GT P O 7 p (o + 1) (ls ++ [.sta p o n])
  | stas {ls p} (h : GT P O 7 p O ls) (hp : p < P) : GT P O 7 (p + 1) 0 ls
  | stae {ls} (h : GT P O 7 P 0 ls) : GT P O 8 0 0 ls
  | bar {ls b p q} (h : GT P O 8 b 0 ls) (hb : b < 2) (hp : p < P) (hq : q < P) (hpq : p ≠ q) : GT P O 8 (b + 1) 0 (ls ++ [.bar p q])
  | bars {ls b} (h : GT P O 8 b 0 ls) : GT P O 9 0 0 ls
  | need0 {ls} (h : GT P O 9 0 0 ls) : GT P O 10 0 0 ls
  | need1 {ls n} (h : GT P O 9 0 0 ls) (hn : 1 ≤ n ∧ n ≤ 60) : GT P O 10 0 0 (ls ++ [.need n])
/-- how long the text may be by then -/
def LB (O st p o : Nat) : Nat := match st with
  | 0 => 0
  | 1 => 13
  | 2 => 20
  | 3 => 28
  | 4 => 36 + 10 * o
  | 5 => 86 + 33 * p
  | 6 => 218 + 15 * (O * p + o)
  | 7 => 518 + 15 * (O * p + o)
  | 8 => 818 + 10 * p
  | 9 => 838
  | _ => 846
theorem TXT_add (ls : List LN) (l : LN) : TXT (ls ++ [l]) = TXT ls ++ l.txt := by
  unfold TXT
  rw [List.flatMap_append, List.flatMap_cons, List.flatMap_nil, List.append_nil]
theorem sn_len : (qt_sn 0).length = 9 ∧ (qt_sn 1).length = 1 ∧ (qt_sn 2).length = 1 ∧ (qt_sn 3).length = 5 ∧ (qt_sn 4).length = 6 ∧ (qt_sn 5).length = 5 ∧ (qt_sn 6).length = 8 ∧ (qt_sn 7).length = 7 ∧ (qt_sn 8).length = 7 ∧ (qt_sn 9).length = 4 ∧ (qt_sn 10).length = 6 ∧ (qt_sn 11).length = 7 ∧ (qt_sn 12).length = 2 ∧ (qt_sn 13).length = 8 ∧ (qt_sn 14).length = 5 ∧ (qt_sn 15).length = 2 ∧ (qt_sn 16).length = 5 := by decide +kernel
theorem dg1 {x : Nat} (h : x < 10) : (qt_dg x).length = 1 := by unfold qt_dg; rw [if_pos h]; rfl
theorem dg2 {x : Nat} (h : x < 100) : (qt_dg x).length ≤ 2 := by
  unfold qt_dg
  by_cases c : x < 10
  · rw [if_pos c]; decide
  · rw [if_neg c, if_pos h]; exact Nat.le_refl _
theorem GT.len {P O : Nat} (hP : P ≤ 4) (hO : O ≤ 5) {st p o : Nat} {ls : List LN} (h : GT P O st p o ls) : (TXT ls).length ≤ LB O st p o ∧ (st = 8 → p ≤ 2) := by
  obtain ⟨s0, s1, s2, s3, s4, s5, s6, s7, s8, s9, s10, s11, s12, s13, s14, s15, s16⟩ := sn_len
  have hPO : O * P ≤ 20 := Nat.mul_le_mul hO hP
  have hm : ∀ p, O * (p + 1) = O * p + O := fun p => Nat.mul_succ O p
  induction h with
  | start => exact ⟨Nat.le_refl _, fun h => by cases h⟩
  | div0 h ih => exact ⟨by have := ih.1; unfold LB at *; simp only at *; omega, fun h => by cases h⟩
  | div1 h hf hs ih =>
    refine ⟨?_, fun h => by cases h⟩
    have := ih.1
    have a1 := dg1 (x := _) (Nat.lt_succ_of_le hf.2)
    have a2 := dg1 (x := _) (Nat.lt_succ_of_le hs.2)
    rw [TXT_add, List.length_append]
    simp only [LN.txt, List.length_append, a1, a2, s0, s1, s2]
    unfold LB at *; simp only at *; omega
  | care0 h ih => exact ⟨by have := ih.1; unfold LB at *; simp only at *; omega, fun h => by cases h⟩
  | care1 h hc ih =>
    refine ⟨?_, fun h => by cases h⟩
    have := ih.1
    have a1 := dg1 hc
    rw [TXT_add, List.length_append]
    simp only [LN.txt, List.length_append, a1, s3, s2]
    unfold LB at *; simp only at *; omega
  | tries0 h ih => exact ⟨by have := ih.1; unfold LB at *; simp only at *; omega, fun h => by cases h⟩
  | tries1 h hn ih =>
    refine ⟨?_, fun h => by cases h⟩
    have := ih.1
    rw [TXT_add, List.length_append]
    simp only [LN.txt, List.length_append, s4, s2]
    have a1 := dg1 (show _ < 10 from Nat.lt_of_le_of_lt hn.2 (by decide))
    rw [a1]
    unfold LB at *; simp only at *; omega
  | tire0 h ih => exact ⟨by have := ih.1; unfold LB at *; simp only at *; omega, fun h => by cases h⟩
  | tire1 h hn ih =>
    refine ⟨?_, fun h => by cases h⟩
    have := ih.1
    have a1 := dg2 (Nat.lt_trans hn (by decide))
    rw [TXT_add, List.length_append]
    simp only [LN.txt, List.length_append, s5, s2]
    unfold LB at *; simp only at *; omega
  | off h ho ih =>
    refine ⟨?_, fun h => by cases h⟩
    have := ih.1
    rw [TXT_add, List.length_append]
    simp only [LN.txt, List.length_append, List.length_cons, List.length_nil, s6, s2]
    unfold LB at *; simp only at *; omega
  | offs h ih => exact ⟨by have := ih.1; unfold LB at *; simp only at *; omega, fun h => by cases h⟩
  | @par ls p s a w h hp hs ha hw ih =>
    refine ⟨?_, fun h => by cases h⟩
    have := ih.1
    have a1 := dg2 (Nat.lt_of_le_of_lt hs.2 (by decide))
    have a2 := dg2 ha
    rw [TXT_add, List.length_append]
    cases w with
    | none =>
      simp only [LN.txt, List.length_append, List.length_cons, List.length_nil, s7, s8, s9, s2]
      unfold LB at *; simp only at *; omega
    | some w =>
      have a3 := (qt_dg_ok w (hw w rfl)).1
      simp only [LN.txt, List.length_append, List.length_cons, List.length_nil, s7, s8, s9, s10, s2]
      unfold LB at *; simp only at *; omega
  | pars h ih => exact ⟨by have := ih.1; unfold LB at *; simp only at *; omega, fun h => by cases h⟩
  | wor0 h hp ho ih => exact ⟨by have := ih.1; unfold LB at *; simp only at *; omega, fun h => by cases h⟩
  | wor1 h hp ho hn ih =>
    refine ⟨?_, fun h => by cases h⟩
    have := ih.1
    have a1 := dg2 (Nat.lt_trans hn (by decide))
    rw [TXT_add, List.length_append]
    simp only [LN.txt, List.length_append, List.length_cons, List.length_nil, s11, s12, s1, s2]
    unfold LB at *; simp only at *; omega
  | @wors ls p h hp ih => exact ⟨by have := ih.1; have := hm p; unfold LB at *; simp only at *; omega, fun h => by cases h⟩
  | wore h ih => exact ⟨by have := ih.1; unfold LB at *; simp only at *; omega, fun h => by cases h⟩
  | sta0 h hp ho ih => exact ⟨by have := ih.1; unfold LB at *; simp only at *; omega, fun h => by cases h⟩
  | sta1 h hp ho hn ih =>
    refine ⟨?_, fun h => by cases h⟩
    have := ih.1
    have a1 := dg1 hn
    rw [TXT_add, List.length_append]
    simp only [LN.txt, List.length_append, List.length_cons, List.length_nil, a1, s13, s12, s1, s2]
    unfold LB at *; simp only at *; omega
  | @stas ls p h hp ih => exact ⟨by have := ih.1; have := hm p; unfold LB at *; simp only at *; omega, fun h => by cases h⟩
  | stae h ih => exact ⟨by have := ih.1; unfold LB at *; simp only at *; omega, fun _ => by omega⟩
  | bar h hb hp hq hpq ih =>
    refine ⟨?_, fun _ => by omega⟩
    have := ih.1
    rw [TXT_add, List.length_append]
    simp only [LN.txt, List.length_append, List.length_cons, List.length_nil, s14, s15, s2]
    unfold LB at *; simp only at *; omega
  | bars h ih => exact ⟨by have := ih.1; have := ih.2 rfl; unfold LB at *; simp only at *; omega, fun h => by cases h⟩
  | need0 h ih => exact ⟨by have := ih.1; unfold LB at *; simp only at *; omega, fun h => by cases h⟩
  | need1 h hn ih =>
    refine ⟨?_, fun h => by cases h⟩
    have := ih.1
    have a1 := dg2 (Nat.lt_of_le_of_lt hn.2 (by decide))
    rw [TXT_add, List.length_append]
    simp only [LN.txt, List.length_append, s16, s2]
    unfold LB at *; simp only at *; omega
