/-! ===== lines: what each tells ===== -/
section
variable {I I' : Nat → Nat → Int32} {L L' : Nat → Nat → Int64}
variable {F : pm_F} {L0 : Nat} {xs : Nat → Int32}
variable {n q f : Nat} {b : Nat → Nat} {d : Nat → Nat → Nat}
theorem oN_0 {lo hi : Nat} (h : oN n b lo hi q f = 0) : f = 0 ∧ kd n b q = 2 ∧ lo ≤ vl n b q ∧ vl n b q ≤ hi := by
  unfold oN at h
  by_cases c : f = 0
  · rw [if_pos c] at h
    by_cases k : kd n b q = 2
    · rw [if_pos k] at h
      by_cases v : lo ≤ vl n b q ∧ vl n b q ≤ hi
      · exact ⟨c, k, v.1, v.2⟩
      · rw [if_neg v] at h; omega
    · rw [if_neg k] at h; unfold fk2 at h; split at h <;> omega
  · rw [if_neg c] at h; exact absurd h c
theorem oS_0 (h : oS n b q f = 0) : f = 0 ∧ kd n b q = 3 := by
  unfold oS at h
  by_cases c : f = 0
  · rw [if_pos c] at h
    by_cases k : kd n b q = 3
    · exact ⟨c, k⟩
    · rw [if_neg k] at h; unfold fk2 at h; split at h <;> omega
  · rw [if_neg c] at h; exact absurd h c
theorem oW_0 {k : Nat} (h : oW n b k q f = 0) : f = 0 ∧ kd n b q = 1 ∧ kw n b q = some k := by
  unfold oW at h
  by_cases c : f = 0
  · rw [if_pos c] at h
    by_cases k : kd n b q = 1 ∧ kw n b q = some k
    · exact ⟨c, k⟩
    · rw [if_neg k] at h; unfold fk2 at h; split at h <;> omega
  · rw [if_neg c] at h; exact absurd h c
theorem oA_0 (h : oA n b q f = 0) : f = 0 ∧ kd n b q = 1 ∧ kw n b q = none ∧ wln n b q ≤ 6 := by
  unfold oA at h
  by_cases c : f = 0
  · rw [if_pos c] at h
    by_cases k : kd n b q = 1 ∧ kw n b q = none ∧ wln n b q ≤ 6
    · exact ⟨c, k⟩
    · rw [if_neg k] at h; unfold fk2 at h; split at h <;> omega
  · rw [if_neg c] at h; exact absurd h c
theorem oF_0 (h : oF n b d q f = 0) : f = 0 ∧ pfn n b d q = none ∧ ofn n b d q = none := by
  unfold oF at h
  by_cases c : f = 0
  · rw [if_pos c] at h
    cases e1 : pfn n b d q with
    | some k => rw [e1] at h; cases h
    | none =>
      cases e2 : ofn n b d q with
      | some k => rw [e1, e2] at h; cases h
      | none => exact ⟨c, rfl, rfl⟩
  · rw [if_neg c] at h; exact absurd h c
theorem oK_0 {r : Option Nat} (h : oK r f = 0) : f = 0 ∧ r.isSome = true := by
  unfold oK at h
  by_cases c : f = 0
  · rw [if_pos c] at h
    cases e : r.isSome with
    | true => exact ⟨c, rfl⟩
    | false => rw [e] at h; cases h
  · rw [if_neg c] at h; exact absurd h c
/-- what the lines tell: where the next token is, the fault, what is told then -/
def ln1 (n : Nat) (b : Nat → Nat) (d : Nat → Nat → Nat) (lo hi k q : Nat) : Nat × Nat × (Nat → Nat → Nat) :=
  let f1 := oO d k
  let q1 := aq n b q f1
  let f2 := oN n b lo hi q1 f1
  let q2 := aq n b q1 f2
  let f3 := oS n b q2 f2
  (aq n b q2 f3, f3, ud (ud d 0 8 (ad (d 0 8) k)) 0 (3 + k) (vl n b q1))
def ln0 (n : Nat) (b : Nat → Nat) (d : Nat → Nat → Nat) (q : Nat) : Nat × Nat × (Nat → Nat → Nat) :=
  let f1 := oO d 0
  let q1 := aq n b q f1
  let f2 := oN n b 1 99 q1 f1
  let q2 := aq n b q1 f2
  let f3 := oN n b 1 99 q2 f2
  let q3 := aq n b q2 f3
  let f4 := oS n b q3 f3
  (aq n b q3 f4, f4, ud (ud (ud d 0 8 (ad (d 0 8) 0)) 0 2 (vl n b q1)) 0 3 (vl n b q2))
def lnO (n : Nat) (b : Nat → Nat) (d : Nat → Nat → Nat) (q : Nat) : Nat × Nat × (Nat → Nat → Nat) :=
  let f1 := if d 0 1 < 8 then 0 else 5
  let q1 := aq n b q f1
  let f3 := oF n b d q1 (oA n b q1 f1)
  let q2 := aq n b q1 f3
  let f4 := oS n b q2 f3
  (aq n b q2 f4, f4, ud (ud d 8 (d 0 1) q1) 0 1 (d 0 1 + 1))
/-- with a walk, if one is told -/
def lnw (n : Nat) (b : Nat → Nat) (q f : Nat) : Nat × Nat × Nat :=
  if kd n b q = 1 ∧ kw n b q = some 9 then
    let q1 := aq n b q f
    let f1 := oN n b 0 999 q1 f
    (aq n b q1 f1, f1, vl n b q1)
  else (q, f, 0)
def lnP (n : Nat) (b : Nat → Nat) (d : Nat → Nat → Nat) (q : Nat) : Nat × Nat × (Nat → Nat → Nat) :=
  let f1 := if d 0 0 < 7 then 0 else 5
  let q1 := aq n b q f1
  let f3 := oF n b d q1 (oA n b q1 f1)
  let q2 := aq n b q1 f3
  let f4 := oW n b 7 q2 f3
  let q3 := aq n b q2 f4
  let f5 := oN n b 1 999 q3 f4
  let q4 := aq n b q3 f5
  let f6 := oW n b 8 q4 f5
  let q5 := aq n b q4 f6
  let f7 := oN n b 0 99 q5 f6
  let q6 := aq n b q5 f7
  let w := lnw n b q6 f7
  let f9 := oS n b w.1 w.2.1
  (aq n b w.1 f9, f9, ud (ud (ud (ud (ud d 7 (d 0 0) q1) 1 (d 0 0) (vl n b q3)) 2 (d 0 0) (vl n b q5)) 3 (d 0 0) w.2.2) 0 0 (d 0 0 + 1))
/-- a table: where who told is kept, where the numbers -/
def lnT (n : Nat) (b : Nat → Nat) (d : Nat → Nat → Nat) (t r most q : Nat) : Nat × Nat × (Nat → Nat → Nat) :=
  let q1 := aq n b q 0
  let f2 := oK (pfn n b d q1) (oA n b q1 0)
  let q2 := aq n b q1 f2
  let f3 := oK (ofn n b d q2) (oA n b q2 f2)
  let p := (pfn n b d q1).getD 7
  let o := (ofn n b d q2).getD 7
  let f4 := if f3 = 0 then (bif (d t p).testBit o then 3 else 0) else f3
  let q3 := aq n b q2 f4
  let f5 := oN n b 0 most q3 f4
  let q4 := aq n b q3 f5
  let f6 := oS n b q4 f5
  (aq n b q4 f6, f6, ud (ud d t p (ad (d t p) o)) r (8 * p + o) (vl n b q3))
def lnB (n : Nat) (b : Nat → Nat) (d : Nat → Nat → Nat) (q : Nat) : Nat × Nat × (Nat → Nat → Nat) :=
  let q1 := aq n b q 0
  let f2 := oK (pfn n b d q1) (oA n b q1 0)
  let q2 := aq n b q1 f2
  let f3 := oK (pfn n b d q2) (oA n b q2 f2)
  let p := (pfn n b d q1).getD 7
  let o := (pfn n b d q2).getD 7
  let f4 := if f3 = 0 then (if p = o then 3 else 0) else f3
  let q3 := aq n b q2 f4
  let f5 := oS n b q3 f4
  (aq n b q3 f5, f5, ud (ud d 4 p (ad (d 4 p) o)) 4 o (ad (d 4 o) p))
def lnX (n : Nat) (b : Nat → Nat) (d : Nat → Nat → Nat) (q : Nat) : Nat × Nat × (Nat → Nat → Nat) := (aq n b q (fk2 n b q 2), fk2 n b q 2, d)
def lnk (n : Nat) (b : Nat → Nat) (d : Nat → Nat → Nat) (q : Nat) : Option Nat → Nat × Nat × (Nat → Nat → Nat)
  | some 0 => ln0 n b d q
  | some 1 => ln1 n b d 1 999 1 q
  | some 2 => ln1 n b d 0 9 2 q
  | some 3 => ln1 n b d 1 9 3 q
  | some 4 => ln1 n b d 0 99 4 q
  | some 5 => lnO n b d q
  | some 6 => lnP n b d q
  | some 10 => lnT n b d 9 5 99 q
  | some 11 => lnT n b d 10 6 9 q
  | some 12 => lnB n b d q
  | _ => lnX n b d q
def lin (n : Nat) (b : Nat → Nat) (d : Nat → Nat → Nat) (q : Nat) : Nat × Nat × (Nat → Nat → Nat) := if kd n b q = 1 then lnk n b d q (kw n b q) else lnX n b d q
/-- what a line may write in the class -/
def FL (I I' : Nat → Nat → Int32) (L L' : Nat → Nat → Int64) : Prop := (∀ r j, r < 10 ∨ 22 < r → I' r j = I r j) ∧ ∀ r j, r ≠ 10 → r ≠ 19 → r ≠ 20 → L' r j = L r j
theorem FL.tr {I1 I2 I3 : Nat → Nat → Int32} {L1 L2 L3 : Nat → Nat → Int64} (a : FL I1 I2 L1 L2) (b : FL I2 I3 L2 L3) : FL I1 I3 L1 L3 := ⟨fun r j q => (b.1 r j q).trans (a.1 r j q), fun r j q u v => (b.2 r j q u v).trans (a.2 r j q u v)⟩
theorem FP.fl (a : FP I I' L L') : FL I I' L L' := ⟨fun r j q => a.1 r j (fun z => by omega), fun r j q _ _ => a.2 r j (fun z => absurd z q)⟩
def CL (n : Nat) (b : Nat → Nat) (R : Nat × Nat × (Nat → Nat → Nat)) (I I' : Nat → Nat → Int32) (L L' : Nat → Nat → Int64) : Prop := FL I I' L L' ∧ CP n b R.1 R.2.1 I' L' ∧ (R.2.1 = 0 → CD n b R.2.2 I' L')
theorem c_readOnly (hF : pm_fix pt_me pt_Sg (pt_R L0 xs) F) (hb : ∀ i, b i < 256) (X : CP n b q 0 I L) (D : CD n b d I L) (G : DG n b d) {k lo hi : Nat} (hk : k < 5) (h1 : kd n b q = 1) (hw : kw n b q = some k) (l1 : lo < 1000) (l2 : hi < 1000) : ∃ I' L' x, (F 708 0 [some (.ref 10), some (.int (nI lo)), some (.int (nI hi)), none] [] (49, pt_G, I, L)) = some (some (.int x), (49, pt_G, I', L')) ∧ FL I I' L L' ∧ CP n b (aq n b (aq n b q (oO d k)) (oN n b lo hi (aq n b q (oO d k)) (oO d k))) (oS n b (aq n b (aq n b q (oO d k)) (oN n b lo hi (aq n b q (oO d k)) (oO d k))) (oN n b lo hi (aq n b q (oO d k)) (oO d k))) I' L' ∧ CD n b (ud d 0 8 (ad (d 0 8) k)) I' L' ∧ (oN n b lo hi (aq n b q (oO d k)) (oO d k) = 0 → x = nI (vl n b (aq n b q (oO d k)))) := by
  obtain ⟨A, a1, a2, a3, a4⟩ := c_checkOnce hF X D G hk h1 hw
  obtain ⟨B, K, x, b1, b2, b3, b4⟩ := c_readNumber hF hb a3 l1 l2
  obtain ⟨C, M, c1, c2, c3⟩ := c_readSign hF hb b3
  rw [e708_0 hF, a1]
  simp (disch := omega) only [pm_k_i, Option.toList_some, Option.toList_none, List.cons_append, List.nil_append, cond_true, cond_false, ↓reduceIte, reduceCtorEq, z_1, nI_add, z_cl, z_ib, z_lt, z_le, z_eq, z_eq0, z_le0, z_lt0, z_b0, z_b1, z_m1, z_and7, Int32.add_zero, e708_4 hF, b1, e708_10 hF, c1, e708_15 hF]
  have fa : FL I A L L := ⟨fun r j q => a2 r j (fun z => by omega), fun _ _ _ _ _ => rfl⟩
  exact ⟨C, M, x, rfl, (fa.tr b2.fl).tr c2.fl, c3, c2.cd (b2.cd a4), b4⟩
end
