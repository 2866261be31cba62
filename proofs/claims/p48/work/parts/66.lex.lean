/-! ===== tokens ===== -/
section
/-- a byte; 256 behind the end -/
def cb (n : Nat) (b : Nat → Nat) (i : Nat) : Nat := if i < n then b i else 256
def cI (n : Nat) (b : Nat → Nat) (i : Nat) : Int32 := if i < n then nI (b i) else -1
def isL (c : Nat) : Bool := decide (97 ≤ c) && decide (c ≤ 122)
def isD (c : Nat) : Bool := decide (48 ≤ c) && decide (c ≤ 57)
def isB (c : Nat) : Bool := Nat.beq c 32 || Nat.beq c 10
/-- how many of a kind stand there -/
def rn (P : Nat → Bool) (n : Nat) (b : Nat → Nat) (q : Nat) : Nat := (ff (fun k => !(P (cb n b (q + k)))) 901).getD 0
theorem rn_ok (P : Nat → Bool) {n q : Nat} {b : Nat → Nat} (hP : P 256 = false) (hn : n ≤ 900) (hq : q ≤ n) : q + rn P n b q ≤ n ∧ (∀ k, k < rn P n b q → P (cb n b (q + k)) = true ∧ q + k < n) ∧ P (cb n b (q + rn P n b q)) = false := by
  have e : ∃ j, ff (fun k => !(P (cb n b (q + k)))) 901 = some j := by
    cases e : ff (fun k => !(P (cb n b (q + k)))) 901 with
    | some j => exact ⟨j, rfl⟩
    | none =>
      have := ff_none e (n - q) (by omega)
      rw [show cb n b (q + (n - q)) = 256 from if_neg (by omega), hP] at this
      cases this
  obtain ⟨j, hj⟩ := e
  have e2 : rn P n b q = j := by unfold rn; rw [hj]; rfl
  obtain ⟨j1, j2, j3⟩ := ff_some hj
  have key : ∀ k, k < j → P (cb n b (q + k)) = true ∧ q + k < n := by
    intro k hk
    have a := j3 k hk
    have a : P (cb n b (q + k)) = true := by
      cases x : P (cb n b (q + k)) with
      | true => rfl
      | false => rw [x] at a; cases a
    refine ⟨a, ?_⟩
    by_cases c : q + k < n
    · exact c
    · rw [show cb n b (q + k) = 256 from if_neg c, hP] at a; cases a
  rw [e2]
  refine ⟨?_, key, ?_⟩
  · by_cases c : j = 0
    · omega
    · have := (key (j - 1) (by omega)).2; omega
  · cases x : P (cb n b (q + j)) with
    | true => rw [x] at j2; cases j2
    | false => rfl
def skp (n : Nat) (b : Nat → Nat) (p : Nat) : Nat := p + rn isB n b p
def wln (n : Nat) (b : Nat → Nat) (q : Nat) : Nat := rn isL n b q
def dln (n : Nat) (b : Nat → Nat) (q : Nat) : Nat := rn isD n b q
/-- which token: 0 the end, 1 a word, 2 a number, 3 the sign, 4 none -/
def kd (n : Nat) (b : Nat → Nat) (q : Nat) : Nat := if n ≤ q then 0 else bif isL (cb n b q) then (if wln n b q ≤ 8 then 1 else 4) else bif isD (cb n b q) then (if dln n b q ≤ 3 then (bif isL (cb n b (q + dln n b q)) then 4 else 2) else 4) else (if cb n b q = 59 then 3 else 4)
def en (n : Nat) (b : Nat → Nat) (q : Nat) : Nat := if n ≤ q then q else bif isL (cb n b q) then q + wln n b q else bif isD (cb n b q) then q + dln n b q else q + 1
/-- a word's codes; a number -/
def e5 (n : Nat) (b : Nat → Nat) (q : Nat) : Nat := lp (fun k a => 32 * a + (cb n b (q + k) - 96)) (wln n b q) 0
def e8 (n : Nat) (b : Nat → Nat) (q : Nat) : Nat := lp (fun k a => 256 * a + cb n b (q + k)) (min (wln n b q) 8) 0
def vl (n : Nat) (b : Nat → Nat) (q : Nat) : Nat := lp (fun k a => 10 * a + (cb n b (q + k) - 48)) (dln n b q) 0
/-- the language's words -/
def lwd (k : Nat) : List Nat := [[100, 105, 118, 105, 115, 111, 114, 115], [110, 101, 101, 100], [99, 97, 114, 101], [116, 114, 105, 101, 115], [116, 105, 114, 101], [111, 102, 102, 105, 99, 101], [112, 97, 114, 116, 121], [115, 101, 97, 116, 115], [97, 116], [119, 97, 108, 107], [119, 111, 114, 116, 104], [115, 116, 97, 110, 99, 101], [98, 97, 114]].getD k []
def c5 (k : Nat) : Nat := lp (fun i a => 32 * a + ((lwd k).getD i 0 - 96)) (lwd k).length 0
def c8 (k : Nat) : Nat := lp (fun i a => 256 * a + (lwd k).getD i 0) (lwd k).length 0
def kw (n : Nat) (b : Nat → Nat) (q : Nat) : Option Nat := ff (fun k => Nat.beq (c5 k) (e5 n b q)) 13
theorem c5_lt : ∀ k, k < 13 → c5 k < 1099511627776 := by decide +kernel
theorem e5_le {n q : Nat} {b : Nat → Nat} : wln n b q ≤ 8 → e5 n b q < 1099511627776 := by
  intro hw
  have hh : ∀ m, m ≤ wln n b q → (∀ k, k < m → cb n b (q + k) ≤ 122) → lp (fun k a => 32 * a + (cb n b (q + k) - 96)) m 0 < 32 ^ m := by
    intro m
    induction m with
    | zero => intro _ _; show 0 < 1; omega
    | succ m ih =>
      intro hm hc
      have i := ih (by omega) (fun k hk => hc k (by omega))
      have c := hc m (by omega)
      show 32 * lp (fun k a => 32 * a + (cb n b (q + k) - 96)) m 0 + (cb n b (q + m) - 96) < 32 ^ (m + 1)
      rw [Nat.pow_succ]
      omega
  have e : ∃ j, ff (fun k => !(isL (cb n b (q + k)))) 901 = some j ∨ wln n b q = 0 := by
    cases e : ff (fun k => !(isL (cb n b (q + k)))) 901 with
    | some j => exact ⟨j, Or.inl rfl⟩
    | none => exact ⟨0, Or.inr (by unfold wln rn; rw [e]; rfl)⟩
  have hc : ∀ k, k < wln n b q → cb n b (q + k) ≤ 122 := by
    intro k hk
    obtain ⟨j, e | e⟩ := e
    · obtain ⟨j1, j2, j3⟩ := ff_some e
      have e2 : wln n b q = j := by unfold wln rn; rw [e]; rfl
      have := j3 k (by omega)
      unfold isL at this
      by_cases c : cb n b (q + k) ≤ 122
      · exact c
      · rw [decide_eq_false c, Bool.and_false] at this; cases this
    · omega
  have := hh (wln n b q) (Nat.le_refl _) hc
  have p : 32 ^ wln n b q ≤ 32 ^ 8 := Nat.pow_le_pow_right (by decide) hw
  have : e5 n b q < 32 ^ wln n b q := this
  omega
theorem isL_c {c : Nat} (h : isL c = true) : 97 ≤ c ∧ c ≤ 122 := by
  unfold isL at h
  rw [Bool.and_eq_true, decide_eq_true_eq, decide_eq_true_eq] at h
  exact h
theorem isD_c {c : Nat} (h : isD c = true) : 48 ≤ c ∧ c ≤ 57 := by
  unfold isD at h
  rw [Bool.and_eq_true, decide_eq_true_eq, decide_eq_true_eq] at h
  exact h
theorem isB_c {c : Nat} (h : isB c = true) : c = 32 ∨ c = 10 := by
  unfold isB at h
  rw [Bool.or_eq_true] at h
  rcases h with h | h
  · exact Or.inl (Nat.eq_of_beq_eq_true h)
  · exact Or.inr (Nat.eq_of_beq_eq_true h)
theorem isL_6 : isL 256 = false := by decide
theorem isD_6 : isD 256 = false := by decide
theorem isB_6 : isB 256 = false := by decide
theorem skp_le {n p : Nat} {b : Nat → Nat} (hn : n ≤ 900) (hp : p ≤ n) : p ≤ skp n b p ∧ skp n b p ≤ n := by
  have := (rn_ok isB (b := b) isB_6 hn hp).1
  unfold skp
  omega
theorem en_le {n q : Nat} {b : Nat → Nat} (hn : n ≤ 900) (hq : q ≤ n) : q ≤ en n b q ∧ en n b q ≤ n ∧ (q < n → q < en n b q) := by
  have a := (rn_ok isL (b := b) isL_6 hn hq)
  have d := (rn_ok isD (b := b) isD_6 hn hq)
  unfold en
  by_cases c : n ≤ q
  · rw [if_pos c]; omega
  · rw [if_neg c]
    cases x : isL (cb n b q) with
    | true =>
      have : 0 < rn isL n b q := by
        rcases Nat.eq_zero_or_pos (rn isL n b q) with z | z
        · have := a.2.2; rw [z, Nat.add_zero, x] at this; cases this
        · exact z
      show q ≤ q + wln n b q ∧ q + wln n b q ≤ n ∧ (q < n → q < q + wln n b q)
      unfold wln
      omega
    | false =>
      cases y : isD (cb n b q) with
      | true =>
        have : 0 < rn isD n b q := by
          rcases Nat.eq_zero_or_pos (rn isD n b q) with z | z
          · have := d.2.2; rw [z, Nat.add_zero, y] at this; cases this
          · exact z
        show q ≤ q + dln n b q ∧ q + dln n b q ≤ n ∧ (q < n → q < q + dln n b q)
        unfold dln
        omega
      | false =>
        show q ≤ q + 1 ∧ q + 1 ≤ n ∧ (q < n → q < q + 1)
        omega
variable {I I' : Nat → Nat → Int32} {L L' : Nat → Nat → Int64}
variable {F : pm_F} {L0 : Nat} {xs : Nat → Int32}
theorem cI_at {n i : Nat} {b : Nat → Nat} (hi : i < n) : cI n b i = nI (cb n b i) := by unfold cI cb; rw [if_pos hi, if_pos hi]
theorem c_isLetter (hF : pm_fix pt_me pt_Sg (pt_R L0 xs) F) {n i : Nat} {b : Nat → Nat} (hb : ∀ i, b i < 256) : (F 726 0 [some (.int (cI n b i))] [] (49, pt_G, I, L)) = some (some (.int (nI (isL (cb n b i)).toNat)), (49, pt_G, I, L)) := by
  have := hb i
  rw [e726_0 hF]
  unfold cI cb isL
  by_cases c : i < n
  · rw [if_pos c, if_pos c, show (97 : Int32) = nI 97 from rfl, show (122 : Int32) = nI 122 from rfl]
    simp (disch := omega) only [pm_k_i, Option.toList_some, Option.toList_none, List.cons_append, List.nil_append, cond_true, cond_false, ↓reduceIte, reduceCtorEq, z_1, nI_add, z_cl, z_ib, z_lt, z_le, z_eq, z_eq0, z_le0, z_lt0, z_b0, z_b1, z_m1, z_and7, Int32.add_zero]
    by_cases d : b i < 97
    · rw [if_pos d, decide_eq_false (by omega)]; rfl
    · rw [if_neg d, decide_eq_true (by omega)]
      by_cases e : b i ≤ 122
      · rw [if_pos e, decide_eq_true e]; rfl
      · rw [if_neg e, decide_eq_false e]; rfl
  · rw [if_neg c, if_neg c, if_pos (by decide)]; rfl
theorem c_isDigit (hF : pm_fix pt_me pt_Sg (pt_R L0 xs) F) {n i : Nat} {b : Nat → Nat} (hb : ∀ i, b i < 256) : (F 727 0 [some (.int (cI n b i))] [] (49, pt_G, I, L)) = some (some (.int (nI (isD (cb n b i)).toNat)), (49, pt_G, I, L)) := by
  have := hb i
  rw [e727_0 hF]
  unfold cI cb isD
  by_cases c : i < n
  · rw [if_pos c, if_pos c, show (48 : Int32) = nI 48 from rfl, show (57 : Int32) = nI 57 from rfl]
    simp (disch := omega) only [pm_k_i, Option.toList_some, Option.toList_none, List.cons_append, List.nil_append, cond_true, cond_false, ↓reduceIte, reduceCtorEq, z_1, nI_add, z_cl, z_ib, z_lt, z_le, z_eq, z_eq0, z_le0, z_lt0, z_b0, z_b1, z_m1, z_and7, Int32.add_zero]
    by_cases d : b i < 48
    · rw [if_pos d, decide_eq_false (by omega)]; rfl
    · rw [if_neg d, decide_eq_true (by omega)]
      by_cases e : b i ≤ 57
      · rw [if_pos e, decide_eq_true e]; rfl
      · rw [if_neg e, decide_eq_false e]; rfl
  · rw [if_neg c, if_neg c, if_pos (by decide)]; rfl
theorem c_isBlank (hF : pm_fix pt_me pt_Sg (pt_R L0 xs) F) {n i : Nat} {b : Nat → Nat} (hb : ∀ i, b i < 256) : (F 725 0 [some (.int (cI n b i))] [] (49, pt_G, I, L)) = some (some (.int (nI (isB (cb n b i)).toNat)), (49, pt_G, I, L)) := by
  have := hb i
  rw [e725_0 hF]
  unfold cI cb isB
  by_cases c : i < n
  · rw [if_pos c, if_pos c, show (32 : Int32) = nI 32 from rfl, show (10 : Int32) = nI 10 from rfl]
    simp (disch := omega) only [pm_k_i, Option.toList_some, Option.toList_none, List.cons_append, List.nil_append, cond_true, cond_false, ↓reduceIte, reduceCtorEq, z_1, nI_add, z_cl, z_ib, z_lt, z_le, z_eq, z_eq0, z_le0, z_lt0, z_b0, z_b1, z_m1, z_and7, Int32.add_zero]
    by_cases d : b i = 32
    · rw [if_pos d, d]; rfl
    · rw [if_neg d, beq_f d, Bool.false_or]
      by_cases e : b i = 10
      · rw [if_pos e, e]; rfl
      · rw [if_neg e, beq_f e]; rfl
  · rw [if_neg c, if_neg c, if_neg (by decide), if_neg (by decide)]; rfl
theorem c_byteAt' (hF : pm_fix pt_me pt_Sg (pt_R L0 xs) F) {n i : Nat} {b : Nat → Nat} (X : TC n b I) (hi : i ≤ 900) : (F 1003 0 [some (.ref 1), some (.int (nI i))] [] (49, pt_G, I, L)) = some (some (.int (cI n b i)), (49, pt_G, I, L)) := c_byteAt hF X hi
theorem TC.of {n : Nat} {b : Nat → Nat} (X : TC n b I) (f1 : I' 1 1 = I 1 1) (f2 : ∀ i, I' 2 i = I 2 i) : TC n b I' := ⟨by rw [f1]; exact X.1, X.2.1, fun i hi => by rw [f2]; exact X.2.2 i hi⟩
/-- the language as the class has it -/
def LG (L : Nat → Nat → Int64) : Prop := ∀ k, k < 13 → L 18 k = lN (c5 k)
theorem lc_eq (x y : Int64) : (lg_cmp x y = 0) = (x = y) := by
  refine propext ?_
  unfold lg_cmp
  by_cases c1 : x > y
  · rw [if_pos c1]
    exact ⟨fun q => absurd q (by decide), fun q => by rw [q] at c1; exact absurd c1 (Int64.lt_irrefl)⟩
  · rw [if_neg c1]
    by_cases c2 : x = y
    · rw [if_pos c2]; exact ⟨fun _ => c2, fun _ => rfl⟩
    · rw [if_neg c2]; exact ⟨fun q => absurd q (by decide), fun q => absurd q c2⟩
theorem c_findKw (hF : pm_fix pt_me pt_Sg (pt_R L0 xs) F) (G : LG L) {n q : Nat} {b : Nat → Nat} (hw : wln n b q ≤ 8) : (F 720 0 [some (.ref 18), some (.int (nI 13)), some (.long (lN (e5 n b q))), none, none] [] (49, pt_G, I, L)) = some (some (.int (oI (kw n b q))), (49, pt_G, I, L)) := by
  have e1 := e5_le (n := n) (q := q) (b := b) hw
  rw [e720_0a hF]
  refine (ffE (G := fun k => (F 720 3 [some (.ref 18), some (.int (nI 13)), some (.long (lN (e5 n b q))), none, some (.int (nI k))] [] (49, pt_G, I, L))) (X := fun k => (some (some (.int (nI k)), (49, pt_G, I, L)) : pm_R)) (p := fun k => Nat.beq (c5 k) (e5 n b q)) (n := 13) (fun k hk => ?_)).trans ?_
  · try dsimp only
    have e2 := c5_lt k hk
    rw [e720_3a hF]
    simp (disch := omega) only [pm_k_i, Option.toList_some, Option.toList_none, List.cons_append, List.nil_append, cond_true, cond_false, ↓reduceIte, reduceCtorEq, z_1, nI_add, z_cl, z_ib, z_lt, z_le, z_eq, z_eq0, z_le0, z_lt0, z_b0, z_b1, z_m1, z_and7, Int32.add_zero, hk, G k hk, lc_eq, pk_lEQ]
    by_cases c : c5 k = e5 n b q
    · rw [if_pos c, c, Nat.beq_refl]; rfl
    · rw [if_neg c, beq_f c]; rfl
  · unfold kw
    cases ff (fun k => Nat.beq (c5 k) (e5 n b q)) 13 with
    | some k => rfl
    | none =>
      dsimp only
      rw [e720_3a hF]
      simp (disch := omega) only [pm_k_i, Option.toList_some, Option.toList_none, List.cons_append, List.nil_append, cond_true, cond_false, ↓reduceIte, reduceCtorEq, z_1, nI_add, z_cl, z_ib, z_lt, z_le, z_eq, z_eq0, z_le0, z_lt0, z_b0, z_b1, z_m1, z_and7, Int32.add_zero, Nat.lt_irrefl]
      rfl
/-- the token at q lies there -/
def CK (n : Nat) (b : Nat → Nat) (q : Nat) (I : Nat → Nat → Int32) (L : Nat → Nat → Int64) : Prop := I 10 10 = nI (en n b q) ∧ I 10 11 = nI q ∧ I 10 12 = nI (kd n b q) ∧ I 10 15 = (if kd n b q = 1 then oI (kw n b q) else -1) ∧ (kd n b q = 2 → I 10 13 = nI (vl n b q)) ∧ (kd n b q = 1 → L 10 14 = lN (e5 n b q))
def FT0 (I I' : Nat → Nat → Int32) (L L' : Nat → Nat → Int64) : Prop := (∀ r j, (r = 10 → j < 10) → I' r j = I r j) ∧ ∀ r j, (r = 10 → j ≠ 14) → L' r j = L r j
theorem FT0.rf : FT0 I I L L := ⟨fun _ _ _ => rfl, fun _ _ _ => rfl⟩
theorem FT0.tr {I1 I2 I3 : Nat → Nat → Int32} {L1 L2 L3 : Nat → Nat → Int64} (a : FT0 I1 I2 L1 L2) (b : FT0 I2 I3 L2 L3) : FT0 I1 I3 L1 L3 := ⟨fun r j q => (b.1 r j q).trans (a.1 r j q), fun r j q => (b.2 r j q).trans (a.2 r j q)⟩
theorem FT0.tc {n : Nat} {b : Nat → Nat} (a : FT0 I I' L L') (X : TC n b I) : TC n b I' := X.of (a.1 1 1 (by omega)) (fun i => a.1 2 i (by omega))
theorem c_takeWord (hF : pm_fix pt_me pt_Sg (pt_R L0 xs) F) (G : LG L) {n q : Nat} {b : Nat → Nat} (hb : ∀ i, b i < 256) (X : TC n b I) (hq : q < n) (h10 : I 10 10 = nI q) (h11 : I 10 11 = nI q) (h15 : I 10 15 = -1) (hl : isL (cb n b q) = true) : ∃ I' L', (F 722 0 [some (.ref 10)] [] (49, pt_G, I, L)) = some (none, (49, pt_G, I', L')) ∧ FT0 I I' L L' ∧ CK n b q I' L' := by
  have hn := X.2.1
  obtain ⟨r1, r2, r3⟩ := rn_ok isL (b := b) isL_6 hn (show q ≤ n by omega)
  have ek : kd n b q = if wln n b q ≤ 8 then 1 else 4 := by unfold kd; rw [if_neg (by omega), hl]; rfl
  have ee : en n b q = q + wln n b q := by unfold en; rw [if_neg (by omega), hl]; rfl
  have eR : rn isL n b q = wln n b q := rfl
  rw [eR] at r1 r2 r3
  rw [e722_0 hF]
  refine wl (α := (Nat → Nat → Int32) × (Nat → Nat → Int64)) (Q := fun x => ∃ I' L', x = some (none, (49, pt_G, I', L')) ∧ FT0 I I' L L' ∧ CK n b q I' L') (G := fun k J => (F 722 5 [some (.ref 10)] [] (49, pt_G, J.1, J.2))) (P := fun k J => FT0 I J.1 L J.2 ∧ J.1 10 10 = nI (q + k) ∧ J.1 10 11 = nI q ∧ J.1 10 15 = -1 ∧ J.2 10 14 = lN (lp (fun k a => 32 * a + (cb n b (q + k) - 96)) k 0)) (n := wln n b q) (fun k J hk hJ go => ?_) (fun J hJ => ?_) 0 (I, pm_ul L 10 14 0) (Nat.zero_le _) ⟨⟨fun _ _ _ => rfl, fun r j a => ?_⟩, h10, h11, h15, by show pm_ul L 10 14 0 10 14 = _; rw [z_le']; rfl⟩
  · obtain ⟨j1, j2, j3, j4, j5⟩ := hJ
    obtain ⟨a1, a2⟩ := r2 k hk
    obtain ⟨c1, c2⟩ := isL_c a1
    have XJ := j1.tc X
    try dsimp only
    rw [e722_5 hF, j2]
    have lx : nI (cb n b (q + k)) - 97 + 1 = nI (cb n b (q + k) - 96) := by
      rw [show (97 : Int32) = nI 97 from rfl, pk_sub (by omega), z_1]
      congr 1
      omega
    have il := c_isLetter (I := J.1) (L := J.2) (n := n) (i := q + k) hF hb
    rw [cI_at a2] at il
    simp (disch := omega) only [pm_k_i, Option.toList_some, Option.toList_none, List.cons_append, List.nil_append, cond_true, cond_false, ↓reduceIte, reduceCtorEq, z_1, nI_add, z_cl, z_ib, z_lt, z_le, z_eq, z_eq0, z_le0, z_lt0, z_b0, z_b1, z_m1, z_and7, Int32.add_zero, c_length hF XJ, e722_16 hF, a2, c_byteAt' hF XJ, e722_30 hF, il, a1, e722_33 hF, e722_52 hF, e724_0 hF, cI_at a2, e722_55 hF, j2, j5, lx, zl_of]
    rw [show (32 : Int64) = lN 32 from rfl, lN_mul, lN_add]
    have k1 : pm_ui J.1 10 10 (nI (q + k + 1)) 10 10 = nI (q + (k + 1)) := z_ue
    have k2 : pm_ui J.1 10 10 (nI (q + k + 1)) 10 11 = nI q := by rw [z_uk (by omega)]; exact j3
    have k3 : pm_ui J.1 10 10 (nI (q + k + 1)) 10 15 = -1 := by rw [z_uk (by omega)]; exact j4
    have k4 : pm_ul J.2 10 14 (lN (32 * lp (fun k a => 32 * a + (cb n b (q + k) - 96)) k 0 + (cb n b (q + k) - 96))) 10 14 = lN (lp (fun k a => 32 * a + (cb n b (q + k) - 96)) (k + 1) 0) := by rw [z_le']; rfl
    refine go (pm_ui J.1 10 10 (nI (q + k + 1)), pm_ul J.2 10 14 (lN (32 * lp (fun k a => 32 * a + (cb n b (q + k) - 96)) k 0 + (cb n b (q + k) - 96)))) ⟨j1.tr ⟨fun r j a => ?_, fun r j a => ?_⟩, k1, k2, k3, k4⟩
    · show pm_ui J.1 10 10 _ r j = _
      by_cases z : r = 10
      · have := a z; rw [z, z_uk (by omega)]
      · rw [z_ur z]
    · show pm_ul J.2 10 14 _ r j = _
      by_cases z : r = 10
      · have := a z; rw [z, z_lk (by omega)]
      · rw [z_lr z]
  · obtain ⟨j1, j2, j3, j4, j5⟩ := hJ
    have XJ := j1.tc X
    have GJ : LG J.2 := fun k hk => by rw [j1.2 18 k (by omega)]; exact G k hk
    have s0 : nI (q + wln n b q) - nI q = nI (wln n b q) := by rw [pk_sub (by omega), Nat.add_sub_cancel_left]
    -- the same end by two ways
    have fin : ∃ I' L', (if nI (wln n b q) ≤ 8 then (if (1 : Int32) = 1 then pm_k (F 720 0 [some (.ref 18), some (.int (nI 13)), some (.long (lN (e5 n b q))), none, none] [] (49, pt_G, (pm_ui J.1 10 12 1), J.2)) (fun v S => F 722 119 [some (.ref 10)] (v.toList ++ [.ref 10]) S) else some (none, (49, pt_G, pm_ui J.1 10 12 1, J.2))) else (if (4 : Int32) = 1 then pm_k (F 720 0 [some (.ref 18), some (.int (nI 13)), some (.long (lN (e5 n b q))), none, none] [] (49, pt_G, (pm_ui J.1 10 12 4), J.2)) (fun v S => F 722 119 [some (.ref 10)] (v.toList ++ [.ref 10]) S) else some (none, (49, pt_G, pm_ui J.1 10 12 4, J.2)))) = some (none, (49, pt_G, I', L')) ∧ FT0 I I' L L' ∧ CK n b q I' L' := by
      by_cases c : wln n b q ≤ 8
      · rw [if_pos c] at ek
        have fk := c_findKw (I := pm_ui J.1 10 12 1) hF GJ c
        rw [if_pos (show nI (wln n b q) ≤ 8 by rw [show (8 : Int32) = nI 8 from rfl, z_le (by omega) (by omega)]; exact c), if_pos rfl, fk]
        simp (disch := omega) only [pm_k_i, Option.toList_some, Option.toList_none, List.cons_append, List.nil_append, cond_true, cond_false, ↓reduceIte, reduceCtorEq, z_1, nI_add, z_cl, z_ib, z_lt, z_le, z_eq, z_eq0, z_le0, z_lt0, z_b0, z_b1, z_m1, z_and7, Int32.add_zero, e722_119 hF]
        refine ⟨_, _, rfl, j1.tr ⟨fun r j a => ?_, fun _ _ _ => rfl⟩, ?_, ?_, ?_, ?_, fun z => ?_, fun z => j5⟩
        · by_cases z : r = 10
          · have := a z; rw [z, z_uk (by omega), z_uk (by omega)]
          · rw [z_ur z, z_ur z]
        · rw [z_uk (by omega), z_uk (by omega), ee]; exact j2
        · rw [z_uk (by omega), z_uk (by omega)]; exact j3
        · rw [z_uk (by omega), z_ue, ek]; rfl
        · rw [z_ue, ek, if_pos rfl]
        · omega
      · rw [if_neg c] at ek
        rw [if_neg (show ¬ nI (wln n b q) ≤ 8 by rw [show (8 : Int32) = nI 8 from rfl, z_le (by omega) (by omega)]; exact c), if_neg (by decide)]
        refine ⟨_, _, rfl, j1.tr ⟨fun r j a => ?_, fun _ _ _ => rfl⟩, ?_, ?_, ?_, ?_, fun z => ?_, fun z => ?_⟩
        · by_cases z : r = 10
          · have := a z; rw [z, z_uk (by omega)]
          · rw [z_ur z]
        · rw [z_uk (by omega), ee]; exact j2
        · rw [z_uk (by omega)]; exact j3
        · rw [z_ue, ek]; rfl
        · rw [z_uk (by omega), ek, if_neg (by decide)]; exact j4
        · omega
        · omega
    have j5' : J.2 10 14 = lN (e5 n b q) := j5
    try dsimp only
    rw [e722_5 hF, j2]
    by_cases c : q + wln n b q < n
    · simp (disch := omega) only [pm_k_i, Option.toList_some, Option.toList_none, List.cons_append, List.nil_append, cond_true, cond_false, ↓reduceIte, reduceCtorEq, z_1, nI_add, z_cl, z_ib, z_lt, z_le, z_eq, z_eq0, z_le0, z_lt0, z_b0, z_b1, z_m1, z_and7, Int32.add_zero, c_length hF XJ, e722_16 hF, c, c_byteAt' hF XJ, e722_30 hF, c_isLetter hF hb, r3, e722_33 hF, j2, j3, s0, j5']
      exact fin
    · simp (disch := omega) only [pm_k_i, Option.toList_some, Option.toList_none, List.cons_append, List.nil_append, cond_true, cond_false, ↓reduceIte, reduceCtorEq, z_1, nI_add, z_cl, z_ib, z_lt, z_le, z_eq, z_eq0, z_le0, z_lt0, z_b0, z_b1, z_m1, z_and7, Int32.add_zero, c_length hF XJ, e722_16 hF, c, j2, j3, s0, j5']
      exact fin
  · show pm_ul L 10 14 0 r j = _
    by_cases z : r = 10
    · have := a z; rw [z, z_lk (by omega)]
    · rw [z_lr z]
end
