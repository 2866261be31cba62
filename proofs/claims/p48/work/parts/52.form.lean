/-! ===== forming: formers, choices, who walks out ===== -/
section
variable {h : Nat → Nat → Nat} {I I' : Nat → Nat → Int32} {L L' : Nat → Nat → Int64} {e v : Nat}
variable {F : pm_F} {L0 : Nat} {xs : Nat → Int32}
/-- who is a former ahead of whom -/
def lfo (h : Nat → Nat → Nat) (x y : Nat) : Bool := decide (h 1 y < h 1 x ∨ (h 1 x = h 1 y ∧ x < y))
def nf1 (h : Nat → Nat → Nat) (D p : Nat) (b : Option Nat) : Option Nat := bif !D.testBit p && (match b with
  | none => true
  | some q => decide (h 1 q < h 1 p)) then some p else b
def nfo (h : Nat → Nat → Nat) (D : Nat) : Option Nat := lp (nf1 h D) (h 0 0) none
def dnf (h : Nat → Nat → Nat) : Nat → Nat
  | 0 => 0
  | n + 1 => ad (dnf h n) ((nfo h (dnf h n)).getD 0)
def fo (h : Nat → Nat → Nat) (n : Nat) : Nat := (nfo h (dnf h n)).getD 0
theorem nfo_ok {D : Nat} (hx : ∃ x, x < h 0 0 ∧ D.testBit x = false) : ∃ m, nfo h D = some m ∧ m < h 0 0 ∧ D.testBit m = false ∧ ∀ y, y < h 0 0 → D.testBit y = false → y ≠ m → lfo h m y = true := by
  have key := lpP (f := nf1 h D) (P := fun k b => (b = none → ∀ y, y < k → D.testBit y = true) ∧ ∀ m, b = some m → m < k ∧ D.testBit m = false ∧ ∀ y, y < k → D.testBit y = false → y ≠ m → lfo h m y = true) (n := h 0 0) (a := none) ⟨fun _ y hy => by omega, fun m hm => by cases hm⟩ (fun k b hk hb => by
    obtain ⟨b1, b2⟩ := hb
    cases hd : D.testBit k with
    | true =>
      have e : nf1 h D k b = b := by unfold nf1; rw [hd]; rfl
      rw [e]
      refine ⟨fun q y hy => ?_, fun m hm => ?_⟩
      · by_cases w : y = k
        · rw [w]; exact hd
        · exact b1 q y (by omega)
      · obtain ⟨c1, c2, c3⟩ := b2 m hm
        refine ⟨by omega, c2, fun y hy hz hne => ?_⟩
        by_cases w : y = k
        · rw [w, hd] at hz; cases hz
        · exact c3 y (by omega) hz hne
    | false =>
      cases b with
      | none =>
        have e : nf1 h D k none = some k := by unfold nf1; rw [hd]; rfl
        rw [e]
        refine ⟨(fun q => by cases q), fun m hm => ?_⟩
        cases hm
        refine ⟨by omega, hd, fun y hy hz hne => ?_⟩
        have := b1 rfl y (by omega)
        rw [this] at hz; cases hz
      | some q =>
        obtain ⟨c1, c2, c3⟩ := b2 q rfl
        by_cases w : h 1 q < h 1 k
        · have e : nf1 h D k (some q) = some k := by unfold nf1; rw [hd]; show (bif !false && decide _ then _ else _) = _; rw [decide_eq_true w]; rfl
          rw [e]
          refine ⟨(fun q => by cases q), fun m hm => ?_⟩
          cases hm
          refine ⟨by omega, hd, fun y hy hz hne => ?_⟩
          by_cases w2 : y = q
          · rw [w2]; exact decide_eq_true (by omega)
          · have := of_decide_eq_true (c3 y (by omega) hz w2)
            exact decide_eq_true (by omega)
        · have e : nf1 h D k (some q) = some q := by unfold nf1; rw [hd]; show (bif !false && decide _ then _ else _) = _; rw [decide_eq_false w]; rfl
          rw [e]
          refine ⟨(fun q => by cases q), fun m hm => ?_⟩
          cases hm
          refine ⟨by omega, c2, fun y hy hz hne => ?_⟩
          by_cases w2 : y = k
          · rw [w2]; exact decide_eq_true (by omega)
          · exact c3 y (by omega) hz hne)
  obtain ⟨x, x1, x2⟩ := hx
  cases q : nfo h D with
  | none =>
    have := key.1 q x x1
    rw [this] at x2; cases x2
  | some m => exact ⟨m, rfl, key.2 m q⟩
theorem dnf_ok (W : WF h) {n : Nat} (hn : n ≤ h 0 0) : dnf h n < 2 ^ h 0 0 ∧ pc (dnf h n) = n := by
  have hP := W.P
  have l7 : 2 ^ h 0 0 ≤ 2 ^ 7 := Nat.pow_le_pow_right (by decide) hP
  induction n with
  | zero => exact ⟨Nat.two_pow_pos _, by show pc 0 = 0; decide +kernel⟩
  | succ n ih =>
    obtain ⟨d1, d2⟩ := ih (by omega)
    obtain ⟨m, m1, m2, m3, m4⟩ := nfo_ok (h := h) (D := dnf h n) (free_set (h 0 0) (by omega) _ d1 (by omega))
    have e : dnf h (n + 1) = ad (dnf h n) m := by show ad (dnf h n) ((nfo h (dnf h n)).getD 0) = _; rw [m1]; rfl
    rw [e]
    refine ⟨ad_sub (h 0 0) (by omega) _ d1 m m2, ?_⟩
    rw [pc_ad _ (by omega) m (by omega) m3, d2]
theorem fo_ok (W : WF h) {n : Nat} (hn : n < h 0 0) : nfo h (dnf h n) = some (fo h n) ∧ fo h n < h 0 0 ∧ (dnf h n).testBit (fo h n) = false ∧ dnf h (n + 1) = ad (dnf h n) (fo h n) ∧ ∀ y, y < h 0 0 → (dnf h n).testBit y = false → y ≠ fo h n → lfo h (fo h n) y = true := by
  have hP := W.P
  obtain ⟨d1, d2⟩ := dnf_ok W (n := n) (by omega)
  obtain ⟨m, m1, m2, m3, m4⟩ := nfo_ok (h := h) (D := dnf h n) (free_set (h 0 0) (by omega) _ d1 (by omega))
  have e : fo h n = m := by unfold fo; rw [m1]; rfl
  rw [e]
  exact ⟨m1, m2, m3, by show ad (dnf h n) ((nfo h (dnf h n)).getD 0) = _; rw [m1]; rfl, m4⟩
/-- the first so many formers are the set -/
theorem dnf_mem (W : WF h) {n : Nat} (hn : n ≤ h 0 0) {x : Nat} (hx : x < 8) : (dnf h n).testBit x = true ↔ ∃ i, i < n ∧ fo h i = x := by
  have hP := W.P
  have l7 : 2 ^ h 0 0 ≤ 2 ^ 7 := Nat.pow_le_pow_right (by decide) hP
  induction n with
  | zero => exact ⟨(fun hh => by rw [show dnf h 0 = 0 from rfl, Nat.zero_testBit] at hh; cases hh), (fun ⟨i, hi, _⟩ => by omega)⟩
  | succ n ih =>
    obtain ⟨d1, d2⟩ := dnf_ok W (n := n) (by omega)
    obtain ⟨f1, f2, f3, f4, f5⟩ := fo_ok W (n := n) (by omega)
    have ih' := ih (by omega)
    rw [f4, z_adb _ (by omega) _ (by omega) x hx, Bool.or_eq_true]
    constructor
    · rintro (a | a)
      · obtain ⟨i, a, b⟩ := ih'.mp a
        exact ⟨i, by omega, b⟩
      · exact ⟨n, by omega, (Nat.eq_of_beq_eq_true a).symm⟩
    · rintro ⟨i, a, b⟩
      by_cases q : i = n
      · right; subst q; rw [b, Nat.beq_refl]
      · left; exact ih'.mpr ⟨i, by omega, b⟩
/-- whoever sorts them so has these -/
theorem fo_uniq (W : WF h) {o : Nat → Nat} (h1 : ∀ i, i < h 0 0 → o i < h 0 0) (h2 : ∀ i j, i < j → j < h 0 0 → lfo h (o i) (o j) = true) (h3 : ∀ x, x < h 0 0 → ∃ i, i < h 0 0 ∧ o i = x) : ∀ n, n < h 0 0 → o n = fo h n := by
  have hP := W.P
  intro n
  induction n using Nat.strongRecOn with
  | ind n ih =>
    intro hn
    obtain ⟨f1, f2, f3, f4, f5⟩ := fo_ok W hn
    by_cases q : o n = fo h n
    · exact q
    · exfalso
      -- not among those ahead
      have a1 : (dnf h n).testBit (o n) = false := by
        cases z : (dnf h n).testBit (o n) with
        | false => rfl
        | true =>
          obtain ⟨i, i1, i2⟩ := (dnf_mem W (n := n) (by omega) (by have := h1 n hn; omega)).mp z
          have := ih i i1 (by omega)
          have l := of_decide_eq_true (h2 i n i1 hn)
          rw [this, i2] at l
          omega
      have l1 := of_decide_eq_true (f5 (o n) (h1 n hn) a1 q)
      obtain ⟨j, j1, j2⟩ := h3 (fo h n) f2
      rcases Nat.lt_trichotomy j n with w | w | w
      · have := ih j w j1
        have z : (dnf h n).testBit (fo h n) = true := (dnf_mem W (n := n) (by omega) (by omega)).mpr ⟨j, w, by rw [← this]; exact j2⟩
        rw [f3] at z; cases z
      · rw [w] at j2; exact q j2
      · have l2 := of_decide_eq_true (h2 n j w j1)
        rw [j2] at l2
        omega
/-! a former's choice -/
def lk (h : Nat → Nat → Nat) (p c b : Nat) : Bool := decide (0 < pyc h c p - pyc h b p) || (decide (pyc h c p - pyc h b p = 0) && decide (pc c < pc b))
def bc1 (h : Nat → Nat → Nat) (sp : Nat → Bool) (p k b : Nat) : Nat := bif ((k + 1).testBit p && (!sp (k + 1) && can h (k + 1))) && (Nat.beq b 0 || lk h p (k + 1) b) then k + 1 else b
def bch (h : Nat → Nat → Nat) (sp : Nat → Bool) (p : Nat) : Nat := lp (bc1 h sp p) (ev h) 0
def wkr (h : Nat → Nat → Nat) (c r : Nat) : Nat := lp (fun p a => bif c.testBit p && decide (pyc h c p < nI (h 3 p) - nI (h 0 7 * r)) then ad a p else a) (h 0 0) 0
theorem bch_ok (sp : Nat → Bool) (p : Nat) : bch h sp p ≤ ev h ∧ (0 < bch h sp p → can h (bch h sp p) = true) := by
  have key := lpP (f := bc1 h sp p) (P := fun k b => b ≤ k ∧ (0 < b → can h b = true)) (n := ev h) (a := 0) ⟨Nat.le_refl _, fun q => by omega⟩ (fun k b hk hb => by
    obtain ⟨b1, b2⟩ := hb
    unfold bc1
    cases q : (((k + 1).testBit p && (!sp (k + 1) && can h (k + 1))) && (Nat.beq b 0 || lk h p (k + 1) b)) with
    | false => exact ⟨by show b ≤ _; omega, b2⟩
    | true =>
      rw [Bool.and_eq_true, Bool.and_eq_true, Bool.and_eq_true] at q
      exact ⟨Nat.le_refl _, fun _ => q.1.2.2⟩)
  exact key
theorem wkr_lt (W : WF h) (c r : Nat) : wkr h c r < 128 := by
  have hP := W.P
  refine lpP (P := fun _ a => a < 128) (Nat.zero_lt_succ 127) (fun k a hk ha => ?_)
  show (bif _ then ad a k else a) < 128
  cases (c.testBit k && decide (pyc h c k < nI (h 3 k) - nI (h 0 7 * r)))
  · exact ha
  · exact ad_128 a ha k (by omega)
theorem FR.of2 (X : FR h e v I L) (fr : ∀ r k, r < 40 → I' r k = I r k) : FR h e v I' L := by
  obtain ⟨X1, X2⟩ := X
  have f : ∀ r k, r < 38 → I' r k = I r k := fun r k hr => fr r k (by omega)
  have f38 : ∀ c, 0 < c → c ≤ ev h → I' 38 c = I 38 c ∨ I' 38 c = nI (rvl h c) := fun c _ _ => Or.inl (fr 38 c (by omega))
  have f39 : ∀ c, 0 < c → c ≤ ev h → I' 39 c = I 39 c ∨ I' 39 c = bif unb h c then 2 else 1 := fun c _ _ => Or.inl (fr 39 c (by omega))
  have Y := X1.ct X2
  refine ⟨⟨X1.H.of (fun k _ => f 3 k (by omega)) (fun r a b k => f r k (by omega)), by rw [f 3 8 (by omega)]; exact X1.e8, by rw [f 3 9 (by omega)]; exact X1.v9, X1.el, X1.vl, by rw [f 23 6 (by omega)]; exact X1.m6, X1.pc.of ⟨f 23 4 (by omega), f 23 5 (by omega), f 23 6 (by omega)⟩ (f 3 8 (by omega)) (fun k => f 24 k (by omega)) (fun k => f 26 k (by omega)) (fun _ => rfl), by rw [f 30 13 (by omega)]; exact X1.o13, fun q => (X1.ce (by rw [f 30 13 (by omega)] at q; exact q)).of (fun k => f 34 k (by omega)) (fun k => f 35 k (by omega)), by rw [f 30 14 (by omega)]; exact X1.o14, fun _ => ⟨by rw [f 30 13 (by omega)]; exact Y.1, by rw [f 30 12 (by omega)]; exact Y.2.1, fun c hc => by rw [f 31 c (by omega), f 32 c (by omega)]; exact Y.2.2.1 c hc, fun c c0 c1 => ?_⟩⟩, by rw [f 30 14 (by omega)]; exact X2⟩
  obtain ⟨y1, y2, y3⟩ := Y.2.2.2 c c0 c1
  refine ⟨?_, ?_, ?_⟩
  · rw [f 33 c (by omega)]
    rcases y1 with y | ⟨y, l1, l2, l3⟩
    · exact Or.inl y
    · exact Or.inr ⟨y, by rw [f 34 c (by omega)]; exact l1, by rw [f 35 c (by omega)]; exact l2, fun p hp => by rw [f 36 _ (by omega), f 37 _ (by omega)]; exact l3 p hp⟩
  · rcases f38 c c0 c1 with q | q
    · rw [q]; exact y2
    · exact Or.inr q
  · rcases f39 c c0 c1 with q | q
    · rw [q]; exact y3
    · exact Or.inr q
end
