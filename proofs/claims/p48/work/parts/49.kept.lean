/-! ===== kept: the best of all ways to give as many as there are turns ===== -/
section
theorem and_p (x y : Nat) : (x &&& y) % 2 = (x % 2) * (y % 2) := by
  have h1 : (x &&& y).testBit 0 = (x.testBit 0 && y.testBit 0) := Nat.testBit_and x y 0
  rw [Nat.testBit_zero, Nat.testBit_zero, Nat.testBit_zero] at h1
  rcases Nat.mod_two_eq_zero_or_one x with a | a <;> rcases Nat.mod_two_eq_zero_or_one y with b | b <;> rcases Nat.mod_two_eq_zero_or_one (x &&& y) with c | c <;> rw [a, b, c] at h1 <;> rw [a, b, c] <;> first | rfl | (revert h1; decide)
theorem and_h (x y : Nat) : (x &&& y) / 2 = (x / 2) &&& (y / 2) := by
  apply Nat.eq_of_testBit_eq
  intro i
  rw [Nat.testBit_and, ← Nat.testBit_succ, ← Nat.testBit_succ, ← Nat.testBit_succ, Nat.testBit_and]
/-- the next smaller one of the sets within a set -/
theorem sub_pred : ∀ (n m p o : Nat), m < 2 ^ n → p &&& m = p → o &&& m = o → o < p → o ≤ (p - 1) &&& m := by
  intro n
  induction n with
  | zero =>
    intro m p o hm hp ho hl
    have : m = 0 := by omega
    rw [this, Nat.and_zero] at hp
    omega
  | succ n ih =>
    intro m p o hm hp ho hl
    have p1 := and_p p m
    have p2 := and_h p m
    have o1 := and_p o m
    have o2 := and_h o m
    have q1 := and_p (p - 1) m
    have q2 := and_h (p - 1) m
    rw [hp] at p1 p2
    rw [ho] at o1 o2
    have hm2 : m / 2 < 2 ^ n := by rw [Nat.pow_succ] at hm; omega
    generalize hq : (p - 1) &&& m = q at q1 q2
    rcases Nat.mod_two_eq_zero_or_one p with b | b
    · -- even: one less borrows
      have e1 : (p - 1) / 2 = p / 2 - 1 := by omega
      have e2 : (p - 1) % 2 = 1 := by omega
      rw [e1] at q2
      rw [e2, Nat.one_mul] at q1
      have l : o / 2 < p / 2 := by omega
      have := ih (m / 2) (p / 2) (o / 2) hm2 p2.symm o2.symm l
      rw [← q2] at this
      have c : o % 2 ≤ m % 2 := by
        rcases Nat.mod_two_eq_zero_or_one o with z | z <;> rcases Nat.mod_two_eq_zero_or_one m with w | w <;> rw [z, w] at o1 ⊢ <;> omega
      omega
    · have e1 : (p - 1) / 2 = p / 2 := by omega
      rw [e1, ← p2] at q2
      omega
theorem sub_le (p m : Nat) : (p - 1) &&& m ≤ p - 1 := Nat.and_le_left
/-- a set as two -/
def spl (s o T : Nat) : Prop := s &&& o = 0 ∧ s ||| o = T
theorem spl_lt {s o T n : Nat} (hs : spl s o T) (hT : T < 2 ^ n) : s < 2 ^ n ∧ o < 2 ^ n := by
  obtain ⟨_, b⟩ := hs
  have h1 : s ≤ s ||| o := Nat.left_le_or
  have h2 : o ≤ s ||| o := Nat.right_le_or
  omega
theorem spl_sub {s o T : Nat} (hs : spl s o T) : o &&& T = o ∧ s = T &&& (T ^^^ o) := by
  obtain ⟨a, b⟩ := hs
  subst b
  constructor
  · apply Nat.eq_of_testBit_eq
    intro i
    rw [Nat.testBit_and, Nat.testBit_or]
    cases s.testBit i <;> cases o.testBit i <;> rfl
  · apply Nat.eq_of_testBit_eq
    intro i
    have := (and0 s o).mp a i
    rw [Nat.testBit_and, Nat.testBit_xor, Nat.testBit_or]
    revert this
    cases s.testBit i <;> cases o.testBit i <;> intro this <;> first | rfl | cases this
theorem sub_spl {o T : Nat} (ho : o &&& T = o) : spl (T &&& (T ^^^ o)) o T := by
  constructor
  · refine (and0 _ _).mpr (fun i => ?_)
    have : (o &&& T).testBit i = o.testBit i := by rw [ho]
    rw [Nat.testBit_and] at this
    rw [Nat.testBit_and, Nat.testBit_xor]
    revert this
    cases T.testBit i <;> cases o.testBit i <;> intro this <;> first | rfl | cases this
  · apply Nat.eq_of_testBit_eq
    intro i
    have : (o &&& T).testBit i = o.testBit i := by rw [ho]
    rw [Nat.testBit_and] at this
    rw [Nat.testBit_or, Nat.testBit_and, Nat.testBit_xor]
    revert this
    cases T.testBit i <;> cases o.testBit i <;> intro this <;> first | rfl | cases this
variable {h : Nat → Nat → Nat}
/-- what a set of offices is worth to one -/
def wa (h : Nat → Nat → Nat) (p A : Nat) : Nat := lp (fun o a => bif A.testBit o then a + h 5 (8 * p + o) else a) (h 0 1) 0
theorem wa_le (W : WF h) (p A : Nat) : wa h p A ≤ 792 := by
  have h1 := lp_le (f := fun o a => bif A.testBit o then a + h 5 (8 * p + o) else a) (n := h 0 1) (c := 99) (fun k a _ => by
    have := W.worth (8 * p + k)
    cases A.testBit k <;> (try simp only [cond_true, cond_false]) <;> omega) 0
  have h2 := W.O
  have h3 : h 0 1 * 99 ≤ 8 * 99 := Nat.mul_le_mul_right _ h2
  show lp _ _ _ ≤ _
  omega
theorem wa_sm (p A : Nat) : wa h p A = sm (fun o => bif A.testBit o then h 5 (8 * p + o) else 0) (h 0 1) := sm_bif _ _ _
theorem wa_rm (W : WF h) {p C k : Nat} (hC : C < 256) (hk : k < h 0 1) (hb : C.testBit k = true) : wa h p C = wa h p (rm C k) + h 5 (8 * p + k) := by
  have hP := W.O
  rw [wa_sm, wa_sm]
  have e : sm (fun o => bif C.testBit o then h 5 (8 * p + o) else 0) (h 0 1) = sm (up (fun o => bif (rm C k).testBit o then h 5 (8 * p + o) else 0) k (h 5 (8 * p + k))) (h 0 1) := by
    refine sm_congr (fun o ho => ?_)
    unfold up
    by_cases e : o = k
    · rw [if_pos e, e, hb]; rfl
    · rw [if_neg e]
      show (bif C.testBit o then h 5 (8 * p + o) else 0) = bif (rm C k).testBit o then h 5 (8 * p + o) else 0
      rw [z_rmb C hC k (by omega) o (by omega), beq_f e, Bool.not_false, Bool.and_true]
  have h1 := sm_up (f := fun o => bif (rm C k).testBit o then h 5 (8 * p + o) else 0) (v := h 5 (8 * p + k)) hk
  have h2 : (bif (rm C k).testBit k then h 5 (8 * p + k) else 0) = 0 := by
    rw [z_rmb C hC k (by omega) k (by omega), Nat.beq_refl, Bool.not_true, Bool.and_false]; rfl
  try dsimp only at h1
  rw [h2] at h1
  rw [e]
  omega
/-- together, or the least -/
def opv (b : Bool) (u w : Nat) : Nat := bif b then min u w else u + w
def ini (b : Bool) (i : Nat) : Nat := bif b then i else 0
/-- T can be given to the first so many, each as many as c says, with that outcome -/
def Rch (h : Nat → Nat → Nat) (c : Nat → Nat) (b : Bool) (i : Nat) : Nat → Nat → Nat → Prop
  | 0, T, v => T = 0 ∧ v = ini b i
  | k + 1, T, v => (c k = 0 ∧ Rch h c b i k T v) ∨ (0 < c k ∧ ∃ s o u, spl s o T ∧ pc o = c k ∧ Rch h c b i k s u ∧ v = opv b u (wa h k o))
/-- the best is x; -1: it can't be given -/
def LV (h : Nat → Nat → Nat) (c : Nat → Nat) (b : Bool) (i k T : Nat) : Option Nat → Prop
  | none => ∀ v, ¬ Rch h c b i k T v
  | some m => Rch h c b i k T m ∧ ∀ v, Rch h c b i k T v → v ≤ m
theorem LV_u {c : Nat → Nat} {b : Bool} {i k T : Nat} {x y : Option Nat} (a : LV h c b i k T x) (d : LV h c b i k T y) : x = y := by
  cases x with
  | none =>
    cases y with
    | none => rfl
    | some m => exact absurd d.1 (a m)
  | some n =>
    cases y with
    | none => exact absurd a.1 (d n)
    | some m =>
      have h1 := a.2 m d.1
      have h2 := d.2 n a.1
      rw [show n = m by omega]
theorem opv_mono (b : Bool) {u u' w : Nat} (hu : u ≤ u') : opv b u w ≤ opv b u' w := by
  cases b
  · show u + w ≤ u' + w; omega
  · show min u w ≤ min u' w; omega
/-- how the least begins doesn't matter -/
theorem Rch_i (W : WF h) {c : Nat → Nat} {b : Bool} {i j : Nat} (hi : 792 ≤ i) (hj : 792 ≤ j) : ∀ k T v, Rch h c b i k T v → (T = 0 ∧ v = ini b i ∧ Rch h c b j k T (ini b j)) ∨ Rch h c b j k T v := by
  intro k
  induction k with
  | zero => intro T v hr; exact Or.inl ⟨hr.1, hr.2, hr.1, rfl⟩
  | succ k ih =>
    intro T v hr
    rcases hr with ⟨a, r⟩ | ⟨a, s, o, u, h1, h2, h3, h4⟩
    · rcases ih T v r with ⟨q1, q2, q3⟩ | q
      · exact Or.inl ⟨q1, q2, Or.inl ⟨a, q3⟩⟩
      · exact Or.inr (Or.inl ⟨a, q⟩)
    · right
      refine Or.inr ⟨a, s, o, ?_⟩
      rcases ih s u h3 with ⟨q1, q2, q3⟩ | q
      · refine ⟨ini b j, h1, h2, q3, ?_⟩
        rw [h4, q2]
        have := wa_le W k o
        cases b
        · rfl
        · show min i _ = min j _; omega
      · exact ⟨u, h1, h2, q, h4⟩
theorem Rch_same (W : WF h) {c : Nat → Nat} {b : Bool} {i j : Nat} (hi : 792 ≤ i) (hj : 792 ≤ j) {k T : Nat} (h0 : 0 < T) (v : Nat) : Rch h c b i k T v ↔ Rch h c b j k T v := by
  constructor
  · intro r
    rcases Rch_i W hi hj k T v r with ⟨q, _⟩ | q
    · omega
    · exact q
  · intro r
    rcases Rch_i W hj hi k T v r with ⟨q, _⟩ | q
    · omega
    · exact q
theorem LV_same (W : WF h) {c : Nat → Nat} {b : Bool} {i j : Nat} (hi : 792 ≤ i) (hj : 792 ≤ j) {k T : Nat} (h0 : 0 < T) {x : Option Nat} (a : LV h c b i k T x) : LV h c b j k T x := by
  cases x with
  | none => exact fun v r => a v ((Rch_same W hi hj h0 v).mpr r)
  | some m => exact ⟨(Rch_same W hi hj h0 m).mp a.1, fun v r => a.2 v ((Rch_same W hi hj h0 v).mpr r)⟩
theorem pc_or {s o : Nat} (hz : s &&& o = 0) : pc (s ||| o) = pc s + pc o := by
  have key : ∀ n, lp (fun k a => a + ((s ||| o).testBit k).toNat) n 0 = lp (fun k a => a + (s.testBit k).toNat) n 0 + lp (fun k a => a + (o.testBit k).toNat) n 0 := by
    intro n
    induction n with
    | zero => rfl
    | succ n ih =>
      have z := (and0 s o).mp hz n
      show lp _ n 0 + ((s ||| o).testBit n).toNat = (lp _ n 0 + (s.testBit n).toNat) + (lp _ n 0 + (o.testBit n).toNat)
      rw [ih, Nat.testBit_or]
      revert z
      cases s.testBit n <;> cases o.testBit n <;> intro z <;> first | (cases z; done) | (simp only [Bool.or_false, Bool.or_true, Bool.toNat_false, Bool.toNat_true]; omega)
  exact key 16
theorem Rch_pc {c : Nat → Nat} {b : Bool} {i : Nat} : ∀ k T v, T < 256 → Rch h c b i k T v → pc T = sm c k := by
  intro k
  induction k with
  | zero => intro T v _ r; rw [r.1]; show pc 0 = 0; decide +kernel
  | succ k ih =>
    intro T v hT r
    rcases r with ⟨a, r⟩ | ⟨a, s, o, u, h1, h2, h3, h4⟩
    · show _ = sm c k + c k
      rw [a, ih T v hT r]
      rfl
    · obtain ⟨l1, l2⟩ := spl_lt (n := 8) h1 hT
      show _ = sm c k + c k
      rw [← h1.2, pc_or h1.1, ih s u l1 h3, h2]
/-- what pairs of a set and one's own give: the best -/
def PM (Q : Nat → Nat → Prop) (gv : Nat → Option Nat) (h : Nat → Nat → Nat) (c : Nat → Nat) (b : Bool) (k T : Nat) : Option Nat → Prop
  | none => ∀ s o u, Q s o → spl s o T → pc o = c k → gv s ≠ some u
  | some m => (∃ s o u, Q s o ∧ spl s o T ∧ pc o = c k ∧ gv s = some u ∧ opv b u (wa h k o) = m) ∧ ∀ s o u, Q s o → spl s o T → pc o = c k → gv s = some u → opv b u (wa h k o) ≤ m
theorem PM_LV {c : Nat → Nat} {b : Bool} {i k T : Nat} {n : Nat} (hT : T < 2 ^ n) {gv : Nat → Option Nat} (hg : ∀ s, s < 2 ^ n → LV h c b i k s (gv s)) (hc : 0 < c k) {Q : Nat → Nat → Prop} (hQ : ∀ s o, s < 2 ^ n → o < 2 ^ n → Q s o) {x : Option Nat} (hx : PM Q gv h c b k T x) : LV h c b i (k + 1) T x := by
  cases x with
  | none =>
    intro v r
    rcases r with ⟨a, _⟩ | ⟨_, s, o, u, h1, h2, h3, h4⟩
    · omega
    · obtain ⟨l1, l2⟩ := spl_lt h1 hT
      have g := hg s l1
      cases e : gv s with
      | none => rw [e] at g; exact g u h3
      | some u' => exact hx s o u' (hQ s o l1 l2) h1 h2 e
  | some m =>
    obtain ⟨⟨s, o, u, h1, h2, h3, h4, h5⟩, hm⟩ := hx
    constructor
    · obtain ⟨l1, l2⟩ := spl_lt h2 hT
      have g := hg s l1
      rw [h4] at g
      exact Or.inr ⟨hc, s, o, u, h2, h3, g.1, h5.symm⟩
    · intro v r
      rcases r with ⟨a, _⟩ | ⟨_, s, o, u, g1, g2, g3, g4⟩
      · omega
      · obtain ⟨l1, l2⟩ := spl_lt g1 hT
        have g := hg s l1
        cases e : gv s with
        | none => rw [e] at g; exact absurd g3 (g u)
        | some u' =>
          rw [e] at g
          have a1 := g.2 u g3
          have a2 := hm s o u' (hQ s o l1 l2) g1 g2 e
          have a3 := opv_mono b (w := wa h k o) a1
          rw [g4]
          omega
theorem LV_skip {c : Nat → Nat} {b : Bool} {i k T : Nat} (hc : c k = 0) {x : Option Nat} (hx : LV h c b i k T x) : LV h c b i (k + 1) T x := by
  have e : ∀ v, Rch h c b i (k + 1) T v ↔ Rch h c b i k T v := fun v => ⟨fun r => by
    rcases r with ⟨_, r⟩ | ⟨a, _⟩
    · exact r
    · omega, fun r => Or.inl ⟨hc, r⟩⟩
  cases x with
  | none => exact fun v r => hx v ((e v).mp r)
  | some m => exact ⟨(e m).mpr hx.1, fun v r => hx.2 v ((e v).mp r)⟩
theorem LV_zero (c : Nat → Nat) (b : Bool) (i T : Nat) : LV h c b i 0 T (if T = 0 then some (ini b i) else none) := by
  by_cases q : T = 0
  · rw [if_pos q]
    exact ⟨⟨q, rfl⟩, fun v r => by rw [r.2]; exact Nat.le_refl _⟩
  · rw [if_neg q]
    exact fun v r => q r.1
end
