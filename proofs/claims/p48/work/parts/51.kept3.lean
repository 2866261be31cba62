/-! ===== kept: the whole of it ===== -/
section
variable {h : Nat → Nat → Nat} {I I' : Nat → Nat → Int32} {L L' : Nat → Nat → Int64} {e v : Nat}
variable {F : pm_F} {L0 : Nat} {xs : Nat → Int32}
theorem Rch_le (W : WF h) {c : Nat → Nat} {b : Bool} {i : Nat} : ∀ k T v, Rch h c b i k T v → v ≤ i + 792 * k := by
  intro k
  induction k with
  | zero =>
    intro T v r
    rw [r.2]
    cases b
    · exact Nat.zero_le _
    · show i ≤ _; omega
  | succ k ih =>
    intro T v r
    rcases r with ⟨_, r⟩ | ⟨_, s, o, u, g1, g2, g3, g4⟩
    · have := ih T v r; omega
    · have := ih s u g3
      have := wa_le W k o
      rw [g4]
      cases b
      · show u + _ ≤ _; omega
      · show min u _ ≤ _; omega
def keI (x : Int32) : Option Nat := if x = -1 then none else some x.toNatClampNeg
theorem keI_oI {b : Option Nat} (hb : ∀ q, b = some q → q < 2147483648) : keI (oI b) = b := by
  cases b with
  | none => exact if_pos rfl
  | some q =>
    have := hb q rfl
    show (if nI q = -1 then none else some (nI q).toNatClampNeg) = _
    rw [z_cl this, if_neg (by rw [z_m1 this]; exact id)]
theorem PM_no {Q Q' : Nat → Nat → Prop} {gv : Nat → Option Nat} {c : Nat → Nat} {b : Bool} {k T : Nat} {x : Option Nat} (hx : PM Q gv h c b k T x) (h1 : ∀ s o, Q s o → Q' s o) (h2 : ∀ s o u, Q' s o → ¬ Q s o → spl s o T → pc o = c k → gv s ≠ some u) : PM Q' gv h c b k T x := by
  cases x with
  | none =>
    intro s o u q a d
    by_cases z : Q s o
    · exact hx s o u z a d
    · exact h2 s o u q z a d
  | some m =>
    obtain ⟨⟨s, o, u, g1, g2⟩, g3⟩ := hx
    refine ⟨⟨s, o, u, h1 s o g1, g2⟩, fun s o u q a d g => ?_⟩
    by_cases z : Q s o
    · exact g3 s o u z a d g
    · exact absurd g (h2 s o u q z a d)
theorem PM_add {Q Q' : Nat → Nat → Prop} {gv : Nat → Option Nat} {c : Nat → Nat} {b : Bool} {k T s0 o0 u0 : Nat} {x : Option Nat} (hx : PM Q gv h c b k T x) (h1 : ∀ s o, Q s o → Q' s o) (h2 : ∀ s o, Q' s o → ¬ Q s o → s = s0 ∧ o = o0) (q0 : Q' s0 o0) (a0 : spl s0 o0 T) (d0 : pc o0 = c k) (g0 : gv s0 = some u0) : PM Q' gv h c b k T (some (gp1 x (opv b u0 (wa h k o0)))) := by
  have new : ∀ m, opv b u0 (wa h k o0) ≤ m → (∀ s o u, Q s o → spl s o T → pc o = c k → gv s = some u → opv b u (wa h k o) ≤ m) → ∀ s o u, Q' s o → spl s o T → pc o = c k → gv s = some u → opv b u (wa h k o) ≤ m := by
    intro m k1 k2 s o u q a d g
    by_cases z : Q s o
    · exact k2 s o u z a d g
    · obtain ⟨e1, e2⟩ := h2 s o q z
      subst e1
      subst e2
      rw [g0] at g
      cases g
      exact k1
  cases x with
  | none => exact ⟨⟨s0, o0, u0, q0, a0, d0, g0, rfl⟩, new _ (Nat.le_refl _) (fun s o u q a d g => absurd g (hx s o u q a d))⟩
  | some m =>
    obtain ⟨⟨s, o, u, g1, g2, g3, g4, g5⟩, g6⟩ := hx
    show PM Q' gv h c b k T (some (max m (opv b u0 (wa h k o0))))
    refine ⟨?_, new _ (Nat.le_max_right _ _) (fun s o u q a d g => Nat.le_trans (g6 s o u q a d g) (Nat.le_max_left _ _))⟩
    rcases Nat.le_total m (opv b u0 (wa h k o0)) with y | y
    · rw [Nat.max_eq_right y]; exact ⟨s0, o0, u0, q0, a0, d0, g0, rfl⟩
    · rw [Nat.max_eq_left y]; exact ⟨s, o, u, h1 s o g1, g2, g3, g4, g5⟩
end
