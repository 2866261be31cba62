/-! ===== coalitions: how many, which; who is needed ===== -/
section
variable {h : Nat → Nat → Nat} {I I' : Nat → Nat → Int32} {L L' : Nat → Nat → Int64} {e v : Nat}
variable {F : pm_F} {L0 : Nat} {xs : Nat → Int32}
def kp (h : Nat → Nat → Nat) (K : Nat) (c : Nat) : Bool := Nat.beq (kin h c &&& K) K
theorem AL.of (A : AL h I) (f : ∀ k, I' 33 k = I 33 k) : AL h I' := fun r a b c => by rw [f]; exact A r a b c
/-! drift -/
/-! dream -/
/-! better, beaten -/
end
