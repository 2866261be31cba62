/-! ===== the model: a cabinet in office ===== -/
section
variable {h : Nat → Nat → Nat} {I I' : Nat → Nat → Int32} {L L' : Nat → Nat → Int64}
/-- what the model keeps of it: coalition, holders, seats -/
def SR (h : Nat → Nat → Nat) (x : SN) (f : Nat → Int32) : Prop := f 0 = nI x.1 ∧ (∀ o, o < h 0 1 → f (1 + o) = if x.1 = 0 then -1 else nI (x.2.1 o)) ∧ ∀ p, p < h 0 0 → f (9 + p) = nI (x.2.2 p)
def NM (h : Nat → Nat → Nat) (C : Nat) (w : Nat → Nat) (I : Nat → Nat → Int32) : Prop := I 64 0 = nI C ∧ ∀ o, o < h 0 1 → I 64 (1 + o) = if C = 0 then -1 else nI (w o)
variable {F : pm_F} {L0 : Nat} {xs : Nat → Int32}
end
