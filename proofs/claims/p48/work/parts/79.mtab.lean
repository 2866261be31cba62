/-! ===== the model: tables, bars, any line ===== -/
section
variable {I I' : Nat → Nat → Int32} {L L' : Nat → Nat → Int64}
variable {F : pm_F} {L0 : Nat} {xs : Nat → Int32}
variable {n q f : Nat} {b : Nat → Nat} {d : Nat → Nat → Nat}
theorem DG.w (G : DG n b d) (x : Nat) : d 5 x ≤ 99 ∧ d 6 x ≤ 9 := ⟨G.1.worth x, G.1.stance x⟩
end
