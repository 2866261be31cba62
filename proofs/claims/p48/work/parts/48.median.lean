/-! ===== the median ===== -/
section
variable {h : Nat → Nat → Nat} {I I' : Nat → Nat → Int32} {L L' : Nat → Nat → Int64} {e v : Nat}
variable {F : pm_F} {L0 : Nat} {xs : Nat → Int32}
theorem free_set : ∀ n, n < 8 → ∀ D, D < 2 ^ n → pc D < n → ∃ x, x < n ∧ D.testBit x = false := by decide +kernel
theorem ad_sub : ∀ n, n < 8 → ∀ D, D < 2 ^ n → ∀ k, k < n → ad D k < 2 ^ n := by decide +kernel
end
