/-! ===== the model: picks' small ones ===== -/
section
theorem beq_f {a b : Nat} (h : ¬ a = b) : Nat.beq a b = false := by
  cases e : Nat.beq a b with
  | false => rfl
  | true => exact absurd (Nat.eq_of_beq_eq_true e) h
variable {h : Nat → Nat → Nat}
def swp (h : Nat → Nat → Nat) (w : Nat → Nat) (a b : Nat) : Bool := !Nat.beq (w a) (w b) && (decide (h 5 (8 * w a + a) < h 5 (8 * w a + b)) && decide (h 5 (8 * w b + b) < h 5 (8 * w b + a)))
variable {F : pm_F} {L0 : Nat} {xs : Nat → Int32} {I : Nat → Nat → Int32} {L : Nat → Nat → Int64}
end
