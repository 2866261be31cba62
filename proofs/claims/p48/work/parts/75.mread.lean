/-! ===== the model: what must stand where ===== -/
section
variable {I I' : Nat → Nat → Int32} {L L' : Nat → Nat → Int64}
variable {F : pm_F} {L0 : Nat} {xs : Nat → Int32}
variable {n q f : Nat} {b : Nat → Nat} {d : Nat → Nat → Nat}
def MP (n : Nat) (b : Nat → Nat) (q f : Nat) (I : Nat → Nat → Int32) (L : Nat → Nat → Int64) : Prop := TB n b I ∧ q ≤ n ∧ I 49 8 = nI f ∧ I 49 9 = (if f = 0 then -1 else nI q) ∧ (f = 0 → MK n b q I L) ∧ f ≤ 5
def GP (I I' : Nat → Nat → Int32) (L L' : Nat → Nat → Int64) : Prop := (∀ r j, (r = 49 → j < 3 ∨ 9 < j) → I' r j = I r j) ∧ ∀ r j, (r = 49 → j ≠ 12) → L' r j = L r j
theorem GP.rf : GP I I L L := ⟨fun _ _ _ => rfl, fun _ _ _ => rfl⟩
theorem GP.tr {I1 I2 I3 : Nat → Nat → Int32} {L1 L2 L3 : Nat → Nat → Int64} (a : GP I1 I2 L1 L2) (b : GP I2 I3 L2 L3) : GP I1 I3 L1 L3 := ⟨fun r j q => (b.1 r j q).trans (a.1 r j q), fun r j q => (b.2 r j q).trans (a.2 r j q)⟩
end
