/-! ===== the model: coalitions ===== -/
section
variable {h : Nat → Nat → Nat} {I I' : Nat → Nat → Int32} {L L' : Nat → Nat → Int64}
variable {F : pm_F} {L0 : Nat} {xs : Nat → Int32}
/-- what the model may write when it is asked -/
def mc (r k : Nat) : Prop := (r = 49 ∧ (k = 51 ∨ k = 57 ∨ (63 ≤ k ∧ k ≤ 65))) ∨ (66 ≤ r ∧ r ≤ 80)
def FM (I I' : Nat → Nat → Int32) : Prop := ∀ r k, ¬ mc r k → I' r k = I r k
theorem FM.tr {I1 I2 I3 : Nat → Nat → Int32} (a : FM I1 I2) (b : FM I2 I3) : FM I1 I3 := fun r k hh => (b r k hh).trans (a r k hh)
theorem FM.H (a : FM I I') (H : MH h I) : MH h I' := H.of (fun k b c => a 49 k (by unfold mc; omega)) (fun r b c k => a r k (by unfold mc; omega)) (fun k b => a 64 k (by unfold mc; omega))
def LYp (h : Nat → Nat → Nat) (I : Nat → Nat → Int32) (c : Nat) : Prop := ∀ p, p < h 0 0 → I 73 (7 * c + p) = pyc h c p ∧ I 74 (7 * c + p) = nI (grf h (fs h c) p)
def LYs (h : Nat → Nat → Nat) (I : Nat → Nat → Int32) : Prop := ∀ c, 0 < c → c ≤ ev h → LYp h I c
def LY (h : Nat → Nat → Nat) (I : Nat → Nat → Int32) : Prop := LYs h I ∧ ∀ c, 0 < c → c ≤ ev h → I 75 c = nI (rvl h c)
def MX (h : Nat → Nat → Nat) (I : Nat → Nat → Int32) : Prop := MH h I ∧ (I 49 57 = 0 ∨ (I 49 57 = 1 ∧ LY h I))
theorem LYs.of (X : LYs h I) (f : ∀ r k, r = 73 ∨ r = 74 → I' r k = I r k) : LYs h I' := fun c a b p hp => by rw [f 73 _ (Or.inl rfl), f 74 _ (Or.inr rfl)]; exact X c a b p hp
/-! kinds -/
end
