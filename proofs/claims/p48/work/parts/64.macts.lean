/-! ===== the model: acts that are kept ===== -/
section
variable {h : Nat → Nat → Nat} {I I' : Nat → Nat → Int32} {L L' : Nat → Nat → Int64}
def ACM (h : Nat → Nat → Nat) (a : Nat) (sn : Nat → SN) (I : Nat → Nat → Int32) : Prop := I 49 45 = nI a ∧ a ≤ 12 ∧ ∀ i, i < a → SR h (sn i) (fun k => I 65 (16 * i + k))
theorem SR.of {x : SN} {f g : Nat → Int32} (W : WF h) (X : SR h x f) (e : ∀ k, k < 16 → g k = f k) : SR h x g := by
  have hP := W.P
  have hO := W.O
  exact ⟨by rw [e 0 (by omega)]; exact X.1, fun o ho => by rw [e _ (by omega)]; exact X.2.1 o ho, fun p p0 => by rw [e _ (by omega)]; exact X.2.2 p p0⟩
theorem ACM.of {a : Nat} {sn : Nat → SN} (X : ACM h a sn I) (f45 : I' 49 45 = I 49 45) (f : ∀ j, I' 65 j = I 65 j) : ACM h a sn I' := by
  unfold ACM
  rw [f45]
  refine ⟨X.1, X.2.1, fun i hi => ?_⟩
  have e : (fun k => I' 65 (16 * i + k)) = fun k => I 65 (16 * i + k) := funext (fun k => f _)
  rw [e]
  exact X.2.2 i hi
variable {F : pm_F} {L0 : Nat} {xs : Nat → Int32}
end
