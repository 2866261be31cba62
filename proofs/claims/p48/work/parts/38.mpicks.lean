/-! ===== picks of the model; one office instead ===== -/
section
variable {h : Nat → Nat → Nat}
/-- the turns, who gets what foreseen, who gets what by the three ways -/
def du (h : Nat → Nat → Nat) (C : Nat) : Nat → Nat := tq h (h 0 2) (h 0 3) C
def fs (h : Nat → Nat → Nat) (C : Nat) : Nat → Nat := pks h (du h C) (cF h (du h C))
def pw (h : Nat → Nat → Nat) (C y : Nat) : Nat → Nat := match y with
  | 0 => pks h (du h C) (cS h (du h C))
  | 1 => fs h C
  | _ => stl h (fs h C)
theorem du_ok (W : WF h) {C : Nat} (h0 : 0 < C) (hC : C ≤ ev h) : K8 (du h C) ∧ (∀ i, i < h 0 1 → du h C i < h 0 0 ∧ C.testBit (du h C i) = true) ∧ ∀ i, i < h 0 1 → du h C i = tw h (h 0 2) (h 0 3) C i := by
  have hO := W.O
  obtain ⟨p, hp1, hp2⟩ := mem_ex W h0 hC
  have e : ∀ i, i < h 0 1 → du h C i = tw h (h 0 2) (h 0 3) C i := fun i hi => by
    unfold du tq
    rw [show Nat.blt i (h 0 1) = true from Nat.ble_eq_true_of_le hi]
    rfl
  exact ⟨tq_K8 W hp1 hp2 hO, fun i hi => by rw [e i hi]; exact ⟨(tw_lt hp1 hp2 i).1, tw_in hp1 hp2 i⟩, e⟩
theorem fs_ok (W : WF h) {C : Nat} (h0 : 0 < C) (hC : C ≤ ev h) : WK h (fs h C) := pks_ok W (fun i hi => ((du_ok W h0 hC).2.1 i hi).1) (PK_F W _)
variable {F : pm_F} {L0 : Nat} {xs : Nat → Int32} {I : Nat → Nat → Int32} {L : Nat → Nat → Int64}
end
