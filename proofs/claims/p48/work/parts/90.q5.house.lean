/-! ===== one call: seats; another house ===== -/
section
variable {h : Nat → Nat → Nat} {I I' I0 : Nat → Nat → Int32} {L L' : Nat → Nat → Int64}
variable {q n C C' a a' c : Nat} {b w w' S : Nat → Nat} {fa pl : Int32} {sn sn' : Nat → SN} {e v : Nat}
variable {F : pm_F} {L0 : Nat} {xs : Nat → Int32}
def vS (x : Int32) : Bool := decide (1 ≤ x.toInt ∧ x.toInt ≤ 999)
theorem vS_of {x : Int32} (hx : vS x = true) : ∃ k, 1 ≤ k ∧ k ≤ 999 ∧ x = nI k := by
  have h1 := of_decide_eq_true hx
  refine ⟨x.toInt.toNat, by omega, by omega, ?_⟩
  apply Int32.toInt_inj.mp
  rw [nI_toInt (by omega)]
  omega
theorem g_999 (x : Int32) (A B : pm_R) : (if x < 1 then A else if x ≤ 999 then B else A) = bif vS x then B else A := by
  have i1 : (1 : Int32).toInt = 1 := by decide
  have i9 : (999 : Int32).toInt = 999 := by decide
  simp only [z_lti, z_lei, i1, i9]
  unfold vS
  by_cases c : x.toInt < 1
  · rw [if_pos c, decide_eq_false (by omega)]; rfl
  · rw [if_neg c]
    by_cases d : x.toInt ≤ 999
    · rw [if_pos d, decide_eq_true (by omega)]; rfl
    · rw [if_neg d, decide_eq_false (by omega)]; rfl
end
