/-! ===== one call: kept ===== -/
section
variable {h : Nat → Nat → Nat} {I I' : Nat → Nat → Int32} {L L' : Nat → Nat → Int64}
variable {q n C a : Nat} {b w : Nat → Nat} {fa pl : Int32} {sn : Nat → SN} {e v : Nat}
variable {F : pm_F} {L0 : Nat} {xs : Nat → Int32}
theorem cnw_sm {t : Nat → Nat} {P : Nat} : ∀ n, (∀ i, i < n → t i < P) → sm (cnw t n) P = n := by
  intro n
  induction n with
  | zero => intro _; exact lpP (P := fun _ a => a = 0) rfl (fun k a _ ha => by rw [ha]; rfl)
  | succ n ih =>
    intro ht
    have e : cnw t (n + 1) = up (cnw t n) (t n) (cnw t n (t n) + 1) := by
      show inc (cnw t n) (t n) = _
      funext q
      unfold inc up
      by_cases c : q = t n
      · rw [c, Nat.beq_refl, if_pos rfl]; rfl
      · rw [beq_f c, if_neg c]; rfl
    have s := sm_up (f := cnw t n) (v := cnw t n (t n) + 1) (ht n (by omega))
    rw [e]
    have i := ih (fun i hi => ht i (by omega))
    omega
theorem hdn_cnw (W : WF h) {c : Nat} (c0 : 0 < c) (cl : c ≤ ev h) : ∀ i, i ≤ h 0 1 → hdn h (h 0 2) (h 0 3) c i = cnw (du h c) i := by
  intro i
  induction i with
  | zero => exact fun _ => rfl
  | succ i ih =>
    intro hi
    have e : hdn h (h 0 2) (h 0 3) c (i + 1) = inc (hdn h (h 0 2) (h 0 3) c i) (tw h (h 0 2) (h 0 3) c i) := rfl
    have d := (du_ok W c0 cl).2.2 i (by omega)
    rw [e, ih (by omega), ← d]
    rfl
end
