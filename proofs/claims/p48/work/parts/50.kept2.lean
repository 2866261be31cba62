/-! ===== kept: the class and the model ===== -/
section
variable {h : Nat → Nat → Nat} {I I' : Nat → Nat → Int32} {L L' : Nat → Nat → Int64} {e v : Nat}
variable {F : pm_F} {L0 : Nat} {xs : Nat → Int32}
theorem nI_rmz2 : ∀ C, C < 256 → 0 < C → nI C &&& (nI C - 1) = nI (rm C (tz C)) := by decide +kernel
theorem rm_subset : ∀ C, C < 256 → ∀ k, k < 8 → rm C k &&& C = rm C k := by decide +kernel
theorem sub_ex : ∀ (m T n : Nat), T < 256 → pc T = n + m → ∃ o, o &&& T = o ∧ pc o = n := by
  intro m
  induction m with
  | zero => intro T n hT hp; exact ⟨T, Nat.and_self T, hp⟩
  | succ m ih =>
    intro T n hT hp
    have h0 : 0 < T := by
      rcases Nat.eq_zero_or_pos T with q | q
      · rw [q, show pc 0 = 0 from by decide +kernel] at hp; omega
      · exact q
    obtain ⟨t1, t2⟩ := tz_lt T hT h0
    have r1 := rm_lt T hT (tz T) t1
    have r2 := pc_rm T hT (tz T) t1 t2
    have r3 := rm_subset T hT (tz T) t1
    obtain ⟨o, o1, o2⟩ := ih (rm T (tz T)) n r1.1 (by omega)
    refine ⟨o, ?_, o2⟩
    rw [← o1, Nat.and_assoc, r3]
theorem tz_lt3 (W : WF h) {l : Nat} (h0 : 0 < l) (hl : l < 2 ^ h 0 1) : tz l < h 0 1 ∧ l.testBit (tz l) = true := by
  have h2 := o256 W
  have hO := W.O
  obtain ⟨a, b⟩ := tz_lt l (by omega) h0
  refine ⟨?_, b⟩
  by_cases c : tz l < h 0 1
  · exact c
  · rw [z_tbig (n := h 0 1) hl (by omega)] at b
    cases b
theorem z_cmp : ∀ T, T < 256 → ∀ o, o < 256 → o &&& T = o → T &&& (T ^^^ o) ≤ T := fun T _ o _ _ => Nat.and_le_left
theorem nx_cmp (T : Nat) {o : Nat} (ho : o &&& T = o) (hT : T < 256) : nI T &&& (nI o ^^^ (-1)) = nI (T &&& (T ^^^ o)) := by
  rw [show (-1 : Int32) = nI 4294967295 from by decide +kernel, nx_xor, nx_and]
  congr 1
  apply Nat.eq_of_testBit_eq
  intro i
  rw [Nat.testBit_and, Nat.testBit_and, Nat.testBit_xor, Nat.testBit_xor, sl_32]
  by_cases q : i < 32
  · rw [decide_eq_true q]
    cases T.testBit i <;> cases o.testBit i <;> rfl
  · rw [z_tbig (n := 8) hT (by omega), Bool.false_and, Bool.false_and]
end
