/-! ===== the model: how many, which, beaten, dream, drift; enough, span, median ===== -/
section
variable {h : Nat → Nat → Nat} {I I' : Nat → Nat → Int32} {L L' : Nat → Nat → Int64} {e v : Nat}
variable {F : pm_F} {L0 : Nat} {xs : Nat → Int32}
theorem grf_le (W : WF h) (w : Nat → Nat) (p : Nat) : grf h w p ≤ 7128 := by
  have h1 := lp_le (f := fun o a => a + dis (h 6 (8 * p + o)) (h 6 (8 * w o + o)) * h 5 (8 * p + o)) (n := h 0 1) (c := 891) (fun k a _ => by
    have s1 := W.stance (8 * p + k)
    have s2 := W.stance (8 * w k + k)
    have s3 := W.worth (8 * p + k)
    have s4 : dis (h 6 (8 * p + k)) (h 6 (8 * w k + k)) ≤ 9 := by unfold dis; split <;> omega
    have := mulB s4 s3
    show a + _ ≤ _
    omega) 0
  have hO := W.O
  have h3 : h 0 1 * 891 ≤ 8 * 891 := Nat.mul_le_mul_right _ hO
  show lp _ _ _ ≤ _
  omega
/-! enough -/
def eno (h : Nat → Nat → Nat) (C p : Nat) : Option Nat := match ff (fun k => decide (ned h (sIn h (ev h) - h 1 p + (k + 1)) ≤ sIn h C - h 1 p + (k + 1))) 999 with
  | some k => some (k + 1)
  | none => none
theorem sIn_ge (W : WF h) {C p : Nat} (hC : C < 256) (hp : p < h 0 0) (hb : C.testBit p = true) : h 1 p ≤ sIn h C := by
  have := sIn_rm W hC hp hb
  omega
theorem ev_tb (W : WF h) {p : Nat} (hp : p < h 0 0) : (ev h).testBit p = true := by
  have hP := W.P
  unfold ev
  rw [all_tb (h 0 0) (by omega) p (by omega)]
  exact decide_eq_true hp
/-! span -/
theorem gpl_0 (C : Nat) : lp (fun p a => bif C.testBit p then max a (h 2 p) else a) (h 0 0) 0 = (gpl h C).getD 0 := by
  unfold gpl
  have : ∀ n, lp (fun p a => bif C.testBit p then max a (h 2 p) else a) n 0 = (lp (fun p b => bif C.testBit p then some (gp1 b (h 2 p)) else b) n none).getD 0 := by
    intro n
    induction n with
    | zero => rfl
    | succ n ih =>
      show (bif C.testBit n then max (lp _ n 0) (h 2 n) else lp _ n 0) = (bif C.testBit n then some (gp1 (lp _ n none) (h 2 n)) else lp _ n none).getD 0
      rw [ih]
      cases C.testBit n
      · rfl
      · show max ((lp (fun p b => bif C.testBit p then some (gp1 b (h 2 p)) else b) n none).getD 0) (h 2 n) = gp1 (lp (fun p b => bif C.testBit p then some (gp1 b (h 2 p)) else b) n none) (h 2 n)
        cases lp (fun p b => bif C.testBit p then some (gp1 b (h 2 p)) else b) n none with
        | none => show max 0 (h 2 n) = h 2 n; omega
        | some q => rfl
  exact this _
end
