/-! ===== one call: what both answer; those that only look ===== -/
section
variable {h : Nat → Nat → Nat} {I I' : Nat → Nat → Int32} {L L' : Nat → Nat → Int64}
variable {q n C a : Nat} {b w : Nat → Nat} {fa pl : Int32} {sn : Nat → SN} {e v : Nat}
variable {F : pm_F} {L0 : Nat} {xs : Nat → Int32}
/-- both answer the same, and all is in order again -/
def NXT (q : Nat) (o1 : pm_R) (o2 : (Nat → Nat → Int32) → (Nat → Nat → Int64) → pm_R) : Prop := ∃ x I1 L1 I2 L2, o1 = some (some (.int x), (49, pt_G, I1, L1)) ∧ o2 I1 L1 = some (some (.int x), (49, pt_G, I2, L2)) ∧ ∃ h n b fa pl C w a sn, GS h n b C w a sn ∧ K1 (q + 1) h n b fa pl C w a sn I2 L2 ∧ K2 h n b fa pl C w a sn I2
theorem NXT.mk {x : Int32} {I1 I2 : Nat → Nat → Int32} {L1 L2 : Nat → Nat → Int64} {o1 : pm_R} {o2 : (Nat → Nat → Int32) → (Nat → Nat → Int64) → pm_R} (h1 : o1 = some (some (.int x), (49, pt_G, I1, L1))) (h2 : o2 I1 L1 = some (some (.int x), (49, pt_G, I2, L2))) (Z : GS h n b C w a sn) (X : K1 q h n b fa pl C w a sn I2 L2) (Y : K2 h n b fa pl C w a sn I2) : NXT q o1 o2 :=
  ⟨x, I1, L1, I2, L2, h1, h2, h, n, b, fa, pl, C, w, a, sn, Z, X.mono (Nat.le_succ q), Y⟩
theorem NXT.same {x : Int32} {o1 : pm_R} {o2 : (Nat → Nat → Int32) → (Nat → Nat → Int64) → pm_R} (Z : GS h n b C w a sn) (X : K1 q h n b fa pl C w a sn I L) (Y : K2 h n b fa pl C w a sn I) (h1 : o1 = some (some (.int x), (49, pt_G, I, L))) (h2 : o2 I L = some (some (.int x), (49, pt_G, I, L))) : NXT q o1 o2 := NXT.mk h1 h2 Z X Y
end
