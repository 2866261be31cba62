/-! ===== one call: picks ===== -/
section
variable {h : Nat → Nat → Nat} {I I' : Nat → Nat → Int32} {L L' : Nat → Nat → Int64}
variable {q n C a : Nat} {b w : Nat → Nat} {fa pl : Int32} {sn : Nat → SN} {e v : Nat}
variable {F : pm_F} {L0 : Nat} {xs : Nat → Int32}
theorem g_vP {n : Nat} (hn : n < 2147483648) (x : Int32) (A B : pm_R) : (if x < 0 then A else if x < nI n then B else A) = bif vP n x then B else A := by
  simp only [z_lti, i0, nI_toInt hn]
  unfold vP
  by_cases c : x.toInt < 0
  · rw [if_pos c, decide_eq_false (by omega)]; rfl
  · rw [if_neg c]
    by_cases d : x.toInt < (n : Int)
    · rw [if_pos d, decide_eq_true (by omega)]; rfl
    · rw [if_neg d, decide_eq_false (by omega)]; rfl
theorem g_2 (x : Int32) (A B : pm_R) : (if x < 0 then A else if x ≤ 1 then B else A) = bif vP 2 x then B else A := by
  simp only [z_lti, z_lei, i0, i1']
  unfold vP
  by_cases c : x.toInt < 0
  · rw [if_pos c, decide_eq_false (by omega)]; rfl
  · rw [if_neg c]
    by_cases d : x.toInt ≤ 1
    · rw [if_pos d, decide_eq_true (by omega)]; rfl
    · rw [if_neg d, decide_eq_false (by omega)]; rfl
theorem g_4 (x : Int32) (A B : pm_R) : (if x < 0 then A else if x ≤ 3 then B else A) = bif vP 4 x then B else A := by
  simp only [z_lti, z_lei, i0, i3']
  unfold vP
  by_cases c : x.toInt < 0
  · rw [if_pos c, decide_eq_false (by omega)]; rfl
  · rw [if_neg c]
    by_cases d : x.toInt ≤ 3
    · rw [if_pos d, decide_eq_true (by omega)]; rfl
    · rw [if_neg d, decide_eq_false (by omega)]; rfl
theorem g_32 (x : Int32) (A B : pm_R) : (if x < 0 then A else if x ≤ 31 then B else A) = bif vP 32 x then B else A := by
  simp only [z_lti, z_lei, i0, i31]
  unfold vP
  by_cases c : x.toInt < 0
  · rw [if_pos c, decide_eq_false (by omega)]; rfl
  · rw [if_neg c]
    by_cases d : x.toInt ≤ 31
    · rw [if_pos d, decide_eq_true (by omega)]; rfl
    · rw [if_neg d, decide_eq_false (by omega)]; rfl
end
