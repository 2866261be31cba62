/-! ===== one call: picks ===== -/
section
variable {h : Nat → Nat → Nat} {I I' : Nat → Nat → Int32} {L L' : Nat → Nat → Int64}
variable {q n C a : Nat} {b w : Nat → Nat} {fa pl : Int32} {sn : Nat → SN} {e v : Nat}
variable {F : pm_F} {L0 : Nat} {xs : Nat → Int32}
theorem g_vP {n : Nat} (hn : n < 2147483648) (x : Int32) (A B : pm_R) : (if x < 0 then A else if x < nI n then B else A) = bif vP n x then B else A := by
  simp only [z_lti, i0, nI_toInt hn]
  unfold vP
  by_cases c : x.toInt < 0
  · rw [if_pos c, decide_eq_false (by omega)]; rfl
  · rw [if_neg c]
    by_cases d : x.toInt < (n : Int)
    · rw [if_pos d, decide_eq_true (by omega)]; rfl
    · rw [if_neg d, decide_eq_false (by omega)]; rfl
theorem g_2 (x : Int32) (A B : pm_R) : (if x < 0 then A else if x ≤ 1 then B else A) = bif vP 2 x then B else A := by
  simp only [z_lti, z_lei, i0, i1']
  unfold vP
  by_cases c : x.toInt < 0
  · rw [if_pos c, decide_eq_false (by omega)]; rfl
  · rw [if_neg c]
    by_cases d : x.toInt ≤ 1
    · rw [if_pos d, decide_eq_true (by omega)]; rfl
    · rw [if_neg d, decide_eq_false (by omega)]; rfl
theorem g_4 (x : Int32) (A B : pm_R) : (if x < 0 then A else if x ≤ 3 then B else A) = bif vP 4 x then B else A := by
  simp only [z_lti, z_lei, i0, i3']
  unfold vP
  by_cases c : x.toInt < 0
  · rw [if_pos c, decide_eq_false (by omega)]; rfl
  · rw [if_neg c]
    by_cases d : x.toInt ≤ 3
    · rw [if_pos d, decide_eq_true (by omega)]; rfl
    · rw [if_neg d, decide_eq_false (by omega)]; rfl
theorem g_32 (x : Int32) (A B : pm_R) : (if x < 0 then A else if x ≤ 31 then B else A) = bif vP 32 x then B else A := by
  simp only [z_lti, z_lei, i0, i31]
  unfold vP
  by_cases c : x.toInt < 0
  · rw [if_pos c, decide_eq_false (by omega)]; rfl
  · rw [if_neg c]
    by_cases d : x.toInt ≤ 31
    · rw [if_pos d, decide_eq_true (by omega)]; rfl
    · rw [if_neg d, decide_eq_false (by omega)]; rfl
/-- both picked -/
theorem pk_both (hF : pm_fix pt_me pt_Sg (pt_R L0 xs) F) (W : WF h) (X : K1 q h n b fa pl C w a sn I L) (Y : K2 h n b fa pl C w a sn I) {c y : Nat} (c0 : 0 < c) (cl : c ≤ ev h) (hy : y ≤ 2) : ∃ A K B, (F 307 0 [some (.ref 30), some (.int (nI c)), some (.int (nI y)), none] [] (49, pt_G, I, L)) = some (some (.int (nI (hp (pw h c y)))), (49, pt_G, A, K)) ∧ (F 1266 0 [some (.ref 49), some (.int (nI c)), some (.int (nI y)), none, none, none] [] (49, pt_G, A, K)) = some (none, (49, pt_G, B, K)) ∧ CH h A ∧ MH h A ∧ MH h B ∧ OW h (pw h c y) B ∧ (y = 2 → B 49 51 = nI (stn h (fs h c))) ∧ K1 q h n b fa pl C w a sn B K ∧ K2 h n b fa pl C w a sn B := by
  obtain ⟨⟨e, v, e1, v1, cx, fo⟩, k0⟩ := X
  obtain ⟨A, K, a1, a2, a3⟩ := c_picked hF W cx c0 cl hy
  have YA := Y.hi W a2.hi
  obtain ⟨B, b1, b2, b3, b4⟩ := m_picks (L := K) hF W YA.H c0 cl hy
  have XA : K1 q h n b fa pl C w a sn A K := K1.fx e1 v1 a3 fo k0 a2
  have YB := YA.pk W (fun r k c1 c2 c3 c4 c5 c6 _ _ => b2 r k c1 c2 c3 c4 c5 c6)
  exact ⟨A, K, B, a1, b1, a3.1, YA.H, YB.H, b3, b4, XA.lo (fun r k hr => b2 r k (by omega) (by omega) (by omega) (by omega) (by omega) (by omega)) (fun _ _ _ => rfl), YB⟩
end
