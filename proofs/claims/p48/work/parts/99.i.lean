/-! ===== settled: told and judged ===== -/
section
variable {S S' S0 : qm_S} {F : qm_F} {J L0 : Nat} {xs : List Int32}
variable {h : Nat → Nat → Nat} {q n C a c : Nat} {b w : Nat → Nat} {sn : Nat → SN}
def ek (k : Nat) (v : Nat → Nat) : Nat → Nat := fun i => if i < k then v i else 0
def wk4 (e : Nat → Nat) (j : Nat) : Nat := e (4 * j) * 16777216 + e (4 * j + 1) * 65536 + e (4 * j + 2) * 256 + e (4 * j + 3)
theorem sh_k : ∀ k, k < 5 → ((24 - (8 * (nI k - nI k / 4 * 4))) &&& 31) = nI (24 - 8 * (k % 4)) := by decide +kernel
theorem or_1 : ∀ a, a < 4 → nI 0 ||| (nI a <<< nI 24) = nI (a * 16777216) := by decide +kernel
theorem or_2 : ∀ a, a < 4 → ∀ b, b < 4 → nI (a * 16777216) ||| (nI b <<< nI 16) = nI (a * 16777216 + b * 65536) := by decide +kernel
theorem or_3 : ∀ a, a < 4 → ∀ b, b < 4 → ∀ c, c < 4 → nI (a * 16777216 + b * 65536) ||| (nI c <<< nI 8) = nI (a * 16777216 + b * 65536 + c * 256) := by decide +kernel
theorem or_4 : ∀ a, a < 4 → ∀ b, b < 4 → ∀ c, c < 4 → ∀ d, d < 4 → nI (a * 16777216 + b * 65536 + c * 256) ||| (nI d <<< nI 0) = nI (a * 16777216 + b * 65536 + c * 256 + d) := by decide +kernel
theorem by_0 : ∀ a, a < 4 → ∀ b, b < 4 → ∀ c, c < 4 → ∀ d, d < 4 → byt (nI (a * 16777216 + b * 65536 + c * 256 + d)) 24 = a := by decide +kernel
theorem by_1 : ∀ a, a < 4 → ∀ b, b < 4 → ∀ c, c < 4 → ∀ d, d < 4 → byt (nI (a * 16777216 + b * 65536 + c * 256 + d)) 16 = b := by decide +kernel
theorem by_2 : ∀ a, a < 4 → ∀ b, b < 4 → ∀ c, c < 4 → ∀ d, d < 4 → byt (nI (a * 16777216 + b * 65536 + c * 256 + d)) 8 = c := by decide +kernel
theorem by_3 : ∀ a, a < 4 → ∀ b, b < 4 → ∀ c, c < 4 → ∀ d, d < 4 → byt (nI (a * 16777216 + b * 65536 + c * 256 + d)) 0 = d := by decide +kernel
theorem ek_in {k i : Nat} {v : Nat → Nat} (hi : i < k) : ek k v i = v i := if_pos hi
theorem ek_out {k i : Nat} {v : Nat → Nat} (hi : k ≤ i) : ek k v i = 0 := if_neg (Nat.not_lt.mpr hi)
theorem ek_lt {k : Nat} {v : Nat → Nat} (hv : ∀ i, i < k → v i < 4) (i : Nat) : ek k v i < 4 := by
  unfold ek
  split
  · exact hv i (by assumption)
  · decide
/-- the next one written -/
theorem st_st {k : Nat} {v : Nat → Nat} (k5 : k < 5) (hv : ∀ i, i < k + 1 → v i < 4) : (nI (wk4 (ek k v) (k / 4)) ||| ((nI (v k) : Int32) <<< ((24 - (8 * (nI k - nI k / 4 * 4))) &&& 31))) = nI (wk4 (ek (k + 1) v) (k / 4)) := by
  have hk : k = 0 ∨ k = 1 ∨ k = 2 ∨ k = 3 ∨ k = 4 := by omega
  rw [sh_k k k5]
  rcases hk with rfl | rfl | rfl | rfl | rfl
  · simp (disch := omega) only [wk4, ek_in, ek_out, Nat.zero_mul, Nat.add_zero, Nat.zero_add, Nat.mul_zero, Nat.mul_one, Nat.reduceMul, Nat.reduceAdd, Nat.reduceDiv, Nat.reduceMod, Nat.reduceSub]
    exact or_1 _ (hv 0 (by decide))
  · simp (disch := omega) only [wk4, ek_in, ek_out, Nat.zero_mul, Nat.add_zero, Nat.zero_add, Nat.mul_zero, Nat.mul_one, Nat.reduceMul, Nat.reduceAdd, Nat.reduceDiv, Nat.reduceMod, Nat.reduceSub]
    exact or_2 _ (hv 0 (by decide)) _ (hv 1 (by decide))
  · simp (disch := omega) only [wk4, ek_in, ek_out, Nat.zero_mul, Nat.add_zero, Nat.zero_add, Nat.mul_zero, Nat.mul_one, Nat.reduceMul, Nat.reduceAdd, Nat.reduceDiv, Nat.reduceMod, Nat.reduceSub]
    exact or_3 _ (hv 0 (by decide)) _ (hv 1 (by decide)) _ (hv 2 (by decide))
  · simp (disch := omega) only [wk4, ek_in, ek_out, Nat.zero_mul, Nat.add_zero, Nat.zero_add, Nat.mul_zero, Nat.mul_one, Nat.reduceMul, Nat.reduceAdd, Nat.reduceDiv, Nat.reduceMod, Nat.reduceSub]
    exact or_4 _ (hv 0 (by decide)) _ (hv 1 (by decide)) _ (hv 2 (by decide)) _ (hv 3 (by decide))
  · simp (disch := omega) only [wk4, ek_in, ek_out, Nat.zero_mul, Nat.add_zero, Nat.zero_add, Nat.mul_zero, Nat.mul_one, Nat.reduceMul, Nat.reduceAdd, Nat.reduceDiv, Nat.reduceMod, Nat.reduceSub]
    exact or_1 _ (hv 4 (by decide))
theorem wk4_o {k j : Nat} {v : Nat → Nat} (hj : j ≠ k / 4) : wk4 (ek (k + 1) v) j = wk4 (ek k v) j := by
  have e : ∀ m, m < 4 → ek (k + 1) v (4 * j + m) = ek k v (4 * j + m) := fun m hm => by
    unfold ek
    by_cases z : 4 * j + m < k
    · rw [if_pos z, if_pos (by omega)]
    · rw [if_neg z, if_neg (by omega)]
  unfold wk4
  have e0 : ek (k + 1) v (4 * j) = ek k v (4 * j) := e 0 (by decide)
  rw [e0, e 1 (by decide), e 2 (by decide), e 3 (by decide)]
/-- what is told then -/
def tp5 (b : Nat → Nat) (e : Nat → Nat) : Nat → Nat := put4 (put4 (put4 (put4 (put4 b 0 (nI (wk4 e 0))) (0 + 4) (nI (wk4 e 1))) (0 + 4 + 4) (nI (wk4 e 2))) (0 + 4 + 4 + 4) (nI (wk4 e 3))) (0 + 4 + 4 + 4 + 4) (nI (wk4 e 4))
theorem wk4_0 (e : Nat → Nat) : wk4 e 0 = e 0 * 16777216 + e 1 * 65536 + e 2 * 256 + e 3 := by
  simp only [wk4, Nat.mul_zero, Nat.zero_add]
theorem wk4_1 (e : Nat → Nat) : wk4 e 1 = e 4 * 16777216 + e 5 * 65536 + e 6 * 256 + e 7 := by
  simp only [wk4, Nat.mul_one, Nat.reduceAdd]
theorem put4_at {b : Nat → Nat} {n i : Nat} {x : Int32} : put4 b n x i = if i = n + 3 then byt x 0 else if i = n + 2 then byt x 8 else if i = n + 1 then byt x 16 else if i = n then byt x 24 else b i := rfl
theorem tp5_at {e : Nat → Nat} (he : ∀ i, e i < 4) : ∀ i, i < 5 → tp5 b e i = e i := by
  intro i hi
  unfold tp5
  have hk : i = 0 ∨ i = 1 ∨ i = 2 ∨ i = 3 ∨ i = 4 := by omega
  rw [put4_at, if_neg (by omega), if_neg (by omega), if_neg (by omega), if_neg (by omega), put4_at, if_neg (by omega), if_neg (by omega), if_neg (by omega), if_neg (by omega), put4_at, if_neg (by omega), if_neg (by omega), if_neg (by omega), if_neg (by omega)]
  rcases hk with rfl | rfl | rfl | rfl | rfl
  · rw [put4_at, if_neg (by omega), if_neg (by omega), if_neg (by omega), if_neg (by omega), put4_at, if_neg (by omega), if_neg (by omega), if_neg (by omega), if_pos (by omega), wk4_0]
    exact by_0 _ (he 0) _ (he 1) _ (he 2) _ (he 3)
  · rw [put4_at, if_neg (by omega), if_neg (by omega), if_neg (by omega), if_neg (by omega), put4_at, if_neg (by omega), if_neg (by omega), if_pos (by omega), wk4_0]
    exact by_1 _ (he 0) _ (he 1) _ (he 2) _ (he 3)
  · rw [put4_at, if_neg (by omega), if_neg (by omega), if_neg (by omega), if_neg (by omega), put4_at, if_neg (by omega), if_pos (by omega), wk4_0]
    exact by_2 _ (he 0) _ (he 1) _ (he 2) _ (he 3)
  · rw [put4_at, if_neg (by omega), if_neg (by omega), if_neg (by omega), if_neg (by omega), put4_at, if_pos (by omega), wk4_0]
    exact by_3 _ (he 0) _ (he 1) _ (he 2) _ (he 3)
  · rw [put4_at, if_neg (by omega), if_neg (by omega), if_neg (by omega), if_pos (by omega), wk4_1]
    exact by_0 _ (he 4) _ (he 5) _ (he 6) _ (he 7)
/-- so much of it is written -/
def SI (q : Nat) (h : Nat → Nat → Nat) (b : Nat → Nat) (C : Nat) (w : Nat → Nat) (a : Nat) (sn : Nat → SN) (c : Nat) (S0 : qm_S) (k : Nat) (S : qm_S) : Prop := KQ q h 0 b C w a sn S ∧ FRM S0.1 S0 S ∧ S.1 = S0.1 + 1 ∧ S.2.1 = S0.2.1 + 5 ∧ qr_n S S0.1 = 5 ∧ ∀ j, j < 5 → qr_i S 20 S0.1 j = nI (wk4 (ek k (pw h c 2)) j)
theorem ib5 : ∀ j, j < 5 → pm_ib (nI j) 5 = true := by decide +kernel
theorem CC5 : Int32.toNatClampNeg 0 = 0 ∧ Int32.toNatClampNeg 1 = 1 ∧ Int32.toNatClampNeg 2 = 2 ∧ Int32.toNatClampNeg 3 = 3 ∧ Int32.toNatClampNeg 4 = 4 ∧ Int32.toNatClampNeg 5 = 5 := by decide +kernel
theorem d4 : ∀ k, k < 5 → nI k / 4 = nI (k / 4) := by decide +kernel
theorem j_set7 (hF : qm_fix cO qt_me qt_qs (qt_C L0 xs) J F) (h4 : h 0 0 ≤ 4) (h5 : h 0 1 ≤ 5) (c0 : 0 < c) (cl : c ≤ ev h) {y z : Nat} (hy : y < S0.1) (hQ : qr_i S0 1 y 1 = nI (h 0 1)) : ∀ (d k : Nat) (S : qm_S), k + d = h 0 1 → SI q h b C w a sn c S0 k S → ∃ S' b', F 9 7 [some (.inr (0, z)), some (.inr (1, y)), some (.inl (nI c)), some (.inr (20, S0.1)), some (.inl (nI k))] [] S = some (some (.inl 1), S') ∧ KQ q h 0 b' C w a sn S' ∧ FRM S0.1 S0 S' ∧ S'.1 = S0.1 + 1 ∧ S'.2.1 = S0.2.1 + 5 := by
  have hE := ev16 h4
  obtain ⟨z0, z1, z2, z3, z4, z5⟩ := CC5
  have dz : decide ((4 : Int32) = 0) = false := by decide
  intro d
  induction d with
  | zero =>
    intro k S kd A
    have kq : k = h 0 1 := by omega
    subst kq
    obtain ⟨X, a2, a3, a4, a5, a6⟩ := A
    have W := X.W
    have wk := pw_ok W c0 cl 2
    have w4 : ∀ i, i < h 0 1 → pw h c 2 i < 4 := fun i hi => by have := wk.2 i hi; omega
    obtain ⟨Y1, X1, e1⟩ := qa_feed (J := J) (z := z) (x1 := nI (wk4 (ek (h 0 1) (pw h c 2)) 0)) (x2 := nI (wk4 (ek (h 0 1) (pw h c 2)) 1)) (x3 := nI (wk4 (ek (h 0 1) (pw h c 2)) 2)) (x4 := nI (wk4 (ek (h 0 1) (pw h c 2)) 3)) (x5 := nI (wk4 (ek (h 0 1) (pw h c 2)) 4)) X (by omega)
    have X1 : KS q h 20 (tp5 b (ek (h 0 1) (pw h c 2))) C w a sn Y1 := X1
    obtain ⟨Y2, X2, e2⟩ := qa_end (J := J) (z := z) (S := qm_sC S Y1) (j := h 0 1) X1 (by omega)
    have tb : ∀ i, i < h 0 1 → tp5 b (ek (h 0 1) (pw h c 2)) i = pw h c 2 i := fun i hi => (tp5_at (ek_lt w4) i (by omega)).trans (if_pos hi)
    obtain ⟨Y3, X3, e3⟩ := qa_judge (J := J) (z := z) (S := qm_sC (qm_sC S Y1) Y2) (c := c) X2 c0 cl ⟨rfl, fun i hi => by rw [tb i hi]; exact ⟨wk.2 i hi, pw_all W c0 cl 2 i hi⟩⟩
    rw [q9_7 hF, a2.1 1 y 1 hy, hQ, if_neg (by rw [z_lt (by omega) (by omega)]; omega), a5, show pm_ib 0 5 = true from ib5 0 (by decide), show pm_ib 1 5 = true from ib5 1 (by decide), show pm_ib 2 5 = true from ib5 2 (by decide), show pm_ib 3 5 = true from ib5 3 (by decide), show pm_ib 4 5 = true from ib5 4 (by decide), z0, z1, z2, z3, z4, a6 0 (by decide), a6 1 (by decide), a6 2 (by decide), a6 3 (by decide), a6 4 (by decide), e1]
    simp only [Option.toList_some, Option.toList_none, List.cons_append, List.nil_append, List.append_nil]
    rw [q9_69 hF, show qr_i (qm_sC S Y1) 1 y 1 = nI (h 0 1) from (a2.1 1 y 1 hy).trans hQ, e2]
    simp only [Option.toList_some, Option.toList_none, List.cons_append, List.nil_append, List.append_nil]
    rw [q9_78 hF, e3]
    simp only [Option.toList_some, Option.toList_none, List.cons_append, List.nil_append, List.append_nil]
    rw [q9_85 hF, scn_pw W tb, if_pos (show nI 0 = 0 from rfl)]
    exact ⟨_, _, rfl, X3, a2.sC.sC.sC, a3, a4⟩
  | succ d ih =>
    intro k S kd A
    obtain ⟨X, a2, a3, a4, a5, a6⟩ := A
    have W := X.W
    have wk := pw_ok W c0 cl 2
    obtain ⟨Y, X1, e1⟩ := qa_gets (J := J) (z := z) (c := c) (y := 2) (i := k) X c0 cl (by decide) (by omega)
    have k5 : k < 5 := by omega
    have j5 : k / 4 < 5 := by omega
    have e2 : ∀ j, j < 5 → qr_i (qu_i (qm_sC S Y) 20 S0.1 (k / 4) (nI (wk4 (ek (k + 1) (pw h c 2)) (k / 4)))) 20 S0.1 j = nI (wk4 (ek (k + 1) (pw h c 2)) j) := fun j hj => by
      rw [qi_i]
      by_cases zz : j = k / 4
      · rw [if_pos ⟨rfl, zz, rfl⟩, zz]
      · rw [if_neg (fun y => zz y.2.1), wk4_o zz]
        exact a6 j hj
    obtain ⟨S', b', i1, i2⟩ := ih (k + 1) _ (by omega) ⟨X1, (a2.sC (Y := Y)).i (Nat.le_refl _), a3, a4, a5, e2⟩
    rw [q9_7 hF, a2.1 1 y 1 hy, hQ, if_pos (by rw [z_lt (by omega) (by omega)]; omega), dz, d4 k k5, a5, ib5 _ j5, z_cl (by omega), a6 _ j5]
    simp only [Bool.not_false, cond_true]
    rw [show (2 : Int32) = nI 2 from rfl, e1]
    simp only [Option.toList_some, Option.toList_none, List.cons_append, List.nil_append, List.append_nil]
    rw [q9_31 hF, dz, show qr_n (qm_sC S Y) S0.1 = 5 from a5, ib5 _ j5, z_cl (by omega), st_st k5 (fun i hi => by have := wk.2 i (by omega); omega), z_1]
    exact ⟨S', b', i1, i2⟩
theorem j_settled (hF : qm_fix cO qt_me qt_qs (qt_C L0 xs) J F) (h4 : h 0 0 ≤ 4) (h5 : h 0 1 ≤ 5) (c0 : 0 < c) (cl : c ≤ ev h) {y z : Nat} (X : KQ q h 0 b C w a sn S) (hy : y < S.1) (hQ : qr_i S 1 y 1 = nI (h 0 1)) : ∃ S' b', F 9 0 [some (.inr (0, z)), some (.inr (1, y)), some (.inl (nI c)), none, none] [] S = some (some (.inl 1), S') ∧ KQ q h 0 b' C w a sn S' ∧ FRM S.1 S S' ∧ S'.1 = S.1 + 1 ∧ S'.2.1 = S.2.1 + 5 := by
  obtain ⟨z0, z1, z2, z3, z4, z5⟩ := CC5
  have A0 : SI q h b C w a sn c S 0 (qm_mk S 20 5) := ⟨X, FRM.rf.mk (Nat.le_refl _), rfl, rfl, by rw [qn_mk, if_pos rfl], fun j hj => by rw [qi_mk, if_pos ⟨rfl, rfl⟩]; exact (congrArg nI (show wk4 (ek 0 (pw h c 2)) j = 0 by simp (disch := omega) only [wk4, ek_out, Nat.zero_mul, Nat.add_zero])).symm⟩
  obtain ⟨S', b', i1, i2⟩ := j_set7 hF h4 h5 c0 cl (z := z) hy hQ (h 0 1) 0 _ (by omega) A0
  rw [q9_0 hF, z5, show decide ((5 : Int32) < 0) = false by decide, show Nat.ble 5 100000 = true by decide]
  exact ⟨S', b', i1, i2⟩
end
