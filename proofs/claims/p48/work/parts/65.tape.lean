/-! ===== the tape ===== -/
section
variable {I I' : Nat → Nat → Int32} {L L' : Nat → Nat → Int64}
def byt (x : Int32) (s : Nat) : Nat := (x >>> (nI s &&& 31)).toBitVec.toNat % 256
theorem byt_lt (x : Int32) (s : Nat) : byt x s < 256 := Nat.mod_lt _ (by decide)
theorem and_255 (y : Int32) : y &&& 255 = nI (y.toBitVec.toNat % 256) := by
  apply Int32.toBitVec_inj.mp
  rw [Int32.toBitVec_and]
  apply BitVec.eq_of_toNat_eq
  rw [BitVec.toNat_and]
  show y.toBitVec.toNat &&& 255 = (BitVec.ofNat 32 (y.toBitVec.toNat % 256)).toNat
  rw [BitVec.toNat_ofNat, show (255 : Nat) = 2 ^ 8 - 1 from rfl, Nat.and_two_pow_sub_one_eq_mod, Nat.mod_eq_of_lt (a := _ % _)]
  have := Nat.mod_lt y.toBitVec.toNat (show 256 > 0 by decide)
  omega
theorem byt_m (x : Int32) (s : Nat) : (x >>> (nI s &&& 31)) &&& 255 = nI (byt x s) := and_255 _
theorem tb255 : ∀ i, i < 32 → (255#32).getLsbD i = decide (i < 8) := by decide +kernel
theorem i8_bit (y : Int32) {i : Nat} (hi : i < 8) : (Int8.toInt32 (Int32.toInt8 y)).toBitVec.getLsbD i = y.toBitVec.getLsbD i := by
  rw [Int8.toBitVec_toInt32, Int32.toBitVec_toInt8, BitVec.getLsbD_signExtend, decide_eq_true (show i < 32 by omega), if_pos hi, Bool.true_and, BitVec.getLsbD_signExtend, decide_eq_true hi, if_pos (show i < 32 by omega), Bool.true_and]
theorem byt_c (x : Int32) {s : Nat} (hs : s = 24 ∨ s = 16 ∨ s = 8 ∨ s = 0) : (vp_nar .byte (Int8.toInt32 (Int32.toInt8 (pm_us x (nI s))))) &&& 255 = nI (byt x s) := by
  rw [← byt_m]
  apply Int32.toBitVec_inj.mp
  rw [Int32.toBitVec_and, Int32.toBitVec_and]
  apply BitVec.eq_of_getLsbD_eq
  intro i hi
  rw [BitVec.getLsbD_and, BitVec.getLsbD_and, show (255 : Int32).toBitVec = 255#32 from rfl, tb255 i hi]
  by_cases c : i < 8
  · rw [decide_eq_true c, Bool.and_true, Bool.and_true]
    show (Int8.toInt32 (Int32.toInt8 (Int8.toInt32 (Int32.toInt8 (pm_us x (nI s)))))).toBitVec.getLsbD i = _
    rw [i8_bit _ c, i8_bit _ c]
    have hx : x = nI x.toBitVec.toNat := by
      apply Int32.toBitVec_inj.mp
      show x.toBitVec = BitVec.ofNat 32 x.toBitVec.toNat
      rw [BitVec.ofNat_toNat, BitVec.setWidth_eq]
    have hl : pm_us x (nI s) = nI (x.toBitVec.toNat >>> s) := by
      have := z_us2 (n := x.toBitVec.toNat) (j := s) x.toBitVec.isLt (by omega)
      rw [← hx] at this
      exact this
    rw [hl, Int32.toBitVec_shiftRight]
    show (BitVec.ofNat 32 (x.toBitVec.toNat >>> s)).getLsbD i = (x.toBitVec.sshiftRight ((nI s &&& 31).toBitVec.smod 32).toNat).getLsbD i
    rw [z_sm s (by omega), BitVec.getLsbD_sshiftRight, BitVec.getLsbD_ofNat, decide_eq_true (show i < 32 by omega), decide_eq_false (show ¬ 32 ≤ i by omega), if_pos (by omega), Bool.true_and, Nat.testBit_shiftRight]
    rfl
  · rw [decide_eq_false c, Bool.and_false, Bool.and_false]
def put4 (b : Nat → Nat) (n : Nat) (x : Int32) : Nat → Nat := up (up (up (up b n (byt x 24)) (n + 1) (byt x 16)) (n + 2) (byt x 8)) (n + 3) (byt x 0)
def TC (n : Nat) (b : Nat → Nat) (I : Nat → Nat → Int32) : Prop := I 1 1 = nI n ∧ n ≤ 900 ∧ ∀ i, i < n → I 2 i &&& 255 = nI (b i)
def TM (n : Nat) (b : Nat → Nat) (I : Nat → Nat → Int32) : Prop := I 49 1 = nI n ∧ n ≤ 900 ∧ ∀ i, i < n → I 50 i = nI (b i)
theorem TC.put {n v : Nat} {b : Nat → Nat} {u : Int32} (X : TC n b I) (hn : n < 900) (hu : u &&& 255 = nI v) : TC (n + 1) (up b n v) (pm_ui (pm_ui I 2 n u) 1 1 (nI (n + 1))) := by
  refine ⟨by rw [z_ue], by omega, fun i hi => ?_⟩
  rw [z_ur (by omega)]
  unfold up
  by_cases q : i = n
  · rw [q, z_ue, if_pos rfl]; exact hu
  · rw [z_uk q, if_neg q]; exact X.2.2 i (by omega)
theorem TM.put {n v : Nat} {b : Nat → Nat} {u : Int32} (X : TM n b I) (hn : n < 900) (hu : u = nI v) : TM (n + 1) (up b n v) (pm_ui (pm_ui I 50 n u) 49 1 (nI (n + 1))) := by
  refine ⟨by rw [z_ue], by omega, fun i hi => ?_⟩
  rw [z_ur (by omega)]
  unfold up
  by_cases q : i = n
  · rw [q, z_ue, if_pos rfl]; exact hu
  · rw [z_uk q, if_neg q]; exact X.2.2 i (by omega)
variable {F : pm_F} {L0 : Nat} {xs : Nat → Int32}
theorem c_length (hF : pm_fix pt_me pt_Sg (pt_R L0 xs) F) {n : Nat} {b : Nat → Nat} (X : TC n b I) : (F 1002 0 [some (.ref 1)] [] (49, pt_G, I, L)) = some (some (.int (nI n)), (49, pt_G, I, L)) := by
  rw [e1002_0 hF, X.1]
theorem c_byteAt (hF : pm_fix pt_me pt_Sg (pt_R L0 xs) F) {n i : Nat} {b : Nat → Nat} (X : TC n b I) (hi : i ≤ 900) : (F 1003 0 [some (.ref 1), some (.int (nI i))] [] (49, pt_G, I, L)) = some (some (.int (if i < n then nI (b i) else -1)), (49, pt_G, I, L)) := by
  have hn := X.2.1
  rw [e1003_0 hF, X.1, show (900 : Int32) = nI 900 from rfl]
  simp (disch := omega) only [pm_k_i, Option.toList_some, Option.toList_none, List.cons_append, List.nil_append, cond_true, cond_false, ↓reduceIte, reduceCtorEq, z_1, nI_add, z_cl, z_ib, z_lt, z_le, z_eq, z_eq0, z_le0, z_lt0, z_b0, z_b1, z_m1, z_and7, Int32.add_zero]
  by_cases c : i < n
  · rw [if_pos c, if_pos (by omega), if_pos c]
    simp (disch := omega) only [pm_k_i, Option.toList_some, Option.toList_none, List.cons_append, List.nil_append, cond_true, cond_false, ↓reduceIte, reduceCtorEq, z_1, nI_add, z_cl, z_ib, z_lt, z_le, z_eq, z_eq0, z_le0, z_lt0, z_b0, z_b1, z_m1, z_and7, Int32.add_zero, X.2.2 i c]
  · rw [if_neg c, if_neg c]
theorem c_cutTo (hF : pm_fix pt_me pt_Sg (pt_R L0 xs) F) {n k : Nat} {b : Nat → Nat} (X : TC n b I) (hk : k ≤ n) : (F 1005 0 [some (.ref 1), some (.int (nI k))] [] (49, pt_G, I, L)) = some (none, (49, pt_G, pm_ui I 1 1 (nI k), L)) ∧ TC k b (pm_ui I 1 1 (nI k)) := by
  have hn := X.2.1
  refine ⟨?_, by rw [z_ue], by omega, fun i hi => by rw [z_ur (by omega)]; exact X.2.2 i (by omega)⟩
  rw [e1005_0 hF, X.1]
  simp (disch := omega) only [pm_k_i, Option.toList_some, Option.toList_none, List.cons_append, List.nil_append, cond_true, cond_false, ↓reduceIte, reduceCtorEq, z_1, nI_add, z_cl, z_ib, z_lt, z_le, z_eq, z_eq0, z_le0, z_lt0, z_b0, z_b1, z_m1, z_and7, Int32.add_zero, hk]
theorem c_append (hF : pm_fix pt_me pt_Sg (pt_R L0 xs) F) {n : Nat} {b : Nat → Nat} (X : TC n b I) (hn : n + 4 ≤ 900) (x : Int32) : ∃ I', (F 1004 0 [some (.ref 1), some (.int x), none] [] (49, pt_G, I, L)) = some (none, (49, pt_G, I', L)) ∧ (∀ r j, (r = 1 → j ≠ 1) → r ≠ 2 → I' r j = I r j) ∧ TC (n + 4) (put4 b n x) I' := by
  have st : ∀ (J : Nat → Nat → Int32) (s : Nat) (m : Nat) (d : Nat → Nat), (s = 24 ∨ s = 16 ∨ s = 8 ∨ s = 0) → m < 900 → TC m d J → ∃ u, u &&& 255 = nI (byt x s) ∧ (F 1004 3 [some (.ref 1), some (.int x), some (.int (nI s))] [] (49, pt_G, J, L)) = (F 1004 3 [some (.ref 1), some (.int x), some (.int (nI s + (-8)))] [] (49, pt_G, (pm_ui (pm_ui J 2 m u) 1 1 (nI (m + 1))), L)) := by
    intro J s m d hs hm X
    refine ⟨_, byt_c x hs, ?_⟩
    have s30 : s < 30 := by omega
    rw [e1004_3 hF, X.1, show (900 : Int32) = nI 900 from rfl]
    simp (disch := omega) only [pm_k_i, Option.toList_some, Option.toList_none, List.cons_append, List.nil_append, cond_true, cond_false, ↓reduceIte, reduceCtorEq, z_1, nI_add, z_cl, z_ib, z_lt, z_le, z_eq, z_eq0, z_le0, z_lt0, z_b0, z_b1, z_m1, z_and7, Int32.add_zero, hm]
  obtain ⟨u1, a1, b1⟩ := st I 24 n b (by omega) (by omega) X
  have X1 := X.put (by omega) a1
  obtain ⟨u2, a2, b2⟩ := st _ 16 (n + 1) _ (by omega) (by omega) X1
  have X2 := X1.put (by omega) a2
  obtain ⟨u3, a3, b3⟩ := st _ 8 (n + 1 + 1) _ (by omega) (by omega) X2
  have X3 := X2.put (by omega) a3
  obtain ⟨u4, a4, b4⟩ := st _ 0 (n + 1 + 1 + 1) _ (by omega) (by omega) X3
  have X4 := X3.put (by omega) a4
  rw [e1004_0 hF, show (24 : Int32) = nI 24 from rfl, b1, show nI 24 + (-8) = nI 16 from by decide, b2, show nI 16 + (-8) = nI 8 from by decide, b3, show nI 8 + (-8) = nI 0 from by decide, b4, show nI 0 + (-8) = -8 from by decide, e1004_3 hF, if_pos (by decide)]
  refine ⟨_, rfl, fun r j y z => ?_, X4⟩
  by_cases q : r = 1
  · have := y q
    rw [q]
    simp (disch := omega) only [z_uk, z_ur]
  · simp (disch := omega) only [z_ur]
/-- where the model reads -/
def TB (n : Nat) (b : Nat → Nat) (I : Nat → Nat → Int32) : Prop := I 49 2 = nI n ∧ n ≤ 900 ∧ ∀ i, i < n → I 50 i = nI (b i)
end
