/-! ===== the library: lengths, growth, appending ===== -/
section
variable {S S' : qm_S} {O : qm_O} {F : qm_F} {J L0 : Nat} {xs : List Int32}
theorem qm_k_n {v : Option qm_V} {S : qm_S} {k : Option qm_V → qm_S → qm_R} : qm_k (some (v, S)) k = k v S := rfl
theorem sh0 {n : Nat} (h : n < 2147483648) : (nI n) >>> ((0 : Int32) &&& 31) = nI n := by
  rw [pk_shrN h _ 0 (by decide +kernel), Nat.pow_zero, Nat.div_one]
theorem shl0 {n : Nat} (h : n < 2147483648) : (nI n) <<< ((0 : Int32) &&& 31) = nI n := by
  rw [pk_shlN _ 0 (by decide +kernel) (by omega), Nat.pow_zero, Nat.mul_one]
theorem dlt0 {a : Nat} (h : a < 2147483648) : decide (nI a < 0) = false := decide_eq_false (nI_pos h)
theorem dlz : decide ((0 : Int32) < 0) = false := by decide +kernel
theorem sub_leI {a b : Nat} (ha : a < 1000000) (hb : b < 1000000) : (nI a - nI b ≤ 0) ↔ a ≤ b := by
  by_cases c : b ≤ a
  · rw [pk_sub c, show (0 : Int32) = nI 0 from rfl, nI_leI (by omega) (by omega)]
    omega
  · have h := pk_sneg (a := a) (b := b) (by omega) (by omega)
    exact ⟨fun _ => by omega, fun _ => Int32.le_of_lt h⟩
theorem bl0 {v : Nat} (h : 0 < v) : Nat.blt 0 v = true := by rw [Nat.blt_eq]; exact h
/-- the strings that are told: their letters -/
def qt_sn (k : Nat) : List Nat := (qt_str.getD k []).map Int32.toNatClampNeg
theorem qt_sn_ok : ∀ k, k < 18 → (qt_str.getD k []).length = (qt_sn k).length ∧ (qt_sn k).length ≤ 9 ∧ (∀ x ∈ qt_sn k, x < 128) ∧ ∀ j, j < (qt_sn k).length → (qt_str.getD k []).getD j 0 = nI ((qt_sn k).getD j 0) := by decide +kernel
theorem qt_len (k : Nat) (h : k < 18) : qt_cn L0 17 (11 + k + 20) = (qt_sn k).length := by
  show (qt_str.getD (11 + k + 20 - 31) []).length = _
  rw [show 11 + k + 20 - 31 = k by omega]
  exact (qt_sn_ok k h).1
theorem qt_at (k : Nat) (h : k < 18) (j : Nat) (hj : j < (qt_sn k).length) : qt_ci xs 17 (11 + k + 20) j = nI ((qt_sn k).getD j 0) := by
  show (qt_str.getD (11 + k + 20 - 31) []).getD j 0 = _
  rw [show 11 + k + 20 - 31 = k by omega]
  exact (qt_sn_ok k h).2.2.2 j hj
theorem j_coder (hF : qm_fix O qt_me qt_qs (qt_C L0 xs) J F) {a : Nat} : F 1502 0 [some (.inr (16, a))] [] S = some (some (.inl 0), S) := by
  rw [q1502_0b hF, if_neg (by decide)]
  show (bif decide (Int8.toInt32 (Int32.toInt8 0) = (0 : Int32)) then (some (some (.inl (0 : Int32)), S) : qm_R) else none) = _
  rw [show decide (Int8.toInt32 (Int32.toInt8 0) = (0 : Int32)) = true by decide +kernel]
  rfl
theorem j_len (hF : qm_fix O qt_me qt_qs (qt_C L0 xs) J F) {k : Nat} (hk : k < 18) : F 1501 0 [some (.inr (16, 11 + k))] [] S = some (some (.inl (nI (qt_sn k).length)), S) := by
  have h := (qt_sn_ok k hk).2.1
  rw [q1501_0b hF, j_coder hF, qt_len k hk]
  show F 1501 9 [some (.inr (16, 11 + k))] [.inl 0, .inl (nI (qt_sn k).length)] S = _
  rw [q1501_9b hF, sh0 (by omega)]
theorem j_max (hF : qm_fix O qt_me qt_qs (qt_C L0 xs) J F) {a b : Nat} (ha : a < 1000000) (hb : b < 1000000) : F 1512 0 [some (.inl (nI a)), some (.inl (nI b))] [] S = some (some (.inl (nI (max a b))), S) := by
  rw [q1512_0 hF]
  by_cases c : a < b
  · rw [if_pos ((nI_ltI (by omega) (by omega)).mpr c), Nat.max_eq_right (by omega)]
  · rw [if_neg (fun z => c ((nI_ltI (by omega) (by omega)).mp z)), Nat.max_eq_left (by omega)]
theorem j_min (hF : qm_fix O qt_me qt_qs (qt_C L0 xs) J F) {a b : Nat} (ha : a < 1000000) (hb : b < 1000000) : F 1511 0 [some (.inl (nI a)), some (.inl (nI b))] [] S = some (some (.inl (nI (min a b))), S) := by
  rw [q1511_0 hF]
  by_cases c : a ≤ b
  · rw [if_pos ((nI_leI (by omega) (by omega)).mpr c), Nat.min_eq_left (by omega)]
  · rw [if_neg (fun z => c ((nI_leI (by omega) (by omega)).mp z)), Nat.min_eq_right (by omega)]
theorem j_newLength (hF : qm_fix O qt_me qt_qs (qt_C L0 xs) J F) {a b c : Nat} (ha : a < 100000) (hb : b < 100000) (hc : c < 100000) (h0 : 0 < a) : F 1528 0 [some (.inl (nI a)), some (.inl (nI b)), some (.inl (nI c)), none] [] S = some (some (.inl (nI (a + max b c))), S) := by
  have hm : max b c < 100000 := by omega
  rw [q1528_0 hF, j_max hF (by omega) (by omega)]
  show F 1528 6 [some (.inl (nI a)), some (.inl (nI b)), some (.inl (nI c)), none] [.inl (nI (max b c)), .inl (nI a)] S = _
  rw [q1528_6 hF, nI_add, if_pos (show (0 : Int32) < nI (a + max b c) from (nI_ltI (a := 0) (by omega) (by omega)).mpr (by omega)), if_pos (show nI (a + max b c) ≤ 2147483639 from (nI_leI (b := 2147483639) (by omega) (by omega)).mpr (by omega))]
theorem j_newCap (hF : qm_fix O qt_me qt_qs (qt_C L0 xs) J F) {b v N : Nat} {t : List Nat} (h : SBs S b v N t) {k : Nat} (hk : N < k) (hk2 : k ≤ 2 * N + 2) : F 1527 0 [some (.inr (12, b)), some (.inl (nI k)), none, none, none, none] [] S = some (some (.inl (nI (2 * N + 2))), S) := by
  obtain ⟨h1, h2, h3, h4, h5, h6, h7, h8, h9, h10, h11, h12, h13⟩ := h
  have two : ((2 : Int32) <<< ((0 : Int32) &&& 31)) = nI 2 := by decide +kernel
  rw [q1527_0 hF, h1, bl0 h2, h8, h5, shl0 (by omega), two, pk_sub (by omega), nI_add]
  show qm_k (F 1528 0 [some (.inl (nI N)), some (.inl (nI (k - N))), some (.inl (nI (N + 2))), none] [] S) _ = _
  rw [j_newLength hF (by omega) (by omega) (by omega) (by omega), show N + max (k - N) (N + 2) = 2 * N + 2 by omega]
  show F 1527 32 [some (.inr (12, b)), some (.inl (nI k)), some (.inl (nI N)), some (.inl (nI k)), some (.inl (nI (k - N))), none] [.inl (nI (2 * N + 2))] S = _
  rw [q1527_32 hF, if_neg (fun z => by have := (nI_eq (b := 2147483647) (by omega) (by omega)).mp z; omega), h5, sh0 (by omega)]
theorem j_copyOf (hF : qm_fix O qt_me qt_qs (qt_C L0 xs) J F) {v N M : Nat} (hv : v < S.1) (hN : qr_n S v = N) (hNM : N < M) (hM : M ≤ 10000) (hb : ∀ j, j < N → qby (qr_i S 14 v j)) : F 1530 0 [some (.inr (14, v)), some (.inl (nI M)), none] [] S = some (some (.inr (14, S.1)), qu_cp (qm_mk S 14 M) 14 v 14 S.1 0 0 N) := by
  have en : qr_n (qm_mk S 14 M) v = N := by rw [qn_mk, if_neg (by omega), hN]
  have em : qr_n (qm_mk S 14 M) S.1 = M := by rw [qn_mk, if_pos rfl]
  rw [q1530_0 hF, hN, if_neg (fun z => by have := (nI_eq (by omega) (by omega)).mp z; omega), z_cl (by omega), dlt0 (by omega), show Nat.ble M 100000 = true from Nat.ble_eq_true_of_le (by omega), en]
  show qm_k (F 1511 0 [some (.inl (nI N)), some (.inl (nI M))] [] (qm_mk S 14 M)) _ = _
  rw [j_min hF (by omega) (by omega), Nat.min_eq_left (by omega)]
  show F 1530 28 [some (.inr (14, v)), some (.inl (nI M)), some (.inr (14, S.1))] [.inl (nI N), .inl 0, .inr (14, S.1), .inl 0, .inr (14, v)] (qm_mk S 14 M) = _
  have c0 : Int32.toNatClampNeg 0 = 0 := by decide +kernel
  rw [q1530_28 hF, z_cl (by omega), c0, en, em, dlt0 (by omega), dlz, show Nat.ble (0 + N) N = true from Nat.ble_eq_true_of_le (by omega), show Nat.ble (0 + N) M = true from Nat.ble_eq_true_of_le (by omega), qm_bytes_mk (fun i hi => ?_)]
  · rfl
  · show qby (qr_i (qm_mk S 14 M) 14 v (0 + i))
    rw [qi_mk, if_neg (fun z => by omega), Nat.zero_add]
    exact hb i hi
/-- room for more -/
theorem j_ens (hF : qm_fix O qt_me qt_qs (qt_C L0 xs) J F) {b v N : Nat} {t : List Nat} (h : SBs S b v N t) {k : Nat} (hk : t.length ≤ k) (hk1 : k ≤ N + 18) (hk2 : k ≤ 900) :
    ∃ S' v' N', F 1526 0 [some (.inr (12, b)), some (.inl (nI k)), none] [] S = some (none, S') ∧ SBs S' b v' N' t ∧ k ≤ N' ∧ FRs S S' ∧ CST S S' N N' := by
  obtain ⟨h1, h2, h3, h4, h5, h6, h7, h8, h9, h10, h11, h12, h13⟩ := id h
  by_cases c : k ≤ N
  · refine ⟨S, v, N, ?_, h, c, FRs.rf, CST.rf⟩
    rw [q1526_0 hF, h1, bl0 h2, h8, h5, sh0 (by omega), if_pos ((sub_leI (by omega) (by omega)).mpr c)]
    rfl
  · refine ⟨qu_g (qu_cp (qm_mk S 14 (2 * N + 2)) 14 v 14 S.1 0 0 N) 12 b 0 S.1, S.1, 2 * N + 2, ?_, ?_, by omega, ?_, ?_⟩
    · rw [q1526_0 hF, h1, bl0 h2, h8, h5, sh0 (by omega), if_neg (fun z => c ((sub_leI (by omega) (by omega)).mp z))]
      show qm_k (F 1527 0 [some (.inr (12, b)), some (.inl (nI k)), none, none, none, none] [] S) _ = _
      rw [j_newCap hF h (by omega) (by omega)]
      show F 1526 27 [some (.inr (12, b)), some (.inl (nI k)), some (.inl (nI N))] [.inl (nI (2 * N + 2)), .inr (14, v), .inr (12, b)] S = _
      rw [q1526_27 hF, h5, shl0 (by omega), j_copyOf hF h3 h8 (by omega) (by omega) h11]
      show F 1526 35 [some (.inr (12, b)), some (.inl (nI k)), some (.inl (nI N))] [.inr (14, S.1), .inr (12, b)] (qu_cp (qm_mk S 14 (2 * N + 2)) 14 v 14 S.1 0 0 N) = _
      rw [q1526_35 hF]
    · have ei : ∀ j, qr_i (qu_g (qu_cp (qm_mk S 14 (2 * N + 2)) 14 v 14 S.1 0 0 N) 12 b 0 S.1) 14 S.1 j = if j < N then qr_i S 14 v j else 0 := by
        intro j
        rw [qi_g, qi_cp, if_pos ⟨rfl, rfl⟩]
        by_cases d : j < N
        · rw [if_pos (by omega), if_pos d, Nat.sub_zero, Nat.zero_add, qi_mk, if_neg (fun z => by omega)]
        · rw [if_neg (by omega), if_neg d, qi_mk, if_pos ⟨rfl, rfl⟩]
      refine ⟨?_, by omega, Nat.lt_succ_self _, Nat.lt_succ_of_lt h4, ?_, ?_, by omega, ?_, by omega, by omega, fun j hj => ?_, fun j hj => ?_, h13⟩
      · rw [qg_g, if_pos ⟨rfl, rfl, rfl⟩]
      · rw [qi_g, qi_cp, if_neg (fun z => by omega), qi_mk, if_neg (fun z => by omega)]; exact h5
      · rw [qi_g, qi_cp, if_neg (fun z => by omega), qi_mk, if_neg (fun z => by omega)]; exact h6
      · rw [qn_g, qn_cp, qn_mk, if_pos rfl]
      · rw [ei]
        by_cases d : j < N
        · rw [if_pos d]; exact h11 j d
        · rw [if_neg d]; exact qby_nI 0 (by omega)
      · rw [ei, if_pos (by omega)]
        exact h12 j hj
    · refine ⟨fun s a k c1 c2 => ?_, fun s a k c1 c2 => ?_, fun a ha => ?_, Nat.le_succ _, rfl⟩
      · rw [qi_g, qi_cp, if_neg (fun z => c2 z.1), qi_mk, if_neg (fun z => c2 z.1)]
      · rw [qg_g, if_neg (fun z => c1 z.1), qg_cp, qg_mk, if_neg (fun z => c2 z.1)]
      · rw [qn_g, qn_cp, qn_mk, if_neg (by omega)]
    · refine ⟨by omega, ?_, ?_⟩
      · show S.1 + 1 + N ≤ S.1 + (2 * N + 2)
        omega
      · show S.2.1 + (2 * N + 2) + 2 * N ≤ S.2.1 + 2 * (2 * N + 2)
        omega
end
