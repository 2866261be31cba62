/-! ===== the library: a string out of a builder; its letters ===== -/
section
variable {S S' : qm_S} {O : qm_O} {F : qm_F} {J L0 : Nat} {xs : List Int32}
/-- what a string tells -/
def STR (S : qm_S) (a : Nat) (t : List Nat) : Prop := ∃ v, qr_g S 13 a 0 = v ∧ 0 < v ∧ v < S.1 ∧ a < S.1 ∧ qr_i S 13 a 1 = 0 ∧ qr_n S v = t.length ∧ t.length ≤ 900 ∧ (∀ j, j < t.length → qr_i S 15 v j = nI (t.getD j 0)) ∧ ∀ x ∈ t, x < 128
theorem j_range (hF : qm_fix O qt_me qt_qs (qt_C L0 xs) J F) {v N l : Nat} (hv : v < S.1) (hN : qr_n S v = N) (hl : l ≤ N) (hM : N ≤ 10000) (hb : ∀ j, j < N → qby (qr_i S 14 v j)) :
    ∃ S', F 1554 0 [some (.inr (14, v)), some (.inl 0), some (.inl (nI l))] [] S = some (some (.inr (15, S.1)), S') ∧ S'.1 = S.1 + 1 ∧ S'.2.1 = S.2.1 + l ∧ S'.2.2.2.2.2.2 = S.2.2.2.2.2.2 ∧ qr_n S' S.1 = l ∧ (∀ a, a < S.1 → qr_n S' a = qr_n S a) ∧ (∀ s b k, ¬ (s = 15 ∧ b = S.1) → qr_i S' s b k = qr_i S s b k) ∧ (∀ s b k, ¬ (s = 15 ∧ b = S.1) → qr_g S' s b k = qr_g S s b k) ∧ ∀ j, j < l → qr_i S' 15 S.1 j = qr_i S 14 v j := by
  rw [q1554_0 hF, if_pos rfl, hN]
  by_cases c : l = N
  · subst c
    rw [if_pos rfl, show Nat.ble l 100000 = true from Nat.ble_eq_true_of_le (by omega), qm_bytes_mk (fun i hi => by rw [Nat.zero_add]; exact hb i hi)]
    refine ⟨qu_c S 14 v, rfl, rfl, by show S.2.1 + qr_n S v = _; rw [hN], rfl, by rw [qn_c, if_pos rfl, hN], fun a ha => by rw [qn_c, if_neg (by omega)], fun s b k z => by rw [qi_c, if_neg z], fun s b k z => by rw [qg_c, if_neg z], fun j _ => by rw [qi_c, if_pos ⟨rfl, rfl⟩]⟩
  · have e0 : (0 : Int32) = nI 0 := rfl
    have en : qr_n (qm_mk S 15 l) v = N := by rw [qn_mk, if_neg (by omega), hN]
    have em : qr_n (qm_mk S 15 l) S.1 = l := by rw [qn_mk, if_pos rfl]
    have c0 : Int32.toNatClampNeg 0 = 0 := by decide +kernel
    have s0 : ∀ n : Nat, nI n - 0 = nI n := fun n => (pk_sub (a := n) (b := 0) (by omega)).trans (by rw [Nat.sub_zero])
    rw [if_neg (fun z => c ((nI_eq (by omega) (by omega)).mp z)), q1555_0 hF, q1556_0 hF, if_neg (nI_pos (by omega))]
    show ∃ S', qm_k (F 1555 5 [some (.inr (14, v)), some (.inl 0), some (.inl (nI l)), none, none] [] S) (fun w U => F 1554 16 [some (.inr (14, v)), some (.inl 0), some (.inl (nI l))] (w.toList ++ []) U) = _ ∧ _
    rw [q1555_5 hF, s0, dlt0 (by omega), z_cl (by omega), show Nat.ble l 100000 = true from Nat.ble_eq_true_of_le (by omega), en, s0, j_min hF (by omega) (by omega), Nat.min_eq_right hl]
    show ∃ S', qm_k (F 1555 27 [some (.inr (14, v)), some (.inl 0), some (.inl (nI l)), some (.inl (nI l)), some (.inr (15, S.1))] [.inl (nI l), .inl 0, .inr (15, S.1), .inl 0, .inr (14, v)] (qm_mk S 15 l)) (fun w U => F 1554 16 [some (.inr (14, v)), some (.inl 0), some (.inl (nI l))] (w.toList ++ []) U) = _ ∧ _
    rw [q1555_27 hF, dlt0 (by omega), dlz, z_cl (by omega), c0, en, em, show Nat.ble (0 + l) N = true from Nat.ble_eq_true_of_le (by omega), show Nat.ble (0 + l) l = true from Nat.ble_eq_true_of_le (by omega), qm_bytes_mk (fun i hi => by
      show qby (qr_i (qm_mk S 15 l) 14 v (0 + i))
      rw [qi_mk, if_neg (fun z => by omega), Nat.zero_add]
      exact hb i (by omega))]
    show ∃ S', F 1554 16 [some (.inr (14, v)), some (.inl 0), some (.inl (nI l))] [.inr (15, S.1)] (qu_cp (qm_mk S 15 l) 14 v 15 S.1 0 0 l) = _ ∧ _
    rw [q1554_16 hF]
    refine ⟨_, rfl, rfl, rfl, rfl, by rw [qn_cp, qn_mk, if_pos rfl], fun a ha => by rw [qn_cp, qn_mk, if_neg (by omega)], fun s b k z => by rw [qi_cp, if_neg z, qi_mk, if_neg z], fun s b k z => by rw [qg_cp, qg_mk, if_neg z], fun j hj => ?_⟩
    rw [qi_cp, if_pos ⟨rfl, rfl⟩, if_pos (by omega), Nat.sub_zero, Nat.zero_add, qi_mk, if_neg (fun z => by omega)]
theorem j_toString (hF : qm_fix O qt_me qt_qs (qt_C L0 xs) J F) {b v N : Nat} {t : List Nat} (h : SBs S b v N t) (ht : t.length ≤ 900) :
    ∃ S', F 1548 0 [some (.inr (12, b))] [] S = some (some (.inr (13, S.1)), S') ∧ STR S' S.1 t ∧ S'.1 = S.1 + 2 ∧ S'.2.1 = S.2.1 + (4 + t.length) ∧ S'.2.2.2.2.2.2 = S.2.2.2.2.2.2 ∧ (∀ a, a < S.1 → qr_n S' a = qr_n S a) ∧ (∀ s a k, a < S.1 → qr_i S' s a k = qr_i S s a k) ∧ ∀ s a k, a < S.1 → qr_g S' s a k = qr_g S s a k := by
  obtain ⟨h1, h2, h3, h4, h5, h6, h7, h8, h9, h10, h11, h12, h13⟩ := h
  have rg : ∀ k, qr_g (qm_mk S 13 4) 12 b k = qr_g S 12 b k := fun k => by rw [qg_mk, if_neg (fun z => by omega)]
  have ri : ∀ k, qr_i (qm_mk S 13 4) 12 b k = qr_i S 12 b k := fun k => by rw [qi_mk, if_neg (fun z => by omega)]
  obtain ⟨S1, a1, a2, a3, a4, a5, a6, a7, a8, a9⟩ := j_range (S := qu_i (qm_mk S 13 4) 13 S.1 1 0) hF (v := v) (N := N) (l := t.length) (Nat.lt_succ_of_lt h3) (by rw [qn_i, qn_mk, if_neg (by omega), h8]) h7 (by omega) (fun j hj => by rw [qi_i, if_neg (fun z => by omega), qi_mk, if_neg (fun z => by omega)]; exact h11 j hj)
  have n1 : (qu_i (qm_mk S 13 4) 13 S.1 1 0).1 = S.1 + 1 := rfl
  rw [n1] at a1 a2 a5 a6 a7 a8 a9
  refine ⟨qu_g S1 13 S.1 0 (S.1 + 1), ?_, ⟨S.1 + 1, ?_, by omega, ?_, ?_, ?_, ?_, ht, fun j hj => ?_, h13⟩, ?_, ?_, ?_, fun a ha => ?_, fun s a k ha => ?_, fun s a k ha => ?_⟩
  · rw [q1548_0 hF, q1549_0 hF, q1550_0 hF, q1551_0 hF, rg, h1, bl0 h2]
    show qm_k (qm_k (F 1550 8 [some (.inr (13, S.1)), some (.inr (12, b)), some (.inr (31, 0)), none, none] [.inr (14, v)] (qm_mk S 13 4)) _) _ = _
    rw [q1550_8 hF, q1552_0 hF, q1553_0 hF, ri, h6]
    show qm_k (qm_k (qm_k (F 1552 4 [some (.inr (12, b))] [.inl (nI t.length)] (qm_mk S 13 4)) _) _) _ = _
    rw [q1552_4 hF]
    show qm_k (qm_k (F 1550 13 [some (.inr (13, S.1)), some (.inr (12, b)), some (.inr (31, 0)), some (.inr (14, v)), none] [.inl (nI t.length)] (qm_mk S 13 4)) _) _ = _
    rw [q1550_13 hF, q1531_0 hF, if_neg (by decide), ri, h5, if_pos rfl]
    show qm_k (qm_k (F 1550 19 [some (.inr (13, S.1)), some (.inr (12, b)), some (.inr (31, 0)), some (.inr (14, v)), some (.inl (nI t.length))] [.inl 1] (qm_mk S 13 4)) _) _ = _
    rw [q1550_19 hF, if_neg (by decide), a1]
    show qm_k (qm_k (F 1550 35 [some (.inr (13, S.1)), some (.inr (12, b)), some (.inr (31, 0)), some (.inr (14, v)), some (.inl (nI t.length))] [.inr (15, S.1 + 1), .inr (13, S.1)] S1) _) _ = _
    rw [q1550_35 hF]
    show qm_k (F 1549 6 [some (.inr (13, S.1)), some (.inr (12, b))] [] (qu_g S1 13 S.1 0 (S.1 + 1))) _ = _
    rw [q1549_6 hF]
    show F 1548 8 [some (.inr (12, b))] [.inr (13, S.1)] (qu_g S1 13 S.1 0 (S.1 + 1)) = _
    rw [q1548_8 hF]
  · rw [qg_g, if_pos ⟨rfl, rfl, rfl⟩]
  · show S.1 + 1 < S1.1
    omega
  · show S.1 < S1.1
    omega
  · rw [qi_g, a7 _ _ _ (fun z => by omega), qi_i, if_pos ⟨rfl, rfl, rfl⟩]
  · rw [qn_g, a5]
  · rw [qi_g, a9 j hj, qi_i, if_neg (fun z => by omega), qi_mk, if_neg (fun z => by omega)]
    exact h12 j hj
  · show S1.1 = _
    omega
  · show S1.2.1 = _
    rw [a3]
    show S.2.1 + 4 + t.length = _
    omega
  · show S1.2.2.2.2.2.2 = _
    rw [a4]
    rfl
  · rw [qn_g, a6 a (by omega), qn_i, qn_mk, if_neg (by omega)]
  · rw [qi_g, a7 _ _ _ (fun z => by omega), qi_i, if_neg (fun z => by omega), qi_mk, if_neg (fun z => by omega)]
  · rw [qg_g, if_neg (fun z => by omega), a8 _ _ _ (fun z => by omega), qg_i, qg_mk, if_neg (fun z => by omega)]
theorem j_slen (hF : qm_fix O qt_me qt_qs (qt_C L0 xs) J F) {a : Nat} {t : List Nat} (h : STR S a t) : F 1501 0 [some (.inr (13, a))] [] S = some (some (.inl (nI t.length)), S) := by
  obtain ⟨v, h1, h2, h3, h4, h5, h6, h7, h8, h9⟩ := h
  rw [q1501_0a hF, h1, bl0 h2, q1502_0a hF, if_neg (by decide), h5, h6, show decide (Int8.toInt32 (Int32.toInt8 0) = (0 : Int32)) = true by decide +kernel]
  show F 1501 9 [some (.inr (13, a))] [.inl 0, .inl (nI t.length)] S = _
  rw [q1501_9a hF, sh0 (by omega)]
theorem ch_f : ∀ x, x < 128 → UInt32.toInt32 (Int32.toUInt32 (nI x &&& 255) % 65536) = nI x ∧ decide (UInt32.toInt32 (Int32.toUInt32 (nI x) % 65536) = nI x) = true := by decide +kernel
theorem j_at (hF : qm_fix O qt_me qt_qs (qt_C L0 xs) J F) {a : Nat} {t : List Nat} (h : STR S a t) {k : Nat} (hk : k < t.length) : F 1503 0 [some (.inr (13, a)), some (.inl (nI k))] [] S = some (some (.inl (nI (t.getD k 0))), S) := by
  obtain ⟨v, h1, h2, h3, h4, h5, h6, h7, h8, h9⟩ := h
  obtain ⟨f1, f2⟩ := ch_f _ (h9 _ (gdm hk))
  rw [q1503_0 hF, q1504_0 hF, if_neg (by decide), h5, if_pos rfl]
  show F 1503 4 [some (.inr (13, a)), some (.inl (nI k))] [.inl 1] S = _
  rw [q1503_4 hF, if_neg (by decide), h1, bl0 h2, q1505_0 hF, h6, q1506_0 hF, q1507_0 hF, if_neg (nI_pos (by omega)), if_pos ((nI_ltI (by omega) (by omega)).mpr hk)]
  show qm_k (qm_k (F 1506 8 [some (.inl (nI k)), some (.inl (nI t.length))] [.inl (nI k)] S) _) _ = _
  rw [q1506_8 hF]
  show qm_k (F 1505 6 [some (.inr (15, v)), some (.inl (nI k))] [] S) _ = _
  rw [q1505_6 hF, h6, z_ib hk (by omega), z_cl (by omega), h8 k hk, f1, f2]
  show F 1503 15 [some (.inr (13, a)), some (.inl (nI k))] [.inl (nI (t.getD k 0))] S = _
  rw [q1503_15 hF, f2]
  rfl
end
