/-! ===== the law's numbers; a builder made ===== -/
section
variable {S S' : qm_S} {O : qm_O} {F : qm_F} {J L0 : Nat} {xs : List Int32}
/-- the script's int, or one in its place -/
def wc (L0 : Nat) (xs : List Int32) (k : Nat) : Int32 := if k < L0 then xs.getD k 0 else 1664525 * nI k + 14378
/-- one of n -/
def wpk (L0 : Nat) (xs : List Int32) (k n : Nat) : Nat := (wc L0 xs k).toBitVec.toNat % 2 ^ 31 % n
theorem wpk_lt {k n : Nat} (h : 0 < n) : wpk L0 xs k n < n := Nat.mod_lt _ h
theorem j_cell (hF : qm_fix O qt_me qt_qs (qt_C L0 xs) J F) (hL : L0 < 2147483648) {a k : Nat} (hk : k < 2147483648) : F 2 0 [some (.inr (2, a)), some (.inl (nI k))] [] S = some (some (.inl (wc L0 xs k)), S) := by
  unfold wc
  rw [q2_0 hF]
  by_cases c : k < L0
  · rw [if_pos ((nI_ltI hk hL).mpr c), if_pos c, z_ib c hL, z_cl hk]
    rfl
  · rw [if_neg (fun z => c ((nI_ltI hk hL).mp z)), if_neg c]
theorem j_pick (hF : qm_fix O qt_me qt_qs (qt_C L0 xs) J F) (hL : L0 < 2147483648) {a k n : Nat} (hk : k < 2147483648) (h0 : 0 < n) (hn : n < 2147483648) : F 3 0 [some (.inr (2, a)), some (.inl (nI k)), some (.inl (nI n))] [] S = some (some (.inl (nI (wpk L0 xs k n))), S) := by
  rw [q3_0 hF, j_cell hF hL hk]
  show F 3 5 [some (.inr (2, a)), some (.inl (nI k)), some (.inl (nI n))] [.inl (wc L0 xs k)] S = _
  have hm : (2147483647 : Int32).toBitVec.toNat = 2 ^ 31 - 1 := by decide +kernel
  rw [q3_5 hF, pk_and _ 31 hm, pk_rem (Nat.mod_lt _ (by decide)) h0 hn, decide_eq_false (nI_ne0 h0 hn)]
  rfl
theorem j_next (hF : qm_fix O qt_me qt_qs (qt_C L0 xs) J F) (hL : L0 < 2147483648) {w i n : Nat} (hs : qr_g S 1 w 15 = 1) (hi : qr_i S 1 w 16 = nI i) (hi2 : i < 100000) (h0 : 0 < n) (hn : n < 2147483648) : F 1201 0 [some (.inr (1, w)), some (.inl (nI n))] [] S = some (some (.inl (nI (wpk L0 xs (i + 1) n))), qu_i S 1 w 16 (nI (i + 1))) := by
  rw [q1201_0 hF, hs, hi, z_1, qi_i, if_pos ⟨rfl, rfl, rfl⟩]
  show qm_k (F 3 0 [some (.inr (2, 1)), some (.inl (nI (i + 1))), some (.inl (nI n))] [] (qu_i S 1 w 16 (nI (i + 1)))) _ = _
  rw [j_pick hF hL (by omega) h0 hn]
  show F 1201 22 [some (.inr (1, w)), some (.inl (nI n))] [.inl (nI (wpk L0 xs (i + 1) n))] (qu_i S 1 w 16 (nI (i + 1))) = _
  rw [q1201_22 hF]
theorem j_sb (hF : qm_fix O qt_me qt_qs (qt_C L0 xs) J F) {b : Nat} (hb : b < S.1) (hi : ∀ k, qr_i S 12 b k = 0) :
    ∃ S', F 1521 0 [some (.inr (12, b))] [] S = some (none, S') ∧ SBs S' b S.1 16 [] ∧ FRs S S' ∧ S'.1 = S.1 + 1 ∧ S'.2.1 = S.2.1 + 16 := by
  refine ⟨qu_i (qu_g (qm_mk S 14 16) 12 b 0 S.1) 12 b 1 0, ?_, ⟨?_, by omega, Nat.lt_succ_self _, Nat.lt_succ_of_lt hb, ?_, ?_, by decide, ?_, by omega, by omega, fun j hj => ?_, fun j hj => ?_, fun x hx => by cases hx⟩, ⟨fun s a k c1 c2 => ?_, fun s a k c1 c2 => ?_, fun a ha => ?_, Nat.le_succ _, rfl⟩, rfl, rfl⟩
  · have c16 : Int32.toNatClampNeg 16 = 16 := by decide +kernel
    rw [q1521_0 hF, q1522_0 hF, if_neg (by decide), c16, show decide ((16 : Int32) < 0) = false by decide +kernel, show Nat.ble 16 100000 = true by decide +kernel]
    show F 1521 6 [some (.inr (12, b))] [] (qu_i (qu_g (qm_mk S 14 16) 12 b 0 S.1) 12 b 1 0) = _
    rw [q1521_6 hF]
  · rw [qg_i, qg_g, if_pos ⟨rfl, rfl, rfl⟩]
  · rw [qi_i, if_pos ⟨rfl, rfl, rfl⟩]
  · rw [qi_i, if_neg (fun z => by omega), qi_g, qi_mk, if_neg (fun z => by omega), hi]
    rfl
  · rw [qn_i, qn_g, qn_mk, if_pos rfl]
  · rw [qi_i, if_neg (fun z => by omega), qi_g, qi_mk, if_pos ⟨rfl, rfl⟩]
    exact qby_nI 0 (by omega)
  · exact absurd hj (Nat.not_lt_zero _)
  · rw [qi_i, if_neg (fun z => c1 z.1), qi_g, qi_mk, if_neg (fun z => c2 z.1)]
  · rw [qg_i, qg_g, if_neg (fun z => c1 z.1), qg_mk, if_neg (fun z => c2 z.1)]
  · rw [qn_i, qn_g, qn_mk, if_neg (by omega)]
end
