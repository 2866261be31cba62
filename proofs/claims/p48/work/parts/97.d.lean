/-! ===== the library: appending a number ===== -/
section
variable {S S' : qm_S} {O : qm_O} {F : qm_F} {J L0 : Nat} {xs : List Int32}
/-- a number told -/
def qt_dg (x : Nat) : List Nat := if x < 10 then [48 + x] else if x < 100 then [48 + x / 10, 48 + x % 10] else [49, 48 + (x - 100) / 10, 48 + (x - 100) % 10]
theorem qt_dg_ok : ∀ x, x < 200 → (qt_dg x).length ≤ 3 ∧ 1 ≤ (qt_dg x).length ∧ ∀ y ∈ qt_dg x, y < 128 := by decide +kernel
theorem dg_f : ∀ x, x < 200 → ((-nI x ≤ -10) ↔ 10 ≤ x) ∧ ((-nI x ≤ 10 * -10) ↔ 100 ≤ x) ∧ ¬ (-nI x ≤ 10 * (10 * -10)) ∧ ((-nI x ≤ -100) ↔ 100 ≤ x) ∧ -(-nI x) = nI x ∧ ((-nI x < -9) ↔ 10 ≤ x) := by decide +kernel
theorem dg_h : ∀ x, x < 100 → (-nI (100 + x)) / 100 = -nI 1 ∧ -nI 1 * 100 - -nI (100 + x) = nI x := by decide +kernel
theorem dg_n : ∀ x, x < 100 → vp_nar .byte (48 + nI (x % 10)) = nI (48 + x % 10) ∧ vp_nar .byte (48 + nI (x / 10)) = nI (48 + x / 10) := by decide +kernel
theorem j_size (hF : qm_fix O qt_me qt_qs (qt_C L0 xs) J F) {x : Nat} (hx : x < 200) : F 1543 0 [some (.inl (nI x)), none, none, none] [] S = some (some (.inl (nI (qt_dg x).length)), S) := by
  obtain ⟨f1, f2, f3, f4, f5, f6⟩ := dg_f x hx
  rw [q1543_0 hF, if_neg (nI_pos (by omega)), q1543_16 hF, if_pos (by decide)]
  by_cases c : x < 10
  · rw [if_neg (fun z => by have := f1.mp z; omega)]
    unfold qt_dg
    rw [if_pos c]
    rfl
  · rw [if_pos (f1.mpr (by omega)), q1543_16 hF, if_pos (by decide)]
    by_cases d : x < 100
    · rw [if_neg (fun z => by have := f2.mp z; omega)]
      unfold qt_dg
      rw [if_neg c, if_pos d]
      rfl
    · rw [if_pos (f2.mpr (by omega)), q1543_16 hF, if_pos (by decide), if_neg f3]
      unfold qt_dg
      rw [if_neg c, if_neg d]
      rfl
theorem j_chars (hF : qm_fix O qt_me qt_qs (qt_C L0 xs) J F) {x v l N : Nat} (hx : x < 200) (hl : l + (qt_dg x).length ≤ N) (hN : qr_n S v = N) (hN2 : N ≤ 2000) :
    ∃ S' y, F 1544 0 [some (.inl (nI x)), some (.inl (nI (l + (qt_dg x).length))), some (.inr (14, v)), none, none, none, none] [] S = some (some (.inl y), S') ∧ S'.1 = S.1 ∧ S'.2.1 = S.2.1 ∧ S'.2.2.2.2.2.2 = S.2.2.2.2.2.2 ∧ (∀ t b k, qr_g S' t b k = qr_g S t b k) ∧ (∀ b, qr_n S' b = qr_n S b) ∧ (∀ t b k, t ≠ 14 → qr_i S' t b k = qr_i S t b k) ∧ ∀ j, qr_i S' 14 v j = if l ≤ j ∧ j < l + (qt_dg x).length then nI ((qt_dg x).getD (j - l) 0) else qr_i S 14 v j := by
  obtain ⟨f1, f2, f3, f4, f5, f6⟩ := dg_f x hx
  have ones : ∀ (a j : Nat), qt_ci xs 28 a j = 48 + nI (j % 10) := fun _ _ => rfl
  have tens : ∀ (a j : Nat), qt_ci xs 29 a j = 48 + nI (j / 10) := fun _ _ => rfl
  have l28 : ∀ a : Nat, qt_cn L0 28 a = 100 := fun _ => rfl
  have l29 : ∀ a : Nat, qt_cn L0 29 a = 100 := fun _ => rfl
  have d100 : decide ((100 : Int32) = 0) = false := by decide +kernel
  rw [q1544_0 hF, if_neg (nI_pos (by omega)), if_pos (by decide), q1544_22 hF]
  by_cases c : x < 10
  · have e : qt_dg x = [48 + x] := by unfold qt_dg; rw [if_pos c]
    have e1 : (qt_dg x).length = 1 := by rw [e]; rfl
    rw [e1] at hl
    rw [if_neg (fun z => by have := f4.mp z; omega), e1, q1544_72 hF, f5, pk_m1, q1544_83 hF, l28, hN, z_ib (by omega) (by omega), z_ib (by omega) (by omega), if_neg (fun z => by have := f6.mp z; omega), if_pos rfl, ones, z_cl (by omega), z_cl (by omega), (dg_n x (by omega)).1, Nat.mod_eq_of_lt c]
    refine ⟨_, _, rfl, rfl, rfl, rfl, fun _ _ _ => rfl, fun _ => rfl, fun t b k ht => ?_, fun j => ?_⟩
    · rw [qi_i, if_neg (fun z => ht z.1)]
    · rw [qi_i, e]
      by_cases d : j = l
      · subst d
        rw [if_pos ⟨rfl, rfl, rfl⟩, if_pos ⟨Nat.le_refl _, Nat.lt_succ_self _⟩, Nat.sub_self]
        rfl
      · rw [if_neg (fun z => d z.2.1), if_neg (fun z => d (by omega))]
  · by_cases d : x < 100
    · have e : qt_dg x = [48 + x / 10, 48 + x % 10] := by unfold qt_dg; rw [if_neg c, if_pos d]
      have e1 : (qt_dg x).length = 2 := by rw [e]; rfl
      rw [e1] at hl
      rw [if_neg (fun z => by have := f4.mp z; omega), e1, q1544_72 hF, f5, pk_m1, q1544_83 hF, l28, hN, z_ib (by omega) (by omega), z_ib (by omega) (by omega), if_pos (f6.mpr (by omega)), f5, pk_m1, q1544_102 hF, l29, qn_i, hN, z_ib (by omega) (by omega), z_ib (by omega) (by omega), if_pos rfl, ones, tens, z_cl (n := l + 1) (by omega), z_cl (n := l) (by omega), z_cl (n := x) (by omega), (dg_n x (by omega)).1, (dg_n x (by omega)).2]
      refine ⟨_, _, rfl, rfl, rfl, rfl, fun _ _ _ => rfl, fun _ => rfl, fun t b k ht => ?_, fun j => ?_⟩
      · rw [qi_i, if_neg (fun z => ht z.1), qi_i, if_neg (fun z => ht z.1)]
      · rw [qi_i, qi_i, e]
        by_cases d0 : j = l
        · subst d0
          rw [if_pos ⟨rfl, rfl, rfl⟩, if_pos ⟨Nat.le_refl _, by omega⟩, Nat.sub_self]
          rfl
        · rw [if_neg (fun z => d0 z.2.1)]
          by_cases d1 : j = l + 1
          · subst d1
            rw [if_pos ⟨rfl, rfl, rfl⟩, if_pos ⟨by omega, by omega⟩, Nat.add_sub_cancel_left]
            rfl
          · rw [if_neg (fun z => d1 z.2.1), if_neg (fun z => by omega)]
    · obtain ⟨r, rfl⟩ : ∃ r, x = 100 + r := ⟨x - 100, by omega⟩
      have hr : r < 100 := by omega
      obtain ⟨g1, g2⟩ := dg_h r hr
      obtain ⟨k1, k2, k3, k4, k5, k6⟩ := dg_f 1 (by omega)
      have e : qt_dg (100 + r) = [49, 48 + r / 10, 48 + r % 10] := by unfold qt_dg; rw [if_neg c, if_neg d, Nat.add_sub_cancel_left]
      have e1 : (qt_dg (100 + r)).length = 3 := by rw [e]; rfl
      rw [e1] at hl
      rw [if_pos (f4.mpr (by omega)), e1, d100, g1, g2, pk_m1]
      show ∃ S' y, F 1544 54 [some (.inl (-nI 1)), some (.inl (nI (l + 3))), some (.inr (14, v)), some (.inl (-nI 1)), some (.inl (nI r)), some (.inl (nI (l + 2))), some (.inl 0)] [.inl (nI r), .inr (28, 4), .inl (nI (l + 2)), .inr (14, v)] S = some (some (.inl y), S') ∧ _
      rw [q1544_54 hF, l28, hN, z_ib (by omega) (by omega), z_ib (by omega) (by omega), pk_m1]
      show ∃ S' y, F 1544 67 [some (.inl (-nI 1)), some (.inl (nI (l + 3))), some (.inr (14, v)), some (.inl (-nI 1)), some (.inl (nI r)), some (.inl (nI (l + 1))), some (.inl 0)] [.inl (nI r), .inr (29, 5), .inl (nI (l + 1)), .inr (14, v)] _ = some (some (.inl y), S') ∧ _
      rw [q1544_67 hF, l29, qn_i, hN, z_ib (by omega) (by omega), z_ib (by omega) (by omega)]
      show ∃ S' y, F 1544 22 [some (.inl (-nI 1)), some (.inl (nI (l + 3))), some (.inr (14, v)), none, none, some (.inl (nI (l + 1))), some (.inl 0)] [] _ = some (some (.inl y), S') ∧ _
      rw [q1544_22 hF, if_neg (fun z => by have := k4.mp z; omega), q1544_72 hF, k5, pk_m1, q1544_83 hF, l28, qn_i, qn_i, hN, z_ib (by omega) (by omega), z_ib (by omega) (by omega), if_neg (fun z => by have := k6.mp z; omega), if_pos rfl, ones, tens, ones, z_cl (n := l + 2) (by omega), z_cl (n := l + 1) (by omega), z_cl (n := l) (by omega), z_cl (n := r) (by omega), z_cl (n := 1) (by omega), (dg_n r (by omega)).1, (dg_n r (by omega)).2, (dg_n 1 (by omega)).1]
      refine ⟨_, _, rfl, rfl, rfl, rfl, fun _ _ _ => rfl, fun _ => rfl, fun t b k ht => ?_, fun j => ?_⟩
      · rw [qi_i, if_neg (fun z => ht z.1), qi_i, if_neg (fun z => ht z.1), qi_i, if_neg (fun z => ht z.1)]
      · rw [qi_i, qi_i, qi_i, e]
        by_cases d0 : j = l
        · subst d0
          rw [if_pos ⟨rfl, rfl, rfl⟩, if_pos ⟨Nat.le_refl _, by omega⟩, Nat.sub_self]
          rfl
        · rw [if_neg (fun z => d0 z.2.1)]
          by_cases d1 : j = l + 1
          · subst d1
            rw [if_pos ⟨rfl, rfl, rfl⟩, if_pos ⟨by omega, by omega⟩, Nat.add_sub_cancel_left]
            rfl
          · rw [if_neg (fun z => d1 z.2.1)]
            by_cases d2 : j = l + 2
            · subst d2
              rw [if_pos ⟨rfl, rfl, rfl⟩, if_pos ⟨by omega, by omega⟩, Nat.add_sub_cancel_left]
              rfl
            · rw [if_neg (fun z => d2 z.2.1), if_neg (fun z => by omega)]
theorem j_appendI (hF : qm_fix O qt_me qt_qs (qt_C L0 xs) J F) {b v N : Nat} {t : List Nat} (h : SBs S b v N t) {x : Nat} (hx : x < 200) (hl : t.length ≤ 890) :
    ∃ S' v' N', F 1541 0 [some (.inr (12, b)), some (.inl (nI x))] [] S = some (some (.inr (12, b)), S') ∧ SBs S' b v' N' (t ++ qt_dg x) ∧ FRs S S' ∧ CST S S' N N' := by
  obtain ⟨d1, d2, d3⟩ := qt_dg_ok x hx
  have hN := h.2.2.2.2.2.2.1
  obtain ⟨S1, v1, N1, a1, a2, a3, a4, a5⟩ := j_ens hF h (k := t.length + (qt_dg x).length) (by omega) (by omega) (by omega)
  obtain ⟨h1, h2, h3, h4, h5, h6, h7, h8, h9, h10, h11, h12, h13⟩ := id a2
  obtain ⟨S2, y, b1, b2, b3, b4, b5, b6, b7, b8⟩ := j_chars (S := S1) hF hx a3 h8 h9
  refine ⟨qu_i S2 12 b 3 (nI (t.length + (qt_dg x).length)), v1, N1, ?_, ?_, ?_, ?_⟩
  · rw [q1541_0 hF, q1542_0 hF, j_size hF hx, h.2.2.2.2.2.1]
    show qm_k (F 1542 10 [some (.inr (12, b)), some (.inl (nI x)), some (.inl (nI t.length)), none] [.inl (nI (qt_dg x).length), .inl (nI t.length)] S) _ = _
    rw [q1542_10 hF, nI_add, a1]
    show qm_k (F 1542 17 [some (.inr (12, b)), some (.inl (nI x)), some (.inl (nI t.length)), some (.inl (nI (t.length + (qt_dg x).length)))] [] S1) _ = _
    rw [q1542_17 hF, q1531_0 hF, if_neg (by decide), h5, if_pos rfl]
    show qm_k (F 1542 21 [some (.inr (12, b)), some (.inl (nI x)), some (.inl (nI t.length)), some (.inl (nI (t.length + (qt_dg x).length)))] [.inl 1] S1) _ = _
    rw [q1542_21 hF, if_neg (by decide), h1, bl0 h2, b1]
    show qm_k (F 1542 33 [some (.inr (12, b)), some (.inl (nI x)), some (.inl (nI t.length)), some (.inl (nI (t.length + (qt_dg x).length)))] [.inl y] S2) _ = _
    rw [q1542_33 hF]
    show F 1541 5 [some (.inr (12, b)), some (.inl (nI x))] [.inr (12, b)] _ = _
    rw [q1541_5 hF]
  · refine a2.more a3 d3 b2 (fun k => b5 12 b k) ?_ ?_ (b6 v1) (fun j => ?_)
    · rw [qi_i, if_neg (fun z => by omega), b7 _ _ _ (by decide)]; exact h5
    · rw [qi_i, if_pos ⟨rfl, rfl, rfl⟩]
    · rw [qi_i, if_neg (fun z => by omega), b8]
  · refine a4.tr ⟨fun s a k c1 c2 => ?_, fun s a k c1 c2 => b5 s a k, fun a ha => b6 a, by show S1.1 ≤ S2.1; omega, b4⟩
    rw [qi_i, if_neg (fun z => c1 z.1), b7 _ _ _ c2]
  · obtain ⟨z1, z2, z3⟩ := a5
    exact ⟨z1, by show S2.1 + N ≤ S.1 + N1; omega, by show S2.2.1 + 2 * N ≤ S.2.1 + 2 * N1; omega⟩
end
