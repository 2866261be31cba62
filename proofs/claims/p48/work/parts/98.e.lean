/-! ===== the house grown: its rows, from its maker ===== -/
section
variable {S S' : qm_S} {O : qm_O} {F : qm_F} {J L0 : Nat} {xs : List Int32}
variable {w b i A B P Q : Nat} {t : List Nat} {f : Nat → Int32} {g : Nat → Nat} {R : Nat → Nat → Nat → Nat} {ln : Nat → Nat} {C : pm_S} {ls : List LN} {x3 x4 x5 x6 x7 x8 x9 : Int32}
theorem WP.mono {A' B' : Nat} {r : qm_R} (h : WP w C A B r) (hA : A ≤ A') (hB : B ≤ B') : WP w C A' B' r := by
  obtain ⟨S, P, Q, ls, a1, a2, a3, a4, a5, a6, a7, a8, a9, a10, a11, a12⟩ := h
  exact ⟨S, P, Q, ls, a1, a2, a3, a4, a5, a6, a7, a8, a9, a10, by omega, by omega⟩
theorem gu_s {g : Nat → Nat} {k v : Nat} : gu g k v k = v := if_pos rfl
theorem gu_n {g : Nat → Nat} {k v j : Nat} (h : j ≠ k) : gu g k v j = g j := if_neg h
theorem ph307 (hF : qm_fix O qt_me qt_qs (qt_C L0 xs) J F) (hL : L0 < 2147483648) (h : WI S w b i (TXT ls) f g R ln A B C) (hP : PQ P Q f g) (hT : GT P Q 4 0 0 ls) (hi : i ≤ 11) : WP w C (A + 100) (B + 200) (F 1202 307 [some (.inr (1, w)), some (.inr (2, 1)), some (.inr (12, b)), some (.inl x3), some (.inl x4), some (.inl x5), some (.inl x6), none, none, none] [] S) := by
  have hP4 := hP.1.2
  have hP1 := hP.1.1
  have hQ5 := hP.2.1
  have e0 : ∀ {S' : qm_S} {g' : Nat → Nat} {R' : Nat → Nat → Nat → Nat} {ln' : Nat → Nat} {A' B' : Nat}, WI S' w b i (TXT ls) f g' R' ln' A' B' C → qr_i S' 1 w 0 = nI P ∧ qr_i S' 1 w 1 = nI Q := fun hS => ⟨(hS.2.2.1 0 (by decide)).trans hP.2.2.1, (hS.2.2.1 1 (by decide)).trans hP.2.2.2.1⟩
  have bP : Nat.ble P 100000 = true := Nat.ble_eq_true_of_le (by omega)
  have bP2 : Nat.ble P 1000 = true := Nat.ble_eq_true_of_le (by omega)
  have bQ2 : Nat.ble Q 1000 = true := Nat.ble_eq_true_of_le (by omega)
  have h1 := (h.mk1 (s := 3) (n := P) (by omega)).ref 8 S.1
  rw [q1202_307 hF, (e0 h).1, dlt0 (by omega), z_cl (by omega), bP]
  show WP w C (A + 100) (B + 200) (F 1202 317 [some (.inr (1, w)), some (.inr (2, 1)), some (.inr (12, b)), some (.inl x3), some (.inl x4), some (.inl x5), some (.inl x6), none, none, none] [] (qu_g (qm_mk S 3 P) 1 w 8 S.1))
  have n1 : (qu_g (qm_mk S 3 P) 1 w 8 S.1).1 = S.1 + 1 := rfl
  generalize qu_g (qm_mk S 3 P) 1 w 8 S.1 = S1 at h1 n1
  have h2 := (h1.mk1 (s := 4) (n := P) (by omega)).ref 9 S1.1
  rw [q1202_317 hF, (e0 h1).1, dlt0 (by omega), z_cl (by omega), bP]
  show WP w C (A + 100) (B + 200) (F 1202 327 [some (.inr (1, w)), some (.inr (2, 1)), some (.inr (12, b)), some (.inl x3), some (.inl x4), some (.inl x5), some (.inl x6), none, none, none] [] (qu_g (qm_mk S1 4 P) 1 w 9 S1.1))
  have n2 : (qu_g (qm_mk S1 4 P) 1 w 9 S1.1).1 = S1.1 + 1 := rfl
  generalize qu_g (qm_mk S1 4 P) 1 w 9 S1.1 = S2 at h2 n2
  have h3 := (h2.mk1 (s := 5) (n := P) (by omega)).ref 10 S2.1
  rw [q1202_327 hF, (e0 h2).1, dlt0 (by omega), z_cl (by omega), bP]
  show WP w C (A + 100) (B + 200) (F 1202 337 [some (.inr (1, w)), some (.inr (2, 1)), some (.inr (12, b)), some (.inl x3), some (.inl x4), some (.inl x5), some (.inl x6), none, none, none] [] (qu_g (qm_mk S2 5 P) 1 w 10 S2.1))
  have n3 : (qu_g (qm_mk S2 5 P) 1 w 10 S2.1).1 = S2.1 + 1 := rfl
  generalize qu_g (qm_mk S2 5 P) 1 w 10 S2.1 = S3 at h3 n3
  have h4 := (h3.mm (s := 6) (u := 7) (n := P) (k := Q) (by omega)).ref 11 S3.1
  rw [q1202_337 hF, (e0 h3).1, (e0 h3).2, dlt0 (by omega), dlt0 (by omega), z_cl (by omega), z_cl (by omega), bP2, bQ2]
  show WP w C (A + 100) (B + 200) (F 1202 353 [some (.inr (1, w)), some (.inr (2, 1)), some (.inr (12, b)), some (.inl x3), some (.inl x4), some (.inl x5), some (.inl x6), none, none, none] [] (qu_g (qm_mm S3 6 7 P Q) 1 w 11 S3.1))
  have n4 : (qu_g (qm_mm S3 6 7 P Q) 1 w 11 S3.1).1 = S3.1 + 1 + P := rfl
  generalize qu_g (qm_mm S3 6 7 P Q) 1 w 11 S3.1 = S4 at h4 n4
  have h5 := (h4.mm (s := 8) (u := 9) (n := P) (k := Q) (by omega)).ref 12 S4.1
  rw [q1202_353 hF, (e0 h4).1, (e0 h4).2, dlt0 (by omega), dlt0 (by omega), z_cl (by omega), z_cl (by omega), bP2, bQ2]
  show WP w C (A + 100) (B + 200) (F 1202 369 [some (.inr (1, w)), some (.inr (2, 1)), some (.inr (12, b)), some (.inl x3), some (.inl x4), some (.inl x5), some (.inl x6), none, none, none] [] (qu_g (qm_mm S4 8 9 P Q) 1 w 12 S4.1))
  have n5 : (qu_g (qm_mm S4 8 9 P Q) 1 w 12 S4.1).1 = S4.1 + 1 + P := rfl
  generalize qu_g (qm_mm S4 8 9 P Q) 1 w 12 S4.1 = S5 at h5 n5
  have h6 := (h5.mm (s := 10) (u := 11) (n := P) (k := P) (by omega)).ref 13 S5.1
  rw [q1202_369 hF, (e0 h5).1, dlt0 (by omega), z_cl (by omega), bP2]
  show WP w C (A + 100) (B + 200) (F 1202 385 [some (.inr (1, w)), some (.inr (2, 1)), some (.inr (12, b)), some (.inl x3), some (.inl x4), some (.inl x5), some (.inl x6), none, none, none] [] (qu_g (qm_mm S5 10 11 P P) 1 w 13 S5.1))
  generalize qu_g (qm_mm S5 10 11 P P) 1 w 13 S5.1 = S6 at h6
  have hPQ : P * Q ≤ 20 := Nat.mul_le_mul hP4 hQ5
  have hPP : P * P ≤ 16 := Nat.mul_le_mul hP4 hP4
  have h0 := h.2.1
  rw [q1202_385 hF]
  refine (ph388 (o := 0) hF hL ?_ ?_ Q (by omega) h6 hT hi).mono (by omega) (by omega)
  · generalize hg : gu (gu (gu (gu (gu (gu g 8 S.1) 9 S1.1) 10 S2.1) 11 S3.1) 12 S4.1) 13 S5.1 = G
    have k13 : G 13 = S5.1 := by rw [← hg]; exact gu_s
    have k12 : G 12 = S4.1 := by rw [← hg, gu_n (by decide)]; exact gu_s
    have k11 : G 11 = S3.1 := by rw [← hg, gu_n (by decide), gu_n (by decide)]; exact gu_s
    have k10 : G 10 = S2.1 := by rw [← hg, gu_n (by decide), gu_n (by decide), gu_n (by decide)]; exact gu_s
    have k9 : G 9 = S1.1 := by rw [← hg, gu_n (by decide), gu_n (by decide), gu_n (by decide), gu_n (by decide)]; exact gu_s
    have k8 : G 8 = S.1 := by rw [← hg, gu_n (by decide), gu_n (by decide), gu_n (by decide), gu_n (by decide), gu_n (by decide)]; exact gu_s
    have r10 : ∀ p, p < P → ru (ru (ru R 6 S3.1 P) 8 S4.1 P) 10 S5.1 P 10 S5.1 p = S5.1 + 1 + p := fun p hp => by unfold ru; rw [if_pos ⟨rfl, rfl⟩, if_pos hp]
    have r8 : ∀ p, p < P → ru (ru (ru R 6 S3.1 P) 8 S4.1 P) 10 S5.1 P 8 S4.1 p = S4.1 + 1 + p := fun p hp => by unfold ru; rw [if_neg (fun z => by omega), if_pos ⟨rfl, rfl⟩, if_pos hp]
    have r6 : ∀ p, p < P → ru (ru (ru R 6 S3.1 P) 8 S4.1 P) 10 S5.1 P 6 S3.1 p = S3.1 + 1 + p := fun p hp => by unfold ru; rw [if_neg (fun z => by omega), if_neg (fun z => by omega), if_pos ⟨rfl, rfl⟩, if_pos hp]
    unfold RR
    rw [k13, k12, k11, k10, k9, k8]
    refine ⟨⟨by omega, ?_, fun p hp => ?_⟩, ⟨by omega, ?_, fun p hp => ?_⟩, ⟨by omega, ?_, fun p hp => ?_⟩, ⟨by omega, ?_⟩, ⟨by omega, ?_⟩, ⟨by omega, ?_⟩⟩
    · unfold lm; rw [if_neg (fun z => by omega), if_pos rfl]
    · rw [r10 p hp]; refine ⟨by omega, ?_⟩; unfold lm; rw [if_pos ⟨by omega, by omega⟩]
    · unfold lm; rw [if_neg (fun z => by omega), if_neg (by omega), if_neg (fun z => by omega), if_neg (by omega), if_neg (fun z => by omega), if_pos rfl]
    · rw [r6 p hp]; refine ⟨by omega, ?_⟩; unfold lm; rw [if_neg (fun z => by omega), if_neg (by omega), if_neg (fun z => by omega), if_neg (by omega), if_pos ⟨by omega, by omega⟩]
    · unfold lm; rw [if_neg (fun z => by omega), if_neg (by omega), if_neg (fun z => by omega), if_pos rfl]
    · rw [r8 p hp]; refine ⟨by omega, ?_⟩; unfold lm; rw [if_neg (fun z => by omega), if_neg (by omega), if_pos ⟨by omega, by omega⟩]
    · unfold lm gu; rw [if_neg (fun z => by omega), if_neg (by omega), if_neg (fun z => by omega), if_neg (by omega), if_neg (fun z => by omega), if_neg (by omega), if_neg (by omega), if_neg (by omega), if_pos rfl]
    · unfold lm gu; rw [if_neg (fun z => by omega), if_neg (by omega), if_neg (fun z => by omega), if_neg (by omega), if_neg (fun z => by omega), if_neg (by omega), if_neg (by omega), if_pos rfl]
    · unfold lm gu; rw [if_neg (fun z => by omega), if_neg (by omega), if_neg (fun z => by omega), if_neg (by omega), if_neg (fun z => by omega), if_neg (by omega), if_pos rfl]
  · exact ⟨hP.1, hP.2.1, hP.2.2.1, hP.2.2.2.1, by rw [gu_n (by decide), gu_n (by decide), gu_n (by decide), gu_n (by decide), gu_n (by decide), gu_n (by decide)]; exact hP.2.2.2.2⟩
end
