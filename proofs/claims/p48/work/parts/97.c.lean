/-! ===== the library: appending a string, a letter ===== -/
section
variable {S S' : qm_S} {O : qm_O} {F : qm_F} {J L0 : Nat} {xs : List Int32}
theorem gda {t u : List Nat} {j : Nat} (h : j < t.length) : (t ++ u).getD j 0 = t.getD j 0 := by
  rw [List.getD_eq_getElem?_getD, List.getD_eq_getElem?_getD, List.getElem?_append_left h]
theorem gdb {t u : List Nat} {j : Nat} (h : t.length ≤ j) : (t ++ u).getD j 0 = u.getD (j - t.length) 0 := by
  rw [List.getD_eq_getElem?_getD, List.getD_eq_getElem?_getD, List.getElem?_append_right h]
theorem gdm {u : List Nat} {j : Nat} (h : j < u.length) : u.getD j 0 ∈ u := by
  rw [List.getD_eq_getElem?_getD, List.getElem?_eq_getElem h]
  exact List.getElem_mem h
/-- a row written behind what is told -/
theorem SBs.more {b v N : Nat} {t u : List Nat} {S2 : qm_S} (h : SBs S b v N t) (hl : t.length + u.length ≤ N) (hu : ∀ x ∈ u, x < 128) (n1 : S2.1 = S.1) (g : ∀ k, qr_g S2 12 b k = qr_g S 12 b k) (i1 : qr_i S2 12 b 1 = 0) (i3 : qr_i S2 12 b 3 = nI (t.length + u.length)) (n : qr_n S2 v = qr_n S v) (w : ∀ j, qr_i S2 14 v j = if t.length ≤ j ∧ j < t.length + u.length then nI (u.getD (j - t.length) 0) else qr_i S 14 v j) : SBs S2 b v N (t ++ u) := by
  obtain ⟨h1, h2, h3, h4, h5, h6, h7, h8, h9, h10, h11, h12, h13⟩ := h
  refine ⟨(g 0).trans h1, h2, by rw [n1]; exact h3, by rw [n1]; exact h4, i1, by rw [List.length_append]; exact i3, by rw [List.length_append]; exact hl, n.trans h8, h9, h10, fun j hj => ?_, fun j hj => ?_, fun x hx => ?_⟩
  · rw [w]
    by_cases c : t.length ≤ j ∧ j < t.length + u.length
    · rw [if_pos c]
      exact qby_nI _ (hu _ (gdm (by omega)))
    · rw [if_neg c]
      exact h11 j hj
  · rw [List.length_append] at hj
    rw [w]
    by_cases c : t.length ≤ j ∧ j < t.length + u.length
    · rw [if_pos c, gdb c.1]
    · rw [if_neg c, gda (by omega)]
      exact h12 j (by omega)
  · rcases List.mem_append.mp hx with hx | hx
    · exact h13 x hx
    · exact hu x hx
theorem j_append (hF : qm_fix O qt_me qt_qs (qt_C L0 xs) J F) {b v N : Nat} {t : List Nat} (h : SBs S b v N t) {k : Nat} (hk : k < 18) (hl : t.length ≤ 890) :
    ∃ S' v' N', F 1523 0 [some (.inr (12, b)), some (.inr (16, 11 + k))] [] S = some (some (.inr (12, b)), S') ∧ SBs S' b v' N' (t ++ qt_sn k) ∧ FRs S S' ∧ CST S S' N N' := by
  obtain ⟨s1, s2, s3, s4⟩ := qt_sn_ok k hk
  have hN := h.2.2.2.2.2.2.1
  obtain ⟨S1, v1, N1, a1, a2, a3, a4, a5⟩ := j_ens hF h (k := t.length + (qt_sn k).length) (by omega) (by omega) (by omega)
  obtain ⟨h1, h2, h3, h4, h5, h6, h7, h8, h9, h10, h11, h12, h13⟩ := id a2
  refine ⟨qu_i (qu_ct (qt_ci xs 17 (11 + k + 20)) S1 14 v1 0 t.length (qt_sn k).length) 12 b 3 (nI (t.length + (qt_sn k).length)), v1, N1, ?_, ?_, ?_, ?_⟩
  · have c0 : Int32.toNatClampNeg 0 = 0 := by decide +kernel
    rw [q1523_0 hF, q1524_0 hF, j_len hF hk]
    show qm_k (F 1524 13 [some (.inr (12, b)), some (.inr (16, 11 + k)), none] [.inl (nI (qt_sn k).length)] S) _ = _
    rw [q1524_13 hF, h.2.2.2.2.2.1, nI_add, a1]
    show qm_k (F 1524 24 [some (.inr (12, b)), some (.inr (16, 11 + k)), some (.inl (nI (qt_sn k).length))] [] S1) _ = _
    rw [q1524_24 hF, h6, q1534_0 hF, q1535_0 hF, if_neg (by decide), h5, j_coder hF]
    show qm_k (qm_k (qm_k (F 1535 14 [some (.inr (12, b)), some (.inr (16, 11 + k))] [.inl 0, .inl 0] S1) _) _) _ = _
    rw [q1535_14 hF, if_pos rfl]
    show qm_k (qm_k (F 1534 5 [some (.inr (12, b)), some (.inl (nI t.length)), some (.inr (16, 11 + k))] [] S1) _) _ = _
    rw [q1534_5 hF, h1, bl0 h2, h5, q1540_0 hF, j_coder hF]
    show qm_k (qm_k (qm_k (F 1540 4 [some (.inr (16, 11 + k)), some (.inr (14, v1)), some (.inl (nI t.length)), some (.inl 0)] [.inl 0] S1) _) _) _ = _
    rw [q1540_4 hF, if_pos rfl, qt_len k hk, shl0 (by omega), z_cl (by omega), z_cl (by omega), c0, dlt0 (by omega), dlt0 (by omega), dlz, h8, show Nat.ble (0 + (qt_sn k).length) (qt_sn k).length = true from Nat.ble_eq_true_of_le (by omega), show Nat.ble (t.length + (qt_sn k).length) N1 = true from Nat.ble_eq_true_of_le (by omega), qm_bytes_mk (fun i hi => by rw [Nat.zero_add, qt_at k hk i hi]; exact qby_nI _ (s3 _ (gdm hi)))]
    show qm_k (qm_k (qm_k (F 1540 43 [some (.inr (16, 11 + k)), some (.inr (14, v1)), some (.inl (nI t.length)), some (.inl 0)] [] (qu_ct (qt_ci xs 17 (11 + k + 20)) S1 14 v1 0 t.length (qt_sn k).length)) _) _) _ = _
    rw [q1540_43 hF]
    show qm_k (qm_k (F 1534 18 [some (.inr (12, b)), some (.inl (nI t.length)), some (.inr (16, 11 + k))] [] (qu_ct (qt_ci xs 17 (11 + k + 20)) S1 14 v1 0 t.length (qt_sn k).length)) _) _ = _
    rw [q1534_18 hF]
    show qm_k (F 1524 33 [some (.inr (12, b)), some (.inr (16, 11 + k)), some (.inl (nI (qt_sn k).length))] [] (qu_ct (qt_ci xs 17 (11 + k + 20)) S1 14 v1 0 t.length (qt_sn k).length)) _ = _
    rw [q1524_33 hF, qi_ct, if_neg (fun z => by omega), h6, nI_add]
    show F 1523 5 [some (.inr (12, b)), some (.inr (16, 11 + k))] [.inr (12, b)] _ = _
    rw [q1523_5 hF]
  · refine a2.more (by omega) s3 rfl (fun _ => rfl) ?_ ?_ rfl (fun j => ?_)
    · rw [qi_i, if_neg (fun z => by omega), qi_ct, if_neg (fun z => by omega)]; exact h5
    · rw [qi_i, if_pos ⟨rfl, rfl, rfl⟩]
    · rw [qi_i, if_neg (fun z => by omega), qi_ct, if_pos ⟨rfl, rfl⟩]
      by_cases c : t.length ≤ j ∧ j < t.length + (qt_sn k).length
      · rw [if_pos c, if_pos c, Nat.zero_add, qt_at k hk _ (by omega)]
      · rw [if_neg c, if_neg c]
  · refine a4.tr ⟨fun s a k c1 c2 => ?_, fun s a k c1 c2 => rfl, fun a ha => rfl, Nat.le_refl _, rfl⟩
    rw [qi_i, if_neg (fun z => c1 z.1), qi_ct, if_neg (fun z => c2 z.1)]
  · exact a5
/-- a letter -/
theorem j_appendC (hF : qm_fix O qt_me qt_qs (qt_C L0 xs) J F) {b v N : Nat} {t : List Nat} (h : SBs S b v N t) {x : Nat} (hx : x < 128) (hl : t.length ≤ 890) :
    ∃ S' v' N', F 1545 0 [some (.inr (12, b)), some (.inl (nI x))] [] S = some (some (.inr (12, b)), S') ∧ SBs S' b v' N' (t ++ [x]) ∧ FRs S S' ∧ CST S S' N N' := by
  have hN := h.2.2.2.2.2.2.1
  obtain ⟨S1, v1, N1, a1, a2, a3, a4, a5⟩ := j_ens hF h (k := t.length + 1) (by omega) (by omega) (by omega)
  obtain ⟨h1, h2, h3, h4, h5, h6, h7, h8, h9, h10, h11, h12, h13⟩ := id a2
  have hb := qby_nI x hx
  have lat : ∀ {S : qm_S} {b : Nat}, qr_i S 12 b 1 = 0 → F 1531 0 [some (.inr (12, b))] [] S = some (some (.inl 1), S) := by
    intro S b hb
    rw [q1531_0 hF, if_neg (by decide), hb, if_pos rfl]
  refine ⟨qu_i (qu_i S1 12 b 3 (nI (t.length + 1))) 14 v1 t.length (nI x), v1, N1, ?_, ?_, ?_, ?_⟩
  · rw [q1545_0 hF, q1546_0 hF, h.2.2.2.2.2.1, z_1, a1]
    show qm_k (F 1546 10 [some (.inr (12, b)), some (.inl (nI x))] [] S1) _ = _
    rw [q1546_10 hF, lat h5]
    show qm_k (F 1546 14 [some (.inr (12, b)), some (.inl (nI x))] [.inl 1] S1) _ = _
    rw [q1546_14 hF, if_neg (by decide), q1547_0 hF, if_pos (show nI x ≤ 255 from (nI_leI (b := 255) (by omega) (by omega)).mpr (by omega))]
    show qm_k (F 1546 21 [some (.inr (12, b)), some (.inl (nI x))] [.inl 1] S1) _ = _
    have e : vp_nar .byte (Int8.toInt32 (Int32.toInt8 (nI x))) = nI x := by
      rw [show Int8.toInt32 (Int32.toInt8 (nI x)) = nI x from hb]
      exact nar_qby hb
    rw [q1546_21 hF, if_neg (by decide), h1, bl0 h2, h6, h8, z_ib (by omega) (by omega), z_cl (by omega), z_1, e]
    show F 1545 5 [some (.inr (12, b)), some (.inl (nI x))] [.inr (12, b)] _ = _
    rw [q1545_5 hF]
  · refine a2.more (u := [x]) a3 (fun y hy => by rw [List.mem_singleton.mp hy]; exact hx) rfl (fun _ => rfl) ?_ ?_ rfl (fun j => ?_)
    · rw [qi_i, if_neg (fun z => by omega), qi_i, if_neg (fun z => by omega)]; exact h5
    · rw [qi_i, if_neg (fun z => by omega), qi_i, if_pos ⟨rfl, rfl, rfl⟩]
      rfl
    · rw [qi_i, qi_i, if_neg (c := 14 = 12 ∧ _) (fun z => by omega)]
      by_cases c : j = t.length
      · subst c
        rw [if_pos ⟨rfl, rfl, rfl⟩, if_pos ⟨Nat.le_refl _, Nat.lt_succ_self _⟩, Nat.sub_self]
        rfl
      · rw [if_neg (fun z => c z.2.1), if_neg (fun z => c (by have h2 : j < t.length + 1 := z.2; omega))]
  · refine a4.tr ⟨fun s a k c1 c2 => ?_, fun s a k c1 c2 => rfl, fun a ha => rfl, Nat.le_refl _, rfl⟩
    rw [qi_i, if_neg (fun z => c2 z.1), qi_i, if_neg (fun z => c1 z.1)]
  · exact a5
end
