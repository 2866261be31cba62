/-! ===== the model: house() ===== -/
section
variable {I I' : Nat → Nat → Int32} {L L' : Nat → Nat → Int64}
variable {F : pm_F} {L0 : Nat} {xs : Nat → Int32}
variable {n q f : Nat} {b : Nat → Nat} {d : Nat → Nat → Nat}
theorem m_readsNothing (hF : pm_fix pt_me pt_Sg (pt_R L0 xs) F) : ∃ I', (F 1222 0 [some (.ref 49), none] [] (81, pt_G, I, L)) = some (none, (81, pt_G, I', L)) ∧ (∀ r j, r < 53 ∨ 58 < r → (r = 49 → j < 13 ∨ 21 < j) → I' r j = I r j) ∧ MD n b d00 I' L := by
  rw [e1222_0 hF]
  refine wl (Q := fun x => ∃ I', x = some (none, (81, pt_G, I', L)) ∧ (∀ r j, r < 53 ∨ 58 < r → (r = 49 → j < 13 ∨ 21 < j) → I' r j = I r j) ∧ MD n b d00 I' L) (G := fun k J => (F 1222 47 [some (.ref 49), some (.int (nI k))] [] (81, pt_G, J, L))) (P := fun k J => (∀ r j, r < 53 ∨ 58 < r → (r = 49 → j < 13 ∨ 21 < j) → J r j = I r j) ∧ (J 49 13 = nI 0 ∧ J 49 14 = nI 0 ∧ J 49 15 = nI 1 ∧ J 49 16 = nI 1 ∧ J 49 17 = -1 ∧ J 49 18 = nI 0 ∧ J 49 19 = nI 1 ∧ J 49 20 = nI 0 ∧ J 49 21 = nI 0) ∧ ∀ x, x < k → J 57 x = -1 ∧ J 58 x = -1) (n := 56) (fun k J hk hJ go => ?_) (fun J hJ => ?_) 0 _ (Nat.zero_le _) ⟨fun r j a c => ?_, ?_, fun x hx => by omega⟩
  · obtain ⟨j1, j2, j3⟩ := hJ
    rw [e1222_47 hF, show (56 : Int32) = nI 56 from rfl]
    simp (disch := omega) only [pm_k_i, Option.toList_some, Option.toList_none, List.cons_append, List.nil_append, cond_true, cond_false, ↓reduceIte, reduceCtorEq, z_1, nI_add, z_cl, z_ib, z_lt, z_le, z_eq, z_eq0, z_le0, z_lt0, z_b0, z_b1, z_m1, z_and7, Int32.add_zero, hk]
    refine go _ ⟨fun r j a c => ?_, ?_, fun x hx => ?_⟩
    · simp (disch := omega) only [z_ur]; exact j1 r j a c
    · simp (disch := omega) only [z_ur]; exact j2
    · by_cases z : x = k
      · rw [z, z_ue, z_ur (by omega), z_ue]; exact ⟨rfl, rfl⟩
      · rw [z_ur (by omega), z_uk z, z_uk z]; exact j3 x (by omega)
  · obtain ⟨j1, ⟨t1, t2, t3, t4, t5, t6, t7, t8, t9⟩, j3⟩ := hJ
    rw [e1222_47 hF, if_neg (by decide)]
    refine wl (Q := fun x => ∃ I', x = some (none, (81, pt_G, I', L)) ∧ (∀ r j, r < 53 ∨ 58 < r → (r = 49 → j < 13 ∨ 21 < j) → I' r j = I r j) ∧ MD n b d00 I' L) (G := fun k N => (F 1222 75 [some (.ref 49), some (.int (nI k))] [] (81, pt_G, N, L))) (P := fun k N => (∀ r j, r ≠ 53 → r ≠ 56 → N r j = J r j) ∧ ∀ x, x < k → N 56 x = 0) (n := 7) (fun k N hk hN go => ?_) (fun N hN => ?_) 0 J (Nat.zero_le _) ⟨fun _ _ _ _ => rfl, fun x hx => by omega⟩
    · obtain ⟨n1, n2⟩ := hN
      rw [e1222_75 hF, show (7 : Int32) = nI 7 from rfl]
      simp (disch := omega) only [pm_k_i, Option.toList_some, Option.toList_none, List.cons_append, List.nil_append, cond_true, cond_false, ↓reduceIte, reduceCtorEq, z_1, nI_add, z_cl, z_ib, z_lt, z_le, z_eq, z_eq0, z_le0, z_lt0, z_b0, z_b1, z_m1, z_and7, Int32.add_zero, hk]
      refine go _ ⟨fun r j a c => by rw [z_ur c, z_ur a]; exact n1 r j a c, fun x hx => ?_⟩
      by_cases z : x = k
      · rw [z, z_ue]
      · rw [z_uk z, z_ur (by omega)]; exact n2 x (by omega)
    · obtain ⟨n1, n2⟩ := hN
      rw [e1222_75 hF, if_neg (by decide)]
      have g : ∀ j, N 49 j = J 49 j := fun j => n1 49 j (by omega) (by omega)
      refine ⟨N, rfl, fun r j a c => by rw [n1 r j (by omega) (by omega)]; exact j1 r j a c, ⟨by rw [g]; exact t1, by rw [g]; exact t2, by rw [g]; exact t3, by rw [g]; exact t4, by rw [g, t5]; rfl, by rw [g]; exact t6, by rw [g]; exact t7, by rw [g]; exact t8, by rw [g]; exact t9⟩, fun p p0 => absurd p0 (Nat.not_lt_zero _), fun p p0 => ?_, fun p o p0 o0 => ?_, fun o o0 => absurd o0 (Nat.not_lt_zero _)⟩
      · exact n2 p p0
      · rw [n1 57 _ (by omega) (by omega), n1 58 _ (by omega) (by omega), (j3 _ (by omega)).1, (j3 _ (by omega)).2]
        show _ = (bif (0 : Nat).testBit o then _ else _) ∧ _ = (bif (0 : Nat).testBit o then _ else _)
        rw [Nat.zero_testBit]
        exact ⟨rfl, rfl⟩
  · by_cases z : r = 49
    · have := c z
      subst z
      simp (disch := omega) only [z_uk]
    · simp (disch := omega) only [z_ur]
  · simp (disch := omega) only [z_uk, z_ue]
    decide
theorem greater0 (hF : pm_fix pt_me pt_Sg (pt_R L0 xs) F) (t : Bool) {v : Nat} (hv : v < 2147483648) (h0 : t = false → v = 0) : (F 1204 0 [some (.int 0), some (.int (bif t then nI v else -1))] [] (81, pt_G, I, L)) = some (some (.int (nI v)), (81, pt_G, I, L)) := by
  cases t with
  | true =>
    have := m_greater (I := I) (L := L) hF (a := 0) (b := v) (by omega) hv
    rw [Nat.zero_max] at this
    exact this
  | false =>
    rw [h0 rfl, e1204_0 hF]
    exact if_neg (by decide)
theorem m_takes (hF : pm_fix pt_me pt_Sg (pt_R L0 xs) F) (D : MD n b d I L) (G : DG n b d) : ∃ I', (F 1238 0 [some (.ref 49), none] [] (81, pt_G, I, L)) = some (none, (81, pt_G, I', L)) ∧ (∀ r j, r < 49 ∨ (49 < r ∧ r < 59) ∨ 64 < r → I' r j = I r j) ∧ (∀ j, j < 30 → I' 49 j = I 49 j) ∧ MH d I' ∧ NM d 0 (fun _ => 0) I' ∧ I' 49 45 = 0 ∧ I' 49 57 = 0 := by
  have hP := G.P
  have hO := G.O
  obtain ⟨⟨x1, x2, x3, x4, x5, x6, x7, x8, x9⟩, y1, y2, y3, y4⟩ := D
  rw [e1238_0 hF]
  refine wl (Q := fun x => ∃ I', x = some (none, (81, pt_G, I', L)) ∧ (∀ r j, r < 49 ∨ (49 < r ∧ r < 59) ∨ 64 < r → I' r j = I r j) ∧ (∀ j, j < 30 → I' 49 j = I 49 j) ∧ MH d I' ∧ NM d 0 (fun _ => 0) I' ∧ I' 49 45 = 0 ∧ I' 49 57 = 0) (G := fun k J => (F 1238 66 [some (.ref 49), some (.int (nI k))] [] (81, pt_G, J, L))) (P := fun k J => (∀ r j, r < 49 ∨ (49 < r ∧ r < 59) ∨ 64 < r → J r j = I r j) ∧ (∀ j, j < 30 → J 49 j = I 49 j) ∧ (∀ j, j < 8 → J 49 (30 + j) = I 49 (13 + j)) ∧ ∀ p, p < k → J 59 p = I 54 p ∧ J 60 p = I 55 p ∧ J 61 p = I 56 p ∧ J 64 (9 + p) = I 53 p) (n := 7) (fun k J hk hJ go => ?_) (fun J hJ => ?_) 0 _ (Nat.zero_le _) ⟨fun r j a => by simp (disch := omega) only [z_ur], fun j hj => by simp (disch := omega) only [z_uk], fun j hj => ?_, fun p hp => by omega⟩
  · obtain ⟨j1, j2, j3, j4⟩ := hJ
    rw [e1238_66 hF, show (7 : Int32) = nI 7 from rfl, show (9 : Int32) = nI 9 from rfl]
    simp (disch := omega) only [pm_k_i, Option.toList_some, Option.toList_none, List.cons_append, List.nil_append, cond_true, cond_false, ↓reduceIte, reduceCtorEq, z_1, nI_add, z_cl, z_ib, z_lt, z_le, z_eq, z_eq0, z_le0, z_lt0, z_b0, z_b1, z_m1, z_and7, Int32.add_zero, hk]
    refine go _ ⟨fun r j a => ?_, fun j hj => ?_, fun j hj => ?_, fun p hp => ?_⟩
    · simp (disch := omega) only [z_ur]; exact j1 r j a
    · simp (disch := omega) only [z_ur]; exact j2 j hj
    · simp (disch := omega) only [z_ur]; exact j3 j hj
    · by_cases z : p = k
      · subst z
        simp (disch := omega) only [z_ur, z_ue]
        exact ⟨j1 54 p (by omega), j1 55 p (by omega), j1 56 p (by omega), j1 53 p (by omega)⟩
      · simp (disch := omega) only [z_ur, z_uk]; exact j4 p (by omega)
  · obtain ⟨j1, j2, j3, j4⟩ := hJ
    rw [e1238_66 hF, if_neg (by decide)]
    refine wl (Q := fun x => ∃ I', x = some (none, (81, pt_G, I', L)) ∧ (∀ r j, r < 49 ∨ (49 < r ∧ r < 59) ∨ 64 < r → I' r j = I r j) ∧ (∀ j, j < 30 → I' 49 j = I 49 j) ∧ MH d I' ∧ NM d 0 (fun _ => 0) I' ∧ I' 49 45 = 0 ∧ I' 49 57 = 0) (G := fun k N => (F 1238 131 [some (.ref 49), some (.int (nI k))] [] (81, pt_G, N, L))) (P := fun k N => (∀ r j, r ≠ 62 → r ≠ 63 → N r j = J r j) ∧ ∀ x, x < k → N 62 x = nI (d 5 x) ∧ N 63 x = nI (d 6 x)) (n := 56) (fun k N hk hN go => ?_) (fun N hN => ?_) 0 J (Nat.zero_le _) ⟨fun _ _ _ _ => rfl, fun x hx => by omega⟩
    · obtain ⟨n1, n2⟩ := hN
      have w := G.w k
      have c57 : N 57 k = (bif (d 9 (k / 8)).testBit (k % 8) then nI (d 5 k) else -1) := by
        rw [n1 57 k (by omega) (by omega), j1 57 k (by omega)]
        have := (y3 (k / 8) (k % 8) (by omega) (by omega)).1
        rw [show 8 * (k / 8) + k % 8 = k by omega] at this
        exact this
      have z57 : (d 9 (k / 8)).testBit (k % 8) = false → d 5 k = 0 := fun h => by
        have := G.2.2.2.2.2.1 (k / 8) (k % 8) (by omega) h
        rw [show 8 * (k / 8) + k % 8 = k by omega] at this
        exact this
      have c58 : N 58 k = (bif (d 10 (k / 8)).testBit (k % 8) then nI (d 6 k) else -1) := by
        rw [n1 58 k (by omega) (by omega), j1 58 k (by omega)]
        have := (y3 (k / 8) (k % 8) (by omega) (by omega)).2
        rw [show 8 * (k / 8) + k % 8 = k by omega] at this
        exact this
      have z58 : (d 10 (k / 8)).testBit (k % 8) = false → d 6 k = 0 := fun h => by
        have := G.2.2.2.2.2.2 (k / 8) (k % 8) (by omega) h
        rw [show 8 * (k / 8) + k % 8 = k by omega] at this
        exact this
      have g1 := greater0 (I := N) (L := L) hF _ (v := d 5 k) (by omega) z57
      have g2 := greater0 (I := pm_ui N 62 k (nI (d 5 k))) (L := L) hF _ (v := d 6 k) (by omega) z58
      rw [e1238_131 hF, show (56 : Int32) = nI 56 from rfl]
      simp (disch := omega) only [pm_k_i, Option.toList_some, Option.toList_none, List.cons_append, List.nil_append, cond_true, cond_false, ↓reduceIte, reduceCtorEq, z_1, nI_add, z_cl, z_ib, z_lt, z_le, z_eq, z_eq0, z_le0, z_lt0, z_b0, z_b1, z_m1, z_and7, Int32.add_zero, hk, c57]
      rw [g1]
      simp (disch := omega) only [pm_k_i, Option.toList_some, Option.toList_none, List.cons_append, List.nil_append, cond_true, cond_false, ↓reduceIte, reduceCtorEq, z_1, nI_add, z_cl, z_ib, z_lt, z_le, z_eq, z_eq0, z_le0, z_lt0, z_b0, z_b1, z_m1, z_and7, Int32.add_zero, e1238_152 hF, c58]
      rw [g2]
      simp (disch := omega) only [pm_k_i, Option.toList_some, Option.toList_none, List.cons_append, List.nil_append, cond_true, cond_false, ↓reduceIte, reduceCtorEq, z_1, nI_add, z_cl, z_ib, z_lt, z_le, z_eq, z_eq0, z_le0, z_lt0, z_b0, z_b1, z_m1, z_and7, Int32.add_zero, e1238_168 hF]
      refine go _ ⟨fun r j a c => by rw [z_ur c, z_ur a]; exact n1 r j a c, fun x hx => ?_⟩
      by_cases z : x = k
      · subst z
        simp (disch := omega) only [z_ur, z_ue]
        exact ⟨trivial, trivial⟩
      · simp (disch := omega) only [z_ur, z_uk]; exact n2 x (by omega)
    · obtain ⟨n1, n2⟩ := hN
      rw [e1238_131 hF, if_neg (by decide)]
      simp (disch := omega) only [pm_k_i, Option.toList_some, Option.toList_none, List.cons_append, List.nil_append, cond_true, cond_false, ↓reduceIte, reduceCtorEq, z_1, nI_add, z_cl, z_ib, z_lt, z_le, z_eq, z_eq0, z_le0, z_lt0, z_b0, z_b1, z_m1, z_and7, Int32.add_zero, ib16, cl0]
      refine wl (Q := fun x => ∃ I', x = some (none, (81, pt_G, I', L)) ∧ (∀ r j, r < 49 ∨ (49 < r ∧ r < 59) ∨ 64 < r → I' r j = I r j) ∧ (∀ j, j < 30 → I' 49 j = I 49 j) ∧ MH d I' ∧ NM d 0 (fun _ => 0) I' ∧ I' 49 45 = 0 ∧ I' 49 57 = 0) (G := fun k U => (F 1238 184 [some (.ref 49), some (.int (nI k))] [] (81, pt_G, U, L))) (P := fun k U => (∀ r j, r ≠ 64 → U r j = N r j) ∧ (∀ j, 9 ≤ j → U 64 j = N 64 j) ∧ U 64 0 = 0 ∧ ∀ o, o < k → U 64 (1 + o) = -1) (n := 8) (fun k U hk hU go => ?_) (fun U hU => ?_) 0 _ (Nat.zero_le _) ⟨fun r j a => by rw [z_ur a], fun j hj => by rw [z_uk (by omega)], z_ue, fun o ho => by omega⟩
      · obtain ⟨u1, u2, u3, u4⟩ := hU
        rw [e1238_184 hF, show (8 : Int32) = nI 8 from rfl, show (1 : Int32) = nI 1 from rfl]
        simp (disch := omega) only [pm_k_i, Option.toList_some, Option.toList_none, List.cons_append, List.nil_append, cond_true, cond_false, ↓reduceIte, reduceCtorEq, z_1, nI_add, z_cl, z_ib, z_lt, z_le, z_eq, z_eq0, z_le0, z_lt0, z_b0, z_b1, z_m1, z_and7, Int32.add_zero, hk]
        refine go _ ⟨fun r j a => by rw [z_ur a]; exact u1 r j a, fun j hj => by rw [z_uk (by omega)]; exact u2 j hj, by rw [z_uk (by omega)]; exact u3, fun o ho => ?_⟩
        by_cases z : o = k
        · rw [z, z_ue]; rfl
        · rw [z_uk (by omega)]; exact u4 o (by omega)
      · obtain ⟨u1, u2, u3, u4⟩ := hU
        rw [e1238_184 hF, if_neg (by decide)]
        have g49 : ∀ j, j < 8 → (pm_ui (pm_ui U 49 45 0) 49 57 0) 49 (30 + j) = I 49 (13 + j) := fun j hj => by
          rw [z_uk (by omega), z_uk (by omega), u1 49 _ (by omega), n1 49 _ (by omega) (by omega)]; exact j3 j hj
        refine ⟨_, rfl, fun r j a => ?_, fun j hj => ?_, ⟨⟨?_, ?_, ?_, ?_, ?_, ?_, ?_, ?_⟩, fun p p0 => ?_, fun p p0 => ?_, fun p p0 => ?_, fun p p0 => ?_, fun p o p0 o0 => ?_, fun p o p0 o0 => ?_⟩, ⟨?_, fun o o0 => ?_⟩, ?_, ?_⟩
        · rw [z_ur (by omega), z_ur (by omega), u1 r j (by omega), n1 r j (by omega) (by omega)]; exact j1 r j a
        · rw [z_uk (by omega), z_uk (by omega), u1 49 j (by omega), n1 49 j (by omega) (by omega)]; exact j2 j hj
        · rw [g49 0 (by omega)]; exact x1
        · rw [g49 1 (by omega)]; exact x2
        · rw [g49 2 (by omega)]; exact x3
        · rw [g49 3 (by omega)]; exact x4
        · rw [g49 4 (by omega)]; exact x5
        · rw [g49 5 (by omega)]; exact x6
        · rw [g49 6 (by omega)]; exact x7
        · rw [g49 7 (by omega)]; exact x8
        · rw [z_ur (by omega), z_ur (by omega), u2 _ (by omega), n1 64 _ (by omega) (by omega), (j4 p (by omega)).2.2.2]; exact (y1 p p0).1
        · rw [z_ur (by omega), z_ur (by omega), u1 59 _ (by omega), n1 59 _ (by omega) (by omega), (j4 p (by omega)).1]; exact (y1 p p0).2.1
        · rw [z_ur (by omega), z_ur (by omega), u1 60 _ (by omega), n1 60 _ (by omega) (by omega), (j4 p (by omega)).2.1]; exact (y1 p p0).2.2.1
        · rw [z_ur (by omega), z_ur (by omega), u1 61 _ (by omega), n1 61 _ (by omega) (by omega), (j4 p (by omega)).2.2.1]; exact y2 p (by omega)
        · rw [z_ur (by omega), z_ur (by omega), u1 62 _ (by omega)]; exact (n2 _ (by omega)).1
        · rw [z_ur (by omega), z_ur (by omega), u1 63 _ (by omega)]; exact (n2 _ (by omega)).2
        · rw [z_ur (by omega), z_ur (by omega)]; exact u3
        · rw [z_ur (by omega), z_ur (by omega), if_pos rfl]; exact u4 o (by omega)
        · rw [z_uk (by omega), z_ue]
        · rw [z_ue]
  · have hj : j = 0 ∨ j = 1 ∨ j = 2 ∨ j = 3 ∨ j = 4 ∨ j = 5 ∨ j = 6 ∨ j = 7 := by omega
    rcases hj with rfl | rfl | rfl | rfl | rfl | rfl | rfl | rfl <;> simp (disch := omega) only [z_uk, z_ue]
theorem m_house (hF : pm_fix pt_me pt_Sg (pt_R L0 xs) F) (hb : ∀ i, b i < 256) (X : TM n b I) : ∃ I' L', (F 1237 0 [some (.ref 49)] [] (81, pt_G, I, L)) = some (some (.int (if (rdn n b 900).2.1 = 0 then nI ((rdn n b 900).2.2 0 0) else -1)), (81, pt_G, I', L')) ∧ TM 0 b I' ∧ I' 49 10 = nI (rdn n b 900).2.1 ∧ I' 49 11 = (if (rdn n b 900).2.1 = 0 then -1 else nI (rdn n b 900).1) ∧ (∀ r j, r < 49 → I' r j = I r j) ∧ (∀ r j, r < 49 → L' r j = L r j) ∧ ((rdn n b 900).2.1 = 0 → MH (rdn n b 900).2.2 I' ∧ NM (rdn n b 900).2.2 0 (fun _ => 0) I' ∧ I' 49 45 = 0 ∧ I' 49 57 = 0) ∧ ((rdn n b 900).2.1 ≠ 0 → (∀ r j, 59 ≤ r → I' r j = I r j) ∧ ∀ j, 30 ≤ j → I' 49 j = I 49 j) := by
  have hn := X.2.1
  obtain ⟨A, a1, a2, a3⟩ := m_readsNothing (I := I) (L := L) (n := n) (b := b) hF
  have A1 : A 49 1 = nI n := by rw [a2 49 1 (by omega) (by omega)]; exact X.1
  have XK : TB n b (pm_ui (pm_ui (pm_ui (pm_ui (pm_ui A 49 2 (nI n)) 49 1 0) 49 3 0) 49 8 0) 49 9 (-1)) := ⟨by rw [z_uk (by omega), z_uk (by omega), z_uk (by omega), z_uk (by omega), z_ue], hn, fun i hi => by simp (disch := omega) only [z_ur]; rw [a2 50 i (by omega) (by omega)]; exact X.2.2 i hi⟩
  obtain ⟨B, K, b1, b2, b3⟩ := m_goOn (L := L) hF hb XK (Nat.zero_le n) (by rw [z_uk (by omega), z_uk (by omega), z_ue]; rfl)
  have s := skp_le (b := b) hn (Nat.zero_le n)
  have B0 : MP n b (skp n b 0) 0 B K := ⟨b2.tb XK, s.2, by rw [b2.1 49 8 (by omega), z_uk (by omega), z_ue]; rfl, by rw [b2.1 49 9 (by omega), z_ue, if_pos rfl], fun _ => b3, by omega⟩
  have DB : MD n b d00 B K := (b2.gp.md (a3.of (L' := L) (fun j p q => by rw [z_uk (by omega), z_uk (by omega), z_uk (by omega), z_uk (by omega), z_uk (by omega)]) (fun r j p q => by simp (disch := omega) only [z_ur]) (fun _ _ _ => rfl)))
  -- what is as it was
  have f0 : ∀ r j, r < 49 ∨ r = 50 ∨ 58 < r → B r j = I r j := fun r j a => by
    rw [b2.1 r j (by omega)]
    simp (disch := omega) only [z_ur]
    exact a2 r j (by omega) (by omega)
  have f49 : ∀ j, 21 < j → B 49 j = I 49 j := fun j a => by
    rw [b2.1 49 j (by omega), z_uk (by omega), z_uk (by omega), z_uk (by omega), z_uk (by omega), z_uk (by omega)]
    exact a2 49 j (by omega) (by omega)
  have f1 : B 49 1 = nI 0 := by rw [b2.1 49 1 (by omega), z_uk (by omega), z_uk (by omega), z_uk (by omega), z_ue]; rfl
  have fl : ∀ r j, r < 49 → K r j = L r j := fun r j a => b2.2 r j (by omega)
  rw [e1237_0 hF, a1]
  simp (disch := omega) only [pm_k_i, Option.toList_some, Option.toList_none, List.cons_append, List.nil_append, cond_true, cond_false, ↓reduceIte, reduceCtorEq, z_1, nI_add, z_cl, z_ib, z_lt, z_le, z_eq, z_eq0, z_le0, z_lt0, z_b0, z_b1, z_m1, z_and7, Int32.add_zero, e1237_4 hF, A1, b1]
  -- behind the lines
  have fin : ∀ (J : Nat → Nat → Int32) (M : Nat → Nat → Int64), GL' B J K M → MP n b (rdn n b 900).1 (rdn n b 900).2.1 J M → ((rdn n b 900).2.1 = 0 → MD n b (rdn n b 900).2.2 J M) → ∃ I' L', (if J 49 8 ≤ 0 then pm_k (F 1238 0 [some (.ref 49), none] [] (81, pt_G, (pm_ui (pm_ui J 49 10 (J 49 8)) 49 11 (J 49 9)), M)) (fun v S => F 1237 86 [some (.ref 49)] (v.toList ++ []) S) else some (some (.int (-1)), (81, pt_G, pm_ui (pm_ui J 49 10 (J 49 8)) 49 11 (J 49 9), M))) = some (some (.int (if (rdn n b 900).2.1 = 0 then nI ((rdn n b 900).2.2 0 0) else -1)), (81, pt_G, I', L')) ∧ TM 0 b I' ∧ I' 49 10 = nI (rdn n b 900).2.1 ∧ I' 49 11 = (if (rdn n b 900).2.1 = 0 then -1 else nI (rdn n b 900).1) ∧ (∀ r j, r < 49 → I' r j = I r j) ∧ (∀ r j, r < 49 → L' r j = L r j) ∧ ((rdn n b 900).2.1 = 0 → MH (rdn n b 900).2.2 I' ∧ NM (rdn n b 900).2.2 0 (fun _ => 0) I' ∧ I' 49 45 = 0 ∧ I' 49 57 = 0) ∧ ((rdn n b 900).2.1 ≠ 0 → (∀ r j, 59 ≤ r → I' r j = I r j) ∧ ∀ j, 30 ≤ j → I' 49 j = I 49 j) := by
    intro J M gl XJ DJ
    have l := XJ.2.2.2.2.2
    have ok := rdn_ok (b := b) hn 900
    have j1 : J 49 1 = nI 0 := by rw [gl.1 49 1 (by omega) (by omega)]; exact f1
    by_cases z : (rdn n b 900).2.1 = 0
    · rw [if_pos (show J 49 8 ≤ 0 by rw [XJ.2.2.1, z]; decide), if_pos z]
      have DK : MD n b (rdn n b 900).2.2 (pm_ui (pm_ui J 49 10 (J 49 8)) 49 11 (J 49 9)) M := (DJ z).of (fun j p q => by rw [z_uk (by omega), z_uk (by omega)]) (fun r j p q => by simp (disch := omega) only [z_ur]) (fun _ _ _ => rfl)
      obtain ⟨N, n1, n2, n3, n4, n5, n6, n7⟩ := m_takes hF DK (ok z).1
      rw [n1]
      simp (disch := omega) only [pm_k_i, Option.toList_some, Option.toList_none, List.cons_append, List.nil_append, cond_true, cond_false, ↓reduceIte, reduceCtorEq, z_1, nI_add, z_cl, z_ib, z_lt, z_le, z_eq, z_eq0, z_le0, z_lt0, z_b0, z_b1, z_m1, z_and7, Int32.add_zero, e1237_86 hF, n4.P]
      refine ⟨N, M, rfl, ⟨?_, Nat.zero_le _, fun i hi => absurd hi (Nat.not_lt_zero _)⟩, ?_, ?_, fun r j a => ?_, fun r j a => ?_, fun _ => ⟨n4, n5, n6, n7⟩, fun h => absurd z h⟩
      · rw [n3 1 (by omega), z_uk (by omega), z_uk (by omega)]; exact j1
      · rw [n3 10 (by omega), z_uk (by omega), z_ue]; exact XJ.2.2.1
      · rw [n3 11 (by omega), z_ue]; exact XJ.2.2.2.1
      · rw [n2 r j (by omega), z_ur (by omega), z_ur (by omega), gl.1 r j (by omega) (by omega)]; exact f0 r j (by omega)
      · rw [gl.2 r j (by omega) (by omega) (by omega)]; exact fl r j a
    · rw [if_neg (show ¬ J 49 8 ≤ 0 by rw [XJ.2.2.1, z_le0 (by omega)]; exact z), if_neg z]
      refine ⟨_, M, rfl, ⟨?_, Nat.zero_le _, fun i hi => absurd hi (Nat.not_lt_zero _)⟩, ?_, ?_, fun r j a => ?_, fun r j a => ?_, fun h => absurd h z, fun _ => ⟨fun r j a => ?_, fun j a => ?_⟩⟩
      · rw [z_uk (by omega), z_uk (by omega)]; exact j1
      · rw [z_uk (by omega), z_ue]; exact XJ.2.2.1
      · rw [z_ue]; exact XJ.2.2.2.1
      · rw [z_ur (by omega), z_ur (by omega), gl.1 r j (by omega) (by omega)]; exact f0 r j (by omega)
      · rw [gl.2 r j (by omega) (by omega) (by omega)]; exact fl r j a
      · rw [z_ur (by omega), z_ur (by omega), gl.1 r j (by omega) (by omega)]; exact f0 r j (by omega)
      · rw [z_uk (by omega), z_uk (by omega), gl.1 49 j (by omega) (by omega)]; exact f49 j (by omega)
  -- done, or one more line
  have done : ∀ (k : Nat) (J : Nat → Nat → Int32) (M : Nat → Nat → Int64), k ≤ 900 → GL' B J K M → MP n b (rdn n b k).1 (rdn n b k).2.1 J M → ((rdn n b k).2.1 = 0 → MD n b (rdn n b k).2.2 J M) → ¬ ((rdn n b k).2.1 = 0 ∧ kd n b (rdn n b k).1 ≠ 0) → ∃ I' L', (F 1237 36 [some (.ref 49)] [] (81, pt_G, J, M)) = some (some (.int (if (rdn n b 900).2.1 = 0 then nI ((rdn n b 900).2.2 0 0) else -1)), (81, pt_G, I', L')) ∧ TM 0 b I' ∧ I' 49 10 = nI (rdn n b 900).2.1 ∧ I' 49 11 = (if (rdn n b 900).2.1 = 0 then -1 else nI (rdn n b 900).1) ∧ (∀ r j, r < 49 → I' r j = I r j) ∧ (∀ r j, r < 49 → L' r j = L r j) ∧ ((rdn n b 900).2.1 = 0 → MH (rdn n b 900).2.2 I' ∧ NM (rdn n b 900).2.2 0 (fun _ => 0) I' ∧ I' 49 45 = 0 ∧ I' 49 57 = 0) ∧ ((rdn n b 900).2.1 ≠ 0 → (∀ r j, 59 ≤ r → I' r j = I r j) ∧ ∀ j, 30 ≤ j → I' 49 j = I 49 j) := by
    intro k J M hk gl XJ DJ h
    have e := rdn_done (b := b) (n := n) (m := k) (k := 900) hk h
    have f := fin J M gl (by rw [e]; exact XJ) (by rw [e]; exact DJ)
    rw [e1237_36 hF, m_isGood hF XJ]
    simp (disch := omega) only [pm_k_i, Option.toList_some, Option.toList_none, List.cons_append, List.nil_append, cond_true, cond_false, ↓reduceIte, reduceCtorEq, z_1, nI_add, z_cl, z_ib, z_lt, z_le, z_eq, z_eq0, z_le0, z_lt0, z_b0, z_b1, z_m1, z_and7, Int32.add_zero, e1237_40 hF, decide_eq_false_iff_not]
    by_cases z : (rdn n b k).2.1 = 0
    · have mk := XJ.2.2.2.2.1 z
      have w : kd n b (rdn n b k).1 = 0 := by
        by_cases w : kd n b (rdn n b k).1 = 0
        · exact w
        · exact absurd ⟨z, w⟩ h
      rw [if_neg (fun c => c z), if_pos (show J 49 5 = 0 by rw [mk.2.2.1, w]; rfl)]
      exact f
    · rw [if_pos z]
      exact f
  refine wl (α := (Nat → Nat → Int32) × (Nat → Nat → Int64)) (Q := fun x => ∃ I' L', x = some (some (.int (if (rdn n b 900).2.1 = 0 then nI ((rdn n b 900).2.2 0 0) else -1)), (81, pt_G, I', L')) ∧ TM 0 b I' ∧ I' 49 10 = nI (rdn n b 900).2.1 ∧ I' 49 11 = (if (rdn n b 900).2.1 = 0 then -1 else nI (rdn n b 900).1) ∧ (∀ r j, r < 49 → I' r j = I r j) ∧ (∀ r j, r < 49 → L' r j = L r j) ∧ ((rdn n b 900).2.1 = 0 → MH (rdn n b 900).2.2 I' ∧ NM (rdn n b 900).2.2 0 (fun _ => 0) I' ∧ I' 49 45 = 0 ∧ I' 49 57 = 0) ∧ ((rdn n b 900).2.1 ≠ 0 → (∀ r j, 59 ≤ r → I' r j = I r j) ∧ ∀ j, 30 ≤ j → I' 49 j = I 49 j)) (G := fun k J => (F 1237 36 [some (.ref 49)] [] (81, pt_G, J.1, J.2))) (P := fun k J => GL' B J.1 K J.2 ∧ MP n b (rdn n b k).1 (rdn n b k).2.1 J.1 J.2 ∧ ((rdn n b k).2.1 = 0 → MD n b (rdn n b k).2.2 J.1 J.2)) (n := 900) (fun k J hk hJ go => ?_) (fun J hJ => ?_) 0 (B, K) (Nat.zero_le _) ⟨GL'.rf, B0, fun _ => DB⟩
  · obtain ⟨j1, j2, j3⟩ := hJ
    by_cases h : (rdn n b k).2.1 = 0 ∧ kd n b (rdn n b k).1 ≠ 0
    · have e : rdn n b (k + 1) = lin n b (rdn n b k).2.2 (rdn n b k).1 := by
        show rd1 n b (rdn n b k) = _
        exact if_pos h
      have mk := j2.2.2.2.2.1 h.1
      have kl := kd_le (n := n) (b := b) (q := (rdn n b k).1)
      rw [h.1] at j2
      obtain ⟨U, V, u1, u2, u3, u4⟩ := m_line hF hb j2 (j3 h.1) (rdn_ok (b := b) hn k h.1).1
      try dsimp only
      rw [e1237_36 hF, m_isGood hF j2]
      simp (disch := omega) only [pm_k_i, Option.toList_some, Option.toList_none, List.cons_append, List.nil_append, cond_true, cond_false, ↓reduceIte, reduceCtorEq, z_1, nI_add, z_cl, z_ib, z_lt, z_le, z_eq, z_eq0, z_le0, z_lt0, z_b0, z_b1, z_m1, z_and7, Int32.add_zero, e1237_40 hF, decide_true]
      rw [if_neg (show ¬ J.1 49 5 = 0 by rw [mk.2.2.1, z_eq0 (by omega)]; exact h.2), u1]
      simp (disch := omega) only [pm_k_i, Option.toList_some, Option.toList_none, List.cons_append, List.nil_append, cond_true, cond_false, ↓reduceIte, reduceCtorEq, z_1, nI_add, z_cl, z_ib, z_lt, z_le, z_eq, z_eq0, z_le0, z_lt0, z_b0, z_b1, z_m1, z_and7, Int32.add_zero, e1237_54 hF]
      rw [← e] at u3 u4
      exact go (U, V) ⟨j1.tr u2, u3, u4⟩
    · exact done k J.1 J.2 (by omega) j1 j2 j3 h
  · obtain ⟨j1, j2, j3⟩ := hJ
    exact done 900 J.1 J.2 (Nat.le_refl _) j1 j2 j3 (fun h => h.2 (rdn_end hn h.1))
end
