/-! ===== the class: house() ===== -/
section
variable {I I' : Nat → Nat → Int32} {L L' : Nat → Nat → Int64}
variable {F : pm_F} {L0 : Nat} {xs : Nat → Int32}
variable {n q f : Nat} {b : Nat → Nat} {d : Nat → Nat → Nat}
theorem c_clear (hF : pm_fix pt_me pt_Sg (pt_R L0 xs) F) : ∃ I', (F 502 0 [some (.ref 11), none] [] (49, pt_G, I, L)) = some (none, (49, pt_G, I', L)) ∧ (∀ r j, r ≠ 11 → r ≠ 15 → r ≠ 16 → r ≠ 17 → I' r j = I r j) ∧ (∀ k, k < 8 → I' 11 k = nI (d00 0 k)) ∧ (∀ p, p < 8 → I' 15 p = 0) ∧ ∀ x, x < 64 → I' 16 x = 0 ∧ I' 17 x = 0 := by
  rw [e502_0 hF]
  refine wl (Q := fun x => ∃ I', x = some (none, (49, pt_G, I', L)) ∧ (∀ r j, r ≠ 11 → r ≠ 15 → r ≠ 16 → r ≠ 17 → I' r j = I r j) ∧ (∀ k, k < 8 → I' 11 k = nI (d00 0 k)) ∧ (∀ p, p < 8 → I' 15 p = 0) ∧ ∀ x, x < 64 → I' 16 x = 0 ∧ I' 17 x = 0) (G := fun k J => (F 502 42 [some (.ref 11), some (.int (nI k))] [] (49, pt_G, J, L))) (P := fun k J => (∀ r j, r ≠ 11 → r ≠ 15 → r ≠ 16 → r ≠ 17 → J r j = I r j) ∧ (∀ k, k < 8 → J 11 k = nI (d00 0 k)) ∧ ∀ p, p < k → J 15 p = 0) (n := 8) (fun k J hk hJ go => ?_) (fun J hJ => ?_) 0 _ (Nat.zero_le _) ⟨fun r j a _ _ _ => by rw [z_ur a, z_ur a, z_ur a, z_ur a, z_ur a, z_ur a, z_ur a, z_ur a], fun k hk => ?_, fun p hp => by omega⟩
  · obtain ⟨j1, j2, j3⟩ := hJ
    rw [e502_42 hF, show (8 : Int32) = nI 8 from rfl]
    simp (disch := omega) only [pm_k_i, Option.toList_some, Option.toList_none, List.cons_append, List.nil_append, cond_true, cond_false, ↓reduceIte, reduceCtorEq, z_1, nI_add, z_cl, z_ib, z_lt, z_le, z_eq, z_eq0, z_le0, z_lt0, z_b0, z_b1, z_m1, z_and7, Int32.add_zero, hk]
    refine go _ ⟨fun r j a c e g => by rw [z_ur c]; exact j1 r j a c e g, fun k hk => by rw [z_ur (by omega)]; exact j2 k hk, fun p hp => ?_⟩
    by_cases z : p = k
    · rw [z, z_ue]
    · rw [z_uk z]; exact j3 p (by omega)
  · obtain ⟨j1, j2, j3⟩ := hJ
    rw [e502_42 hF, if_neg (by decide)]
    refine wl (Q := fun x => ∃ I', x = some (none, (49, pt_G, I', L)) ∧ (∀ r j, r ≠ 11 → r ≠ 15 → r ≠ 16 → r ≠ 17 → I' r j = I r j) ∧ (∀ k, k < 8 → I' 11 k = nI (d00 0 k)) ∧ (∀ p, p < 8 → I' 15 p = 0) ∧ ∀ x, x < 64 → I' 16 x = 0 ∧ I' 17 x = 0) (G := fun k N => (F 502 63 [some (.ref 11), some (.int (nI k))] [] (49, pt_G, N, L))) (P := fun k N => (∀ r j, r ≠ 16 → r ≠ 17 → N r j = J r j) ∧ ∀ p, p < k → N 16 p = 0 ∧ N 17 p = 0) (n := 64) (fun k N hk hN go => ?_) (fun N hN => ?_) 0 J (Nat.zero_le _) ⟨fun _ _ _ _ => rfl, fun p hp => by omega⟩
    · obtain ⟨n1, n2⟩ := hN
      rw [e502_63 hF, show (64 : Int32) = nI 64 from rfl]
      simp (disch := omega) only [pm_k_i, Option.toList_some, Option.toList_none, List.cons_append, List.nil_append, cond_true, cond_false, ↓reduceIte, reduceCtorEq, z_1, nI_add, z_cl, z_ib, z_lt, z_le, z_eq, z_eq0, z_le0, z_lt0, z_b0, z_b1, z_m1, z_and7, Int32.add_zero, hk]
      refine go _ ⟨fun r j a c => by rw [z_ur c, z_ur a]; exact n1 r j a c, fun p hp => ?_⟩
      by_cases z : p = k
      · rw [z, z_ue, z_ur (by omega), z_ue]; exact ⟨rfl, rfl⟩
      · rw [z_ur (by omega), z_uk z, z_uk z]; exact n2 p (by omega)
    · obtain ⟨n1, n2⟩ := hN
      rw [e502_63 hF, if_neg (by decide)]
      exact ⟨N, rfl, fun r j a c e g => by rw [n1 r j e g]; exact j1 r j a c e g, fun k hk => by rw [n1 11 k (by omega) (by omega)]; exact j2 k hk, fun p hp => by rw [n1 15 p (by omega) (by omega)]; exact j3 p hp, n2⟩
  · have hk : k = 0 ∨ k = 1 ∨ k = 2 ∨ k = 3 ∨ k = 4 ∨ k = 5 ∨ k = 6 ∨ k = 7 := by omega
    rcases hk with rfl | rfl | rfl | rfl | rfl | rfl | rfl | rfl <;> (simp (disch := omega) only [z_uk, z_ue]; decide)
theorem c_begin (hF : pm_fix pt_me pt_Sg (pt_R L0 xs) F) (hb : ∀ i, b i < 256) (X : TC n b I) (G : LG L) : ∃ I' L', (F 702 0 [some (.ref 10), none] [] (49, pt_G, I, L)) = some (none, (49, pt_G, I', L')) ∧ FL I I' L L' ∧ CP n b (skp n b 0) 0 I' L' ∧ CD n b d00 I' L' := by
  obtain ⟨A, a1, a2, a3, a4, a5⟩ := c_clear (I := I) (L := L) hF
  have hn := X.2.1
  rw [e702_0 hF, a1]
  simp (disch := omega) only [pm_k_i, Option.toList_some, Option.toList_none, List.cons_append, List.nil_append, cond_true, cond_false, ↓reduceIte, reduceCtorEq, z_1, nI_add, z_cl, z_ib, z_lt, z_le, z_eq, z_eq0, z_le0, z_lt0, z_b0, z_b1, z_m1, z_and7, Int32.add_zero, e702_7 hF]
  refine wl (Q := fun x => ∃ I' L', x = some (none, (49, pt_G, I', L')) ∧ FL I I' L L' ∧ CP n b (skp n b 0) 0 I' L' ∧ CD n b d00 I' L') (G := fun k J => (F 702 9 [some (.ref 10), some (.int (nI k))] [] (49, pt_G, J, L))) (P := fun k J => (∀ r j, r ≠ 21 → r ≠ 22 → J r j = A r j) ∧ ∀ p, p < k → J 21 p = 0 ∧ J 22 p = 0) (n := 8) (fun k J hk hJ go => ?_) (fun J hJ => ?_) 0 A (Nat.zero_le _) ⟨fun _ _ _ _ => rfl, fun p hp => by omega⟩
  · obtain ⟨j1, j2⟩ := hJ
    rw [e702_9 hF, show (8 : Int32) = nI 8 from rfl]
    simp (disch := omega) only [pm_k_i, Option.toList_some, Option.toList_none, List.cons_append, List.nil_append, cond_true, cond_false, ↓reduceIte, reduceCtorEq, z_1, nI_add, z_cl, z_ib, z_lt, z_le, z_eq, z_eq0, z_le0, z_lt0, z_b0, z_b1, z_m1, z_and7, Int32.add_zero, hk]
    refine go _ ⟨fun r j a c => by rw [z_ur c, z_ur a]; exact j1 r j a c, fun p hp => ?_⟩
    by_cases z : p = k
    · rw [z, z_ue, z_ur (by omega), z_ue]; exact ⟨rfl, rfl⟩
    · rw [z_ur (by omega), z_uk z, z_uk z]; exact j2 p (by omega)
  · obtain ⟨j1, j2⟩ := hJ
    rw [e702_9 hF, if_neg (by decide)]
    have f1 : ∀ r j, r < 10 ∨ 22 < r → (pm_ui (pm_ui (pm_ui (pm_ui J 10 7 0) 10 8 0) 10 9 (-1)) 10 10 0) r j = I r j := fun r j a => by
      rw [z_ur (by omega), z_ur (by omega), z_ur (by omega), z_ur (by omega), j1 r j (by omega) (by omega)]
      exact a2 r j (by omega) (by omega) (by omega) (by omega)
    have XK : TC n b (pm_ui (pm_ui (pm_ui (pm_ui J 10 7 0) 10 8 0) 10 9 (-1)) 10 10 0) := X.of (f1 1 1 (by omega)) (fun i => f1 2 i (by omega))
    obtain ⟨U, V, u1, u2, u3⟩ := c_advance (L := L) hF G hb XK (Nat.zero_le n) (by rw [z_uk (by omega), z_uk (by omega), z_ue]) (by rw [z_ue]; rfl)
    rw [u1]
    simp (disch := omega) only [pm_k_i, Option.toList_some, Option.toList_none, List.cons_append, List.nil_append, cond_true, cond_false, ↓reduceIte, reduceCtorEq, z_1, nI_add, z_cl, z_ib, z_lt, z_le, z_eq, z_eq0, z_le0, z_lt0, z_b0, z_b1, z_m1, z_and7, Int32.add_zero, e702_59 hF]
    have s := skp_le (b := b) hn (Nat.zero_le n)
    refine ⟨U, V, rfl, ⟨fun r j a => ?_, fun r j a _ _ => u2.2 r j (fun z => absurd z a)⟩, ⟨u2.tc XK, G.of (fun k => u2.2 18 k (by omega)), s.2, ?_, ?_, fun _ => u3, by omega⟩, fun k hk => ?_, ?_, fun p p0 => absurd p0 (Nat.not_lt_zero _), fun p p0 => ?_, fun x hx => ?_, fun o o0 => absurd o0 (Nat.not_lt_zero _)⟩
    · rw [u2.1 r j (by omega)]; exact f1 r j a
    · rw [u2.1 10 8 (by omega), z_uk (by omega), z_uk (by omega), z_ue]; rfl
    · rw [u2.1 10 9 (by omega), z_uk (by omega), z_ue, if_pos rfl]
    · rw [u2.1 11 k (by omega), z_ur (by omega), z_ur (by omega), z_ur (by omega), z_ur (by omega), j1 11 k (by omega) (by omega)]; exact a3 k hk
    · rw [u2.1 10 7 (by omega), z_uk (by omega), z_uk (by omega), z_uk (by omega), z_ue]; rfl
    · rw [u2.1 15 p (by omega), u2.1 21 p (by omega), u2.1 22 p (by omega)]
      simp (disch := omega) only [z_ur]
      rw [j1 15 p (by omega) (by omega)]
      exact ⟨a4 p p0, (j2 p p0).1, (j2 p p0).2⟩
    · rw [u2.1 16 x (by omega), u2.1 17 x (by omega)]
      simp (disch := omega) only [z_ur]
      rw [j1 16 x (by omega) (by omega), j1 17 x (by omega) (by omega)]
      exact a5 x hx
theorem c_become (hF : pm_fix pt_me pt_Sg (pt_R L0 xs) F) (D : CD n b d I L) (G : DG n b d) : ∃ I', (F 503 0 [some (.ref 3), some (.ref 11), none] [] (49, pt_G, I, L)) = some (none, (49, pt_G, I', L)) ∧ (∀ r j, r < 3 ∨ 9 < r → I' r j = I r j) ∧ CH d I' ∧ I' 3 8 = I 3 8 + 1 ∧ I' 3 9 = I 3 9 + 1 := by
  have hP := G.P
  have hO := G.O
  obtain ⟨x1, x2, x3, x4, x5, x6⟩ := D
  rw [e503_0 hF]
  refine wl (Q := fun x => ∃ I', x = some (none, (49, pt_G, I', L)) ∧ (∀ r j, r < 3 ∨ 9 < r → I' r j = I r j) ∧ CH d I' ∧ I' 3 8 = I 3 8 + 1 ∧ I' 3 9 = I 3 9 + 1) (G := fun k J => (F 503 66 [some (.ref 3), some (.ref 11), some (.int (nI k))] [] (49, pt_G, J, L))) (P := fun k J => (∀ r j, r < 3 ∨ 7 < r → J r j = I r j) ∧ (∀ k, k < 8 → J 3 k = nI (d 0 k)) ∧ J 3 8 = I 3 8 ∧ J 3 9 = I 3 9 ∧ ∀ p, p < k → J 4 p = I 12 p ∧ J 5 p = I 13 p ∧ J 6 p = I 14 p ∧ J 7 p = I 15 p) (n := 8) (fun k J hk hJ go => ?_) (fun J hJ => ?_) 0 _ (Nat.zero_le _) ⟨fun r j a => ?_, fun k hk => ?_, by simp (disch := omega) only [z_uk], by simp (disch := omega) only [z_uk], fun p hp => by omega⟩
  · obtain ⟨j1, j2, j3, j4, j5⟩ := hJ
    rw [e503_66 hF, show (8 : Int32) = nI 8 from rfl]
    simp (disch := omega) only [pm_k_i, Option.toList_some, Option.toList_none, List.cons_append, List.nil_append, cond_true, cond_false, ↓reduceIte, reduceCtorEq, z_1, nI_add, z_cl, z_ib, z_lt, z_le, z_eq, z_eq0, z_le0, z_lt0, z_b0, z_b1, z_m1, z_and7, Int32.add_zero, hk]
    refine go _ ⟨fun r j a => ?_, fun k hk => ?_, ?_, ?_, fun p hp => ?_⟩
    · simp (disch := omega) only [z_ur]; exact j1 r j a
    · simp (disch := omega) only [z_ur]; exact j2 k hk
    · simp (disch := omega) only [z_ur]; exact j3
    · simp (disch := omega) only [z_ur]; exact j4
    · by_cases z : p = k
      · subst z
        simp (disch := omega) only [z_ur, z_ue]
        exact ⟨j1 12 p (by omega), j1 13 p (by omega), j1 14 p (by omega), j1 15 p (by omega)⟩
      · simp (disch := omega) only [z_ur, z_uk]; exact j5 p (by omega)
  · obtain ⟨j1, j2, j3, j4, j5⟩ := hJ
    rw [e503_66 hF, if_neg (by decide)]
    refine wl (Q := fun x => ∃ I', x = some (none, (49, pt_G, I', L)) ∧ (∀ r j, r < 3 ∨ 9 < r → I' r j = I r j) ∧ CH d I' ∧ I' 3 8 = I 3 8 + 1 ∧ I' 3 9 = I 3 9 + 1) (G := fun k N => (F 503 128 [some (.ref 3), some (.ref 11), some (.int (nI k))] [] (49, pt_G, N, L))) (P := fun k N => (∀ r j, r ≠ 8 → r ≠ 9 → N r j = J r j) ∧ ∀ p, p < k → N 8 p = I 16 p ∧ N 9 p = I 17 p) (n := 64) (fun k N hk hN go => ?_) (fun N hN => ?_) 0 J (Nat.zero_le _) ⟨fun _ _ _ _ => rfl, fun p hp => by omega⟩
    · obtain ⟨n1, n2⟩ := hN
      rw [e503_128 hF, show (64 : Int32) = nI 64 from rfl]
      simp (disch := omega) only [pm_k_i, Option.toList_some, Option.toList_none, List.cons_append, List.nil_append, cond_true, cond_false, ↓reduceIte, reduceCtorEq, z_1, nI_add, z_cl, z_ib, z_lt, z_le, z_eq, z_eq0, z_le0, z_lt0, z_b0, z_b1, z_m1, z_and7, Int32.add_zero, hk]
      refine go _ ⟨fun r j a c => by rw [z_ur c, z_ur a]; exact n1 r j a c, fun p hp => ?_⟩
      by_cases z : p = k
      · subst z
        simp (disch := omega) only [z_ur, z_ue]
        rw [n1 16 p (by omega) (by omega), n1 17 p (by omega) (by omega)]
        exact ⟨j1 16 p (by omega), j1 17 p (by omega)⟩
      · simp (disch := omega) only [z_ur, z_uk]; exact n2 p (by omega)
    · obtain ⟨n1, n2⟩ := hN
      rw [e503_128 hF, if_neg (by decide)]
      refine ⟨_, rfl, fun r j a => ?_, ⟨fun k hk => ?_, fun p p0 => ?_, fun p p0 => ?_, fun p p0 => ?_, fun p p0 => ?_, fun p o p0 o0 => ?_, fun p o p0 o0 => ?_⟩, ?_, ?_⟩
      · rw [z_ur (by omega), z_ur (by omega), n1 r j (by omega) (by omega)]; exact j1 r j (by omega)
      · rw [z_uk (by omega), z_uk (by omega), n1 3 k (by omega) (by omega)]; exact j2 k hk
      · rw [z_ur (by omega), z_ur (by omega), n1 4 p (by omega) (by omega), (j5 p (by omega)).1]; exact (x3 p p0).1
      · rw [z_ur (by omega), z_ur (by omega), n1 5 p (by omega) (by omega), (j5 p (by omega)).2.1]; exact (x3 p p0).2.1
      · rw [z_ur (by omega), z_ur (by omega), n1 6 p (by omega) (by omega), (j5 p (by omega)).2.2.1]; exact (x3 p p0).2.2.1
      · rw [z_ur (by omega), z_ur (by omega), n1 7 p (by omega) (by omega), (j5 p (by omega)).2.2.2]; exact (x4 p (by omega)).1
      · rw [z_ur (by omega), z_ur (by omega), (n2 _ (by omega)).1]; exact (x5 _ (by omega)).1
      · rw [z_ur (by omega), z_ur (by omega), (n2 _ (by omega)).2]; exact (x5 _ (by omega)).2
      · rw [z_uk (by omega), z_ue, n1 3 8 (by omega) (by omega), j3]
      · rw [z_ue, n1 3 9 (by omega) (by omega), j4]
  · simp (disch := omega) only [z_ur]
  · have hk : k = 0 ∨ k = 1 ∨ k = 2 ∨ k = 3 ∨ k = 4 ∨ k = 5 ∨ k = 6 ∨ k = 7 := by omega
    rcases hk with rfl | rfl | rfl | rfl | rfl | rfl | rfl | rfl <;> (simp (disch := omega) only [z_uk, z_ue]; exact x1 _ (by omega))
theorem c_house (hF : pm_fix pt_me pt_Sg (pt_R L0 xs) F) (hb : ∀ i, b i < 256) (X : TC n b I) (G : LG L) : ∃ I' L', (F 104 0 [some (.ref 0), none] [] (49, pt_G, I, L)) = some (some (.int (if (rdn n b 900).2.1 = 0 then nI ((rdn n b 900).2.2 0 0) else -1)), (49, pt_G, I', L')) ∧ TC 0 b I' ∧ LG L' ∧ I' 10 8 = nI (rdn n b 900).2.1 ∧ I' 10 9 = (if (rdn n b 900).2.1 = 0 then -1 else nI (rdn n b 900).1) ∧ (∀ r j, 22 < r → (r = 44 → j < 5 ∨ 7 < j) → I' r j = I r j) ∧ (∀ r j, r ≠ 10 → r ≠ 19 → r ≠ 20 → L' r j = L r j) ∧ ((rdn n b 900).2.1 = 0 → CH (rdn n b 900).2.2 I' ∧ I' 3 8 = I 3 8 + 1 ∧ I' 3 9 = I 3 9 + 1 ∧ I' 44 5 = 0 ∧ I' 44 7 = 0) ∧ ((rdn n b 900).2.1 ≠ 0 → (∀ r j, 3 ≤ r → r < 10 → I' r j = I r j) ∧ ∀ j, I' 44 j = I 44 j) := by
  have hn := X.2.1
  obtain ⟨A, K, a1, a2, a3, a4⟩ := c_begin hF hb X G
  rw [e104_0 hF, a1]
  simp (disch := omega) only [pm_k_i, Option.toList_some, Option.toList_none, List.cons_append, List.nil_append, cond_true, cond_false, ↓reduceIte, reduceCtorEq, z_1, nI_add, z_cl, z_ib, z_lt, z_le, z_eq, z_eq0, z_le0, z_lt0, z_b0, z_b1, z_m1, z_and7, Int32.add_zero, e104_7 hF]
  -- behind the lines
  have fin : ∀ (J : Nat → Nat → Int32) (M : Nat → Nat → Int64) (x : Int32), FL I J L M → CP n b (rdn n b 900).1 (rdn n b 900).2.1 J M → ((rdn n b 900).2.1 = 0 → CD n b (rdn n b 900).2.2 J M) → ∃ I' L', pm_k (F 1005 0 [some (.ref 1), some (.int 0)] [] (49, pt_G, J, M)) (fun v S => F 104 47 [some (.ref 0), some (.int x)] (v.toList ++ []) S) = some (some (.int (if (rdn n b 900).2.1 = 0 then nI ((rdn n b 900).2.2 0 0) else -1)), (49, pt_G, I', L')) ∧ TC 0 b I' ∧ LG L' ∧ I' 10 8 = nI (rdn n b 900).2.1 ∧ I' 10 9 = (if (rdn n b 900).2.1 = 0 then -1 else nI (rdn n b 900).1) ∧ (∀ r j, 22 < r → (r = 44 → j < 5 ∨ 7 < j) → I' r j = I r j) ∧ (∀ r j, r ≠ 10 → r ≠ 19 → r ≠ 20 → L' r j = L r j) ∧ ((rdn n b 900).2.1 = 0 → CH (rdn n b 900).2.2 I' ∧ I' 3 8 = I 3 8 + 1 ∧ I' 3 9 = I 3 9 + 1 ∧ I' 44 5 = 0 ∧ I' 44 7 = 0) ∧ ((rdn n b 900).2.1 ≠ 0 → (∀ r j, 3 ≤ r → r < 10 → I' r j = I r j) ∧ ∀ j, I' 44 j = I 44 j) := by
    intro J M x fl XJ DJ
    obtain ⟨c1, c2⟩ := c_cutTo (L := M) hF XJ.1 (Nat.zero_le n)
    have c1 : (F 1005 0 [some (.ref 1), some (.int 0)] [] (49, pt_G, J, M)) = _ := c1
    have l := XJ.2.2.2.2.2.2
    have ok := rdn_ok (b := b) hn 900
    rw [c1]
    simp (disch := omega) only [pm_k_i, Option.toList_some, Option.toList_none, List.cons_append, List.nil_append, cond_true, cond_false, ↓reduceIte, reduceCtorEq, z_1, nI_add, z_cl, z_ib, z_lt, z_le, z_eq, z_eq0, z_le0, z_lt0, z_b0, z_b1, z_m1, z_and7, Int32.add_zero, e104_47 hF, z_ur, XJ.2.2.2.1]
    by_cases z : (rdn n b 900).2.1 = 0
    · rw [if_pos z, if_pos z]
      have D := DJ z
      have DK : CD n b (rdn n b 900).2.2 (pm_ui J 1 1 (nI 0)) M := D.of (by rw [z_ur (by omega)]) (fun r j _ _ => by rw [z_ur (by omega)]) (fun _ _ _ => rfl)
      obtain ⟨N, n1, n2, n3, n4, n5⟩ := c_become hF DK (ok z).1
      rw [n1]
      have e3 : (pm_ui (pm_ui (pm_ui N 44 5 0) 44 6 0) 44 7 0) 3 0 = nI ((rdn n b 900).2.2 0 0) := by simp (disch := omega) only [z_ur]; exact n3.P
      simp (disch := omega) only [pm_k_i, Option.toList_some, Option.toList_none, List.cons_append, List.nil_append, cond_true, cond_false, ↓reduceIte, reduceCtorEq, z_1, nI_add, z_cl, z_ib, z_lt, z_le, z_eq, z_eq0, z_le0, z_lt0, z_b0, z_b1, z_m1, z_and7, Int32.add_zero, e104_73 hF, e202_0 hF, e104_80 hF, e3]
      refine ⟨_, M, rfl, c2.of ?_ (fun i => ?_), XJ.2.1, ?_, ?_, fun r j a c => ?_, fun r j a c e => fl.2 r j a c e, fun _ => ⟨n3.of (fun k hk => by simp (disch := omega) only [z_ur]) (fun r a c k => by simp (disch := omega) only [z_ur]), ?_, ?_, ?_, ?_⟩, fun h => absurd z h⟩
      · simp (disch := omega) only [z_ur]; exact n2 1 1 (by omega)
      · simp (disch := omega) only [z_ur]; exact n2 2 i (by omega)
      · simp (disch := omega) only [z_ur]; rw [n2 10 8 (by omega), z_ur (by omega)]; exact XJ.2.2.2.1
      · simp (disch := omega) only [z_ur]; rw [n2 10 9 (by omega), z_ur (by omega)]; exact XJ.2.2.2.2.1
      · have e : pm_ui (pm_ui (pm_ui N 44 5 0) 44 6 0) 44 7 0 r j = N r j := by
          by_cases t : r = 44
          · have := c t; rw [t, z_uk (by omega), z_uk (by omega), z_uk (by omega)]
          · rw [z_ur t, z_ur t, z_ur t]
        rw [e, n2 r j (by omega), z_ur (by omega)]; exact fl.1 r j (by omega)
      · simp (disch := omega) only [z_ur]; rw [n4, z_ur (by omega), fl.1 3 8 (by omega)]
      · simp (disch := omega) only [z_ur]; rw [n5, z_ur (by omega), fl.1 3 9 (by omega)]
      · rw [z_uk (by omega), z_uk (by omega), z_ue]
      · rw [z_ue]
    · rw [if_neg z, if_neg z]
      refine ⟨_, M, rfl, c2, XJ.2.1, ?_, ?_, fun r j a c => ?_, fun r j a c e => fl.2 r j a c e, fun h => absurd h z, fun _ => ⟨fun r j a c => ?_, fun j => ?_⟩⟩
      · rw [z_ur (by omega)]; exact XJ.2.2.2.1
      · rw [z_ur (by omega)]; exact XJ.2.2.2.2.1
      · rw [z_ur (by omega)]; exact fl.1 r j (by omega)
      · rw [z_ur (by omega)]; exact fl.1 r j (by omega)
      · rw [z_ur (by omega)]; exact fl.1 44 j (by omega)
  refine wl (α := (Nat → Nat → Int32) × (Nat → Nat → Int64)) (Q := fun x => ∃ I' L', x = some (some (.int (if (rdn n b 900).2.1 = 0 then nI ((rdn n b 900).2.2 0 0) else -1)), (49, pt_G, I', L')) ∧ TC 0 b I' ∧ LG L' ∧ I' 10 8 = nI (rdn n b 900).2.1 ∧ I' 10 9 = (if (rdn n b 900).2.1 = 0 then -1 else nI (rdn n b 900).1) ∧ (∀ r j, 22 < r → (r = 44 → j < 5 ∨ 7 < j) → I' r j = I r j) ∧ (∀ r j, r ≠ 10 → r ≠ 19 → r ≠ 20 → L' r j = L r j) ∧ ((rdn n b 900).2.1 = 0 → CH (rdn n b 900).2.2 I' ∧ I' 3 8 = I 3 8 + 1 ∧ I' 3 9 = I 3 9 + 1 ∧ I' 44 5 = 0 ∧ I' 44 7 = 0) ∧ ((rdn n b 900).2.1 ≠ 0 → (∀ r j, 3 ≤ r → r < 10 → I' r j = I r j) ∧ ∀ j, I' 44 j = I 44 j)) (G := fun k J => (F 104 9 [some (.ref 0), some (.int (nI k))] [] (49, pt_G, J.1, J.2))) (P := fun k J => FL I J.1 L J.2 ∧ CP n b (rdn n b k).1 (rdn n b k).2.1 J.1 J.2 ∧ ((rdn n b k).2.1 = 0 → CD n b (rdn n b k).2.2 J.1 J.2)) (n := 900) (fun k J hk hJ go => ?_) (fun J hJ => ?_) 0 (A, K) (Nat.zero_le _) ⟨a2, a3, fun _ => a4⟩
  · obtain ⟨j1, j2, j3⟩ := hJ
    have l := j2.2.2.2.2.2.2
    try dsimp only
    rw [e104_9 hF, show (900 : Int32) = nI 900 from rfl]
    simp (disch := omega) only [pm_k_i, Option.toList_some, Option.toList_none, List.cons_append, List.nil_append, cond_true, cond_false, ↓reduceIte, reduceCtorEq, z_1, nI_add, z_cl, z_ib, z_lt, z_le, z_eq, z_eq0, z_le0, z_lt0, z_b0, z_b1, z_m1, z_and7, Int32.add_zero, hk, e703_0 hF, j2.2.2.2.1]
    by_cases z : (rdn n b k).2.1 = 0
    · have ck := j2.2.2.2.2.2.1 z
      have kl := kd_le (n := n) (b := b) (q := (rdn n b k).1)
      rw [if_pos z, ck.2.2.1]
      by_cases w : kd n b (rdn n b k).1 = 0
      · have e := rdn_done (b := b) (n := n) (m := k) (k := 900) (by omega) (fun h => h.2 w)
        rw [w, if_pos (show nI 0 = 0 from rfl)]
        simp (disch := omega) only [pm_k_i, Option.toList_some, Option.toList_none, List.cons_append, List.nil_append, cond_true, cond_false, ↓reduceIte, reduceCtorEq, z_1, nI_add, z_cl, z_ib, z_lt, z_le, z_eq, z_eq0, z_le0, z_lt0, z_b0, z_b1, z_m1, z_and7, Int32.add_zero, e104_23 hF]
        rw [← e] at j2 j3
        exact fin J.1 J.2 (nI k) j1 j2 j3
      · rw [if_neg (show ¬ nI (kd n b (rdn n b k).1) = 0 by rw [z_eq0 (by omega)]; exact w)]
        simp (disch := omega) only [pm_k_i, Option.toList_some, Option.toList_none, List.cons_append, List.nil_append, cond_true, cond_false, ↓reduceIte, reduceCtorEq, z_1, nI_add, z_cl, z_ib, z_lt, z_le, z_eq, z_eq0, z_le0, z_lt0, z_b0, z_b1, z_m1, z_and7, Int32.add_zero, e104_23 hF]
        have e : rdn n b (k + 1) = lin n b (rdn n b k).2.2 (rdn n b k).1 := by
          show rd1 n b (rdn n b k) = _
          exact if_pos ⟨z, w⟩
        rw [z] at j2
        obtain ⟨U, V, u1, u2, u3, u4⟩ := c_readLine hF hb j2 (j3 z) (rdn_ok (b := b) hn k z).1
        rw [if_neg (show ¬ (1 : Int32) = 0 by decide), u1]
        simp (disch := omega) only [pm_k_i, Option.toList_some, Option.toList_none, List.cons_append, List.nil_append, cond_true, cond_false, ↓reduceIte, reduceCtorEq, z_1, nI_add, z_cl, z_ib, z_lt, z_le, z_eq, z_eq0, z_le0, z_lt0, z_b0, z_b1, z_m1, z_and7, Int32.add_zero, e104_33 hF]
        rw [← e] at u3 u4
        exact go (U, V) ⟨j1.tr u2, u3, u4⟩
    · have e := rdn_done (b := b) (n := n) (m := k) (k := 900) (by omega) (fun h => z h.1)
      rw [if_neg z]
      simp (disch := omega) only [pm_k_i, Option.toList_some, Option.toList_none, List.cons_append, List.nil_append, cond_true, cond_false, ↓reduceIte, reduceCtorEq, z_1, nI_add, z_cl, z_ib, z_lt, z_le, z_eq, z_eq0, z_le0, z_lt0, z_b0, z_b1, z_m1, z_and7, Int32.add_zero, e104_23 hF]
      rw [← e] at j2 j3
      exact fin J.1 J.2 (nI k) j1 j2 j3
  · obtain ⟨j1, j2, j3⟩ := hJ
    try dsimp only
    rw [e104_9 hF, if_neg (by decide)]
    exact fin J.1 J.2 _ j1 j2 j3
end
