/-! ===== looking ahead: the class ===== -/
section
variable {h : Nat → Nat → Nat}
theorem zl_of {a : Nat} (ha : a < 2147483648) : (nI a).toInt64 = lN a := nI_l ha
theorem lc_le {a b : Nat} (ha : a < 2147483648) (hb : b < 2147483648) : (lg_cmp (lN a) (lN b) ≤ 0) = (a ≤ b) := by
  rw [← zl_of ha, ← zl_of hb, lgc_le, z_le ha hb]
theorem lc_m1 {a : Nat} (ha : a < 2147483648) : (lg_cmp (lN a) (-1) ≤ 0) = False := by
  rw [← zl_of ha, show (-1 : Int64) = (-1 : Int32).toInt64 from rfl, lgc_le, z_lem ha]
theorem zl_shl (n : Nat) {k : Nat} (hk : k < 64) : lN n <<< (lN k &&& 63) = lN (n * 2 ^ k) := (congrArg (fun x => lN n <<< (x &&& 63)) (zl_of (a := k) (by omega)).symm).trans (wb_shl n hk)
theorem z_msk : Int32.toInt64 (((1 : Int32) <<< (nI 9 &&& 31)) - 1) = lN (2 ^ 9 - 1) ∧ Int32.toInt64 (((1 : Int32) <<< (nI 10 &&& 31)) - 1) = lN (2 ^ 10 - 1) := by decide +kernel
theorem z_uls {n k : Nat} (hn : n < 18446744073709551616) (hk : k < 64) : pm_uls (lN n) (nI k) = lN (n / 2 ^ k) := wb_shr hn hk
/-- a lane read -/
theorem lane_get {b j n : Nat} {v : Nat → Nat} (hb : b = 9 ∨ b = 10) (hv : ∀ j, j < n → v j < 2 ^ b) (hn : b * n ≤ 63) (hj : j < n) : pm_uls (lN (pkl b v n)) (nI b * nI j) &&& Int32.toInt64 (((1 : Int32) <<< (nI b &&& 31)) - 1) = lN (v j) := by
  have h1 := pkl_lt hv
  have h2 : 2 ^ (b * n) ≤ 2 ^ 63 := Nat.pow_le_pow_right (by decide) hn
  have h3 : b * j ≤ b * n := Nat.mul_le_mul_left _ (by omega)
  have h4 : pkl b v n < 18446744073709551616 := by omega
  rw [pk_mul, z_uls h4 (by omega)]
  have h5 : pkl b v n / 2 ^ (b * j) < 2 ^ 64 := Nat.lt_of_le_of_lt (Nat.div_le_self _ _) h4
  have h6 : Int32.toInt64 (((1 : Int32) <<< (nI b &&& 31)) - 1) = lN (2 ^ b - 1) := by
    rcases hb with e | e <;> subst e
    · exact z_msk.1
    · exact z_msk.2
  rw [h6, wb_mask h5 (by omega), pkl_get hv hj]
variable {F : pm_F} {L0 : Nat} {xs : Nat → Int32} {I : Nat → Nat → Int32} {L : Nat → Nat → Int64}
/-- the gains of these sets lie there, lane by lane -/
def GL (h : Nat → Nat → Nat) (t : Nat → Nat) (g : Nat → Nat → Nat) (k : Nat) (L : Nat → Nat → Int64) (b mm : Nat) (ord : Nat → Nat) : Prop := ∀ l, l ≤ k → L 25 l = lN (pkl b (fun j => g l (ord j)) mm)
theorem c_laneOf (hF : pm_fix pt_me pt_Sg (pt_R L0 xs) F) (W : WF h) {t : Nat → Nat} {b mm : Nat} {lane ord : Nat → Nat} (A : LA h t I b mm lane ord) {g : Nat → Nat} (hg : ∀ j, j < mm → g (ord j) < 2 ^ b) {i : Nat} (hi : i < h 0 1) (ht : t i < h 0 0) : (F 609 0 [some (.ref 23), some (.long (lN (pkl b (fun j => g (ord j)) mm))), none, some (.int (nI (t i)))] [] (49, pt_G, I, L)) = some (some (.long (lN (g (t i)))), (49, pt_G, I, L)) := by
  have hP := W.P
  obtain ⟨a1, a2, a3, a4, a5, a6⟩ := A
  obtain ⟨b1, b2, b3⟩ := a1 i hi
  rw [e609_0 hF]
  simp (disch := omega) only [pm_k_i, Option.toList_some, Option.toList_none, List.cons_append, List.nil_append, cond_true, cond_false, ↓reduceIte, reduceCtorEq, z_1, nI_add, z_cl, z_ib, z_lt, z_le, z_eq, z_eq0, z_le0, z_lt0, z_b0, z_b1, z_m1, z_and7, Int32.add_zero, a3, b3]
  rw [lane_get a5 hg a4 b1, b2]
theorem c_choose (hF : pm_fix pt_me pt_Sg (pt_R L0 xs) F) (W : WF h) (H : CH h I) {t : Nat → Nat} (ht : ∀ i, i < h 0 1 → t i < h 0 0) {b mm : Nat} {lane ord : Nat → Nat} (A : LA h t I b mm lane ord) {k : Nat} (hk : k + 1 < 2 ^ h 0 1) (hL : GL h t (fsT h t k).2 k L b mm ord) : (F 610 0 [some (.ref 23), some (.int (nI (k + 1))), some (.int (nI (ft h t (k + 1)))), none, none, none, none, none, none] [] (49, pt_G, I, L)) = some (none, (49, pt_G, pm_ui I 24 (k + 1) (nI (fc h t (fsT h t k).2 (k + 1))), pm_ul L 25 (k + 1) (lN (pkl b (fun j => (fsT h t (k + 1)).2 (k + 1) (ord j)) mm)))) := by
  have hP := W.P
  have hO := W.O
  have h2 := o256 W
  have h3 := pc_sub (h 0 1) (by omega) (k + 1) hk
  have h4 := (pc_le (k + 1) (by omega)).2 (by omega)
  obtain ⟨a1, a2, a3, a4, a5, a6⟩ := id A
  have hi : h 0 1 - pc (k + 1) < h 0 1 := by omega
  have hft : ft h t (k + 1) < h 0 0 := ht _ hi
  obtain ⟨b1, b2, b3⟩ := a1 _ hi
  obtain ⟨c1, c2, c3⟩ := fc_in W t (fsT h t k).2 (l := k + 1) (by omega) hk
  have hb := fsT_le W t (n := k) (by omega)
  have hcn := fsT_cnt W t (n := k) (by omega)
  have hg : ∀ l, l < 2 ^ h 0 1 → ∀ j, j < mm → (fsT h t k).2 l (ord j) < 2 ^ b := fun l hl j _ => by
    have := hcn l (ord j) hl
    have := a6 (ord j)
    omega
  rw [e610_0 hF]
  have key : (F 610 10 [some (.ref 23), some (.int (nI (k + 1))), some (.int (nI (ft h t (k + 1)))), some (.int 0), some (.long (-1)), none, some (.int 0), none, none] [] (49, pt_G, I, L)) = (F 610 10 [some (.ref 23), some (.int (nI (k + 1))), some (.int (nI (ft h t (k + 1)))), some (.int (nI (fc h t (fsT h t k).2 (k + 1)))), some (.long (lN (fv h t (fsT h t k).2 (k + 1) (fc h t (fsT h t k).2 (k + 1))))), none, some (.int (nI (h 0 1))), none, none] [] (49, pt_G, I, L)) := by
    refine ((lpI (G := fun o q => (F 610 10 [some (.ref 23), some (.int (nI (k + 1))), some (.int (nI (ft h t (k + 1)))), some (.int (nI (q.getD 0))), some (.long (match q with | none => -1 | some q => lN (fv h t (fsT h t k).2 (k + 1) q))), none, some (.int (nI o)), none, none] [] (49, pt_G, I, L))) (f := am1 (k + 1) (fv h t (fsT h t k).2 (k + 1))) (P := fun _ b => ∀ q, b = some q → q < h 0 1 ∧ (k + 1).testBit q = true) (n := h 0 1) (a := none) (fun q h => by cases h) (fun o b ho hb2 => ⟨?_, am1_in ho hb2⟩)).1).trans ?_
    · try dsimp only
      have r1 := rm_lt (k + 1) (by omega) o (by omega)
      have v1 := hb (rm (k + 1) o) (ft h t (k + 1))
      have v2 := pc_le8 r1.1
      have v3 := W.worth (8 * ft h t (k + 1) + o)
      rw [e610_10 hF]
      simp (disch := omega) only [H.O, pm_k_i, Option.toList_some, Option.toList_none, List.cons_append, List.nil_append, cond_true, cond_false, ↓reduceIte, reduceCtorEq, z_1, nI_add, z_cl, z_ib, z_lt, z_le, z_eq, z_eq0, z_le0, z_lt0, z_b0, z_b1, z_m1, z_and7, Int32.add_zero, ho, c_isIn hF, e610_28 hF]
      cases hx : (k + 1).testBit o with
      | false =>
        have : am1 (k + 1) (fv h t (fsT h t k).2 (k + 1)) o b = b := by unfold am1; rw [hx]; rfl
        simp (disch := omega) only [pm_k_i, Option.toList_some, Option.toList_none, List.cons_append, List.nil_append, cond_true, cond_false, ↓reduceIte, reduceCtorEq, z_1, nI_add, z_cl, z_ib, z_lt, z_le, z_eq, z_eq0, z_le0, z_lt0, z_b0, z_b1, z_m1, z_and7, Int32.add_zero, this]
      | true =>
        have r2 := r1.2.2 hx
        have r4 := hL (rm (k + 1) o) (by omega)
        have r5 := c_laneOf (I := I) (L := L) hF W A (g := (fsT h t k).2 (rm (k + 1) o)) (hg _ (by omega)) hi (ht _ hi)
        have r6 : t (h 0 1 - pc (k + 1)) = ft h t (k + 1) := rfl
        rw [r6] at r5
        simp (disch := omega) only [pm_k_i, Option.toList_some, Option.toList_none, List.cons_append, List.nil_append, cond_true, cond_false, ↓reduceIte, reduceCtorEq, z_1, nI_add, z_cl, z_ib, z_lt, z_le, z_eq, z_eq0, z_le0, z_lt0, z_b0, z_b1, z_m1, z_and7, Int32.add_zero, c_worthTo hF W H, e610_44 hF, z_rm, z_and255, r4, r5, e610_67 hF, zl_of, lN_add]
        cases b with
        | none =>
          have : am1 (k + 1) (fv h t (fsT h t k).2 (k + 1)) o none = some o := by unfold am1; rw [hx]; rfl
          rw [this]
          dsimp only
          simp (disch := omega) only [lc_m1, ↓reduceIte]
          rfl
        | some q =>
          obtain ⟨q1, q2⟩ := hb2 q rfl
          have r3 := rm_lt (k + 1) (by omega) q (by omega)
          have v4 := hb (rm (k + 1) q) (ft h t (k + 1))
          have v5 := pc_le8 r3.1
          have v6 := W.worth (8 * ft h t (k + 1) + q)
          have v7 : fv h t (fsT h t k).2 (k + 1) q ≤ 2000 := by show _ + _ ≤ _; omega
          have v8 : fv h t (fsT h t k).2 (k + 1) o ≤ 2000 := by show _ + _ ≤ _; omega
          show (if lg_cmp (lN (fv h t (fsT h t k).2 (k + 1) o)) (lN (fv h t (fsT h t k).2 (k + 1) q)) ≤ 0 then _ else _) = _
          simp (disch := omega) only [lc_le]
          by_cases c : fv h t (fsT h t k).2 (k + 1) o ≤ fv h t (fsT h t k).2 (k + 1) q
          · have : am1 (k + 1) (fv h t (fsT h t k).2 (k + 1)) o (some q) = some q := by unfold am1; rw [hx]; show (bif true && decide _ then _ else _) = _; rw [decide_eq_false (by omega)]; rfl
            rw [if_pos c, this]
            try rfl
          · have : am1 (k + 1) (fv h t (fsT h t k).2 (k + 1)) o (some q) = some o := by unfold am1; rw [hx]; show (bif true && decide _ then _ else _) = _; rw [decide_eq_true (by omega)]; rfl
            rw [if_neg c, this]
            try rfl
    · show (F 610 10 [some (.ref 23), some (.int (nI (k + 1))), some (.int (nI (ft h t (k + 1)))), some (.int (nI ((amx (k + 1) (fv h t (fsT h t k).2 (k + 1)) (h 0 1)).getD 0))), some (.long (match amx (k + 1) (fv h t (fsT h t k).2 (k + 1)) (h 0 1) with | none => -1 | some q => lN (fv h t (fsT h t k).2 (k + 1) q))), none, some (.int (nI (h 0 1))), none, none] [] (49, pt_G, I, L)) = _
      rw [c3]
      rfl
  rw [key, e610_10 hF]
  have c4 := rm_lt (k + 1) (by omega) (fc h t (fsT h t k).2 (k + 1)) (by omega)
  have c5 := c4.2.2 c2
  have c6 := hL (rm (k + 1) (fc h t (fsT h t k).2 (k + 1))) (by omega)
  have c7 := W.worth (8 * ft h t (k + 1) + fc h t (fsT h t k).2 (k + 1))
  have c8 : I 26 (ft h t (k + 1)) = nI (lane (ft h t (k + 1))) := b3
  have c9 : b * lane (ft h t (k + 1)) < 64 := by
    have : lane (ft h t (k + 1)) < mm := b1
    have : b * lane (ft h t (k + 1)) ≤ b * mm := Nat.mul_le_mul_left _ (by omega)
    omega
  simp (disch := omega) only [H.O, pm_k_i, Option.toList_some, Option.toList_none, List.cons_append, List.nil_append, cond_true, cond_false, ↓reduceIte, reduceCtorEq, z_1, nI_add, z_cl, z_ib, z_lt, z_le, z_eq, z_eq0, z_le0, z_lt0, z_b0, z_b1, z_m1, z_and7, Int32.add_zero, Nat.lt_irrefl, c_worthTo hF W H, e610_100 hF, z_and255, z_rm, c6, c8, a3, pk_mul, zl_of, zl_shl, lN_add]
  have fin : pkl b (fun j => (fsT h t k).2 (rm (k + 1) (fc h t (fsT h t k).2 (k + 1))) (ord j)) mm + h 5 (8 * ft h t (k + 1) + fc h t (fsT h t k).2 (k + 1)) * 2 ^ (b * lane (ft h t (k + 1))) = pkl b (fun j => (fsT h t (k + 1)).2 (k + 1) (ord j)) mm := by
    rw [← pkl_up (v := fun j => (fsT h t k).2 (rm (k + 1) (fc h t (fsT h t k).2 (k + 1))) (ord j)) (show lane (ft h t (k + 1)) < mm from b1)]
    refine pkl_congr (fun j hj => ?_)
    refine Eq.symm ((fs1_2 t k (fsT h t k) (k + 1) (ord j)).trans ((if_pos rfl).trans ?_))
    unfold up
    have d1 : ord (lane (ft h t (k + 1))) = ft h t (k + 1) := b2
    by_cases e : j = lane (ft h t (k + 1))
    · subst e
      rw [if_pos rfl, if_pos d1]
    · rw [if_neg e, if_neg (fun e2 => e (by rw [← a2 j hj, e2]))]
      rfl
  rw [fin]
/-- looking ahead, if what was looked at last isn't just that -/
theorem c_lookAhead (hF : pm_fix pt_me pt_Sg (pt_R L0 xs) F) (W : WF h) (H : CH h I) {t : Nat → Nat} (kt : K8 t) (ht : ∀ i, i < h 0 1 → t i < h 0 0) (hA : I 23 5 = nI (hp t) → I 23 6 = I 3 8 → AH h t I L) : ∃ I' L', (F 607 0 [some (.ref 23), some (.int (nI (hp t))), none] [] (49, pt_G, I, L)) = some (none, (49, pt_G, I', L')) ∧ (∀ r k, (r = 23 → k < 4 ∨ 6 < k) → r ≠ 24 → r ≠ 26 → I' r k = I r k) ∧ (∀ r k, r ≠ 25 → L' r k = L r k) ∧ AH h t I' L' ∧ I' 23 5 = nI (hp t) ∧ I' 23 6 = I 3 8 := by
  have hP := W.P
  have hO := W.O
  have h2 := o256 W
  have hlt := hp_lt kt
  have go : I 23 5 ≠ nI (hp t) ∨ I 23 6 ≠ I 3 8 → ∃ I' L', (F 607 0 [some (.ref 23), some (.int (nI (hp t))), none] [] (49, pt_G, I, L)) = some (none, (49, pt_G, I', L')) ∧ (∀ r k, (r = 23 → k < 4 ∨ 6 < k) → r ≠ 24 → r ≠ 26 → I' r k = I r k) ∧ (∀ r k, r ≠ 25 → L' r k = L r k) ∧ AH h t I' L' ∧ I' 23 5 = nI (hp t) ∧ I' 23 6 = I 3 8 := by
    intro hne
    have e0 : (F 607 0 [some (.ref 23), some (.int (nI (hp t))), none] [] (49, pt_G, I, L)) = pm_k (F 608 0 [some (.ref 23), some (.int (nI (hp t))), none, none, none] [] (49, pt_G, (pm_ui (pm_ui I 23 5 (nI (hp t))) 23 6 (I 3 8)), L)) (fun v S => F 607 44 [some (.ref 23), some (.int (nI (hp t))), none] (v.toList ++ []) S) := by
      rw [e607_0 hF]
      by_cases c : I 23 5 = nI (hp t)
      · rw [if_pos c, if_neg (hne.elim (fun h => absurd c h) id)]
      · rw [if_neg c]
    have HO2 : pm_ui (pm_ui I 23 5 (nI (hp t))) 23 6 (I 3 8) 3 1 = nI (h 0 1) := by rw [z_ur (by omega), z_ur (by omega)]; exact H.O
    obtain ⟨I1, b, mm, lane, ord, q1, q2, A⟩ := c_layLanes (L := L) hF W HO2 kt ht
    rw [e0, q1, pm_k_i, show Option.toList (none : Option Value) ++ [] = [] from rfl, e607_44 hF]
    rw [show pm_ib 0 256 = true from z_ib (k := 0) (by omega) (by omega), cond_true, show (Int32.toNatClampNeg 0) = 0 from rfl]
    have f1 : ∀ r k, (r = 23 → k < 4 ∨ 6 < k) → r ≠ 26 → I1 r k = I r k := fun r k c d => by
      rw [q2 r k (fun e => by have := c e; omega) d]
      by_cases e : r = 23
      · have := c e
        rw [z_uk (by omega), z_uk (by omega)]
      · rw [z_ur e, z_ur e]
    have f5 : I1 23 5 = nI (hp t) := by rw [q2 23 5 (fun _ => by omega) (by omega), z_uk (by omega), z_ue]
    have f6 : I1 23 6 = I 3 8 := by rw [q2 23 6 (fun _ => by omega) (by omega), z_ue]
    refine wl (α := (Nat → Nat → Int32) × (Nat → Nat → Int64)) (G := fun k a => (F 607 53 [some (.ref 23), some (.int (nI (hp t))), some (.int (nI (k + 1)))] [] (49, pt_G, a.1, a.2))) (P := fun k a => (∀ r j, r ≠ 24 → a.1 r j = I1 r j) ∧ (∀ r j, r ≠ 25 → a.2 r j = L r j) ∧ (∀ l, 0 < l → l ≤ k → a.1 24 l = nI ((fsT h t k).1 l)) ∧ GL h t (fsT h t k).2 k a.2 b mm ord) (Q := fun r => ∃ I' L', r = some (none, (49, pt_G, I', L')) ∧ (∀ r k, (r = 23 → k < 4 ∨ 6 < k) → r ≠ 24 → r ≠ 26 → I' r k = I r k) ∧ (∀ r k, r ≠ 25 → L' r k = L r k) ∧ AH h t I' L' ∧ I' 23 5 = nI (hp t) ∧ I' 23 6 = I 3 8) (n := 2 ^ h 0 1 - 1) (fun k a hk ha go => ?_) (fun a ha => ?_) 0 (I1, pm_ul L 25 0 0) (Nat.zero_le _) ⟨fun _ _ _ => rfl, fun r j hr => z_lr hr, fun l a b => by omega, fun l hl => ?_⟩
    · obtain ⟨J, M⟩ := a
      obtain ⟨j1, j2, j3, j4⟩ := ha
      dsimp only at j1 j2 j3 j4
      have HJ : CH h J := H.of (fun k hk => by rw [j1 3 k (by omega)]; exact f1 3 k (fun e => by omega) (by omega)) (fun r a b k => by rw [j1 r k (by omega)]; exact f1 r k (fun e => by omega) (by omega))
      have AJ : LA h t J b mm lane ord := by
        obtain ⟨a1, a2, a3, a4, a5, a6⟩ := A
        exact ⟨fun i hi => ⟨(a1 i hi).1, (a1 i hi).2.1, by rw [j1 26 _ (by omega)]; exact (a1 i hi).2.2⟩, a2, by rw [j1 23 4 (by omega)]; exact a3, a4, a5, a6⟩
      have hl : k + 1 < 2 ^ h 0 1 := by omega
      have h3 := pc_sub (h 0 1) (by omega) (k + 1) hl
      have h4 := (pc_le (k + 1) (by omega)).2 (by omega)
      have h5 : gs (hp t) (h 0 1 - pc (k + 1)) = ft h t (k + 1) := by rw [gs_hp kt]; rfl
      try dsimp only
      rw [e607_53 hF]
      simp (disch := omega) only [HJ.O, pm_k_i, Option.toList_some, Option.toList_none, List.cons_append, List.nil_append, cond_true, cond_false, ↓reduceIte, reduceCtorEq, z_1, nI_add, z_cl, z_ib, z_lt, z_le, z_eq, z_eq0, z_le0, z_lt0, z_b0, z_b1, z_m1, z_and7, Int32.add_zero, c_allOffices hF W HJ, e607_58 hF, show (k + 1 ≤ 2 ^ h 0 1 - 1) = True from propext ⟨fun _ => trivial, fun _ => by omega⟩]
      rw [show (256 : Int32) = nI 256 from rfl]
      simp (disch := omega) only [HJ.O, pm_k_i, Option.toList_some, Option.toList_none, List.cons_append, List.nil_append, cond_true, cond_false, ↓reduceIte, reduceCtorEq, z_1, nI_add, z_cl, z_ib, z_lt, z_le, z_eq, z_eq0, z_le0, z_lt0, z_b0, z_b1, z_m1, z_and7, Int32.add_zero, show (k + 1 < 256) = True from propext ⟨fun _ => trivial, fun _ => by omega⟩, c_bitCount hF, e607_82 hF, pk_sub, c_get hF hlt, h5, e607_86 hF, c_choose hF W HJ ht AJ hl j4, e607_89 hF]
      refine go (pm_ui J 24 (k + 1) (nI (fc h t (fsT h t k).2 (k + 1))), pm_ul M 25 (k + 1) (lN (pkl b (fun j => (fsT h t (k + 1)).2 (k + 1) (ord j)) mm))) ⟨fun r j hr => by show pm_ui _ _ _ _ _ _ = _; rw [z_ur hr]; exact j1 r j hr, fun r j hr => by show pm_ul _ _ _ _ _ _ = _; rw [z_lr hr]; exact j2 r j hr, fun l a b => ?_, fun l hl => ?_⟩
      · show pm_ui _ _ _ _ _ _ = nI ((fs1 h t k (fsT h t k)).1 l)
        rw [fs1_1]
        unfold up
        by_cases e : l = k + 1
        · subst e; rw [z_ue, if_pos rfl]
        · rw [z_uk e, if_neg e]; exact j3 l a (by omega)
      · show pm_ul _ _ _ _ _ _ = _
        by_cases e : l = k + 1
        · subst e; rw [z_le']
        · rw [z_lk e, j4 l (by omega)]
          congr 1
          exact pkl_congr (fun j _ => ((fs1_2 t k (fsT h t k) l (ord j)).trans (if_neg e)).symm)
    · obtain ⟨J, M⟩ := a
      obtain ⟨j1, j2, j3, j4⟩ := ha
      dsimp only at j1 j2 j3 j4
      have HJ : CH h J := H.of (fun k hk => by rw [j1 3 k (by omega)]; exact f1 3 k (fun e => by omega) (by omega)) (fun r a b k => by rw [j1 r k (by omega)]; exact f1 r k (fun e => by omega) (by omega))
      try dsimp only
      rw [e607_53 hF]
      simp (disch := omega) only [HJ.O, pm_k_i, Option.toList_some, Option.toList_none, List.cons_append, List.nil_append, cond_true, cond_false, ↓reduceIte, reduceCtorEq, z_1, nI_add, z_cl, z_ib, z_lt, z_le, z_eq, z_eq0, z_le0, z_lt0, z_b0, z_b1, z_m1, z_and7, Int32.add_zero, c_allOffices hF W HJ, e607_58 hF, show (2 ^ h 0 1 - 1 + 1 ≤ 2 ^ h 0 1 - 1) = False from propext ⟨fun h => by omega, False.elim⟩]
      refine ⟨J, M, rfl, fun r k c d e => by rw [j1 r k d]; exact f1 r k c e, j2, ⟨fun l a b => j3 l a (by omega), fun l i hl hi => ?_⟩, by rw [j1 23 5 (by omega)]; exact f5, by rw [j1 23 6 (by omega)]; exact f6⟩
      obtain ⟨a1, a2, a3, a4, a5, a6⟩ := A
      obtain ⟨b1, b2, b3⟩ := a1 i hi
      have hcn := fsT_cnt W t (n := 2 ^ h 0 1 - 1) (Nat.le_refl _)
      have hle := fsT_le W t (n := 2 ^ h 0 1 - 1) (Nat.le_refl _) l (t i)
      have hpc := pc_sub (h 0 1) (by omega) l hl
      rw [j4 l (by omega), j1 23 4 (by omega), j1 26 _ (by omega), a3, b3, lane_get a5 (fun j _ => by have := hcn l (ord j) hl; have := a6 (ord j); omega) a4 b1, b2, zl_of (by unfold fgn; omega)]
      rfl
    · have : l = 0 := by omega
      subst this
      show pm_ul L 25 0 0 25 0 = _
      rw [z_le']
      have : pkl b (fun j => (fsT h t 0).2 0 (ord j)) mm = 0 := by
        have : ∀ n, pkl b (fun _ => 0) n = 0 := by
          intro n
          induction n with
          | zero => rfl
          | succ n ih => show pkl b (fun _ => 0) n + 0 * _ = 0; rw [ih, Nat.zero_mul]
        exact this mm
      rw [this]
      rfl
  by_cases c : I 23 5 = nI (hp t)
  · by_cases d : I 23 6 = I 3 8
    · rw [e607_0 hF, if_pos c, if_pos d]
      exact ⟨I, L, rfl, fun _ _ _ _ _ => rfl, fun _ _ _ => rfl, hA c d, c, d⟩
    · exact go (Or.inr d)
  · exact go (Or.inl c)
end
