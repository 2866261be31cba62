/-! ===== the model: tokens ===== -/
section
/-- codes of words -/
def cE (B s : Nat) (x : Nat → Nat) (m : Nat) : Nat := lp (fun i a => B * a + (x i - s)) m 0
theorem cE_inj {B s : Nat} (hB : 256 ≤ B + s * 3) (hs : (B = 32 ∧ s = 96) ∨ (B = 256 ∧ s = 0)) {x y : Nat → Nat} : ∀ m k, (∀ i, i < m → 97 ≤ x i ∧ x i ≤ 122) → (∀ i, i < k → 97 ≤ y i ∧ y i ≤ 122) → (cE B s x m = cE B s y k ↔ m = k ∧ ∀ i, i < m → x i = y i) := by
  intro m
  induction m with
  | zero =>
    intro k hx hy
    cases k with
    | zero => exact ⟨fun _ => ⟨rfl, fun i hi => by omega⟩, fun _ => rfl⟩
    | succ k =>
      refine ⟨fun z => ?_, fun z => by omega⟩
      have z : 0 = B * cE B s y k + (y k - s) := z
      have := hy k (by omega)
      omega
  | succ m ih =>
    intro k hx hy
    cases k with
    | zero =>
      refine ⟨fun z => ?_, fun z => by omega⟩
      have z : B * cE B s x m + (x m - s) = 0 := z
      have := hx m (by omega)
      omega
    | succ k =>
      have i := ih k (fun i hi => hx i (by omega)) (fun i hi => hy i (by omega))
      have a := hx m (by omega)
      have c := hy k (by omega)
      constructor
      · intro z
        have z : B * cE B s x m + (x m - s) = B * cE B s y k + (y k - s) := z
        have e : cE B s x m = cE B s y k ∧ x m = y k := by
          rcases hs with ⟨rfl, rfl⟩ | ⟨rfl, rfl⟩ <;> omega
        obtain ⟨i1, i2⟩ := i.mp e.1
        refine ⟨by omega, fun j hj => ?_⟩
        by_cases q : j = m
        · rw [q, e.2, i1]
        · exact i2 j (by omega)
      · rintro ⟨z1, z2⟩
        have e1 : m = k := by omega
        subst e1
        show B * cE B s x m + (x m - s) = B * cE B s y m + (y m - s)
        rw [i.mpr ⟨rfl, fun j hj => z2 j (by omega)⟩, z2 m (by omega)]
theorem cE_lt {x : Nat → Nat} : ∀ m, (∀ i, i < m → x i ≤ 122) → cE 256 0 x m < 256 ^ m ∧ (0 < m → cE 256 0 x m < 123 * 256 ^ (m - 1)) := by
  intro m
  induction m with
  | zero => exact fun _ => ⟨by show 0 < 1; omega, fun h => by omega⟩
  | succ m ih =>
    intro hx
    obtain ⟨i1, i2⟩ := ih (fun i hi => hx i (by omega))
    have c := hx m (by omega)
    have e : cE 256 0 x (m + 1) = 256 * cE 256 0 x m + (x m - 0) := rfl
    rw [e]
    refine ⟨by rw [Nat.pow_succ]; omega, fun _ => ?_⟩
    rw [Nat.add_sub_cancel]
    cases m with
    | zero => have : cE 256 0 x 0 = 0 := rfl
              rw [this]; show 256 * 0 + (x 0 - 0) < 123 * 1; omega
    | succ m =>
      have := i2 (by omega)
      rw [Nat.add_sub_cancel] at this
      rw [Nat.pow_succ]
      omega
variable {n q f : Nat} {b : Nat → Nat}
theorem wl_c (hn : n ≤ 900) (hq : q ≤ n) : ∀ i, i < wln n b q → 97 ≤ cb n b (q + i) ∧ cb n b (q + i) ≤ 122 := fun i hi => isL_c ((rn_ok isL (b := b) isL_6 hn hq).2.1 i hi).1
theorem e8_E (hw : wln n b q ≤ 8) : e8 n b q = cE 256 0 (fun i => cb n b (q + i)) (wln n b q) := by unfold e8; rw [Nat.min_eq_left hw]; rfl
theorem e58 {p : Nat} (hn : n ≤ 900) (h1 : q ≤ n) (h2 : p ≤ n) (w1 : wln n b q ≤ 8) (w2 : wln n b p ≤ 8) : (e8 n b q = e8 n b p) = (e5 n b q = e5 n b p) := by
  rw [e8_E w1, e8_E w2]
  exact propext ((cE_inj (by omega) (by omega) _ _ (wl_c hn h1) (wl_c hn h2)).trans (cE_inj (B := 32) (s := 96) (by omega) (by omega) _ _ (wl_c hn h1) (wl_c hn h2)).symm)
theorem lwd_c : ∀ k, k < 13 → ∀ i, i < (lwd k).length → 97 ≤ (lwd k).getD i 0 ∧ (lwd k).getD i 0 ≤ 122 := by decide +kernel
theorem e8_kw {k : Nat} (hn : n ≤ 900) (h1 : q ≤ n) (w1 : wln n b q ≤ 8) (hk : k < 13) : (e8 n b q = c8 k) = (e5 n b q = c5 k) := by
  rw [e8_E w1]
  exact propext ((cE_inj (by omega) (by omega) _ _ (wl_c hn h1) (lwd_c k hk)).trans (cE_inj (B := 32) (s := 96) (by omega) (by omega) _ _ (wl_c hn h1) (lwd_c k hk)).symm)
theorem e8_lt (hn : n ≤ 900) (h1 : q ≤ n) (w1 : wln n b q ≤ 8) : e8 n b q < 9223372036854775808 := by
  rw [e8_E w1]
  by_cases c : wln n b q = 0
  · rw [c]; show 0 < _; omega
  · have h := (cE_lt (wln n b q) (fun i hi => (wl_c hn h1 i hi).2)).2 (by omega)
    have p : 256 ^ (wln n b q - 1) ≤ 256 ^ 7 := Nat.pow_le_pow_right (by decide) (by omega)
    omega
theorem c5_inj : ∀ j, j < 13 → ∀ k, k < 13 → c5 j = c5 k → j = k := by decide +kernel
theorem kw_iff {k : Nat} (hk : k < 13) : (kw n b q = some k) = (e5 n b q = c5 k) := by
  refine propext ⟨fun z => (Nat.eq_of_beq_eq_true (ff_some z).2.1).symm, fun z => ?_⟩
  refine ff_of hk (by rw [z, Nat.beq_refl]) (fun i hi => ?_)
  rw [z]
  exact beq_f (fun e => by have := c5_inj i (by omega) k hk e; omega)
theorem c8_lt : ∀ k, k < 13 → c8 k < 9223372036854775808 := by decide +kernel
theorem cI_c {c : Nat} (hb : ∀ i, b i < 256) (hc : c < 256) : (cI n b q = nI c) = (cb n b q = c) := by
  have := hb q
  unfold cI cb
  by_cases d : q < n
  · rw [if_pos d, if_pos d, z_eq (by omega) (by omega)]
  · rw [if_neg d, if_neg d, z_m1' (by omega)]
    exact propext ⟨False.elim, fun z => by omega⟩
theorem cI_lt0 (hb : ∀ i, b i < 256) : (cI n b q < 0) = (n ≤ q) := by
  have := hb q
  unfold cI
  by_cases d : q < n
  · rw [if_pos d, z_lt0 (by omega)]; exact propext ⟨False.elim, fun z => by omega⟩
  · rw [if_neg d]; exact propext ⟨fun _ => by omega, fun _ => by decide⟩
variable {I I' : Nat → Nat → Int32} {L L' : Nat → Nat → Int64}
variable {F : pm_F} {L0 : Nat} {xs : Nat → Int32}
theorem m_isLetter (hF : pm_fix pt_me pt_Sg (pt_R L0 xs) F) {n i : Nat} {b : Nat → Nat} (hb : ∀ i, b i < 256) : (F 1211 0 [some (.int (cI n b i))] [] (81, pt_G, I, L)) = some (some (.int (nI (isL (cb n b i)).toNat)), (81, pt_G, I, L)) := by
  have := hb i
  rw [e1211_0 hF]
  unfold cI cb isL
  by_cases c : i < n
  · rw [if_pos c, if_pos c, show (97 : Int32) = nI 97 from rfl, show (122 : Int32) = nI 122 from rfl]
    simp (disch := omega) only [pm_k_i, Option.toList_some, Option.toList_none, List.cons_append, List.nil_append, cond_true, cond_false, ↓reduceIte, reduceCtorEq, z_1, nI_add, z_cl, z_ib, z_lt, z_le, z_eq, z_eq0, z_le0, z_lt0, z_b0, z_b1, z_m1, z_and7, Int32.add_zero]
    by_cases d : b i < 97
    · rw [if_pos d, decide_eq_false (by omega)]; rfl
    · rw [if_neg d, decide_eq_true (by omega)]
      by_cases e : b i ≤ 122
      · rw [if_pos e, decide_eq_true e]; rfl
      · rw [if_neg e, decide_eq_false e]; rfl
  · rw [if_neg c, if_neg c, if_pos (by decide)]; rfl
theorem m_isDigit (hF : pm_fix pt_me pt_Sg (pt_R L0 xs) F) {n i : Nat} {b : Nat → Nat} (hb : ∀ i, b i < 256) : (F 1212 0 [some (.int (cI n b i))] [] (81, pt_G, I, L)) = some (some (.int (nI (isD (cb n b i)).toNat)), (81, pt_G, I, L)) := by
  have := hb i
  rw [e1212_0 hF]
  unfold cI cb isD
  by_cases c : i < n
  · rw [if_pos c, if_pos c, show (48 : Int32) = nI 48 from rfl, show (57 : Int32) = nI 57 from rfl]
    simp (disch := omega) only [pm_k_i, Option.toList_some, Option.toList_none, List.cons_append, List.nil_append, cond_true, cond_false, ↓reduceIte, reduceCtorEq, z_1, nI_add, z_cl, z_ib, z_lt, z_le, z_eq, z_eq0, z_le0, z_lt0, z_b0, z_b1, z_m1, z_and7, Int32.add_zero]
    by_cases d : b i < 48
    · rw [if_pos d, decide_eq_false (by omega)]; rfl
    · rw [if_neg d, decide_eq_true (by omega)]
      by_cases e : b i ≤ 57
      · rw [if_pos e, decide_eq_true e]; rfl
      · rw [if_neg e, decide_eq_false e]; rfl
  · rw [if_neg c, if_neg c, if_pos (by decide)]; rfl
theorem m_here' (hF : pm_fix pt_me pt_Sg (pt_R L0 xs) F) {n p k : Nat} {b : Nat → Nat} (X : TB n b I) (hp : I 49 3 = nI p) (hi : p + k ≤ 2000) : (F 1210 0 [some (.ref 49), some (.int (nI k))] [] (81, pt_G, I, L)) = some (some (.int (cI n b (p + k))), (81, pt_G, I, L)) := m_here hF X hp hi
theorem m_here0 (hF : pm_fix pt_me pt_Sg (pt_R L0 xs) F) {n p : Nat} {b : Nat → Nat} (X : TB n b I) (hp : I 49 3 = nI p) (hi : p ≤ 2000) : (F 1210 0 [some (.ref 49), some (.int 0)] [] (81, pt_G, I, L)) = some (some (.int (cI n b p)), (81, pt_G, I, L)) := m_here hF (k := 0) X hp hi
theorem TB.of (X : TB n b I) (f1 : I' 49 2 = I 49 2) (f2 : ∀ i, I' 50 i = I 50 i) : TB n b I' := ⟨by rw [f1]; exact X.1, X.2.1, fun i hi => by rw [f2]; exact X.2.2 i hi⟩
def MK (n : Nat) (b : Nat → Nat) (q : Nat) (I : Nat → Nat → Int32) (L : Nat → Nat → Int64) : Prop := I 49 3 = nI (en n b q) ∧ I 49 4 = nI q ∧ I 49 5 = nI (kd n b q) ∧ (kd n b q = 2 → I 49 6 = nI (vl n b q)) ∧ (kd n b q = 1 → I 49 7 = nI (wln n b q) ∧ L 49 12 = lN (e8 n b q))
def GT0 (I I' : Nat → Nat → Int32) (L L' : Nat → Nat → Int64) : Prop := (∀ r j, (r = 49 → j < 3 ∨ 7 < j) → I' r j = I r j) ∧ ∀ r j, (r = 49 → j ≠ 12) → L' r j = L r j
theorem GT0.rf : GT0 I I L L := ⟨fun _ _ _ => rfl, fun _ _ _ => rfl⟩
theorem GT0.tr {I1 I2 I3 : Nat → Nat → Int32} {L1 L2 L3 : Nat → Nat → Int64} (a : GT0 I1 I2 L1 L2) (b : GT0 I2 I3 L2 L3) : GT0 I1 I3 L1 L3 := ⟨fun r j q => (b.1 r j q).trans (a.1 r j q), fun r j q => (b.2 r j q).trans (a.2 r j q)⟩
theorem GT0.tb (a : GT0 I I' L L') (X : TB n b I) : TB n b I' := X.of (a.1 49 2 (by omega)) (fun i => a.1 50 i (by omega))
theorem GT0.u {k : Nat} {v : Int32} (h : 3 ≤ k) (h2 : k ≤ 7) : GT0 I (pm_ui I 49 k v) L L := ⟨fun r j a => by
  by_cases z : r = 49
  · have := a z; rw [z, z_uk (by omega)]
  · rw [z_ur z], fun _ _ _ => rfl⟩
theorem GT0.ul {v : Int64} : GT0 I I L (pm_ul L 49 12 v) := ⟨fun _ _ _ => rfl, fun r j a => by
  by_cases z : r = 49
  · have := a z; rw [z, z_lk this]
  · rw [z_lr z]⟩
theorem m_goOn (hF : pm_fix pt_me pt_Sg (pt_R L0 xs) F) {p : Nat} (hb : ∀ i, b i < 256) (X : TB n b I) (hp : p ≤ n) (h3 : I 49 3 = nI p) : ∃ I' L', (F 1213 0 [some (.ref 49), none, none] [] (81, pt_G, I, L)) = some (none, (81, pt_G, I', L')) ∧ GT0 I I' L L' ∧ MK n b (skp n b p) I' L' := by
  have hn := X.2.1
  obtain ⟨r1, r2, r3⟩ := rn_ok isB (b := b) isB_6 hn hp
  refine wl (Q := fun x => ∃ I' L', x = some (none, (81, pt_G, I', L')) ∧ GT0 I I' L L' ∧ MK n b (skp n b p) I' L') (G := fun k J => (F 1213 0 [some (.ref 49), none, none] [] (81, pt_G, J, L))) (P := fun k J => GT0 I J L L ∧ J 49 3 = nI (p + k)) (n := rn isB n b p) (fun k J hk hJ go => ?_) (fun J hJ => ?_) 0 _ (Nat.zero_le _) ⟨GT0.rf, h3⟩
  · obtain ⟨j1, j2⟩ := hJ
    obtain ⟨a1, a2⟩ := r2 k hk
    have XJ := j1.tb X
    have nx := go (pm_ui J 49 3 (nI (p + k + 1))) ⟨j1.tr (GT0.u (by omega) (by omega)), by rw [z_ue]; rfl⟩
    try dsimp only
    rw [e1213_0 hF]
    simp (disch := omega) only [pm_k_i, Option.toList_some, Option.toList_none, List.cons_append, List.nil_append, cond_true, cond_false, ↓reduceIte, reduceCtorEq, z_1, nI_add, z_cl, z_ib, z_lt, z_le, z_eq, z_eq0, z_le0, z_lt0, z_b0, z_b1, z_m1, z_and7, Int32.add_zero, m_here0 hF XJ j2, e1213_5 hF, e1213_15 hF, j2]
    have c32 : (cI n b (p + k) = 32) = (cb n b (p + k) = 32) := cI_c (c := 32) hb (by omega)
    have c10 : (cI n b (p + k) = 10) = (cb n b (p + k) = 10) := cI_c (c := 10) hb (by omega)
    rcases isB_c a1 with c | c
    · rw [if_pos (by rw [c32]; exact c)]
      exact nx
    · rw [if_neg (by rw [c32, c]; omega), if_pos (by rw [c10]; exact c)]
      exact nx
  · obtain ⟨j1, j2⟩ := hJ
    have XJ := j1.tb X
    have es : skp n b p = p + rn isB n b p := rfl
    rw [es]
    generalize p + rn isB n b p = q at *
    have c32 : (cI n b q = 32) = (cb n b q = 32) := cI_c (c := 32) hb (by omega)
    have c10 : (cI n b q = 10) = (cb n b q = 10) := cI_c (c := 10) hb (by omega)
    have c59 : (cI n b q = 59) = (cb n b q = 59) := cI_c (c := 59) hb (by omega)
    have b1 : ¬ cb n b q = 32 := fun z => by rw [z] at r3; cases r3
    have b2 : ¬ cb n b q = 10 := fun z => by rw [z] at r3; cases r3
    have j1K : GT0 I (pm_ui (pm_ui (pm_ui J 49 4 (nI q)) 49 6 0) 49 7 0) L (pm_ul L 49 12 0) := j1.tr (((((GT0.u (L := L) (by omega) (by omega)).tr (GT0.u (by omega) (by omega))).tr (GT0.u (by omega) (by omega)))).tr GT0.ul)
    have k3 : (pm_ui (pm_ui (pm_ui J 49 4 (nI q)) 49 6 0) 49 7 0) 49 3 = nI q := by rw [z_uk (by omega), z_uk (by omega), z_uk (by omega)]; exact j2
    have k4 : (pm_ui (pm_ui (pm_ui J 49 4 (nI q)) 49 6 0) 49 7 0) 49 4 = nI q := by rw [z_uk (by omega), z_uk (by omega), z_ue]
    have k6 : (pm_ui (pm_ui (pm_ui J 49 4 (nI q)) 49 6 0) 49 7 0) 49 6 = nI 0 := by rw [z_uk (by omega), z_ue]; rfl
    have k12 : pm_ul L 49 12 0 49 12 = lN 0 := z_le'
    try dsimp only
    rw [e1213_0 hF]
    simp (disch := omega) only [pm_k_i, Option.toList_some, Option.toList_none, List.cons_append, List.nil_append, cond_true, cond_false, ↓reduceIte, reduceCtorEq, z_1, nI_add, z_cl, z_ib, z_lt, z_le, z_eq, z_eq0, z_le0, z_lt0, z_b0, z_b1, z_m1, z_and7, Int32.add_zero, m_here0 hF XJ j2, e1213_5 hF, e1213_15 hF, j2, c32, b1, c10, b2]
    generalize pm_ui (pm_ui (pm_ui J 49 4 (nI q)) 49 6 0) 49 7 0 = K at *
    generalize pm_ul L 49 12 0 = M at *
    have XK := j1K.tb X
    have i1 := m_isLetter (I := K) (L := M) (n := n) (i := q) hF hb
    have i2 := m_isDigit (I := K) (L := M) (n := n) (i := q) hF hb
    simp (disch := omega) only [pm_k_i, Option.toList_some, Option.toList_none, List.cons_append, List.nil_append, cond_true, cond_false, ↓reduceIte, reduceCtorEq, z_1, nI_add, z_cl, z_ib, z_lt, z_le, z_eq, z_eq0, z_le0, z_lt0, z_b0, z_b1, z_m1, z_and7, Int32.add_zero, m_here0 hF XK k3, e1213_61 hF, cI_lt0 hb]
    by_cases c : n ≤ q
    · rw [if_pos c]
      have ek : kd n b q = 0 := by unfold kd; rw [if_pos c]
      have ee : en n b q = q := by unfold en; rw [if_pos c]
      exact ⟨_, _, rfl, j1K.tr (GT0.u (by omega) (by omega)), by rw [z_uk (by omega), ee]; exact k3, by rw [z_uk (by omega)]; exact k4, by rw [z_ue, ek]; rfl, fun z => by omega, fun z => by omega⟩
    · rw [if_neg c]
      simp (disch := omega) only [pm_k_i, Option.toList_some, Option.toList_none, List.cons_append, List.nil_append, cond_true, cond_false, ↓reduceIte, reduceCtorEq, z_1, nI_add, z_cl, z_ib, z_lt, z_le, z_eq, z_eq0, z_le0, z_lt0, z_b0, z_b1, z_m1, z_and7, Int32.add_zero, i1, e1213_78 hF]
      cases x : isL (cb n b q) with
      | true =>
        obtain ⟨w1, w2, w3⟩ := rn_ok isL (b := b) isL_6 hn r1
        have eR : rn isL n b q = wln n b q := rfl
        rw [eR] at w1 w2 w3
        have ek : kd n b q = if wln n b q ≤ 8 then 1 else 4 := by unfold kd; rw [if_neg c, x]; rfl
        have ee : en n b q = q + wln n b q := by unfold en; rw [if_neg c, x]; rfl
        simp (disch := omega) only [pm_k_i, Option.toList_some, Option.toList_none, List.cons_append, List.nil_append, cond_true, cond_false, ↓reduceIte, reduceCtorEq, z_1, nI_add, z_cl, z_ib, z_lt, z_le, z_eq, z_eq0, z_le0, z_lt0, z_b0, z_b1, z_m1, z_and7, Int32.add_zero]
        refine wl (α := (Nat → Nat → Int32) × (Nat → Nat → Int64)) (Q := fun y => ∃ I' L', y = some (none, (81, pt_G, I', L')) ∧ GT0 I I' L L' ∧ MK n b q I' L') (G := fun k N => (F 1213 81 [some (.ref 49), some (.int (cI n b q)), some (.int (nI k))] [] (81, pt_G, N.1, N.2))) (P := fun k N => GT0 I N.1 L N.2 ∧ N.1 49 3 = nI q ∧ N.1 49 4 = nI q ∧ N.2 49 12 = lN (cE 256 0 (fun i => cb n b (q + i)) (min k 8))) (n := wln n b q) (fun k N hk hN go => ?_) (fun N hN => ?_) 0 (K, M) (Nat.zero_le _) ⟨j1K, k3, k4, k12⟩
        · obtain ⟨n1, n2, n3, n4⟩ := hN
          obtain ⟨a1, a2⟩ := w2 k hk
          obtain ⟨a3, a4⟩ := isL_c a1
          have XN := n1.tb X
          have il := m_isLetter (I := N.1) (L := N.2) (n := n) (i := q + k) hF hb
          try dsimp only
          rw [e1213_81 hF]
          simp (disch := omega) only [pm_k_i, Option.toList_some, Option.toList_none, List.cons_append, List.nil_append, cond_true, cond_false, ↓reduceIte, reduceCtorEq, z_1, nI_add, z_cl, z_ib, z_lt, z_le, z_eq, z_eq0, z_le0, z_lt0, z_b0, z_b1, z_m1, z_and7, Int32.add_zero, m_here' hF XN n2, e1213_86 hF, il, a1, e1213_89 hF]
          by_cases d : k < 8
          · have dk : (nI k < 8) = (k < 8) := z_lt (b := 8) (by omega) (by omega)
            have bd := (cE_lt (x := fun i => cb n b (q + i)) k (fun i hi => (isL_c (w2 i (by omega)).1).2)).1
            have p7 : 256 ^ k ≤ 256 ^ 7 := Nat.pow_le_pow_right (by decide) (by omega)
            have sh : (lN (cE 256 0 (fun i => cb n b (q + i)) k) <<< ((8 : Int32).toInt64 &&& 63)) = lN (cE 256 0 (fun i => cb n b (q + i)) k * 256) := wb_shl (k := 8) _ (by omega)
            have orr : lN (cE 256 0 (fun i => cb n b (q + i)) k * 256) ||| lN (cb n b (q + k)) = lN (cE 256 0 (fun i => cb n b (q + i)) k * 256 + cb n b (q + k)) := g_or (k := 8) (by decide) (by omega) (by omega)
            rw [Nat.min_eq_left (by omega)] at n4
            rw [if_pos (by rw [dk]; exact d)]
            simp (disch := omega) only [pm_k_i, Option.toList_some, Option.toList_none, List.cons_append, List.nil_append, cond_true, cond_false, ↓reduceIte, reduceCtorEq, z_1, nI_add, z_cl, z_ib, z_lt, z_le, z_eq, z_eq0, z_le0, z_lt0, z_b0, z_b1, z_m1, z_and7, Int32.add_zero, m_here' hF XN n2, e1213_111 hF, cI_at a2, n4, zl_of]
            rw [sh, orr]
            have l1 : pm_ul N.2 49 12 (lN (cE 256 0 (fun i => cb n b (q + i)) k * 256 + cb n b (q + k))) 49 12 = lN (cE 256 0 (fun i => cb n b (q + i)) (min (k + 1) 8)) := by
              rw [z_le', Nat.min_eq_left (by omega), Nat.mul_comm]; rfl
            exact go (N.1, pm_ul N.2 49 12 (lN (cE 256 0 (fun i => cb n b (q + i)) k * 256 + cb n b (q + k)))) ⟨n1.tr GT0.ul, n2, n3, l1⟩
          · have dk : (nI k < 8) = (k < 8) := z_lt (b := 8) (by omega) (by omega)
            rw [if_neg (by rw [dk]; exact d)]
            exact go N ⟨n1, n2, n3, by rw [n4, Nat.min_eq_right (by omega), Nat.min_eq_right (by omega)]⟩
        · obtain ⟨n1, n2, n3, n4⟩ := hN
          have XN := n1.tb X
          have il := m_isLetter (I := N.1) (L := N.2) (n := n) (i := q + wln n b q) hF hb
          have dk : (nI (wln n b q) ≤ 8) = (wln n b q ≤ 8) := z_le (b := 8) (by omega) (by omega)
          have done : ∀ m, m = kd n b q → GT0 I (pm_ui (pm_ui (pm_ui N.1 49 7 (nI (wln n b q))) 49 5 (nI m)) 49 3 (nI (q + wln n b q))) L N.2 ∧ MK n b q (pm_ui (pm_ui (pm_ui N.1 49 7 (nI (wln n b q))) 49 5 (nI m)) 49 3 (nI (q + wln n b q))) N.2 := by
            intro m hm
            have km : m = 1 ∨ m = 4 := by rw [hm, ek]; split <;> omega
            refine ⟨n1.tr (((GT0.u (L := N.2) (by omega) (by omega)).tr (GT0.u (by omega) (by omega))).tr (GT0.u (by omega) (by omega))), by rw [z_ue, ee], ?_, ?_, fun z => by omega, fun z => ⟨?_, ?_⟩⟩
            · rw [z_uk (by omega), z_uk (by omega), z_uk (by omega)]; exact n3
            · rw [z_uk (by omega), z_ue, hm]
            · rw [z_uk (by omega), z_uk (by omega), z_ue]
            · have h8 := (kd_1 z).2.1
              rw [n4, e8_E h8, Nat.min_eq_left h8]
          try dsimp only
          rw [e1213_81 hF]
          simp (disch := omega) only [pm_k_i, Option.toList_some, Option.toList_none, List.cons_append, List.nil_append, cond_true, cond_false, ↓reduceIte, reduceCtorEq, z_1, nI_add, z_cl, z_ib, z_lt, z_le, z_eq, z_eq0, z_le0, z_lt0, z_b0, z_b1, z_m1, z_and7, Int32.add_zero, m_here' hF XN n2, e1213_86 hF, il, w3, e1213_89 hF, n2]
          by_cases d : wln n b q ≤ 8
          · rw [if_pos d] at ek
            rw [if_pos (by rw [dk]; exact d)]
            exact ⟨_, _, rfl, done 1 ek.symm⟩
          · rw [if_neg d] at ek
            rw [if_neg (by rw [dk]; exact d)]
            exact ⟨_, _, rfl, done 4 ek.symm⟩
      | false =>
        simp (disch := omega) only [pm_k_i, Option.toList_some, Option.toList_none, List.cons_append, List.nil_append, cond_true, cond_false, ↓reduceIte, reduceCtorEq, z_1, nI_add, z_cl, z_ib, z_lt, z_le, z_eq, z_eq0, z_le0, z_lt0, z_b0, z_b1, z_m1, z_and7, Int32.add_zero, i2, e1213_149 hF]
        cases y : isD (cb n b q) with
        | false =>
          have ek : kd n b q = if cb n b q = 59 then 3 else 4 := by unfold kd; rw [if_neg c, x, y]; rfl
          have ee : en n b q = q + 1 := by unfold en; rw [if_neg c, x, y]; rfl
          have done : ∀ m, m = kd n b q → GT0 I (pm_ui (pm_ui K 49 5 (nI m)) 49 3 (nI (q + 1))) L M ∧ MK n b q (pm_ui (pm_ui K 49 5 (nI m)) 49 3 (nI (q + 1))) M := by
            intro m hm
            have km : m = 3 ∨ m = 4 := by rw [hm, ek]; split <;> omega
            refine ⟨j1K.tr ((GT0.u (L := M) (by omega) (by omega)).tr (GT0.u (by omega) (by omega))), by rw [z_ue, ee], ?_, ?_, fun z => by omega, fun z => by omega⟩
            · rw [z_uk (by omega), z_uk (by omega)]; exact k4
            · rw [z_uk (by omega), z_ue, hm]
          simp (disch := omega) only [pm_k_i, Option.toList_some, Option.toList_none, List.cons_append, List.nil_append, cond_true, cond_false, ↓reduceIte, reduceCtorEq, z_1, nI_add, z_cl, z_ib, z_lt, z_le, z_eq, z_eq0, z_le0, z_lt0, z_b0, z_b1, z_m1, z_and7, Int32.add_zero, k3, c59]
          by_cases z : cb n b q = 59
          · rw [if_pos z] at ek ⊢
            exact ⟨_, _, rfl, done 3 ek.symm⟩
          · rw [if_neg z] at ek ⊢
            exact ⟨_, _, rfl, done 4 ek.symm⟩
        | true =>
          obtain ⟨w1, w2, w3⟩ := rn_ok isD (b := b) isD_6 hn r1
          have eR : rn isD n b q = dln n b q := rfl
          rw [eR] at w1 w2 w3
          have ek : kd n b q = if dln n b q ≤ 3 then (bif isL (cb n b (q + dln n b q)) then 4 else 2) else 4 := by unfold kd; rw [if_neg c, x, y]; rfl
          have ee : en n b q = q + dln n b q := by unfold en; rw [if_neg c, x, y]; rfl
          simp (disch := omega) only [pm_k_i, Option.toList_some, Option.toList_none, List.cons_append, List.nil_append, cond_true, cond_false, ↓reduceIte, reduceCtorEq, z_1, nI_add, z_cl, z_ib, z_lt, z_le, z_eq, z_eq0, z_le0, z_lt0, z_b0, z_b1, z_m1, z_and7, Int32.add_zero]
          refine wl (Q := fun y => ∃ I' L', y = some (none, (81, pt_G, I', L')) ∧ GT0 I I' L L' ∧ MK n b q I' L') (G := fun k N => (F 1213 152 [some (.ref 49), some (.int (cI n b q)), some (.int (nI k))] [] (81, pt_G, N, M))) (P := fun k N => GT0 I N L M ∧ N 49 3 = nI q ∧ N 49 4 = nI q ∧ N 49 6 = nI (lp (fun k a => 10 * a + (cb n b (q + k) - 48)) (min k 3) 0)) (n := dln n b q) (fun k N hk hN go => ?_) (fun N hN => ?_) 0 K (Nat.zero_le _) ⟨j1K, k3, k4, k6⟩
          · obtain ⟨n1, n2, n3, n4⟩ := hN
            obtain ⟨a1, a2⟩ := w2 k hk
            obtain ⟨a3, a4⟩ := isD_c a1
            have XN := n1.tb X
            have il := m_isDigit (I := N) (L := M) (n := n) (i := q + k) hF hb
            have dk : (nI k < 3) = (k < 3) := z_lt (b := 3) (by omega) (by omega)
            try dsimp only
            rw [e1213_152 hF]
            simp (disch := omega) only [pm_k_i, Option.toList_some, Option.toList_none, List.cons_append, List.nil_append, cond_true, cond_false, ↓reduceIte, reduceCtorEq, z_1, nI_add, z_cl, z_ib, z_lt, z_le, z_eq, z_eq0, z_le0, z_lt0, z_b0, z_b1, z_m1, z_and7, Int32.add_zero, m_here' hF XN n2, e1213_157 hF, il, a1, e1213_160 hF]
            by_cases d : k < 3
            · rw [Nat.min_eq_left (by omega)] at n4
              rw [if_pos (by rw [dk]; exact d)]
              simp (disch := omega) only [pm_k_i, Option.toList_some, Option.toList_none, List.cons_append, List.nil_append, cond_true, cond_false, ↓reduceIte, reduceCtorEq, z_1, nI_add, z_cl, z_ib, z_lt, z_le, z_eq, z_eq0, z_le0, z_lt0, z_b0, z_b1, z_m1, z_and7, Int32.add_zero, m_here' hF XN n2, e1213_181 hF, cI_at a2, n4, z_10m]
              have sb : nI (10 * lp (fun k a => 10 * a + (cb n b (q + k) - 48)) k 0 + cb n b (q + k)) - 48 = nI (10 * lp (fun k a => 10 * a + (cb n b (q + k) - 48)) k 0 + (cb n b (q + k) - 48)) := by
                rw [show (48 : Int32) = nI 48 from rfl, pk_sub (by omega)]
                congr 1
                omega
              rw [sb]
              refine go _ ⟨n1.tr (GT0.u (by omega) (by omega)), by rw [z_uk (by omega)]; exact n2, by rw [z_uk (by omega)]; exact n3, ?_⟩
              rw [z_ue, Nat.min_eq_left (by omega)]
              rfl
            · rw [if_neg (by rw [dk]; exact d)]
              exact go N ⟨n1, n2, n3, by rw [n4, Nat.min_eq_right (by omega), Nat.min_eq_right (by omega)]⟩
          · obtain ⟨n1, n2, n3, n4⟩ := hN
            have XN := n1.tb X
            have il := m_isDigit (I := N) (L := M) (n := n) (i := q + dln n b q) hF hb
            have i3 := m_isLetter (I := N) (L := M) (n := n) (i := q + dln n b q) hF hb
            have dk : (nI (dln n b q) ≤ 3) = (dln n b q ≤ 3) := z_le (b := 3) (by omega) (by omega)
            have done : ∀ m, m = kd n b q → GT0 I (pm_ui (pm_ui N 49 5 (nI m)) 49 3 (nI (q + dln n b q))) L M ∧ MK n b q (pm_ui (pm_ui N 49 5 (nI m)) 49 3 (nI (q + dln n b q))) M := by
              intro m hm
              refine ⟨n1.tr ((GT0.u (L := M) (by omega) (by omega)).tr (GT0.u (by omega) (by omega))), by rw [z_ue, ee], ?_, ?_, fun z => ?_, fun z => ?_⟩
              · rw [z_uk (by omega), z_uk (by omega)]; exact n3
              · rw [z_uk (by omega), z_ue, hm]
              · rw [z_uk (by omega), z_uk (by omega), n4, Nat.min_eq_left (kd_2 z).1]; rfl
              · have := (kd_1 z).1; rw [x] at this; cases this
            try dsimp only
            rw [e1213_152 hF]
            simp (disch := omega) only [pm_k_i, Option.toList_some, Option.toList_none, List.cons_append, List.nil_append, cond_true, cond_false, ↓reduceIte, reduceCtorEq, z_1, nI_add, z_cl, z_ib, z_lt, z_le, z_eq, z_eq0, z_le0, z_lt0, z_b0, z_b1, z_m1, z_and7, Int32.add_zero, m_here' hF XN n2, e1213_157 hF, il, w3, e1213_160 hF, e1213_205 hF, i3, e1213_208 hF, n2]
            by_cases d : dln n b q ≤ 3
            · rw [if_pos d] at ek
              rw [if_pos (by rw [dk]; exact d)]
              cases v : isL (cb n b (q + dln n b q)) with
              | true =>
                rw [v] at ek
                simp (disch := omega) only [pm_k_i, Option.toList_some, Option.toList_none, List.cons_append, List.nil_append, cond_true, cond_false, ↓reduceIte, reduceCtorEq, z_1, nI_add, z_cl, z_ib, z_lt, z_le, z_eq, z_eq0, z_le0, z_lt0, z_b0, z_b1, z_m1, z_and7, Int32.add_zero]
                exact ⟨_, _, rfl, done 4 ek.symm⟩
              | false =>
                rw [v] at ek
                simp (disch := omega) only [pm_k_i, Option.toList_some, Option.toList_none, List.cons_append, List.nil_append, cond_true, cond_false, ↓reduceIte, reduceCtorEq, z_1, nI_add, z_cl, z_ib, z_lt, z_le, z_eq, z_eq0, z_le0, z_lt0, z_b0, z_b1, z_m1, z_and7, Int32.add_zero]
                exact ⟨_, _, rfl, done 2 ek.symm⟩
            · rw [if_neg d] at ek
              rw [if_neg (by rw [dk]; exact d)]
              exact ⟨_, _, rfl, done 4 ek.symm⟩
end
