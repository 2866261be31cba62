/-! ===== the class reads: what must stand where ===== -/
section
variable {I I' : Nat → Nat → Int32} {L L' : Nat → Nat → Int64}
variable {F : pm_F} {L0 : Nat} {xs : Nat → Int32}
variable {n q f : Nat} {b : Nat → Nat}
/-- the next token's place; faults -/
def aq (n : Nat) (b : Nat → Nat) (q f : Nat) : Nat := if f = 0 then skp n b (en n b q) else q
def fk (f k : Nat) : Nat := if f = 0 then k else f
def fk2 (n : Nat) (b : Nat → Nat) (q k : Nat) : Nat := if kd n b q = 4 then 1 else k
def oN (n : Nat) (b : Nat → Nat) (lo hi q f : Nat) : Nat := if f = 0 then (if kd n b q = 2 then (if lo ≤ vl n b q ∧ vl n b q ≤ hi then 0 else 4) else fk2 n b q 2) else f
def oS (n : Nat) (b : Nat → Nat) (q f : Nat) : Nat := if f = 0 then (if kd n b q = 3 then 0 else fk2 n b q 2) else f
def oW (n : Nat) (b : Nat → Nat) (k q f : Nat) : Nat := if f = 0 then (if kd n b q = 1 ∧ kw n b q = some k then 0 else fk2 n b q 2) else f
def oA (n : Nat) (b : Nat → Nat) (q f : Nat) : Nat := if f = 0 then (if kd n b q = 1 ∧ kw n b q = none ∧ wln n b q ≤ 6 then 0 else fk2 n b q 2) else f
/-- the class at a token -/
def CP (n : Nat) (b : Nat → Nat) (q f : Nat) (I : Nat → Nat → Int32) (L : Nat → Nat → Int64) : Prop := TC n b I ∧ LG L ∧ q ≤ n ∧ I 10 8 = nI f ∧ I 10 9 = (if f = 0 then -1 else nI q) ∧ (f = 0 → CK n b q I L) ∧ f ≤ 5
/-- what reading may write -/
def FP (I I' : Nat → Nat → Int32) (L L' : Nat → Nat → Int64) : Prop := (∀ r j, (r = 10 → j < 8) → I' r j = I r j) ∧ ∀ r j, (r = 10 → j ≠ 14) → L' r j = L r j
theorem FP.rf : FP I I L L := ⟨fun _ _ _ => rfl, fun _ _ _ => rfl⟩
theorem FP.tr {I1 I2 I3 : Nat → Nat → Int32} {L1 L2 L3 : Nat → Nat → Int64} (a : FP I1 I2 L1 L2) (b : FP I2 I3 L2 L3) : FP I1 I3 L1 L3 := ⟨fun r j q => (b.1 r j q).trans (a.1 r j q), fun r j q => (b.2 r j q).trans (a.2 r j q)⟩
theorem FT0.fp (a : FT0 I I' L L') : FP I I' L L' := ⟨fun r j q => a.1 r j (fun z => by have := q z; omega), a.2⟩
theorem LG.of (G : LG L) (f : ∀ k, L' 18 k = L 18 k) : LG L' := fun k hk => by rw [f]; exact G k hk
theorem fk2_le (k : Nat) (hk : k ≤ 5) : fk2 n b q k ≤ 5 := by unfold fk2; split <;> omega
theorem aq_le (hn : n ≤ 900) (hq : q ≤ n) (f : Nat) : q ≤ aq n b q f ∧ aq n b q f ≤ n := by
  unfold aq
  by_cases c : f = 0
  · rw [if_pos c]
    have e := en_le (b := b) hn hq
    have s := skp_le (b := b) hn e.2.1
    omega
  · rw [if_neg c]; omega
theorem c_adv (hF : pm_fix pt_me pt_Sg (pt_R L0 xs) F) (hb : ∀ i, b i < 256) (X : CP n b q f I L) : ∃ I' L', (F 721 0 [some (.ref 10), none] [] (49, pt_G, I, L)) = some (none, (49, pt_G, I', L')) ∧ FP I I' L L' ∧ CP n b (aq n b q f) f I' L' := by
  obtain ⟨x1, x2, x3, x4, x5, x6, x7⟩ := X
  have hn := x1.2.1
  by_cases c : f = 0
  · subst c
    have ck := x6 rfl
    have e := en_le (b := b) hn x3
    have s := skp_le (b := b) hn e.2.1
    obtain ⟨N, K, n1, n2, n3⟩ := c_advance hF x2 hb x1 e.2.1 x4 ck.1
    have ea : aq n b q 0 = skp n b (en n b q) := if_pos rfl
    rw [ea]
    exact ⟨N, K, n1, n2.fp, n2.tc x1, x2.of (fun k => n2.2 18 k (by omega)), s.2, by rw [n2.1 10 8 (by omega)]; exact x4, by rw [n2.1 10 9 (by omega), if_pos rfl]; rw [if_pos rfl] at x5; exact x5, fun _ => n3, x7⟩
  · have ea : aq n b q f = q := if_neg c
    rw [ea]
    refine ⟨I, L, ?_, FP.rf, x1, x2, x3, x4, x5, x6, x7⟩
    rw [e721_0 hF, x4]
    simp (disch := omega) only [pm_k_i, Option.toList_some, Option.toList_none, List.cons_append, List.nil_append, cond_true, cond_false, ↓reduceIte, reduceCtorEq, z_1, nI_add, z_cl, z_ib, z_lt, z_le, z_eq, z_eq0, z_le0, z_lt0, z_b0, z_b1, z_m1, z_and7, Int32.add_zero, c]
theorem c_fail (hF : pm_fix pt_me pt_Sg (pt_R L0 xs) F) (X : CP n b q f I L) {k : Nat} (k0 : 0 < k) (k5 : k ≤ 5) : ∃ I', (F 704 0 [some (.ref 10), some (.int (nI k))] [] (49, pt_G, I, L)) = some (none, (49, pt_G, I', L)) ∧ FP I I' L L ∧ CP n b q (fk f k) I' L := by
  obtain ⟨x1, x2, x3, x4, x5, x6, x7⟩ := X
  rw [e704_0 hF, x4]
  unfold fk
  by_cases c : f = 0
  · subst c
    have ck := x6 rfl
    simp (disch := omega) only [pm_k_i, Option.toList_some, Option.toList_none, List.cons_append, List.nil_append, cond_true, cond_false, ↓reduceIte, reduceCtorEq, z_1, nI_add, z_cl, z_ib, z_lt, z_le, z_eq, z_eq0, z_le0, z_lt0, z_b0, z_b1, z_m1, z_and7, Int32.add_zero]
    refine ⟨_, rfl, ⟨fun r j a => ?_, fun _ _ _ => rfl⟩, x1.of (by rw [z_ur (by omega), z_ur (by omega)]) (fun i => by rw [z_ur (by omega), z_ur (by omega)]), x2, x3, by rw [z_uk (by omega), z_ue], by rw [z_ue, if_neg (by omega)]; exact ck.2.1, fun z => by omega, k5⟩
    by_cases z : r = 10
    · have := a z; rw [z, z_uk (by omega), z_uk (by omega)]
    · rw [z_ur z, z_ur z]
  · rw [if_neg c]
    simp (disch := omega) only [pm_k_i, Option.toList_some, Option.toList_none, List.cons_append, List.nil_append, cond_true, cond_false, ↓reduceIte, reduceCtorEq, z_1, nI_add, z_cl, z_ib, z_lt, z_le, z_eq, z_eq0, z_le0, z_lt0, z_b0, z_b1, z_m1, z_and7, Int32.add_zero, c]
    exact ⟨I, rfl, FP.rf, x1, x2, x3, x4, x5, x6, x7⟩
theorem c_failToken (hF : pm_fix pt_me pt_Sg (pt_R L0 xs) F) (X : CP n b q f I L) : ∃ I', (F 705 0 [some (.ref 10)] [] (49, pt_G, I, L)) = some (none, (49, pt_G, I', L)) ∧ FP I I' L L ∧ CP n b q (fk f (fk2 n b q 2)) I' L := by
  obtain ⟨A, a1, a2, a3⟩ := c_fail (I := I) (L := L) hF X (k := 1) (by omega) (by omega)
  obtain ⟨B, b1, b2, b3⟩ := c_fail (I := I) (L := L) hF X (k := 2) (by omega) (by omega)
  have a1 : (F 704 0 [some (.ref 10), some (.int 1)] [] (49, pt_G, I, L)) = _ := a1
  have b1 : (F 704 0 [some (.ref 10), some (.int 2)] [] (49, pt_G, I, L)) = _ := b1
  rw [e705_0 hF, a1, b1]
  simp (disch := omega) only [pm_k_i, Option.toList_some, Option.toList_none, List.cons_append, List.nil_append, cond_true, cond_false, ↓reduceIte, reduceCtorEq, z_1, nI_add, z_cl, z_ib, z_lt, z_le, z_eq, z_eq0, z_le0, z_lt0, z_b0, z_b1, z_m1, z_and7, Int32.add_zero, e705_17 hF]
  by_cases c : f = 0
  · have ck := X.2.2.2.2.2.1 c
    have kl := kd_le (n := n) (b := b) (q := q)
    have dk : (nI (kd n b q) = 4) = (kd n b q = 4) := z_eq (b := 4) (by omega) (by omega)
    rw [ck.2.2.1]
    unfold fk2
    by_cases d : kd n b q = 4
    · rw [if_pos (by rw [dk]; exact d), if_pos d]; exact ⟨A, rfl, a2, a3⟩
    · rw [if_neg (by rw [dk]; exact d), if_neg d]; exact ⟨B, rfl, b2, b3⟩
  · have e1 : ∀ k, fk f k = f := fun k => if_neg c
    rw [e1] at a3 b3 ⊢
    by_cases d : I 10 12 = 4
    · rw [if_pos d]; exact ⟨A, rfl, a2, a3⟩
    · rw [if_neg d]; exact ⟨B, rfl, b2, b3⟩
theorem c_readNumber (hF : pm_fix pt_me pt_Sg (pt_R L0 xs) F) (hb : ∀ i, b i < 256) (X : CP n b q f I L) {lo hi : Nat} (h1 : lo < 1000) (h2 : hi < 1000) : ∃ I' L' x, (F 714 0 [some (.ref 10), some (.int (nI lo)), some (.int (nI hi))] [] (49, pt_G, I, L)) = some (some (.int x), (49, pt_G, I', L')) ∧ FP I I' L L' ∧ CP n b (aq n b q f) (oN n b lo hi (aq n b q f) f) I' L' ∧ (oN n b lo hi (aq n b q f) f = 0 → x = nI (vl n b (aq n b q f))) := by
  obtain ⟨J, K, j1, j2, j3⟩ := c_adv hF hb X
  rw [e714_0 hF, j1]
  simp (disch := omega) only [pm_k_i, Option.toList_some, Option.toList_none, List.cons_append, List.nil_append, cond_true, cond_false, ↓reduceIte, reduceCtorEq, z_1, nI_add, z_cl, z_ib, z_lt, z_le, z_eq, z_eq0, z_le0, z_lt0, z_b0, z_b1, z_m1, z_and7, Int32.add_zero, e714_4 hF]
  generalize aq n b q f = p at *
  obtain ⟨A, a1, a2, a3⟩ := c_fail hF j3 (k := 4) (by omega) (by omega)
  have a1 : (F 704 0 [some (.ref 10), some (.int 4)] [] (49, pt_G, J, K)) = _ := a1
  obtain ⟨B, b1, b2, b3⟩ := c_failToken hF j3
  rw [a1, b1]
  simp (disch := omega) only [pm_k_i, Option.toList_some, Option.toList_none, List.cons_append, List.nil_append, cond_true, cond_false, ↓reduceIte, reduceCtorEq, z_1, nI_add, z_cl, z_ib, z_lt, z_le, z_eq, z_eq0, z_le0, z_lt0, z_b0, z_b1, z_m1, z_and7, Int32.add_zero, e714_16 hF, e714_40 hF]
  by_cases c : f = 0
  · have ck := j3.2.2.2.2.2.1 c
    have kl := kd_le (n := n) (b := b) (q := p)
    have e1 : ∀ k, fk f k = k := fun k => if_pos c
    rw [e1] at a3 b3
    have eo : oN n b lo hi p f = if kd n b p = 2 then (if lo ≤ vl n b p ∧ vl n b p ≤ hi then 0 else 4) else fk2 n b p 2 := if_pos c
    have dk : (nI (kd n b p) = 2) = (kd n b p = 2) := z_eq (b := 2) (by omega) (by omega)
    rw [eo, ck.2.2.1]
    by_cases d : kd n b p = 2
    · rw [if_pos (by rw [dk]; exact d), if_pos d]
      have v := ck.2.2.2.2.1 d
      have vb := vl_le j3.1.2.1 j3.2.2.1 (kd_2 d).1
      have vA : A 10 13 = nI (vl n b p) → A 10 13 = nI (vl n b p) := id
      rw [v]
      simp (disch := omega) only [pm_k_i, Option.toList_some, Option.toList_none, List.cons_append, List.nil_append, cond_true, cond_false, ↓reduceIte, reduceCtorEq, z_1, nI_add, z_cl, z_ib, z_lt, z_le, z_eq, z_eq0, z_le0, z_lt0, z_b0, z_b1, z_m1, z_and7, Int32.add_zero]
      by_cases u : vl n b p < lo
      · rw [if_pos u, if_neg (by omega)]
        exact ⟨A, K, _, rfl, j2.tr a2, a3, fun z => by omega⟩
      · rw [if_neg u]
        by_cases w : vl n b p ≤ hi
        · rw [if_pos w, if_pos (by omega)]
          subst c
          exact ⟨J, K, _, rfl, j2, j3, fun _ => rfl⟩
        · rw [if_neg w, if_neg (by omega)]
          exact ⟨A, K, _, rfl, j2.tr a2, a3, fun z => by omega⟩
    · rw [if_neg (by rw [dk]; exact d), if_neg d]
      refine ⟨B, K, _, rfl, j2.tr b2, b3, fun z => ?_⟩
      unfold fk2 at z
      split at z <;> omega
  · have e1 : ∀ k, fk f k = f := fun k => if_neg c
    rw [e1] at a3 b3
    have eo : oN n b lo hi p f = f := if_neg c
    rw [eo]
    by_cases d : J 10 12 = 2
    · rw [if_pos d]
      by_cases u : J 10 13 < nI lo
      · rw [if_pos u]; exact ⟨A, K, _, rfl, j2.tr a2, a3, fun z => absurd z c⟩
      · rw [if_neg u]
        by_cases w : J 10 13 ≤ nI hi
        · rw [if_pos w]; exact ⟨J, K, _, rfl, j2, j3, fun z => absurd z c⟩
        · rw [if_neg w]; exact ⟨A, K, _, rfl, j2.tr a2, a3, fun z => absurd z c⟩
    · rw [if_neg d]; exact ⟨B, K, _, rfl, j2.tr b2, b3, fun z => absurd z c⟩
theorem c_readSign (hF : pm_fix pt_me pt_Sg (pt_R L0 xs) F) (hb : ∀ i, b i < 256) (X : CP n b q f I L) : ∃ I' L', (F 715 0 [some (.ref 10)] [] (49, pt_G, I, L)) = some (none, (49, pt_G, I', L')) ∧ FP I I' L L' ∧ CP n b (aq n b q f) (oS n b (aq n b q f) f) I' L' := by
  obtain ⟨J, K, j1, j2, j3⟩ := c_adv hF hb X
  rw [e715_0 hF, j1]
  simp (disch := omega) only [pm_k_i, Option.toList_some, Option.toList_none, List.cons_append, List.nil_append, cond_true, cond_false, ↓reduceIte, reduceCtorEq, z_1, nI_add, z_cl, z_ib, z_lt, z_le, z_eq, z_eq0, z_le0, z_lt0, z_b0, z_b1, z_m1, z_and7, Int32.add_zero, e715_4 hF]
  generalize aq n b q f = p at *
  obtain ⟨B, b1, b2, b3⟩ := c_failToken hF j3
  rw [b1]
  simp (disch := omega) only [pm_k_i, Option.toList_some, Option.toList_none, List.cons_append, List.nil_append, cond_true, cond_false, ↓reduceIte, reduceCtorEq, z_1, nI_add, z_cl, z_ib, z_lt, z_le, z_eq, z_eq0, z_le0, z_lt0, z_b0, z_b1, z_m1, z_and7, Int32.add_zero, e715_16 hF]
  by_cases c : f = 0
  · have ck := j3.2.2.2.2.2.1 c
    have kl := kd_le (n := n) (b := b) (q := p)
    have e1 : ∀ k, fk f k = k := fun k => if_pos c
    rw [e1] at b3
    have eo : oS n b p f = if kd n b p = 3 then 0 else fk2 n b p 2 := if_pos c
    have dk : (nI (kd n b p) = 3) = (kd n b p = 3) := z_eq (b := 3) (by omega) (by omega)
    rw [eo, ck.2.2.1]
    by_cases d : kd n b p = 3
    · rw [if_pos (by rw [dk]; exact d), if_pos d]
      subst c
      exact ⟨J, K, rfl, j2, j3⟩
    · rw [if_neg (by rw [dk]; exact d), if_neg d]; exact ⟨B, K, rfl, j2.tr b2, b3⟩
  · have e1 : ∀ k, fk f k = f := fun k => if_neg c
    rw [e1] at b3
    have eo : oS n b p f = f := if_neg c
    rw [eo]
    by_cases d : J 10 12 = 3
    · rw [if_pos d]; exact ⟨J, K, rfl, j2, j3⟩
    · rw [if_neg d]; exact ⟨B, K, rfl, j2.tr b2, b3⟩
theorem kw_lt {k : Nat} (hk : kw n b q = some k) : k < 13 := (ff_some hk).1
theorem CK.w (X : CK n b q I L) {k : Nat} (hk : k < 13) : (I 10 15 = nI k) = (kd n b q = 1 ∧ kw n b q = some k) := by
  rw [X.2.2.2.1]
  by_cases c : kd n b q = 1
  · rw [if_pos c]
    cases e : kw n b q with
    | none => exact propext ⟨fun z => by rw [show oI none = (-1 : Int32) from rfl, z_m1' (by omega)] at z; exact z.elim, fun z => by cases z.2⟩
    | some j =>
      have := kw_lt e
      rw [show oI (some j) = nI j from rfl, z_eq (by omega) (by omega)]
      exact propext ⟨fun z => ⟨c, by rw [z]⟩, fun z => by cases z.2; rfl⟩
  · rw [if_neg c, z_m1' (by omega)]
    exact propext ⟨fun z => z.elim, fun z => absurd z.1 c⟩
theorem c_readWord (hF : pm_fix pt_me pt_Sg (pt_R L0 xs) F) (hb : ∀ i, b i < 256) (X : CP n b q f I L) {k : Nat} (hk : k < 13) : ∃ I' L', (F 716 0 [some (.ref 10), some (.int (nI k))] [] (49, pt_G, I, L)) = some (none, (49, pt_G, I', L')) ∧ FP I I' L L' ∧ CP n b (aq n b q f) (oW n b k (aq n b q f) f) I' L' := by
  obtain ⟨J, K, j1, j2, j3⟩ := c_adv hF hb X
  rw [e716_0 hF, j1]
  simp (disch := omega) only [pm_k_i, Option.toList_some, Option.toList_none, List.cons_append, List.nil_append, cond_true, cond_false, ↓reduceIte, reduceCtorEq, z_1, nI_add, z_cl, z_ib, z_lt, z_le, z_eq, z_eq0, z_le0, z_lt0, z_b0, z_b1, z_m1, z_and7, Int32.add_zero, e716_4 hF]
  generalize aq n b q f = p at *
  obtain ⟨B, b1, b2, b3⟩ := c_failToken hF j3
  rw [b1]
  simp (disch := omega) only [pm_k_i, Option.toList_some, Option.toList_none, List.cons_append, List.nil_append, cond_true, cond_false, ↓reduceIte, reduceCtorEq, z_1, nI_add, z_cl, z_ib, z_lt, z_le, z_eq, z_eq0, z_le0, z_lt0, z_b0, z_b1, z_m1, z_and7, Int32.add_zero, e716_16 hF]
  by_cases c : f = 0
  · have ck := j3.2.2.2.2.2.1 c
    have e1 : ∀ k, fk f k = k := fun k => if_pos c
    rw [e1] at b3
    have eo : oW n b k p f = if kd n b p = 1 ∧ kw n b p = some k then 0 else fk2 n b p 2 := if_pos c
    rw [eo]
    by_cases d : kd n b p = 1 ∧ kw n b p = some k
    · rw [if_pos d, if_pos (by rw [ck.w hk]; exact d)]
      subst c
      exact ⟨J, K, rfl, j2, j3⟩
    · rw [if_neg d, if_neg (by rw [ck.w hk]; exact d)]; exact ⟨B, K, rfl, j2.tr b2, b3⟩
  · have e1 : ∀ k, fk f k = f := fun k => if_neg c
    rw [e1] at b3
    have eo : oW n b k p f = f := if_neg c
    rw [eo]
    by_cases d : J 10 15 = nI k
    · rw [if_pos d]; exact ⟨J, K, rfl, j2, j3⟩
    · rw [if_neg d]; exact ⟨B, K, rfl, j2.tr b2, b3⟩
theorem c_readName (hF : pm_fix pt_me pt_Sg (pt_R L0 xs) F) (hb : ∀ i, b i < 256) (X : CP n b q f I L) : ∃ I' L' y, (F 719 0 [some (.ref 10)] [] (49, pt_G, I, L)) = some (some (.long y), (49, pt_G, I', L')) ∧ FP I I' L L' ∧ CP n b (aq n b q f) (oA n b (aq n b q f) f) I' L' ∧ (oA n b (aq n b q f) f = 0 → y = lN (e5 n b (aq n b q f))) := by
  obtain ⟨J, K, j1, j2, j3⟩ := c_adv hF hb X
  rw [e719_0 hF, j1]
  simp (disch := omega) only [pm_k_i, Option.toList_some, Option.toList_none, List.cons_append, List.nil_append, cond_true, cond_false, ↓reduceIte, reduceCtorEq, z_1, nI_add, z_cl, z_ib, z_lt, z_le, z_eq, z_eq0, z_le0, z_lt0, z_b0, z_b1, z_m1, z_and7, Int32.add_zero, e719_4 hF]
  generalize aq n b q f = p at *
  obtain ⟨B, b1, b2, b3⟩ := c_failToken hF j3
  rw [b1]
  simp (disch := omega) only [pm_k_i, Option.toList_some, Option.toList_none, List.cons_append, List.nil_append, cond_true, cond_false, ↓reduceIte, reduceCtorEq, z_1, nI_add, z_cl, z_ib, z_lt, z_le, z_eq, z_eq0, z_le0, z_lt0, z_b0, z_b1, z_m1, z_and7, Int32.add_zero, e719_38 hF]
  by_cases c : f = 0
  · have ck := j3.2.2.2.2.2.1 c
    have kl := kd_le (n := n) (b := b) (q := p)
    have hn := j3.1.2.1
    have hp := j3.2.2.1
    have e1 : ∀ k, fk f k = k := fun k => if_pos c
    rw [e1] at b3
    have eo : oA n b p f = if kd n b p = 1 ∧ kw n b p = none ∧ wln n b p ≤ 6 then 0 else fk2 n b p 2 := if_pos c
    have fB : fk2 n b p 2 ≠ 0 := by unfold fk2; split <;> omega
    have dk : (nI (kd n b p) = 1) = (kd n b p = 1) := z_eq (b := 1) (by omega) (by omega)
    rw [eo, ck.2.2.1]
    by_cases d : kd n b p = 1
    · obtain ⟨k1, k2, k3, k4⟩ := kd_1 d
      rw [if_pos (by rw [dk]; exact d), ck.2.2.2.1, if_pos d]
      cases e : kw n b p with
      | some j =>
        have := kw_lt e
        rw [show oI (some j) = nI j from rfl, if_neg (by rw [z_m1 (by omega)]; exact id), if_neg (fun z => by cases z.2.1)]
        exact ⟨B, K, _, rfl, j2.tr b2, b3, fun z => absurd z fB⟩
      | none =>
        rw [show oI none = (-1 : Int32) from rfl, if_pos rfl, ck.1, ck.2.1, k4, pk_sub (by omega), Nat.add_sub_cancel_left]
        have dw : (nI (wln n b p) ≤ 6) = (wln n b p ≤ 6) := z_le (b := 6) (by omega) (by omega)
        by_cases w : wln n b p ≤ 6
        · rw [if_pos (by rw [dw]; exact w), if_pos ⟨d, rfl, w⟩]
          subst c
          exact ⟨J, K, _, rfl, j2, j3, fun _ => ck.2.2.2.2.2 d⟩
        · rw [if_neg (by rw [dw]; exact w), if_neg (fun z => w z.2.2)]
          exact ⟨B, K, _, rfl, j2.tr b2, b3, fun z => absurd z fB⟩
    · rw [if_neg (by rw [dk]; exact d), if_neg (fun z => d z.1)]
      exact ⟨B, K, _, rfl, j2.tr b2, b3, fun z => absurd z fB⟩
  · have e1 : ∀ k, fk f k = f := fun k => if_neg c
    rw [e1] at b3
    have eo : oA n b p f = f := if_neg c
    rw [eo]
    have fin : ∀ y, ∃ I' L' z, (some (some (.long y), (49, pt_G, B, K)) : pm_R) = some (some (.long z), (49, pt_G, I', L')) ∧ FP I I' L L' ∧ CP n b p f I' L' ∧ (f = 0 → z = lN (e5 n b p)) := fun y => ⟨B, K, y, rfl, j2.tr b2, b3, fun z => absurd z c⟩
    by_cases d : J 10 12 = 1
    · rw [if_pos d]
      by_cases u : J 10 15 = -1
      · rw [if_pos u]
        by_cases w : J 10 10 - J 10 11 ≤ 6
        · rw [if_pos w]; exact ⟨J, K, _, rfl, j2, j3, fun z => absurd z c⟩
        · rw [if_neg w]; exact fin _
      · rw [if_neg u]; exact fin _
    · rw [if_neg d]; exact fin _
end
