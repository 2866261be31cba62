/-! ===== the model: what must stand where ===== -/
section
variable {I I' : Nat → Nat → Int32} {L L' : Nat → Nat → Int64}
variable {F : pm_F} {L0 : Nat} {xs : Nat → Int32}
variable {n q f : Nat} {b : Nat → Nat} {d : Nat → Nat → Nat}
def MP (n : Nat) (b : Nat → Nat) (q f : Nat) (I : Nat → Nat → Int32) (L : Nat → Nat → Int64) : Prop := TB n b I ∧ q ≤ n ∧ I 49 8 = nI f ∧ I 49 9 = (if f = 0 then -1 else nI q) ∧ (f = 0 → MK n b q I L) ∧ f ≤ 5
def GP (I I' : Nat → Nat → Int32) (L L' : Nat → Nat → Int64) : Prop := (∀ r j, (r = 49 → j < 3 ∨ 9 < j) → I' r j = I r j) ∧ ∀ r j, (r = 49 → j ≠ 12) → L' r j = L r j
theorem GP.rf : GP I I L L := ⟨fun _ _ _ => rfl, fun _ _ _ => rfl⟩
theorem GP.tr {I1 I2 I3 : Nat → Nat → Int32} {L1 L2 L3 : Nat → Nat → Int64} (a : GP I1 I2 L1 L2) (b : GP I2 I3 L2 L3) : GP I1 I3 L1 L3 := ⟨fun r j q => (b.1 r j q).trans (a.1 r j q), fun r j q => (b.2 r j q).trans (a.2 r j q)⟩
theorem GT0.gp (a : GT0 I I' L L') : GP I I' L L' := ⟨fun r j q => a.1 r j (fun z => by have := q z; omega), a.2⟩
theorem m_adv (hF : pm_fix pt_me pt_Sg (pt_R L0 xs) F) (hb : ∀ i, b i < 256) (X : MP n b q 0 I L) : ∃ I' L', (F 1213 0 [some (.ref 49), none, none] [] (81, pt_G, I, L)) = some (none, (81, pt_G, I', L')) ∧ GP I I' L L' ∧ MP n b (aq n b q 0) 0 I' L' := by
  obtain ⟨x1, x3, x4, x5, x6, x7⟩ := X
  have hn := x1.2.1
  have mk := x6 rfl
  have e := en_le (b := b) hn x3
  have s := skp_le (b := b) hn e.2.1
  obtain ⟨N, K, n1, n2, n3⟩ := m_goOn (L := L) hF hb x1 e.2.1 mk.1
  have ea : aq n b q 0 = skp n b (en n b q) := if_pos rfl
  rw [ea]
  exact ⟨N, K, n1, n2.gp, n2.tb x1, s.2, by rw [n2.1 49 8 (by omega)]; exact x4, by rw [n2.1 49 9 (by omega), if_pos rfl]; rw [if_pos rfl] at x5; exact x5, fun _ => n3, x7⟩
theorem m_wrong (hF : pm_fix pt_me pt_Sg (pt_R L0 xs) F) (X : MP n b q f I L) {k : Nat} (k0 : 0 < k) (k5 : k ≤ 5) : ∃ I', (F 1214 0 [some (.ref 49), some (.int (nI k))] [] (81, pt_G, I, L)) = some (none, (81, pt_G, I', L)) ∧ GP I I' L L ∧ MP n b q (fk f (fk2 n b q k)) I' L := by
  obtain ⟨x1, x3, x4, x5, x6, x7⟩ := X
  rw [e1214_0 hF, x4]
  unfold fk
  have fr : ∀ v, GP I (pm_ui (pm_ui I 49 8 v) 49 9 (I 49 4)) L L := fun v => ⟨fun r j a => by
    by_cases z : r = 49
    · have := a z; rw [z, z_uk (by omega), z_uk (by omega)]
    · rw [z_ur z, z_ur z], fun _ _ _ => rfl⟩
  by_cases c : f = 0
  · subst c
    have mk := x6 rfl
    have kl := kd_le (n := n) (b := b) (q := q)
    have dk : (nI (kd n b q) = 4) = (kd n b q = 4) := z_eq (b := 4) (by omega) (by omega)
    have fin : ∀ m, 0 < m → m ≤ 5 → MP n b q m (pm_ui (pm_ui I 49 8 (nI m)) 49 9 (I 49 4)) L := fun m m0 m5 => ⟨x1.of (by rw [z_uk (by omega), z_uk (by omega)]) (fun i => by rw [z_ur (by omega), z_ur (by omega)]), x3, by rw [z_uk (by omega), z_ue], by rw [z_ue, if_neg (by omega)]; exact mk.2.1, fun z => by omega, m5⟩
    simp (disch := omega) only [pm_k_i, Option.toList_some, Option.toList_none, List.cons_append, List.nil_append, cond_true, cond_false, ↓reduceIte, reduceCtorEq, z_1, nI_add, z_cl, z_ib, z_lt, z_le, z_eq, z_eq0, z_le0, z_lt0, z_b0, z_b1, z_m1, z_and7, Int32.add_zero]
    rw [mk.2.2.1]
    unfold fk2
    by_cases e : kd n b q = 4
    · rw [if_pos (by rw [dk]; exact e), if_pos e]
      exact ⟨_, rfl, fr 1, fin 1 (by omega) (by omega)⟩
    · rw [if_neg (by rw [dk]; exact e), if_neg e]
      exact ⟨_, rfl, fr (nI k), fin k k0 k5⟩
  · rw [if_neg c]
    simp (disch := omega) only [pm_k_i, Option.toList_some, Option.toList_none, List.cons_append, List.nil_append, cond_true, cond_false, ↓reduceIte, reduceCtorEq, z_1, nI_add, z_cl, z_ib, z_lt, z_le, z_eq, z_eq0, z_le0, z_lt0, z_b0, z_b1, z_m1, z_and7, Int32.add_zero, c]
    exact ⟨I, rfl, GP.rf, x1, x3, x4, x5, x6, x7⟩
theorem m_isGood (hF : pm_fix pt_me pt_Sg (pt_R L0 xs) F) (X : MP n b q f I L) : (F 1215 0 [some (.ref 49)] [] (81, pt_G, I, L)) = some (some (.int (nI (decide (f = 0)).toNat)), (81, pt_G, I, L)) := by
  have l := X.2.2.2.2.2
  rw [e1215_0 hF, X.2.2.1]
  by_cases c : f = 0
  · rw [c, decide_eq_true rfl]; exact if_pos rfl
  · rw [if_neg (show ¬ nI f = 0 by rw [z_eq0 (by omega)]; exact c), decide_eq_false c]; rfl
theorem m_isWord (hF : pm_fix pt_me pt_Sg (pt_R L0 xs) F) (X : MP n b q f I L) {k : Nat} (hk : k < 13) : (F 1216 0 [some (.ref 49), some (.long (lN (c8 k))), none] [] (81, pt_G, I, L)) = some (some (.int (nI (decide (f = 0 ∧ kd n b q = 1 ∧ kw n b q = some k)).toNat)), (81, pt_G, I, L)) := by
  have l := X.2.2.2.2.2
  have hn := X.1.2.1
  have hq := X.2.1
  rw [e1216_0 hF, X.2.2.1]
  by_cases c : f = 0
  · have mk := X.2.2.2.2.1 c
    have kl := kd_le (n := n) (b := b) (q := q)
    have dk : (nI (kd n b q) = 1) = (kd n b q = 1) := z_eq (b := 1) (by omega) (by omega)
    rw [if_pos (show nI f = 0 by rw [c]; rfl), mk.2.2.1]
    by_cases e : kd n b q = 1
    · have h8 := (kd_1 e).2.1
      have e1 := e8_lt (b := b) hn hq h8
      have e2 := c8_lt k hk
      rw [if_pos (by rw [dk]; exact e), (mk.2.2.2.2 e).2]
      have eq : (lN (e8 n b q) = lN (c8 k)) = (kw n b q = some k) := by
        rw [kw_iff hk, ← e8_kw hn hq h8 hk]
        exact propext (pk_lEQ (by omega) (by omega))
      simp only [lc_eq, eq]
      by_cases w : kw n b q = some k
      · rw [if_pos w, decide_eq_true ⟨c, e, w⟩]; rfl
      · rw [if_neg w, decide_eq_false (fun z => w z.2.2)]; rfl
    · rw [if_neg (by rw [dk]; exact e), decide_eq_false (fun z => e z.2.1)]; rfl
  · rw [if_neg (show ¬ nI f = 0 by rw [z_eq0 (by omega)]; exact c), decide_eq_false (fun z => c z.1)]; rfl
theorem m_must (hF : pm_fix pt_me pt_Sg (pt_R L0 xs) F) (hb : ∀ i, b i < 256) (X : MP n b q f I L) : ∃ I' L', (F 1218 0 [some (.ref 49), some (.int 3)] [] (81, pt_G, I, L)) = some (none, (81, pt_G, I', L')) ∧ GP I I' L L' ∧ MP n b (aq n b q (oS n b q f)) (oS n b q f) I' L' := by
  have l := X.2.2.2.2.2
  rw [e1218_0 hF, X.2.2.1]
  by_cases c : f = 0
  · subst c
    have mk := X.2.2.2.2.1 rfl
    have kl := kd_le (n := n) (b := b) (q := q)
    have dk : (nI (kd n b q) = 3) = (kd n b q = 3) := z_eq (b := 3) (by omega) (by omega)
    have eo : oS n b q 0 = if kd n b q = 3 then 0 else fk2 n b q 2 := if_pos rfl
    have f0 : (nI 0 ≤ 0) = True := propext ⟨fun _ => trivial, fun _ => by decide⟩
    rw [eo, if_pos (by rw [f0]; exact trivial), mk.2.2.1]
    by_cases e : kd n b q = 3
    · rw [if_pos (by rw [dk]; exact e), if_pos e]
      obtain ⟨A, K, a1, a2, a3⟩ := m_adv hF hb X
      rw [a1]
      simp (disch := omega) only [pm_k_i, Option.toList_some, Option.toList_none, List.cons_append, List.nil_append, cond_true, cond_false, ↓reduceIte, reduceCtorEq, z_1, nI_add, z_cl, z_ib, z_lt, z_le, z_eq, z_eq0, z_le0, z_lt0, z_b0, z_b1, z_m1, z_and7, Int32.add_zero, e1218_20 hF, e1218_28 hF]
      exact ⟨A, K, rfl, a2, a3⟩
    · rw [if_neg (by rw [dk]; exact e), if_neg e]
      obtain ⟨A, a1, a2, a3⟩ := m_wrong hF X (k := 2) (by omega) (by omega)
      have a1 : (F 1214 0 [some (.ref 49), some (.int 2)] [] (81, pt_G, I, L)) = _ := a1
      rw [a1]
      simp (disch := omega) only [pm_k_i, Option.toList_some, Option.toList_none, List.cons_append, List.nil_append, cond_true, cond_false, ↓reduceIte, reduceCtorEq, z_1, nI_add, z_cl, z_ib, z_lt, z_le, z_eq, z_eq0, z_le0, z_lt0, z_b0, z_b1, z_m1, z_and7, Int32.add_zero, e1218_28 hF]
      have e1 : fk 0 (fk2 n b q 2) = fk2 n b q 2 := if_pos rfl
      rw [e1] at a3
      have e2 : aq n b q (fk2 n b q 2) = q := if_neg (by unfold fk2; split <;> omega)
      rw [e2]
      exact ⟨A, L, rfl, a2, a3⟩
  · have eo : oS n b q f = f := if_neg c
    have e2 : aq n b q f = q := if_neg c
    rw [eo, e2]
    simp (disch := omega) only [pm_k_i, Option.toList_some, Option.toList_none, List.cons_append, List.nil_append, cond_true, cond_false, ↓reduceIte, reduceCtorEq, z_1, nI_add, z_cl, z_ib, z_lt, z_le, z_eq, z_eq0, z_le0, z_lt0, z_b0, z_b1, z_m1, z_and7, Int32.add_zero, c]
    exact ⟨I, L, rfl, GP.rf, X⟩
theorem m_mustWord (hF : pm_fix pt_me pt_Sg (pt_R L0 xs) F) (hb : ∀ i, b i < 256) (X : MP n b q f I L) {k : Nat} (hk : k < 13) : ∃ I' L', (F 1219 0 [some (.ref 49), some (.long (lN (c8 k))), none] [] (81, pt_G, I, L)) = some (none, (81, pt_G, I', L')) ∧ GP I I' L L' ∧ MP n b (aq n b q (oW n b k q f)) (oW n b k q f) I' L' := by
  rw [e1219_0 hF, m_isGood hF X]
  simp (disch := omega) only [pm_k_i, Option.toList_some, Option.toList_none, List.cons_append, List.nil_append, cond_true, cond_false, ↓reduceIte, reduceCtorEq, z_1, nI_add, z_cl, z_ib, z_lt, z_le, z_eq, z_eq0, z_le0, z_lt0, z_b0, z_b1, z_m1, z_and7, Int32.add_zero, e1219_4 hF, decide_eq_false_iff_not]
  by_cases c : f = 0
  · subst c
    simp (disch := omega) only [pm_k_i, Option.toList_some, Option.toList_none, List.cons_append, List.nil_append, cond_true, cond_false, ↓reduceIte, reduceCtorEq, z_1, nI_add, z_cl, z_ib, z_lt, z_le, z_eq, z_eq0, z_le0, z_lt0, z_b0, z_b1, z_m1, z_and7, Int32.add_zero, not_true_eq_false, m_isWord hF X hk, e1219_12 hF, true_and, decide_eq_false_iff_not]
    have eo : oW n b k q 0 = if kd n b q = 1 ∧ kw n b q = some k then 0 else fk2 n b q 2 := if_pos rfl
    rw [eo]
    by_cases e : kd n b q = 1 ∧ kw n b q = some k
    · rw [if_neg (fun z => z e), if_pos e, e1219_20 hF, m_isGood hF X]
      obtain ⟨A, K, a1, a2, a3⟩ := m_adv hF hb X
      simp (disch := omega) only [pm_k_i, Option.toList_some, Option.toList_none, List.cons_append, List.nil_append, cond_true, cond_false, ↓reduceIte, reduceCtorEq, z_1, nI_add, z_cl, z_ib, z_lt, z_le, z_eq, z_eq0, z_le0, z_lt0, z_b0, z_b1, z_m1, z_and7, Int32.add_zero, e1219_24 hF, decide_true, a1, e1219_31 hF]
      exact ⟨A, K, rfl, a2, a3⟩
    · rw [if_pos e, if_neg e]
      obtain ⟨A, a1, a2, a3⟩ := m_wrong hF X (k := 2) (by omega) (by omega)
      have a1 : (F 1214 0 [some (.ref 49), some (.int 2)] [] (81, pt_G, I, L)) = _ := a1
      have e1 : fk 0 (fk2 n b q 2) = fk2 n b q 2 := if_pos rfl
      rw [e1] at a3
      have e3 : ¬ fk2 n b q 2 = 0 := by unfold fk2; split <;> omega
      have e2 : aq n b q (fk2 n b q 2) = q := if_neg e3
      rw [a1, e2]
      simp (disch := omega) only [pm_k_i, Option.toList_some, Option.toList_none, List.cons_append, List.nil_append, cond_true, cond_false, ↓reduceIte, reduceCtorEq, z_1, nI_add, z_cl, z_ib, z_lt, z_le, z_eq, z_eq0, z_le0, z_lt0, z_b0, z_b1, z_m1, z_and7, Int32.add_zero, e1219_20 hF, m_isGood hF a3, e1219_24 hF, e3, decide_false, e1219_31 hF]
      exact ⟨A, L, rfl, a2, a3⟩
  · have eo : oW n b k q f = f := if_neg c
    have e2 : aq n b q f = q := if_neg c
    rw [eo, e2]
    simp (disch := omega) only [pm_k_i, Option.toList_some, Option.toList_none, List.cons_append, List.nil_append, cond_true, cond_false, ↓reduceIte, reduceCtorEq, z_1, nI_add, z_cl, z_ib, z_lt, z_le, z_eq, z_eq0, z_le0, z_lt0, z_b0, z_b1, z_m1, z_and7, Int32.add_zero, c, not_false_eq_true, e1219_20 hF, m_isGood hF X, e1219_24 hF, decide_false, e1219_31 hF]
    exact ⟨I, L, rfl, GP.rf, X⟩
theorem m_isKept (hF : pm_fix pt_me pt_Sg (pt_R L0 xs) F) (X : MP n b q 0 I L) (e : kd n b q = 1) : (F 1217 0 [some (.ref 49)] [] (81, pt_G, I, L)) = some (some (.int (nI (kw n b q).isSome.toNat)), (81, pt_G, I, L)) := by
  have hn := X.1.2.1
  have hq := X.2.1
  have mk := X.2.2.2.2.1 rfl
  have h8 := (kd_1 e).2.1
  have e1 := e8_lt (b := b) hn hq h8
  have eq : ∀ k, k < 13 → (lN (e8 n b q) = lN (c8 k)) = (kw n b q = some k) := by
    intro k hk
    have e2 := c8_lt k hk
    rw [kw_iff hk, ← e8_kw hn hq h8 hk]
    exact propext (pk_lEQ (by omega) (by omega))
  have k0 : (lN (e8 n b q) = 7235444471627739763) = (kw n b q = some 0) := eq 0 (by omega)
  have k1 : (lN (e8 n b q) = 1852138852) = (kw n b q = some 1) := eq 1 (by omega)
  have k2 : (lN (e8 n b q) = 1667330661) = (kw n b q = some 2) := eq 2 (by omega)
  have k3 : (lN (e8 n b q) = 500135716211) = (kw n b q = some 3) := eq 3 (by omega)
  have k4 : (lN (e8 n b q) = 1953067621) = (kw n b q = some 4) := eq 4 (by omega)
  have k5 : (lN (e8 n b q) = 122485595530085) = (kw n b q = some 5) := eq 5 (by omega)
  have k6 : (lN (e8 n b q) = 482671228025) = (kw n b q = some 6) := eq 6 (by omega)
  have k7 : (lN (e8 n b q) = 495622124659) = (kw n b q = some 7) := eq 7 (by omega)
  have k8 : (lN (e8 n b q) = 24948) = (kw n b q = some 8) := eq 8 (by omega)
  have k9 : (lN (e8 n b q) = 2002873451) = (kw n b q = some 9) := eq 9 (by omega)
  have k10 : (lN (e8 n b q) = 512970880104) = (kw n b q = some 10) := eq 10 (by omega)
  have k12 : (lN (e8 n b q) = 6447474) = (kw n b q = some 12) := eq 12 (by omega)
  have k11 : (lN (e8 n b q) = 126943688024933) = (kw n b q = some 11) := eq 11 (by omega)
  rw [e1217_0 hF, (mk.2.2.2.2 e).2]
  simp only [lc_eq, k0, k1, k2, k3, k4, k5, k6, k7, k8, k9, k10, k11, k12]
  cases w : kw n b q with
  | none => rfl
  | some k =>
    have := kw_lt w
    have hk : k = 0 ∨ k = 1 ∨ k = 2 ∨ k = 3 ∨ k = 4 ∨ k = 5 ∨ k = 6 ∨ k = 7 ∨ k = 8 ∨ k = 9 ∨ k = 10 ∨ k = 11 ∨ k = 12 := by omega
    rcases hk with rfl | rfl | rfl | rfl | rfl | rfl | rfl | rfl | rfl | rfl | rfl | rfl | rfl <;> rfl
theorem m_mustName (hF : pm_fix pt_me pt_Sg (pt_R L0 xs) F) (X : MP n b q f I L) : ∃ I', (F 1220 0 [some (.ref 49)] [] (81, pt_G, I, L)) = some (none, (81, pt_G, I', L)) ∧ GP I I' L L ∧ MP n b q (oA n b q f) I' L := by
  rw [e1220_0 hF, m_isGood hF X]
  simp (disch := omega) only [pm_k_i, Option.toList_some, Option.toList_none, List.cons_append, List.nil_append, cond_true, cond_false, ↓reduceIte, reduceCtorEq, z_1, nI_add, z_cl, z_ib, z_lt, z_le, z_eq, z_eq0, z_le0, z_lt0, z_b0, z_b1, z_m1, z_and7, Int32.add_zero, e1220_4 hF, decide_eq_false_iff_not]
  by_cases c : f = 0
  · subst c
    have mk := X.2.2.2.2.1 rfl
    have hn := X.1.2.1
    have kl := kd_le (n := n) (b := b) (q := q)
    have dk : (nI (kd n b q) = 1) = (kd n b q = 1) := z_eq (b := 1) (by omega) (by omega)
    have eo : oA n b q 0 = if kd n b q = 1 ∧ kw n b q = none ∧ wln n b q ≤ 6 then 0 else fk2 n b q 2 := if_pos rfl
    obtain ⟨A, a1, a2, a3⟩ := m_wrong hF X (k := 2) (by omega) (by omega)
    have a1 : (F 1214 0 [some (.ref 49), some (.int 2)] [] (81, pt_G, I, L)) = _ := a1
    have e1 : fk 0 (fk2 n b q 2) = fk2 n b q 2 := if_pos rfl
    rw [e1] at a3
    simp (disch := omega) only [pm_k_i, Option.toList_some, Option.toList_none, List.cons_append, List.nil_append, cond_true, cond_false, ↓reduceIte, reduceCtorEq, z_1, nI_add, z_cl, z_ib, z_lt, z_le, z_eq, z_eq0, z_le0, z_lt0, z_b0, z_b1, z_m1, z_and7, Int32.add_zero, not_true_eq_false, a1, e1220_36 hF]
    rw [eo, mk.2.2.1]
    by_cases e : kd n b q = 1
    · have h8 := (kd_1 e).2.1
      have dw : (nI (wln n b q) ≤ 6) = (wln n b q ≤ 6) := z_le (b := 6) (by omega) (by omega)
      rw [if_pos (by rw [dk]; exact e), (mk.2.2.2.2 e).1]
      by_cases w : wln n b q ≤ 6
      · rw [if_pos (by rw [dw]; exact w), m_isKept hF X e]
        simp (disch := omega) only [pm_k_i, Option.toList_some, Option.toList_none, List.cons_append, List.nil_append, cond_true, cond_false, ↓reduceIte, reduceCtorEq, z_1, nI_add, z_cl, z_ib, z_lt, z_le, z_eq, z_eq0, z_le0, z_lt0, z_b0, z_b1, z_m1, z_and7, Int32.add_zero, e1220_28 hF, a1, e1220_36 hF]
        cases k : kw n b q with
        | none =>
          rw [if_pos (show (none : Option Nat).isSome = false from rfl), if_pos ⟨e, rfl, w⟩]
          exact ⟨I, rfl, GP.rf, X⟩
        | some j =>
          rw [if_neg (show ¬ (some j).isSome = false from fun z => by cases z), if_neg (fun z => by cases z.2.1)]
          exact ⟨A, rfl, a2, a3⟩
      · rw [if_neg (by rw [dw]; exact w), if_neg (fun z => w z.2.2)]
        exact ⟨A, rfl, a2, a3⟩
    · rw [if_neg (by rw [dk]; exact e), if_neg (fun z => e z.1)]
      exact ⟨A, rfl, a2, a3⟩
  · have eo : oA n b q f = f := if_neg c
    rw [eo]
    simp (disch := omega) only [pm_k_i, Option.toList_some, Option.toList_none, List.cons_append, List.nil_append, cond_true, cond_false, ↓reduceIte, reduceCtorEq, z_1, nI_add, z_cl, z_ib, z_lt, z_le, z_eq, z_eq0, z_le0, z_lt0, z_b0, z_b1, z_m1, z_and7, Int32.add_zero, c, not_false_eq_true, e1220_36 hF]
    exact ⟨I, rfl, GP.rf, X⟩
theorem m_number (hF : pm_fix pt_me pt_Sg (pt_R L0 xs) F) (hb : ∀ i, b i < 256) (X : MP n b q f I L) {lo hi : Nat} (h1 : lo < 1000) (h2 : hi < 1000) : ∃ I' L' x, (F 1221 0 [some (.ref 49), some (.int (nI lo)), some (.int (nI hi)), none] [] (81, pt_G, I, L)) = some (some (.int x), (81, pt_G, I', L')) ∧ GP I I' L L' ∧ MP n b (aq n b q (oN n b lo hi q f)) (oN n b lo hi q f) I' L' ∧ (oN n b lo hi q f = 0 → x = nI (vl n b q)) := by
  have hn := X.1.2.1
  have hq := X.2.1
  rw [e1221_0 hF, m_isGood hF X]
  simp (disch := omega) only [pm_k_i, Option.toList_some, Option.toList_none, List.cons_append, List.nil_append, cond_true, cond_false, ↓reduceIte, reduceCtorEq, z_1, nI_add, z_cl, z_ib, z_lt, z_le, z_eq, z_eq0, z_le0, z_lt0, z_b0, z_b1, z_m1, z_and7, Int32.add_zero, e1221_4 hF, decide_eq_false_iff_not]
  by_cases c : f = 0
  · subst c
    have mk := X.2.2.2.2.1 rfl
    have kl := kd_le (n := n) (b := b) (q := q)
    have dk : (nI (kd n b q) = 2) = (kd n b q = 2) := z_eq (b := 2) (by omega) (by omega)
    have eo : oN n b lo hi q 0 = if kd n b q = 2 then (if lo ≤ vl n b q ∧ vl n b q ≤ hi then 0 else 4) else fk2 n b q 2 := if_pos rfl
    have e1 : ∀ k, fk 0 k = k := fun k => if_pos rfl
    rw [eo]
    simp (disch := omega) only [pm_k_i, Option.toList_some, Option.toList_none, List.cons_append, List.nil_append, cond_true, cond_false, ↓reduceIte, reduceCtorEq, z_1, nI_add, z_cl, z_ib, z_lt, z_le, z_eq, z_eq0, z_le0, z_lt0, z_b0, z_b1, z_m1, z_and7, Int32.add_zero, not_true_eq_false]
    rw [mk.2.2.1]
    by_cases e : kd n b q = 2
    · have v := mk.2.2.2.1 e
      have vb := vl_le hn hq (kd_2 e).1
      have hi' : decide ((nI lo).toInt ≤ (nI (vl n b q)).toInt ∧ (nI (vl n b q)).toInt ≤ (nI hi).toInt) = decide (lo ≤ vl n b q ∧ vl n b q ≤ hi) := by
        rw [nI_toInt (by omega), nI_toInt (by omega), nI_toInt (by omega)]
        exact decide_eq_decide.mpr (by omega)
      have mi := m_isIn (I := I) (L := L) hF (nI (vl n b q)) (nI lo) (nI hi)
      rw [hi'] at mi
      rw [if_pos (by rw [dk]; exact e), if_pos e, e1221_20 hF, m_isGood hF X]
      simp (disch := omega) only [pm_k_i, Option.toList_some, Option.toList_none, List.cons_append, List.nil_append, cond_true, cond_false, ↓reduceIte, reduceCtorEq, z_1, nI_add, z_cl, z_ib, z_lt, z_le, z_eq, z_eq0, z_le0, z_lt0, z_b0, z_b1, z_m1, z_and7, Int32.add_zero, e1221_29 hF, decide_true, v, mi, e1221_41 hF, decide_eq_false_iff_not]
      by_cases w : lo ≤ vl n b q ∧ vl n b q ≤ hi
      · rw [if_neg (fun z => z w), if_pos w, e1221_49 hF, m_isGood hF X]
        obtain ⟨A, K, a1, a2, a3⟩ := m_adv hF hb X
        simp (disch := omega) only [pm_k_i, Option.toList_some, Option.toList_none, List.cons_append, List.nil_append, cond_true, cond_false, ↓reduceIte, reduceCtorEq, z_1, nI_add, z_cl, z_ib, z_lt, z_le, z_eq, z_eq0, z_le0, z_lt0, z_b0, z_b1, z_m1, z_and7, Int32.add_zero, e1221_53 hF, decide_true, a1, e1221_60 hF]
        exact ⟨A, K, _, rfl, a2, a3, fun _ => rfl⟩
      · rw [if_pos w, if_neg w]
        obtain ⟨A, a1, a2, a3⟩ := m_wrong hF X (k := 4) (by omega) (by omega)
        have a1 : (F 1214 0 [some (.ref 49), some (.int 4)] [] (81, pt_G, I, L)) = _ := a1
        have e4 : fk2 n b q 4 = 4 := if_neg (by omega)
        rw [e1, e4] at a3
        have e2 : aq n b q 4 = q := if_neg (by omega)
        rw [a1, e2]
        simp (disch := omega) only [pm_k_i, Option.toList_some, Option.toList_none, List.cons_append, List.nil_append, cond_true, cond_false, ↓reduceIte, reduceCtorEq, z_1, nI_add, z_cl, z_ib, z_lt, z_le, z_eq, z_eq0, z_le0, z_lt0, z_b0, z_b1, z_m1, z_and7, Int32.add_zero, e1221_49 hF, m_isGood hF a3, e1221_53 hF, e1221_60 hF]
        rw [if_pos (by decide)]
        exact ⟨A, L, _, rfl, a2, a3, fun z => by first | omega | exact z.elim | cases z⟩
    · rw [if_neg (by rw [dk]; exact e), if_neg e]
      obtain ⟨A, a1, a2, a3⟩ := m_wrong hF X (k := 2) (by omega) (by omega)
      have a1 : (F 1214 0 [some (.ref 49), some (.int 2)] [] (81, pt_G, I, L)) = _ := a1
      rw [e1] at a3
      have e3 : ¬ fk2 n b q 2 = 0 := by unfold fk2; split <;> omega
      have e2 : aq n b q (fk2 n b q 2) = q := if_neg e3
      rw [a1, e2]
      simp (disch := omega) only [pm_k_i, Option.toList_some, Option.toList_none, List.cons_append, List.nil_append, cond_true, cond_false, ↓reduceIte, reduceCtorEq, z_1, nI_add, z_cl, z_ib, z_lt, z_le, z_eq, z_eq0, z_le0, z_lt0, z_b0, z_b1, z_m1, z_and7, Int32.add_zero, e1221_20 hF, m_isGood hF a3, e1221_29 hF, e3, decide_false, e1221_49 hF, e1221_53 hF, e1221_60 hF]
      exact ⟨A, L, _, rfl, a2, a3, fun z => by first | exact absurd z e3 | exact z.elim⟩
  · have eo : oN n b lo hi q f = f := if_neg c
    have e2 : aq n b q f = q := if_neg c
    rw [eo, e2]
    simp (disch := omega) only [pm_k_i, Option.toList_some, Option.toList_none, List.cons_append, List.nil_append, cond_true, cond_false, ↓reduceIte, reduceCtorEq, z_1, nI_add, z_cl, z_ib, z_lt, z_le, z_eq, z_eq0, z_le0, z_lt0, z_b0, z_b1, z_m1, z_and7, Int32.add_zero, c, not_false_eq_true, e1221_20 hF, m_isGood hF X, e1221_29 hF, decide_false, e1221_49 hF, e1221_53 hF, e1221_60 hF]
    exact ⟨I, L, _, rfl, GP.rf, X, fun z => by first | exact absurd z c | exact z.elim⟩
end
