/-! ===== the model: names, what is told so far, lines that come once ===== -/
section
variable {I I' : Nat → Nat → Int32} {L L' : Nat → Nat → Int64}
variable {F : pm_F} {L0 : Nat} {xs : Nat → Int32}
variable {n q f : Nat} {b : Nat → Nat} {d : Nat → Nat → Nat}
def MD (n : Nat) (b : Nat → Nat) (d : Nat → Nat → Nat) (I : Nat → Nat → Int32) (L : Nat → Nat → Int64) : Prop := (I 49 13 = nI (d 0 0) ∧ I 49 14 = nI (d 0 1) ∧ I 49 15 = nI (d 0 2) ∧ I 49 16 = nI (d 0 3) ∧ I 49 17 = (if d 0 4 = 0 then -1 else nI (d 0 4)) ∧ I 49 18 = nI (d 0 5) ∧ I 49 19 = nI (d 0 6) ∧ I 49 20 = nI (d 0 7) ∧ I 49 21 = nI (d 0 8)) ∧ (∀ p, p < d 0 0 → I 53 p = nI (d 1 p) ∧ I 54 p = nI (d 2 p) ∧ I 55 p = nI (d 3 p) ∧ L 51 p = lN (e8 n b (d 7 p))) ∧ (∀ p, p < 7 → I 56 p = nI (d 4 p)) ∧ (∀ p o, p < 7 → o < 8 → I 57 (8 * p + o) = (bif (d 9 p).testBit o then nI (d 5 (8 * p + o)) else -1) ∧ I 58 (8 * p + o) = (bif (d 10 p).testBit o then nI (d 6 (8 * p + o)) else -1)) ∧ ∀ o, o < d 0 1 → L 52 o = lN (e8 n b (d 8 o))
theorem MD.of (X : MD n b d I L) (f49 : ∀ j, 13 ≤ j → j ≤ 21 → I' 49 j = I 49 j) (f : ∀ r j, 53 ≤ r → r ≤ 58 → I' r j = I r j) (g : ∀ r j, r = 51 ∨ r = 52 → L' r j = L r j) : MD n b d I' L' := by
  obtain ⟨⟨x1, x2, x3, x4, x5, x6, x7, x8, x9⟩, y1, y2, y3, y4⟩ := X
  exact ⟨⟨by rw [f49 13 (by omega) (by omega)]; exact x1, by rw [f49 14 (by omega) (by omega)]; exact x2, by rw [f49 15 (by omega) (by omega)]; exact x3, by rw [f49 16 (by omega) (by omega)]; exact x4, by rw [f49 17 (by omega) (by omega)]; exact x5, by rw [f49 18 (by omega) (by omega)]; exact x6, by rw [f49 19 (by omega) (by omega)]; exact x7, by rw [f49 20 (by omega) (by omega)]; exact x8, by rw [f49 21 (by omega) (by omega)]; exact x9⟩, fun p hp => by rw [f 53 p (by omega) (by omega), f 54 p (by omega) (by omega), f 55 p (by omega) (by omega), g 51 p (by omega)]; exact y1 p hp, fun p hp => by rw [f 56 p (by omega) (by omega)]; exact y2 p hp, fun p o hp ho => by rw [f 57 _ (by omega) (by omega), f 58 _ (by omega) (by omega)]; exact y3 p o hp ho, fun o ho => by rw [g 52 o (by omega)]; exact y4 o ho⟩
theorem GP.md (a : GP I I' L L') (X : MD n b d I L) : MD n b d I' L' := X.of (fun j p q => a.1 49 j (fun _ => by omega)) (fun r j p q => a.1 r j (fun z => by omega)) (fun r j p => a.2 r j (fun z => by omega))
theorem m_indexA (hF : pm_fix pt_me pt_Sg (pt_R L0 xs) F) {m : Nat} (hm : m ≤ 7) (y : Int64) : (F 1223 0 [some (.ref 51), some (.int (nI m)), some (.long y), none, none] [] (81, pt_G, I, L)) = some (some (.int (oI (ff (fun k => decide (L 51 k = y)) m))), (81, pt_G, I, L)) := by
  rw [e1223_0a hF]
  refine (ffE (G := fun k => (F 1223 3 [some (.ref 51), some (.int (nI m)), some (.long y), none, some (.int (nI k))] [] (81, pt_G, I, L))) (X := fun k => (some (some (.int (nI k)), (81, pt_G, I, L)) : pm_R)) (p := fun k => decide (L 51 k = y)) (n := m) (fun k hk => ?_)).trans ?_
  · try dsimp only
    rw [e1223_3a hF]
    simp (disch := omega) only [pm_k_i, Option.toList_some, Option.toList_none, List.cons_append, List.nil_append, cond_true, cond_false, ↓reduceIte, reduceCtorEq, z_1, nI_add, z_cl, z_ib, z_lt, z_le, z_eq, z_eq0, z_le0, z_lt0, z_b0, z_b1, z_m1, z_and7, Int32.add_zero, hk, lc_eq]
    by_cases c : L 51 k = y
    · rw [if_pos c, decide_eq_true c]; rfl
    · rw [if_neg c, decide_eq_false c]; rfl
  · cases ff (fun k => decide (L 51 k = y)) m with
    | some k => rfl
    | none =>
      dsimp only
      rw [e1223_3a hF]
      simp (disch := omega) only [pm_k_i, Option.toList_some, Option.toList_none, List.cons_append, List.nil_append, cond_true, cond_false, ↓reduceIte, reduceCtorEq, z_1, nI_add, z_cl, z_ib, z_lt, z_le, z_eq, z_eq0, z_le0, z_lt0, z_b0, z_b1, z_m1, z_and7, Int32.add_zero, Nat.lt_irrefl]
      rfl
theorem m_indexB (hF : pm_fix pt_me pt_Sg (pt_R L0 xs) F) {m : Nat} (hm : m ≤ 8) (y : Int64) : (F 1223 0 [some (.ref 52), some (.int (nI m)), some (.long y), none, none] [] (81, pt_G, I, L)) = some (some (.int (oI (ff (fun k => decide (L 52 k = y)) m))), (81, pt_G, I, L)) := by
  rw [e1223_0b hF]
  refine (ffE (G := fun k => (F 1223 3 [some (.ref 52), some (.int (nI m)), some (.long y), none, some (.int (nI k))] [] (81, pt_G, I, L))) (X := fun k => (some (some (.int (nI k)), (81, pt_G, I, L)) : pm_R)) (p := fun k => decide (L 52 k = y)) (n := m) (fun k hk => ?_)).trans ?_
  · try dsimp only
    rw [e1223_3b hF]
    simp (disch := omega) only [pm_k_i, Option.toList_some, Option.toList_none, List.cons_append, List.nil_append, cond_true, cond_false, ↓reduceIte, reduceCtorEq, z_1, nI_add, z_cl, z_ib, z_lt, z_le, z_eq, z_eq0, z_le0, z_lt0, z_b0, z_b1, z_m1, z_and7, Int32.add_zero, hk, lc_eq]
    by_cases c : L 52 k = y
    · rw [if_pos c, decide_eq_true c]; rfl
    · rw [if_neg c, decide_eq_false c]; rfl
  · cases ff (fun k => decide (L 52 k = y)) m with
    | some k => rfl
    | none =>
      dsimp only
      rw [e1223_3b hF]
      simp (disch := omega) only [pm_k_i, Option.toList_some, Option.toList_none, List.cons_append, List.nil_append, cond_true, cond_false, ↓reduceIte, reduceCtorEq, z_1, nI_add, z_cl, z_ib, z_lt, z_le, z_eq, z_eq0, z_le0, z_lt0, z_b0, z_b1, z_m1, z_and7, Int32.add_zero, Nat.lt_irrefl]
      rfl
theorem e8_dec (hn : n ≤ 900) {a c : Nat} (ha : kd n b a = 1) (hc : kd n b c = 1) : decide (lN (e8 n b a) = lN (e8 n b c)) = Nat.beq (e5 n b a) (e5 n b c) := by
  obtain ⟨a1, a2, a3, a4⟩ := kd_1 ha
  obtain ⟨c1, c2, c3, c4⟩ := kd_1 hc
  have h1 := e8_lt (b := b) hn (show a ≤ n by omega) a2
  have h2 := e8_lt (b := b) hn (show c ≤ n by omega) c2
  have e := e58 (b := b) hn (show a ≤ n by omega) (show c ≤ n by omega) a2 c2
  by_cases z : e5 n b a = e5 n b c
  · rw [z, Nat.beq_refl, decide_eq_true]
    rw [show e8 n b a = e8 n b c by rw [e]; exact z]
  · rw [beq_f z, decide_eq_false (fun y => z (by rw [← e]; exact (pk_lEQ (by omega) (by omega)).mp y))]
theorem MD.pf (X : MD n b d I L) (hn : n ≤ 900) (G : DG n b d) (hq : kd n b q = 1) : ff (fun k => decide (L 51 k = lN (e8 n b q))) (d 0 0) = pfn n b d q :=
  ff_congr (fun p hp => by rw [(X.2.1 p hp).2.2.2]; exact e8_dec hn (G.2.2.1 p hp) hq)
theorem MD.off (X : MD n b d I L) (hn : n ≤ 900) (G : DG n b d) (hq : kd n b q = 1) : ff (fun k => decide (L 52 k = lN (e8 n b q))) (d 0 1) = ofn n b d q :=
  ff_congr (fun o ho => by rw [X.2.2.2.2 o ho]; exact e8_dec hn (G.2.2.2.1 o ho) hq)
theorem wrong_at (hF : pm_fix pt_me pt_Sg (pt_R L0 xs) F) (X : MP n b q 0 I L) (hq : kd n b q = 1) {k : Nat} (k0 : 0 < k) (k5 : k ≤ 5) : ∃ I', (F 1214 0 [some (.ref 49), some (.int (nI k))] [] (81, pt_G, I, L)) = some (none, (81, pt_G, I', L)) ∧ GP I I' L L ∧ MP n b q k I' L := by
  have e4 : fk 0 (fk2 n b q k) = k := by unfold fk fk2; rw [if_pos rfl, if_neg (by omega)]
  have := m_wrong hF X k0 k5
  rw [e4] at this
  exact this
theorem m_freshName (hF : pm_fix pt_me pt_Sg (pt_R L0 xs) F) (X : MP n b q f I L) (D : MD n b d I L) (G : DG n b d) : ∃ I', (F 1224 0 [some (.ref 49)] [] (81, pt_G, I, L)) = some (none, (81, pt_G, I', L)) ∧ GP I I' L L ∧ MP n b q (oF n b d q (oA n b q f)) I' L := by
  have hP := G.P
  have hO := G.O
  obtain ⟨A, a1, a2, a3⟩ := m_mustName hF X
  have DA := a2.md D
  rw [e1224_0 hF, a1]
  generalize hg : oA n b q f = g at *
  have hn := a3.1.2.1
  simp (disch := omega) only [pm_k_i, Option.toList_some, Option.toList_none, List.cons_append, List.nil_append, cond_true, cond_false, ↓reduceIte, reduceCtorEq, z_1, nI_add, z_cl, z_ib, z_lt, z_le, z_eq, z_eq0, z_le0, z_lt0, z_b0, z_b1, z_m1, z_and7, Int32.add_zero, e1224_4 hF, m_isGood hF a3, e1224_8 hF, decide_eq_false_iff_not]
  by_cases c : g = 0
  · subst c
    have k1 := (oA_0 hg).2.1
    have mk := a3.2.2.2.2.1 rfl
    obtain ⟨B, b1, b2, b3⟩ := wrong_at hF a3 k1 (k := 3) (by omega) (by omega)
    have b1 : (F 1214 0 [some (.ref 49), some (.int 3)] [] (81, pt_G, A, L)) = _ := b1
    have eo : oF n b d q 0 = bif (pfn n b d q).isSome || (ofn n b d q).isSome then 3 else 0 := if_pos rfl
    rw [eo]
    simp (disch := omega) only [pm_k_i, Option.toList_some, Option.toList_none, List.cons_append, List.nil_append, cond_true, cond_false, ↓reduceIte, reduceCtorEq, z_1, nI_add, z_cl, z_ib, z_lt, z_le, z_eq, z_eq0, z_le0, z_lt0, z_b0, z_b1, z_m1, z_and7, Int32.add_zero, not_true_eq_false, DA.1.1, DA.1.2.1, (mk.2.2.2.2 k1).2, m_indexA hF, DA.pf hn G k1, e1224_26 hF, b1, m_indexB hF, DA.off hn G k1, e1224_45 hF, e1224_54 hF]
    cases e1 : pfn n b d q with
    | some i =>
      have := (ff_some e1).1
      rw [if_neg (show ¬ oI (some i) = -1 by rw [show oI (some i) = nI i from rfl, z_m1 (by omega)]; exact id)]
      exact ⟨B, rfl, a2.tr b2, b3⟩
    | none =>
      rw [if_pos (show oI none = -1 from rfl)]
      cases e2 : ofn n b d q with
      | some i =>
        have := (ff_some e2).1
        rw [if_neg (show ¬ oI (some i) = -1 by rw [show oI (some i) = nI i from rfl, z_m1 (by omega)]; exact id)]
        exact ⟨B, rfl, a2.tr b2, b3⟩
      | none =>
        rw [if_pos (show oI none = -1 from rfl)]
        exact ⟨A, rfl, a2, a3⟩
  · have eo : oF n b d q g = g := if_neg c
    rw [eo]
    simp (disch := omega) only [pm_k_i, Option.toList_some, Option.toList_none, List.cons_append, List.nil_append, cond_true, cond_false, ↓reduceIte, reduceCtorEq, z_1, nI_add, z_cl, z_ib, z_lt, z_le, z_eq, z_eq0, z_le0, z_lt0, z_b0, z_b1, z_m1, z_and7, Int32.add_zero, c, not_false_eq_true, e1224_54 hF]
    exact ⟨A, rfl, a2, a3⟩
theorem m_partyHere (hF : pm_fix pt_me pt_Sg (pt_R L0 xs) F) (X : MP n b q f I L) (D : MD n b d I L) (G : DG n b d) : ∃ I' x, (F 1225 0 [some (.ref 49), none] [] (81, pt_G, I, L)) = some (some (.int x), (81, pt_G, I', L)) ∧ GP I I' L L ∧ MP n b q (oK (pfn n b d q) (oA n b q f)) I' L ∧ (oK (pfn n b d q) (oA n b q f) = 0 → ∃ i, pfn n b d q = some i ∧ x = nI i) := by
  have hP := G.P
  obtain ⟨A, a1, a2, a3⟩ := m_mustName hF X
  have DA := a2.md D
  rw [e1225_0 hF, a1]
  generalize hg : oA n b q f = g at *
  have hn := a3.1.2.1
  simp (disch := omega) only [pm_k_i, Option.toList_some, Option.toList_none, List.cons_append, List.nil_append, cond_true, cond_false, ↓reduceIte, reduceCtorEq, z_1, nI_add, z_cl, z_ib, z_lt, z_le, z_eq, z_eq0, z_le0, z_lt0, z_b0, z_b1, z_m1, z_and7, Int32.add_zero, e1225_4 hF, DA.1.1, m_indexA hF, e1225_19 hF, m_isGood hF a3, e1225_24 hF, decide_eq_false_iff_not]
  by_cases c : g = 0
  · subst c
    have k1 := (oA_0 hg).2.1
    have mk := a3.2.2.2.2.1 rfl
    obtain ⟨B, b1, b2, b3⟩ := wrong_at hF a3 k1 (k := 3) (by omega) (by omega)
    have b1 : (F 1214 0 [some (.ref 49), some (.int 3)] [] (81, pt_G, A, L)) = _ := b1
    have eo : oK (pfn n b d q) 0 = bif (pfn n b d q).isSome then 0 else 3 := if_pos rfl
    rw [eo]
    simp (disch := omega) only [pm_k_i, Option.toList_some, Option.toList_none, List.cons_append, List.nil_append, cond_true, cond_false, ↓reduceIte, reduceCtorEq, z_1, nI_add, z_cl, z_ib, z_lt, z_le, z_eq, z_eq0, z_le0, z_lt0, z_b0, z_b1, z_m1, z_and7, Int32.add_zero, not_true_eq_false, (mk.2.2.2.2 k1).2, DA.pf hn G k1, b1, e1225_37 hF]
    cases e1 : pfn n b d q with
    | some i =>
      have := (ff_some e1).1
      rw [if_neg (show ¬ oI (some i) = -1 by rw [show oI (some i) = nI i from rfl, z_m1 (by omega)]; exact id)]
      exact ⟨A, nI i, rfl, a2, a3, fun _ => ⟨i, rfl, rfl⟩⟩
    | none =>
      rw [if_pos (show oI none = -1 from rfl)]
      exact ⟨B, _, rfl, a2.tr b2, b3, fun z => by cases z⟩
  · have eo : oK (pfn n b d q) g = g := if_neg c
    rw [eo]
    simp (disch := omega) only [pm_k_i, Option.toList_some, Option.toList_none, List.cons_append, List.nil_append, cond_true, cond_false, ↓reduceIte, reduceCtorEq, z_1, nI_add, z_cl, z_ib, z_lt, z_le, z_eq, z_eq0, z_le0, z_lt0, z_b0, z_b1, z_m1, z_and7, Int32.add_zero, c, not_false_eq_true, e1225_37 hF]
    exact ⟨A, _, rfl, a2, a3, fun z => by first | exact absurd z c | exact z.elim⟩
/-- what a line may write in the model -/
def GL' (I I' : Nat → Nat → Int32) (L L' : Nat → Nat → Int64) : Prop := (∀ r j, r < 53 ∨ 58 < r → (r = 49 → j < 3 ∨ 21 < j) → I' r j = I r j) ∧ ∀ r j, (r = 49 → j ≠ 12) → r ≠ 51 → r ≠ 52 → L' r j = L r j
theorem GL'.rf : GL' I I L L := ⟨fun _ _ _ _ => rfl, fun _ _ _ _ _ => rfl⟩
theorem GL'.tr {I1 I2 I3 : Nat → Nat → Int32} {L1 L2 L3 : Nat → Nat → Int64} (a : GL' I1 I2 L1 L2) (b : GL' I2 I3 L2 L3) : GL' I1 I3 L1 L3 := ⟨fun r j q u => (b.1 r j q u).trans (a.1 r j q u), fun r j q u v => (b.2 r j q u v).trans (a.2 r j q u v)⟩
theorem GP.gl (a : GP I I' L L') : GL' I I' L L' := ⟨fun r j _ u => a.1 r j (fun z => by have := u z; omega), fun r j q _ _ => a.2 r j q⟩
theorem GL'.u49 {k : Nat} {v : Int32} (h : 3 ≤ k) (h2 : k ≤ 21) : GL' I (pm_ui I 49 k v) L L := ⟨fun r j _ u => by
  by_cases z : r = 49
  · have := u z; rw [z, z_uk (by omega)]
  · rw [z_ur z], fun _ _ _ _ _ => rfl⟩
theorem GL'.u {r k : Nat} {v : Int32} (h : 53 ≤ r) (h2 : r ≤ 58) : GL' I (pm_ui I r k v) L L := ⟨fun x j a _ => by rw [z_ur (by omega)], fun _ _ _ _ _ => rfl⟩
theorem MP.of (X : MP n b q f I L) (f2 : I' 49 2 = I 49 2) (f50 : ∀ i, I' 50 i = I 50 i) (f49 : ∀ j, 3 ≤ j → j ≤ 9 → I' 49 j = I 49 j) (g : L' 49 12 = L 49 12) : MP n b q f I' L' := by
  obtain ⟨x1, x3, x4, x5, x6, x7⟩ := X
  refine ⟨x1.of f2 f50, x3, by rw [f49 8 (by omega) (by omega)]; exact x4, by rw [f49 9 (by omega) (by omega)]; exact x5, fun z => ?_, x7⟩
  obtain ⟨c1, c2, c3, c4, c5⟩ := x6 z
  exact ⟨by rw [f49 3 (by omega) (by omega)]; exact c1, by rw [f49 4 (by omega) (by omega)]; exact c2, by rw [f49 5 (by omega) (by omega)]; exact c3, fun u => by rw [f49 6 (by omega) (by omega)]; exact c4 u, fun u => by rw [f49 7 (by omega) (by omega), g]; exact c5 u⟩
theorem MP.u49 (X : MP n b q f I L) {k : Nat} {v : Int32} (h : 10 ≤ k) : MP n b q f (pm_ui I 49 k v) L := X.of (by rw [z_uk (by omega)]) (fun i => by rw [z_ur (by omega)]) (fun j a c => by rw [z_uk (by omega)]) rfl
theorem MP.u (X : MP n b q f I L) {r k : Nat} {v : Int32} (h : 51 ≤ r) : MP n b q f (pm_ui I r k v) L := X.of (by rw [z_ur (by omega)]) (fun i => by rw [z_ur (by omega)]) (fun j a c => by rw [z_ur (by omega)]) rfl
theorem m_once (hF : pm_fix pt_me pt_Sg (pt_R L0 xs) F) (hb : ∀ i, b i < 256) (X : MP n b q 0 I L) (D : MD n b d I L) (G : DG n b d) {k : Nat} (hk : k < 5) (h1 : kd n b q = 1) : ∃ I' L', (F 1226 0 [some (.ref 49), some (.int (nI k))] [] (81, pt_G, I, L)) = some (none, (81, pt_G, I', L')) ∧ GL' I I' L L' ∧ MP n b (aq n b q (oO d k)) (oO d k) I' L' ∧ MD n b (ud d 0 8 (ad (d 0 8) k)) I' L' := by
  have g8 := G.2.1
  have m0 : nI (d 0 8) ||| ((1 : Int32) <<< (nI k &&& 31)) = nI (ad (d 0 8) k) := z_ad _ (by omega) k (by omega)
  have md : ∀ J, GP I J L L → MD n b (ud d 0 8 (ad (d 0 8) k)) (pm_ui J 49 21 (nI (ad (d 0 8) k))) L := by
    intro J g
    obtain ⟨⟨x1, x2, x3, x4, x5, x6, x7, x8, x9⟩, y1, y2, y3, y4⟩ := g.md D
    refine ⟨⟨?_, ?_, ?_, ?_, ?_, ?_, ?_, ?_, ?_⟩, fun p p0 => ?_, fun p p0 => ?_, fun p o p0 o0 => ?_, y4⟩
    · rw [z_uk (by omega)]; exact x1
    · rw [z_uk (by omega)]; exact x2
    · rw [z_uk (by omega)]; exact x3
    · rw [z_uk (by omega)]; exact x4
    · rw [z_uk (by omega)]; exact x5
    · rw [z_uk (by omega)]; exact x6
    · rw [z_uk (by omega)]; exact x7
    · rw [z_uk (by omega)]; exact x8
    · rw [z_ue]; rfl
    · simp (disch := omega) only [z_ur]; exact y1 p p0
    · simp (disch := omega) only [z_ur]; exact y2 p p0
    · simp (disch := omega) only [z_ur]; exact y3 p o p0 o0
  rw [e1226_0 hF, m_isGood hF X]
  simp (disch := omega) only [pm_k_i, Option.toList_some, Option.toList_none, List.cons_append, List.nil_append, cond_true, cond_false, ↓reduceIte, reduceCtorEq, z_1, nI_add, z_cl, z_ib, z_lt, z_le, z_eq, z_eq0, z_le0, z_lt0, z_b0, z_b1, z_m1, z_and7, Int32.add_zero, e1226_4 hF, decide_true, D.1.2.2.2.2.2.2.2.2, m_holds hF, e1226_15 hF]
  unfold oO
  cases (d 0 8).testBit k with
  | false =>
    simp (disch := omega) only [pm_k_i, Option.toList_some, Option.toList_none, List.cons_append, List.nil_append, cond_true, cond_false, ↓reduceIte, reduceCtorEq, z_1, nI_add, z_cl, z_ib, z_lt, z_le, z_eq, z_eq0, z_le0, z_lt0, z_b0, z_b1, z_m1, z_and7, Int32.add_zero, e1226_23 hF, D.1.2.2.2.2.2.2.2.2, m0]
    have X2 : MP n b q 0 (pm_ui I 49 21 (nI (ad (d 0 8) k))) L := X.u49 (by omega)
    obtain ⟨U, V, u1, u2, u3⟩ := m_adv hF hb X2
    simp (disch := omega) only [pm_k_i, Option.toList_some, Option.toList_none, List.cons_append, List.nil_append, cond_true, cond_false, ↓reduceIte, reduceCtorEq, z_1, nI_add, z_cl, z_ib, z_lt, z_le, z_eq, z_eq0, z_le0, z_lt0, z_b0, z_b1, z_m1, z_and7, Int32.add_zero, m_isGood hF X2, e1226_39 hF, decide_true, u1, e1226_46 hF]
    exact ⟨U, V, rfl, (GL'.u49 (by omega) (by omega)).tr u2.gl, u3, u2.md (md I GP.rf)⟩
  | true =>
    obtain ⟨A, a1, a2, a3⟩ := wrong_at hF X h1 (k := 2) (by omega) (by omega)
    have a1 : (F 1214 0 [some (.ref 49), some (.int 2)] [] (81, pt_G, I, L)) = _ := a1
    have A21 : A 49 21 = nI (d 0 8) := by rw [a2.1 49 21 (by omega)]; exact D.1.2.2.2.2.2.2.2.2
    simp (disch := omega) only [pm_k_i, Option.toList_some, Option.toList_none, List.cons_append, List.nil_append, cond_true, cond_false, ↓reduceIte, reduceCtorEq, z_1, nI_add, z_cl, z_ib, z_lt, z_le, z_eq, z_eq0, z_le0, z_lt0, z_b0, z_b1, z_m1, z_and7, Int32.add_zero, a1, e1226_23 hF, A21, m0]
    have X2 : MP n b q 2 (pm_ui A 49 21 (nI (ad (d 0 8) k))) L := a3.u49 (by omega)
    have e2 : aq n b q 2 = q := if_neg (by omega)
    rw [e2, m_isGood hF X2]
    simp (disch := omega) only [pm_k_i, Option.toList_some, Option.toList_none, List.cons_append, List.nil_append, cond_true, cond_false, ↓reduceIte, reduceCtorEq, z_1, nI_add, z_cl, z_ib, z_lt, z_le, z_eq, z_eq0, z_le0, z_lt0, z_b0, z_b1, z_m1, z_and7, Int32.add_zero, e1226_39 hF, e1226_46 hF]
    rw [if_pos (by decide)]
    exact ⟨_, L, rfl, a2.gl.tr (GL'.u49 (by omega) (by omega)), X2, md A a2⟩
end
