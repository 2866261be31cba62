/-! ===== what is told stays in order; reading comes to an end ===== -/
section
variable {n q f : Nat} {b : Nat → Nat} {d : Nat → Nat → Nat}
theorem ad_32 : ∀ C, C < 32 → ∀ k, k < 5 → ad C k < 32 := by decide +kernel
theorem tb_ad {C k : Nat} (hC : C < 128) (hk : k < 7) (j : Nat) : (ad C k).testBit j = (C.testBit j || Nat.beq j k) := by
  by_cases c : j < 8
  · exact z_adb C (by omega) k (by omega) j c
  · rw [z_tbig (n := 7) (ad_128 C hC k hk) (by omega), z_tbig (n := 7) hC (by omega), beq_f (by omega)]; rfl
theorem aq_gt (hn : n ≤ 900) (hq : q < n) : q < aq n b q 0 := by
  have e := en_le (b := b) hn (show q ≤ n by omega)
  have s := skp_le (b := b) hn e.2.1
  have ea : aq n b q 0 = skp n b (en n b q) := if_pos rfl
  rw [ea]
  have := e.2.2 hq
  omega
theorem oO_0 {k : Nat} (h : oO d k = 0) : (d 0 8).testBit k = false := by
  unfold oO at h
  cases x : (d 0 8).testBit k with
  | false => rfl
  | true => rw [x] at h; cases h
theorem WF.put0 (W : WF d) {k v : Nat} (hk : k < 2 ∨ (2 ≤ k ∧ k ≤ 3 ∧ 1 ≤ v ∧ v ≤ 99) ∨ (k = 4 ∧ v ≤ 999) ∨ (k = 5 ∧ v ≤ 9) ∨ (k = 6 ∧ 1 ≤ v ∧ v ≤ 9) ∨ (k = 7 ∧ v ≤ 99) ∨ 7 < k) (h0 : k = 0 → v ≤ 7) (h1 : k = 1 → v ≤ 8) : WF (ud d 0 k v) := by
  obtain ⟨⟨a1, a2, a3, a4, a5, a6, a7, a8, a9, a10, a11⟩, w⟩ := W
  refine ⟨?_, w⟩
  have e : ∀ j, ud d 0 k v 0 j = if j = k then v else d 0 j := by
    intro j
    unfold ud
    by_cases c : j = k
    · rw [if_pos ⟨rfl, c⟩, if_pos c]
    · rw [if_neg (fun h => c h.2), if_neg c]
  rw [e, e, e, e, e, e, e, e]
  refine ⟨?_, ?_, ?_, ?_, ?_, ?_, ?_, ?_, ?_, ?_, ?_⟩ <;> split <;> omega
theorem DG.put0 (G : DG n b d) {k v : Nat} (W' : WF (ud d 0 k v)) (hk : 2 ≤ k) (h8 : k = 8 → v < 32) : DG n b (ud d 0 k v) := by
  obtain ⟨g1, g2, g3, g4, g5, g6, g7⟩ := G
  have e0 : ud d 0 k v 0 0 = d 0 0 := if_neg (by omega)
  have e1 : ud d 0 k v 0 1 = d 0 1 := if_neg (by omega)
  refine ⟨W', ?_, fun p p0 => ?_, fun o o0 => ?_, g5, g6, g7⟩
  · unfold ud
    split
    · rename_i h; exact h8 h.2.symm
    · exact g2
  · rw [e0] at p0; exact g3 p p0
  · rw [e1] at o0; exact g4 o o0
theorem DG.once (G : DG n b d) {k : Nat} (hk : k < 5) : DG n b (ud d 0 8 (ad (d 0 8) k)) :=
  G.put0 (G.1.put0 (by omega) (by omega) (by omega)) (by omega) (fun _ => ad_32 _ G.2.1 k hk)
def LOK (n : Nat) (b : Nat → Nat) (q : Nat) (R : Nat × Nat × (Nat → Nat → Nat)) : Prop := R.2.1 = 0 → DG n b R.2.2 ∧ q < R.1
theorem aq_mono (hn : n ≤ 900) (hq : q ≤ n) (f : Nat) : q ≤ aq n b q f ∧ aq n b q f ≤ n := aq_le hn hq f
theorem ln1_ok (hn : n ≤ 900) (hq : q < n) (G : DG n b d) {lo hi k : Nat} (hk : (k = 1 ∧ hi ≤ 999) ∨ (k = 2 ∧ hi ≤ 9) ∨ (k = 3 ∧ 1 ≤ lo ∧ hi ≤ 9) ∨ (k = 4 ∧ hi ≤ 99)) : LOK n b q (ln1 n b d lo hi k q) := by
  intro z
  have z1 := (oS_0 z).1
  have z2 := oN_0 z1
  have z3 := z2.1
  have g := aq_gt (b := b) hn hq
  refine ⟨(G.once (by omega)).put0 ((G.once (k := k) (by omega)).1.put0 (k := 3 + k) (by omega) (by omega) (by omega)) (by omega) (by omega), ?_⟩
  show q < aq n b (aq n b (aq n b q (oO d k)) (oN n b lo hi (aq n b q (oO d k)) (oO d k))) (oS n b (aq n b (aq n b q (oO d k)) (oN n b lo hi (aq n b q (oO d k)) (oO d k))) (oN n b lo hi (aq n b q (oO d k)) (oO d k)))
  rw [z3]
  have m1 := aq_mono (b := b) hn (show q ≤ n by omega) 0
  have m2 := aq_mono (b := b) hn m1.2 (oN n b lo hi (aq n b q 0) 0)
  have m3 := aq_mono (b := b) hn m2.2 (oS n b (aq n b (aq n b q 0) (oN n b lo hi (aq n b q 0) 0)) (oN n b lo hi (aq n b q 0) 0))
  omega
theorem ln0_ok (hn : n ≤ 900) (hq : q < n) (G : DG n b d) : LOK n b q (ln0 n b d q) := by
  intro z
  have z1 := (oS_0 z).1
  have z2 := oN_0 z1
  have z3 := oN_0 z2.1
  have z4 := z3.1
  have g := aq_gt (b := b) hn hq
  have G1 := G.once (k := 0) (by omega)
  have G2 := G1.put0 (k := 2) (v := vl n b (aq n b q (oO d 0))) (G1.1.put0 (by omega) (by omega) (by omega)) (by omega) (by omega)
  refine ⟨G2.put0 (k := 3) (G2.1.put0 (by omega) (by omega) (by omega)) (by omega) (by omega), ?_⟩
  unfold ln0
  dsimp only
  rw [z4]
  have m1 := aq_mono (b := b) hn (show q ≤ n by omega) 0
  have m2 := aq_mono (b := b) hn m1.2 (oN n b 1 99 (aq n b q 0) 0)
  generalize aq n b (aq n b q 0) (oN n b 1 99 (aq n b q 0) 0) = q2 at *
  generalize oN n b 1 99 (aq n b q 0) 0 = f2 at *
  have m3 := aq_mono (b := b) hn m2.2 (oN n b 1 99 q2 f2)
  generalize aq n b q2 (oN n b 1 99 q2 f2) = q3 at *
  generalize oN n b 1 99 q2 f2 = f3 at *
  have m4 := aq_mono (b := b) hn m3.2 (oS n b q3 f3)
  omega
theorem lnO_ok (hn : n ≤ 900) (hq : q < n) (G : DG n b d) : LOK n b q (lnO n b d q) := by
  unfold lnO
  dsimp only
  generalize hf1 : (if d 0 1 < 8 then 0 else 5) = f1
  generalize hQ1 : aq n b q f1 = q1
  generalize hF3 : oF n b d q1 (oA n b q1 f1) = f3
  generalize hQ2 : aq n b q1 f3 = q2
  generalize hF4 : oS n b q2 f3 = f4
  intro z
  have z : f4 = 0 := z
  subst z
  have z1 := (oS_0 hF4).1
  have z2 := oF_0 (hF3.trans z1)
  have z3 := oA_0 z2.1
  have o8 : d 0 1 < 8 := by
    by_cases o8 : d 0 1 < 8
    · exact o8
    · rw [if_neg o8, z3.1] at hf1; omega
  have g := aq_gt (b := b) hn hq
  have m1 := aq_mono (b := b) hn (show q ≤ n by omega) f1
  rw [z3.1] at hQ1
  rw [z3.1, hQ1] at m1
  rw [hQ1] at g
  have m2 := aq_mono (b := b) hn m1.2 f3
  rw [hQ2] at m2
  have m3 := aq_mono (b := b) hn m2.2 0
  refine ⟨?_, by show q < aq n b q2 0; omega⟩
  obtain ⟨g1, g2, g3, g4, g5, g6, g7⟩ := G
  refine ⟨?_, g2, g3, fun o o0 => ?_, g5, g6, g7⟩
  · exact (show WF (ud d 8 (d 0 1) q1) from g1).put0 (k := 1) (by omega) (by omega) (by omega)
  · have o0 : o < d 0 1 + 1 := o0
    show kd n b (ud d 8 (d 0 1) q1 8 o) = 1
    unfold ud
    by_cases c : o = d 0 1
    · rw [if_pos ⟨rfl, c⟩]; exact z3.2.1
    · rw [if_neg (fun h => c h.2)]; exact g4 o (by omega)
theorem WF.row (W : WF d) {a k v : Nat} (h : (a = 1 ∧ 1 ≤ v ∧ v ≤ 999) ∨ (a = 2 ∧ v ≤ 99) ∨ (a = 3 ∧ v ≤ 999) ∨ (a = 5 ∧ v ≤ 99) ∨ (a = 6 ∧ v ≤ 9) ∨ 6 < a) : WF (ud d a k v) := by
  obtain ⟨w0, w1, w2, w3, w4, w5, w6, w7, w8⟩ := W
  have ne : ∀ x y, x ≠ a → ud d a k v x y = d x y := fun x y c => if_neg (fun h => c h.1)
  refine ⟨?_, fun p => ?_, fun p => ?_, fun p => ?_, fun p => ?_, fun x => ?_, fun x => ?_, fun p r => ?_, fun p => ?_⟩
  · rw [ne 0 0 (by omega), ne 0 1 (by omega), ne 0 2 (by omega), ne 0 3 (by omega), ne 0 4 (by omega), ne 0 5 (by omega), ne 0 6 (by omega), ne 0 7 (by omega)]; exact w0
  · unfold ud; split
    · omega
    · exact w1 p
  · unfold ud; split
    · omega
    · exact w2 p
  · unfold ud; split
    · omega
    · exact w3 p
  · rw [ne 4 p (by omega)]; exact w4 p
  · unfold ud; split
    · omega
    · exact w5 x
  · unfold ud; split
    · omega
    · exact w6 x
  · rw [ne 4 p (by omega), ne 4 r (by omega)]; exact w7 p r
  · rw [ne 4 p (by omega)]; exact w8 p
theorem lnw_v (h : (lnw n b q f).2.1 = 0) : (lnw n b q f).2.2 ≤ 999 := by
  unfold lnw at h ⊢
  split
  · rename_i c
    rw [if_pos c] at h
    exact (oN_0 h).2.2.2
  · exact Nat.zero_le _
theorem lnw_q (hn : n ≤ 900) (hq : q ≤ n) : q ≤ (lnw n b q f).1 ∧ (lnw n b q f).1 ≤ n := by
  unfold lnw
  split
  · have m1 := aq_mono (b := b) hn hq f
    have m2 := aq_mono (b := b) hn m1.2 (oN n b 0 999 (aq n b q f) f)
    show q ≤ aq n b (aq n b q f) (oN n b 0 999 (aq n b q f) f) ∧ aq n b (aq n b q f) (oN n b 0 999 (aq n b q f) f) ≤ n
    omega
  · exact ⟨Nat.le_refl _, hq⟩
theorem lnP_ok (hn : n ≤ 900) (hq : q < n) (G : DG n b d) : LOK n b q (lnP n b d q) := by
  unfold lnP
  dsimp only
  generalize hf1 : (if d 0 0 < 7 then 0 else 5) = f1
  generalize hQ1 : aq n b q f1 = q1
  generalize hF3 : oF n b d q1 (oA n b q1 f1) = f3
  generalize hQ2 : aq n b q1 f3 = q2
  generalize hF4 : oW n b 7 q2 f3 = f4
  generalize hQ3 : aq n b q2 f4 = q3
  generalize hF5 : oN n b 1 999 q3 f4 = f5
  generalize hQ4 : aq n b q3 f5 = q4
  generalize hF6 : oW n b 8 q4 f5 = f6
  generalize hQ5 : aq n b q4 f6 = q5
  generalize hF7 : oN n b 0 99 q5 f6 = f7
  generalize hQ6 : aq n b q5 f7 = q6
  generalize hW : lnw n b q6 f7 = W
  generalize hF9 : oS n b W.1 W.2.1 = f9
  intro z
  have z : f9 = 0 := z
  subst z
  have y1 := (oS_0 hF9).1
  have y1' : (lnw n b q6 f7).2.1 = 0 := by rw [hW]; exact y1
  have y2 := oN_0 (hF7.trans (lnw_0 y1'))
  have y3 := oW_0 (hF6.trans y2.1)
  have y4 := oN_0 (hF5.trans y3.1)
  have y5 := oW_0 (hF4.trans y4.1)
  have y6 := oF_0 (hF3.trans y5.1)
  have y7 := oA_0 y6.1
  have yw := lnw_v y1'
  rw [hW] at yw
  have o7 : d 0 0 < 7 := by
    by_cases o7 : d 0 0 < 7
    · exact o7
    · rw [if_neg o7, y7.1] at hf1; omega
  have g := aq_gt (b := b) hn hq
  have m1 := aq_mono (b := b) hn (show q ≤ n by omega) f1
  rw [y7.1] at hQ1
  rw [y7.1, hQ1] at m1
  rw [hQ1] at g
  have m2 := aq_mono (b := b) hn m1.2 f3
  rw [hQ2] at m2
  have m3 := aq_mono (b := b) hn m2.2 f4
  rw [hQ3] at m3
  have m4 := aq_mono (b := b) hn m3.2 f5
  rw [hQ4] at m4
  have m5 := aq_mono (b := b) hn m4.2 f6
  rw [hQ5] at m5
  have m6 := aq_mono (b := b) hn m5.2 f7
  rw [hQ6] at m6
  have m7 := lnw_q (b := b) (f := f7) hn m6.2
  rw [hW] at m7
  have m8 := aq_mono (b := b) hn m7.2 0
  refine ⟨?_, by show q < aq n b W.1 0; omega⟩
  obtain ⟨g1, g2, g3, g4, g5, g6, g7⟩ := G
  refine ⟨?_, g2, fun p p0 => ?_, g4, g5, g6, g7⟩
  · exact (((((show WF (ud d 7 (d 0 0) q1) from g1).row (a := 1) (k := d 0 0) (v := vl n b q3) (by omega)).row (a := 2) (k := d 0 0) (v := vl n b q5) (by omega)).row (a := 3) (k := d 0 0) (v := W.2.2) (by omega))).put0 (k := 0) (by omega) (by omega) (by omega)
  · have p0 : p < d 0 0 + 1 := p0
    show kd n b (ud d 7 (d 0 0) q1 7 p) = 1
    unfold ud
    by_cases c : p = d 0 0
    · rw [if_pos ⟨rfl, c⟩]; exact y7.2.1
    · rw [if_neg (fun h => c h.2)]; exact g3 p (by omega)
theorem lnT_ok (hn : n ≤ 900) (hq : q < n) (G : DG n b d) {t r most : Nat} (ht : (t = 9 ∧ r = 5 ∧ most ≤ 99) ∨ (t = 10 ∧ r = 6 ∧ most ≤ 9)) : LOK n b q (lnT n b d t r most q) := by
  have hP := G.P
  have hO := G.O
  unfold lnT
  dsimp only
  generalize hQ1 : aq n b q 0 = q1
  generalize hF2 : oK (pfn n b d q1) (oA n b q1 0) = f2
  generalize hQ2 : aq n b q1 f2 = q2
  generalize hF3 : oK (ofn n b d q2) (oA n b q2 f2) = f3
  generalize hF4 : (if f3 = 0 then (bif (d t ((pfn n b d q1).getD 7)).testBit ((ofn n b d q2).getD 7) then 3 else 0) else f3) = f4
  generalize hQ3 : aq n b q2 f4 = q3
  generalize hF5 : oN n b 0 most q3 f4 = f5
  generalize hQ4 : aq n b q3 f5 = q4
  generalize hF6 : oS n b q4 f5 = f6
  intro z
  have z : f6 = 0 := z
  subst z
  have y1 := oN_0 (hF5.trans (oS_0 hF6).1)
  have z3 : f3 = 0 := by
    have h4 := hF4.trans y1.1
    by_cases c : f3 = 0
    · exact c
    · rw [if_neg c] at h4; exact absurd h4 c
  have y3 := oK_0 (hF3.trans z3)
  have y4 := oA_0 y3.1
  have y5 := oK_0 (hF2.trans y4.1)
  obtain ⟨i, i1⟩ := Option.isSome_iff_exists.mp y5.2
  obtain ⟨o, o1⟩ := Option.isSome_iff_exists.mp y3.2
  have il := (ff_some i1).1
  have ol := (ff_some o1).1
  have g := aq_gt (b := b) hn hq
  rw [hQ1] at g
  have m1 := aq_mono (b := b) hn (show q ≤ n by omega) 0
  rw [hQ1] at m1
  have m2 := aq_mono (b := b) hn m1.2 f2
  rw [hQ2] at m2
  have m3 := aq_mono (b := b) hn m2.2 f4
  rw [hQ3] at m3
  have m4 := aq_mono (b := b) hn m3.2 f5
  rw [hQ4] at m4
  have m5 := aq_mono (b := b) hn m4.2 0
  refine ⟨?_, by show q < aq n b q4 0; omega⟩
  rw [i1, o1]
  show DG n b (ud (ud d t i (ad (d t i) o)) r (8 * i + o) (vl n b q3))
  obtain ⟨g1, g2, g3, g4, g5, g6, g7⟩ := G
  have tl9 := g5 i
  have wf : WF (ud (ud d t i (ad (d t i) o)) r (8 * i + o) (vl n b q3)) := (g1.row (by omega)).row (by omega)
  rcases ht with ⟨rfl, rfl, hm⟩ | ⟨rfl, rfl, hm⟩
  · refine ⟨wf, g2, g3, g4, fun p => ⟨?_, (g5 p).2⟩, fun p o' h8 hb => ?_, g7⟩
    · show ud d 9 i (ad (d 9 i) o) 9 p < 256
      unfold ud
      split
      · exact (ad_lt _ tl9.1 _ (by omega)).1
      · exact (g5 p).1
    · have hb : (ud d 9 i (ad (d 9 i) o) 9 p).testBit o' = false := hb
      show ud d 5 (8 * i + o) (vl n b q3) 5 (8 * p + o') = 0
      unfold ud at hb ⊢
      by_cases c : p = i
      · subst c
        rw [if_pos ⟨rfl, rfl⟩, z_adb _ tl9.1 _ (by omega) _ h8, Bool.or_eq_false_iff] at hb
        rw [if_neg (fun h => by
          have : o' = o := by omega
          rw [this, Nat.beq_refl] at hb
          cases hb.2)]
        exact g6 p o' h8 hb.1
      · rw [if_neg (fun h => c h.2)] at hb
        rw [if_neg (by omega)]
        exact g6 p o' h8 hb
  · refine ⟨wf, g2, g3, g4, fun p => ⟨(g5 p).1, ?_⟩, g6, fun p o' h8 hb => ?_⟩
    · show ud d 10 i (ad (d 10 i) o) 10 p < 256
      unfold ud
      split
      · exact (ad_lt _ tl9.2 _ (by omega)).1
      · exact (g5 p).2
    · have hb : (ud d 10 i (ad (d 10 i) o) 10 p).testBit o' = false := hb
      show ud d 6 (8 * i + o) (vl n b q3) 6 (8 * p + o') = 0
      unfold ud at hb ⊢
      by_cases c : p = i
      · subst c
        rw [if_pos ⟨rfl, rfl⟩, z_adb _ tl9.2 _ (by omega) _ h8, Bool.or_eq_false_iff] at hb
        rw [if_neg (fun h => by
          have : o' = o := by omega
          rw [this, Nat.beq_refl] at hb
          cases hb.2)]
        exact g7 p o' h8 hb.1
      · rw [if_neg (fun h => c h.2)] at hb
        rw [if_neg (by omega)]
        exact g7 p o' h8 hb
theorem lnB_ok (hn : n ≤ 900) (hq : q < n) (G : DG n b d) : LOK n b q (lnB n b d q) := by
  have hP := G.P
  unfold lnB
  dsimp only
  generalize hQ1 : aq n b q 0 = q1
  generalize hF2 : oK (pfn n b d q1) (oA n b q1 0) = f2
  generalize hQ2 : aq n b q1 f2 = q2
  generalize hF3 : oK (pfn n b d q2) (oA n b q2 f2) = f3
  generalize hF4 : (if f3 = 0 then (if (pfn n b d q1).getD 7 = (pfn n b d q2).getD 7 then 3 else 0) else f3) = f4
  generalize hQ3 : aq n b q2 f4 = q3
  generalize hF5 : oS n b q3 f4 = f5
  intro z
  have z : f5 = 0 := z
  subst z
  have z1 := (oS_0 hF5).1
  have z3 : f3 = 0 ∧ (pfn n b d q1).getD 7 ≠ (pfn n b d q2).getD 7 := by
    have h4 := hF4.trans z1
    by_cases c : f3 = 0
    · rw [if_pos c] at h4
      refine ⟨c, fun e => ?_⟩
      rw [if_pos e] at h4; cases h4
    · rw [if_neg c] at h4; exact absurd h4 c
  have y3 := oK_0 (hF3.trans z3.1)
  have y4 := oA_0 y3.1
  have y5 := oK_0 (hF2.trans y4.1)
  obtain ⟨i, i1⟩ := Option.isSome_iff_exists.mp y5.2
  obtain ⟨o, o1⟩ := Option.isSome_iff_exists.mp y3.2
  have il := (ff_some i1).1
  have ol := (ff_some o1).1
  have ne := z3.2
  rw [i1, o1] at ne
  have ne : i ≠ o := ne
  have g := aq_gt (b := b) hn hq
  rw [hQ1] at g
  have m1 := aq_mono (b := b) hn (show q ≤ n by omega) 0
  rw [hQ1] at m1
  have m2 := aq_mono (b := b) hn m1.2 f2
  rw [hQ2] at m2
  have m3 := aq_mono (b := b) hn m2.2 f4
  rw [hQ3] at m3
  have m4 := aq_mono (b := b) hn m3.2 0
  refine ⟨?_, by show q < aq n b q3 0; omega⟩
  rw [i1, o1]
  show DG n b (ud (ud d 4 i (ad (d 4 i) o)) 4 o (ad (d 4 o) i))
  obtain ⟨g1, g2, g3, g4, g5, g6, g7⟩ := G
  obtain ⟨w0, w1, w2, w3, w4, w5, w6, w7, w8⟩ := g1
  have e : ∀ x, ud (ud d 4 i (ad (d 4 i) o)) 4 o (ad (d 4 o) i) 4 x = if x = o then ad (d 4 o) i else if x = i then ad (d 4 i) o else d 4 x := by
    intro x
    unfold ud
    by_cases c : x = o
    · rw [if_pos ⟨rfl, c⟩, if_pos c]
    · rw [if_neg (fun h => c h.2), if_neg c]
      by_cases c2 : x = i
      · rw [if_pos ⟨rfl, c2⟩, if_pos c2]
      · rw [if_neg (fun h => c2 h.2), if_neg c2]
  have tb : ∀ x y, (ud (ud d 4 i (ad (d 4 i) o)) 4 o (ad (d 4 o) i) 4 x).testBit y = ((d 4 x).testBit y || (Nat.beq x o && Nat.beq y i) || (Nat.beq x i && Nat.beq y o)) := by
    intro x y
    rw [e]
    by_cases c : x = o
    · subst c
      rw [if_pos rfl, tb_ad (w4 _) (by omega), Nat.beq_refl, beq_f (show ¬ x = i by omega), Bool.true_and, Bool.false_and, Bool.or_false]
    · rw [if_neg c, beq_f c, Bool.false_and, Bool.or_false]
      by_cases c2 : x = i
      · subst c2
        rw [if_pos rfl, tb_ad (w4 _) (by omega), Nat.beq_refl, Bool.true_and]
      · rw [if_neg c2, beq_f c2, Bool.false_and, Bool.or_false]
  refine ⟨⟨w0, w1, w2, w3, fun p => ?_, w5, w6, fun p r => ?_, fun p => ?_⟩, g2, g3, g4, g5, g6, g7⟩
  · rw [e]
    split
    · exact ad_128 _ (w4 _) _ (by omega)
    · split
      · exact ad_128 _ (w4 _) _ (by omega)
      · exact w4 p
  · rw [tb, tb, w7 p r]
    have bc : ∀ a c : Nat, Nat.beq a c = Nat.beq c a := fun a c => by
      by_cases h : a = c
      · rw [h]
      · rw [beq_f h, beq_f (fun z => h z.symm)]
    cases Nat.beq p o <;> cases Nat.beq r i <;> cases Nat.beq p i <;> cases Nat.beq r o <;> cases (d 4 r).testBit p <;> rfl
  · rw [tb, w8 p, Bool.false_or]
    by_cases c : p = o
    · subst c
      rw [beq_f (show ¬ p = i by omega), Bool.and_false, Bool.false_and]; rfl
    · rw [beq_f c, Bool.false_and, Bool.and_false]; rfl
theorem lin_ok (hn : n ≤ 900) (hq : q < n) (G : DG n b d) : LOK n b q (lin n b d q) := by
  have X : LOK n b q (lnX n b d q) := by
    intro z
    have z : fk2 n b q 2 = 0 := z
    unfold fk2 at z
    split at z <;> omega
  unfold lin
  by_cases h1 : kd n b q = 1
  · rw [if_pos h1]
    cases hw : kw n b q with
    | none => exact X
    | some k =>
      have k13 := kw_lt hw
      have hk : k = 0 ∨ k = 1 ∨ k = 2 ∨ k = 3 ∨ k = 4 ∨ k = 5 ∨ k = 6 ∨ k = 7 ∨ k = 8 ∨ k = 9 ∨ k = 10 ∨ k = 11 ∨ k = 12 := by omega
      rcases hk with rfl | rfl | rfl | rfl | rfl | rfl | rfl | rfl | rfl | rfl | rfl | rfl | rfl
      · exact ln0_ok hn hq G
      · exact ln1_ok hn hq G (by omega)
      · exact ln1_ok hn hq G (by omega)
      · exact ln1_ok hn hq G (by omega)
      · exact ln1_ok hn hq G (by omega)
      · exact lnO_ok hn hq G
      · exact lnP_ok hn hq G
      · exact X
      · exact X
      · exact X
      · exact lnT_ok hn hq G (by omega)
      · exact lnT_ok hn hq G (by omega)
      · exact lnB_ok hn hq G
  · rw [if_neg h1]; exact X
/-- nothing told yet; so many lines read -/
def d00 : Nat → Nat → Nat := fun a k => if a = 0 then (if k = 2 ∨ k = 3 ∨ k = 6 then 1 else 0) else if a = 1 then 1 else 0
def rd1 (n : Nat) (b : Nat → Nat) (s : Nat × Nat × (Nat → Nat → Nat)) : Nat × Nat × (Nat → Nat → Nat) := if s.2.1 = 0 ∧ kd n b s.1 ≠ 0 then lin n b s.2.2 s.1 else s
def rdn (n : Nat) (b : Nat → Nat) (m : Nat) : Nat × Nat × (Nat → Nat → Nat) := lp (fun _ s => rd1 n b s) m (skp n b 0, 0, d00)
theorem d00_ok : DG n b d00 := by
  refine ⟨⟨by decide, fun p => by show 1 ≤ 1 ∧ 1 ≤ 999; omega, fun p => Nat.zero_le _, fun p => Nat.zero_le _, fun p => by show 0 < 128; omega, fun p => Nat.zero_le _, fun p => Nat.zero_le _, fun p r => ?_, fun p => Nat.zero_testBit _⟩, by decide, fun p p0 => absurd p0 (Nat.not_lt_zero _), fun o o0 => absurd o0 (Nat.not_lt_zero _), fun p => ⟨by show 0 < 256; omega, by show 0 < 256; omega⟩, fun p o _ _ => rfl, fun p o _ _ => rfl⟩
  show (0 : Nat).testBit r = (0 : Nat).testBit p
  rw [Nat.zero_testBit, Nat.zero_testBit]
theorem kd_0 : kd n b q = 0 ↔ n ≤ q := by
  constructor
  · intro h
    by_cases c : n ≤ q
    · exact c
    · unfold kd at h
      rw [if_neg c] at h
      cases x : isL (cb n b q) with
      | true => rw [x] at h; have h : (if wln n b q ≤ 8 then 1 else 4) = 0 := h; split at h <;> cases h
      | false =>
        rw [x] at h
        cases y : isD (cb n b q) with
        | true =>
          rw [y] at h
          have h : (if dln n b q ≤ 3 then (bif isL (cb n b (q + dln n b q)) then 4 else 2) else 4) = 0 := h
          split at h
          · cases w : isL (cb n b (q + dln n b q)) <;> (rw [w] at h; cases h)
          · cases h
        | false => rw [y] at h; have h : (if cb n b q = 59 then 3 else 4) = 0 := h; split at h <;> cases h
  · intro h; unfold kd; rw [if_pos h]
theorem rdn_ok (hn : n ≤ 900) (m : Nat) : (rdn n b m).2.1 = 0 → DG n b (rdn n b m).2.2 ∧ (m ≤ (rdn n b m).1 ∨ kd n b (rdn n b m).1 = 0) := by
  induction m with
  | zero => exact fun _ => ⟨d00_ok, Or.inl (Nat.zero_le _)⟩
  | succ m ih =>
    have e : rdn n b (m + 1) = rd1 n b (rdn n b m) := rfl
    rw [e]
    unfold rd1
    by_cases c : (rdn n b m).2.1 = 0 ∧ kd n b (rdn n b m).1 ≠ 0
    · rw [if_pos c]
      obtain ⟨i1, i2⟩ := ih c.1
      have ql : (rdn n b m).1 < n := by
        by_cases h : (rdn n b m).1 < n
        · exact h
        · exact absurd (kd_0.mpr (by omega)) c.2
      intro z
      obtain ⟨g1, g2⟩ := lin_ok hn ql i1 z
      refine ⟨g1, Or.inl ?_⟩
      rcases i2 with h | h
      · omega
      · exact absurd h c.2
    · rw [if_neg c]
      intro z
      obtain ⟨i1, i2⟩ := ih z
      refine ⟨i1, Or.inr ?_⟩
      by_cases h : kd n b (rdn n b m).1 = 0
      · exact h
      · exact absurd ⟨z, h⟩ c
theorem rdn_end (hn : n ≤ 900) (h : (rdn n b 900).2.1 = 0) : kd n b (rdn n b 900).1 = 0 := by
  rcases (rdn_ok hn 900 h).2 with c | c
  · exact kd_0.mpr (by omega)
  · exact c
theorem rdn_done {m k : Nat} (hm : m ≤ k) (h : ¬ ((rdn n b m).2.1 = 0 ∧ kd n b (rdn n b m).1 ≠ 0)) : rdn n b k = rdn n b m :=
  lp_fix hm rfl (fun _ _ _ => if_neg h)
end
