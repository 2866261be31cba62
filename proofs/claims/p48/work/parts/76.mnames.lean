/-! ===== the model: names, what is told so far, lines that come once ===== -/
section
variable {I I' : Nat → Nat → Int32} {L L' : Nat → Nat → Int64}
variable {F : pm_F} {L0 : Nat} {xs : Nat → Int32}
variable {n q f : Nat} {b : Nat → Nat} {d : Nat → Nat → Nat}
def MD (n : Nat) (b : Nat → Nat) (d : Nat → Nat → Nat) (I : Nat → Nat → Int32) (L : Nat → Nat → Int64) : Prop := (I 49 13 = nI (d 0 0) ∧ I 49 14 = nI (d 0 1) ∧ I 49 15 = nI (d 0 2) ∧ I 49 16 = nI (d 0 3) ∧ I 49 17 = (if d 0 4 = 0 then -1 else nI (d 0 4)) ∧ I 49 18 = nI (d 0 5) ∧ I 49 19 = nI (d 0 6) ∧ I 49 20 = nI (d 0 7) ∧ I 49 21 = nI (d 0 8)) ∧ (∀ p, p < d 0 0 → I 53 p = nI (d 1 p) ∧ I 54 p = nI (d 2 p) ∧ I 55 p = nI (d 3 p) ∧ L 51 p = lN (e8 n b (d 7 p))) ∧ (∀ p, p < 7 → I 56 p = nI (d 4 p)) ∧ (∀ p o, p < 7 → o < 8 → I 57 (8 * p + o) = (bif (d 9 p).testBit o then nI (d 5 (8 * p + o)) else -1) ∧ I 58 (8 * p + o) = (bif (d 10 p).testBit o then nI (d 6 (8 * p + o)) else -1)) ∧ ∀ o, o < d 0 1 → L 52 o = lN (e8 n b (d 8 o))
theorem MD.of (X : MD n b d I L) (f49 : ∀ j, 13 ≤ j → j ≤ 21 → I' 49 j = I 49 j) (f : ∀ r j, 53 ≤ r → r ≤ 58 → I' r j = I r j) (g : ∀ r j, r = 51 ∨ r = 52 → L' r j = L r j) : MD n b d I' L' := by
  obtain ⟨⟨x1, x2, x3, x4, x5, x6, x7, x8, x9⟩, y1, y2, y3, y4⟩ := X
  exact ⟨⟨by rw [f49 13 (by omega) (by omega)]; exact x1, by rw [f49 14 (by omega) (by omega)]; exact x2, by rw [f49 15 (by omega) (by omega)]; exact x3, by rw [f49 16 (by omega) (by omega)]; exact x4, by rw [f49 17 (by omega) (by omega)]; exact x5, by rw [f49 18 (by omega) (by omega)]; exact x6, by rw [f49 19 (by omega) (by omega)]; exact x7, by rw [f49 20 (by omega) (by omega)]; exact x8, by rw [f49 21 (by omega) (by omega)]; exact x9⟩, fun p hp => by rw [f 53 p (by omega) (by omega), f 54 p (by omega) (by omega), f 55 p (by omega) (by omega), g 51 p (by omega)]; exact y1 p hp, fun p hp => by rw [f 56 p (by omega) (by omega)]; exact y2 p hp, fun p o hp ho => by rw [f 57 _ (by omega) (by omega), f 58 _ (by omega) (by omega)]; exact y3 p o hp ho, fun o ho => by rw [g 52 o (by omega)]; exact y4 o ho⟩
theorem e8_dec (hn : n ≤ 900) {a c : Nat} (ha : kd n b a = 1) (hc : kd n b c = 1) : decide (lN (e8 n b a) = lN (e8 n b c)) = Nat.beq (e5 n b a) (e5 n b c) := by
  obtain ⟨a1, a2, a3, a4⟩ := kd_1 ha
  obtain ⟨c1, c2, c3, c4⟩ := kd_1 hc
  have h1 := e8_lt (b := b) hn (show a ≤ n by omega) a2
  have h2 := e8_lt (b := b) hn (show c ≤ n by omega) c2
  have e := e58 (b := b) hn (show a ≤ n by omega) (show c ≤ n by omega) a2 c2
  by_cases z : e5 n b a = e5 n b c
  · rw [z, Nat.beq_refl, decide_eq_true]
    rw [show e8 n b a = e8 n b c by rw [e]; exact z]
  · rw [beq_f z, decide_eq_false (fun y => z (by rw [← e]; exact (pk_lEQ (by omega) (by omega)).mp y))]
theorem MD.pf (X : MD n b d I L) (hn : n ≤ 900) (G : DG n b d) (hq : kd n b q = 1) : ff (fun k => decide (L 51 k = lN (e8 n b q))) (d 0 0) = pfn n b d q :=
  ff_congr (fun p hp => by rw [(X.2.1 p hp).2.2.2]; exact e8_dec hn (G.2.2.1 p hp) hq)
theorem MD.off (X : MD n b d I L) (hn : n ≤ 900) (G : DG n b d) (hq : kd n b q = 1) : ff (fun k => decide (L 52 k = lN (e8 n b q))) (d 0 1) = ofn n b d q :=
  ff_congr (fun o ho => by rw [X.2.2.2.2 o ho]; exact e8_dec hn (G.2.2.2.1 o ho) hq)
/-- what a line may write in the model -/
def GL' (I I' : Nat → Nat → Int32) (L L' : Nat → Nat → Int64) : Prop := (∀ r j, r < 53 ∨ 58 < r → (r = 49 → j < 3 ∨ 21 < j) → I' r j = I r j) ∧ ∀ r j, (r = 49 → j ≠ 12) → r ≠ 51 → r ≠ 52 → L' r j = L r j
theorem GL'.rf : GL' I I L L := ⟨fun _ _ _ _ => rfl, fun _ _ _ _ _ => rfl⟩
theorem GL'.tr {I1 I2 I3 : Nat → Nat → Int32} {L1 L2 L3 : Nat → Nat → Int64} (a : GL' I1 I2 L1 L2) (b : GL' I2 I3 L2 L3) : GL' I1 I3 L1 L3 := ⟨fun r j q u => (b.1 r j q u).trans (a.1 r j q u), fun r j q u v => (b.2 r j q u v).trans (a.2 r j q u v)⟩
theorem GL'.u {r k : Nat} {v : Int32} (h : 53 ≤ r) (h2 : r ≤ 58) : GL' I (pm_ui I r k v) L L := ⟨fun x j a _ => by rw [z_ur (by omega)], fun _ _ _ _ _ => rfl⟩
theorem MP.of (X : MP n b q f I L) (f2 : I' 49 2 = I 49 2) (f50 : ∀ i, I' 50 i = I 50 i) (f49 : ∀ j, 3 ≤ j → j ≤ 9 → I' 49 j = I 49 j) (g : L' 49 12 = L 49 12) : MP n b q f I' L' := by
  obtain ⟨x1, x3, x4, x5, x6, x7⟩ := X
  refine ⟨x1.of f2 f50, x3, by rw [f49 8 (by omega) (by omega)]; exact x4, by rw [f49 9 (by omega) (by omega)]; exact x5, fun z => ?_, x7⟩
  obtain ⟨c1, c2, c3, c4, c5⟩ := x6 z
  exact ⟨by rw [f49 3 (by omega) (by omega)]; exact c1, by rw [f49 4 (by omega) (by omega)]; exact c2, by rw [f49 5 (by omega) (by omega)]; exact c3, fun u => by rw [f49 6 (by omega) (by omega)]; exact c4 u, fun u => by rw [f49 7 (by omega) (by omega), g]; exact c5 u⟩
theorem MP.u (X : MP n b q f I L) {r k : Nat} {v : Int32} (h : 51 ≤ r) : MP n b q f (pm_ui I r k v) L := X.of (by rw [z_ur (by omega)]) (fun i => by rw [z_ur (by omega)]) (fun j a c => by rw [z_ur (by omega)]) rfl
end
