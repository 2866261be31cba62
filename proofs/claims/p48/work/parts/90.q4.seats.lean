/-! ===== one call: other seats, taking back, another house ===== -/
section
variable {h : Nat → Nat → Nat} {I I' I0 : Nat → Nat → Int32} {L L' : Nat → Nat → Int64}
variable {q n C C' a a' c : Nat} {b w w' S : Nat → Nat} {fa pl : Int32} {sn sn' : Nat → SN} {e v : Nat}
variable {F : pm_F} {L0 : Nat} {xs : Nat → Int32}
theorem sS_CAB (C : Nat) (w : Nat → Nat) : CAB (sS h S) C w = CAB h C w := rfl
theorem sS_ACM (a : Nat) (sn : Nat → SN) : ACM (sS h S) a sn = ACM h a sn := rfl
theorem sS_NM (C : Nat) (w : Nat → Nat) : NM (sS h S) C w = NM h C w := rfl
theorem sS_PC : PC (sS h S) = PC h := rfl
theorem sS_CE : CE (sS h S) = CE h := rfl
theorem sS_WF (W : WF h) (s : ∀ p, 1 ≤ S p ∧ S p ≤ 999) : WF (sS h S) := ⟨W.1, s, W.2.2⟩
theorem OLD.new {x : Int32} (X : OLD x v) (hv : v < 1073741823) : OLD x (v + 1) ∧ x ≠ nI (v + 1) := by
  rcases X with rfl | ⟨m, hm, rfl⟩
  · exact ⟨Or.inl rfl, fun z => by
      have := congrArg Int32.toInt z
      rw [nI_toInt (by omega)] at this
      have d : (-1 : Int32).toInt = -1 := by decide
      omega⟩
  · refine ⟨Or.inr ⟨m, by omega, rfl⟩, fun z => ?_⟩
    have u := (z_eq (a := m) (b := v + 1) (by omega) (by omega)).mp z
    omega
theorem GS.seats (Z : GS h n b C w a sn) (s : ∀ p, 1 ≤ S p ∧ S p ≤ 999) : GS (sS h S) n b C w a sn := ⟨sS_WF Z.1 s, Z.2⟩
theorem NXT.mk1 {x : Int32} {I1 I2 : Nat → Nat → Int32} {L1 L2 : Nat → Nat → Int64} {o1 : pm_R} {o2 : (Nat → Nat → Int32) → (Nat → Nat → Int64) → pm_R} (h1 : o1 = some (some (.int x), (49, pt_G, I1, L1))) (h2 : o2 I1 L1 = some (some (.int x), (49, pt_G, I2, L2))) (Z : GS h n b C w a sn) (X : K1 (q + 1) h n b fa pl C w a sn I2 L2) (Y : K2 h n b fa pl C w a sn I2) : NXT q o1 o2 :=
  ⟨x, I1, L1, I2, L2, h1, h2, h, n, b, fa, pl, C, w, a, sn, Z, X, Y⟩
/-- the class with other seats -/
theorem K1.seats (X : K1 q h n b fa pl C w a sn I L) (hq : q < 1000000) (f : ∀ r k, r < 44 → r ≠ 4 → (r = 3 → k ≠ 9) → I' r k = I r k) (f4 : ∀ p, p < h 0 0 → I' 4 p = nI (S p)) (f9 : I' 3 9 = I 3 9 + 1) (i1 : I' 44 5 = nI C') (i2 : C' ≠ 0 → I' 44 6 = nI (hp w')) (A : ACC (h 0 0) a' sn' S I') : K1 (q + 1) (sS h S) n b fa pl C' w' a' sn' I' L := by
  obtain ⟨⟨e, v, e1, v1, cx, fo⟩, x1, x2, x3, x4, x5, x6, x7⟩ := X
  refine ⟨⟨e, v + 1, by omega, by omega, ?_, ?_⟩, x1.of (f 1 1 (by omega) (by omega) (by omega)) (fun i => f 2 i (by omega) (by omega) (by omega)), x2, by rw [f 10 8 (by omega) (by omega) (by omega)]; exact x3, by rw [f 10 9 (by omega) (by omega) (by omega)]; exact x4, i1, i2, A⟩
  · -- what was found out and is not of the seats
    have g : LO (fun r k => if 44 ≤ r ∨ r = 3 ∨ r = 4 then I' r k else I r k) I' := fun r k _ => by
      by_cases c : 44 ≤ r ∨ r = 3 ∨ r = 4
      · exact (if_pos c).symm
      · exact (f r k (by omega) (by omega) (by omega)).trans (if_neg c).symm
    obtain ⟨y1, y2, y3, y4, y5, y6, y7, y8, y9, y10, y11⟩ := cx
    have o := y10.new (by omega)
    have f13 : I' 30 13 = I 30 13 := f 30 13 (by omega) (by omega) (by omega)
    have f14 : I' 30 14 = I 30 14 := f 30 14 (by omega) (by omega) (by omega)
    have f8 : I' 3 8 = I 3 8 := f 3 8 (by omega) (by omega) (by omega)
    obtain ⟨c1, c2, c3, c4, c5, c6, c7⟩ := y1
    refine ⟨⟨fun k hk => by rw [f 3 k (by omega) (by omega) (by omega)]; exact c1 k hk, f4, fun p hp => by rw [f 5 p (by omega) (by omega) (by omega)]; exact c3 p hp, fun p hp => by rw [f 6 p (by omega) (by omega) (by omega)]; exact c4 p hp, fun p hp => by rw [f 7 p (by omega) (by omega) (by omega)]; exact c5 p hp, fun p o hp ho => by rw [f 8 _ (by omega) (by omega) (by omega)]; exact c6 p o hp ho, fun p o hp ho => by rw [f 9 _ (by omega) (by omega) (by omega)]; exact c7 p o hp ho⟩, by rw [f8]; exact y2, by rw [f9, y3, show (1 : Int32) = nI 1 from rfl, nI_add], y4, by omega, by rw [f 23 6 (by omega) (by omega) (by omega)]; exact y6, ?_, by rw [f13]; exact y8, fun z => ?_, by rw [f14]; exact o.1, fun z => absurd (by rw [f14] at z; exact z) o.2⟩
    · rw [sS_PC]
      exact y7.of ⟨f 23 4 (by omega) (by omega) (by omega), f 23 5 (by omega) (by omega) (by omega), f 23 6 (by omega) (by omega) (by omega)⟩ f8 (fun k => f 24 k (by omega) (by omega) (by omega)) (fun k => f 26 k (by omega) (by omega) (by omega)) (fun _ => rfl)
    · rw [sS_CE]
      rw [f13] at z
      exact (y9 z).of (fun k => f 34 k (by omega) (by omega) (by omega)) (fun k => f 35 k (by omega) (by omega) (by omega))
  · have f7 : I' 41 7 = I 41 7 := f 41 7 (by omega) (by omega) (by omega)
    obtain ⟨x1, x2⟩ := fo
    have o := x1.new (by omega)
    exact ⟨by rw [f7]; exact o.1, fun z => absurd (by rw [f7] at z; exact z) o.2⟩
/-- the model with other seats -/
theorem K2.seats (Y : K2 h n b fa pl C w a sn I) (f : ∀ r k, r ≠ 64 → r ≠ 65 → (r = 49 → k ≠ 45 ∧ k ≠ 57) → I' r k = I r k) (s : ∀ p, p < h 0 0 → I' 64 (9 + p) = nI (S p)) (z : I' 49 57 = 0) (N : NM h C' w' I') (A : ACM h a' sn' I') : K2 (sS h S) n b fa pl C' w' a' sn' I' := by
  obtain ⟨⟨⟨x0, y0⟩, _⟩, x2, x3, x4, x5, x6⟩ := Y
  have g : ∀ r k, r ≠ 64 → r ≠ 65 → r ≠ 49 → I' r k = I r k := fun r k p1 p2 p3 => f r k p1 p2 (fun e => absurd e p3)
  have g9 : ∀ k, k ≠ 45 → k ≠ 57 → I' 49 k = I 49 k := fun k p1 p2 => f 49 k (by omega) (by omega) (fun _ => ⟨p1, p2⟩)
  obtain ⟨c0, c1, c2, c3, c4, c5⟩ := y0
  refine ⟨⟨⟨?_, s, fun p hp => by rw [g 59 p (by omega) (by omega) (by omega)]; exact c1 p hp, fun p hp => by rw [g 60 p (by omega) (by omega) (by omega)]; exact c2 p hp, fun p hp => by rw [g 61 p (by omega) (by omega) (by omega)]; exact c3 p hp, fun p o hp ho => by rw [g 62 _ (by omega) (by omega) (by omega)]; exact c4 p o hp ho, fun p o hp ho => by rw [g 63 _ (by omega) (by omega) (by omega)]; exact c5 p o hp ho⟩, Or.inl z⟩, x2.of (g9 1 (by omega) (by omega)) (fun i => g 50 i (by omega) (by omega) (by omega)), by rw [g9 10 (by omega) (by omega)]; exact x3, by rw [g9 11 (by omega) (by omega)]; exact x4, N, A⟩
  rw [g9 30 (by omega) (by omega), g9 31 (by omega) (by omega), g9 32 (by omega) (by omega), g9 33 (by omega) (by omega), g9 34 (by omega) (by omega), g9 35 (by omega) (by omega), g9 36 (by omega) (by omega), g9 37 (by omega) (by omega)]
  exact x0
end
