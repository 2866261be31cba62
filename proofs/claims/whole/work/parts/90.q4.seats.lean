/-! ===== one call: other seats, taking back, another house ===== -/
section
variable {h : Nat → Nat → Nat} {I I' I0 : Nat → Nat → Int32} {L L' : Nat → Nat → Int64}
variable {q n C C' a a' c : Nat} {b w w' S : Nat → Nat} {fa pl : Int32} {sn sn' : Nat → SN} {e v : Nat}
variable {F : pm_F} {L0 : Nat} {xs : Nat → Int32}
theorem sS_CAB (C : Nat) (w : Nat → Nat) : CAB (sS h S) C w = CAB h C w := rfl
theorem sS_ACM (a : Nat) (sn : Nat → SN) : ACM (sS h S) a sn = ACM h a sn := rfl
theorem sS_NM (C : Nat) (w : Nat → Nat) : NM (sS h S) C w = NM h C w := rfl
theorem sS_PC : PC (sS h S) = PC h := rfl
theorem sS_CE : CE (sS h S) = CE h := rfl
theorem sS_WF (W : WF h) (s : ∀ p, 1 ≤ S p ∧ S p ≤ 999) : WF (sS h S) := ⟨W.1, s, W.2.2⟩
theorem OLD.new {x : Int32} (X : OLD x v) (hv : v < 1073741823) : OLD x (v + 1) ∧ x ≠ nI (v + 1) := by
  rcases X with rfl | ⟨m, hm, rfl⟩
  · exact ⟨Or.inl rfl, fun z => by
      have := congrArg Int32.toInt z
      rw [nI_toInt (by omega)] at this
      have d : (-1 : Int32).toInt = -1 := by decide
      omega⟩
  · refine ⟨Or.inr ⟨m, by omega, rfl⟩, fun z => ?_⟩
    have u := (z_eq (a := m) (b := v + 1) (by omega) (by omega)).mp z
    omega
theorem GS.seats (Z : GS h n b C w a sn) (s : ∀ p, 1 ≤ S p ∧ S p ≤ 999) : GS (sS h S) n b C w a sn := ⟨sS_WF Z.1 s, Z.2⟩
theorem NXT.mk1 {x : Int32} {I1 I2 : Nat → Nat → Int32} {L1 L2 : Nat → Nat → Int64} {o1 : pm_R} {o2 : (Nat → Nat → Int32) → (Nat → Nat → Int64) → pm_R} (h1 : o1 = some (some (.int x), (81, pt_G, I1, L1))) (h2 : o2 I1 L1 = some (some (.int x), (81, pt_G, I2, L2))) (Z : GS h n b C w a sn) (X : K1 (q + 1) h n b fa pl C w a sn I2 L2) (Y : K2 h n b fa pl C w a sn I2) : NXT q o1 o2 :=
  ⟨x, I1, L1, I2, L2, h1, h2, h, n, b, fa, pl, C, w, a, sn, Z, X, Y⟩
/-- the class with other seats -/
theorem K1.seats (X : K1 q h n b fa pl C w a sn I L) (hq : q < 1000000) (f : ∀ r k, r < 44 → r ≠ 4 → (r = 3 → k ≠ 9) → I' r k = I r k) (f4 : ∀ p, p < h 0 0 → I' 4 p = nI (S p)) (f9 : I' 3 9 = I 3 9 + 1) (i1 : I' 44 5 = nI C') (i2 : C' ≠ 0 → I' 44 6 = nI (hp w')) (A : ACC (h 0 0) a' sn' S I') : K1 (q + 1) (sS h S) n b fa pl C' w' a' sn' I' L := by
  obtain ⟨⟨e, v, e1, v1, cx, fo⟩, x1, x2, x3, x4, x5, x6, x7⟩ := X
  refine ⟨⟨e, v + 1, by omega, by omega, ?_, ?_⟩, x1.of (f 1 1 (by omega) (by omega) (by omega)) (fun i => f 2 i (by omega) (by omega) (by omega)), x2, by rw [f 10 8 (by omega) (by omega) (by omega)]; exact x3, by rw [f 10 9 (by omega) (by omega) (by omega)]; exact x4, i1, i2, A⟩
  · -- what was found out and is not of the seats
    have g : LO (fun r k => if 44 ≤ r ∨ r = 3 ∨ r = 4 then I' r k else I r k) I' := fun r k _ => by
      by_cases c : 44 ≤ r ∨ r = 3 ∨ r = 4
      · exact (if_pos c).symm
      · exact (f r k (by omega) (by omega) (by omega)).trans (if_neg c).symm
    obtain ⟨y1, y2, y3, y4, y5, y6, y7, y8, y9, y10, y11⟩ := cx
    have o := y10.new (by omega)
    have f13 : I' 30 13 = I 30 13 := f 30 13 (by omega) (by omega) (by omega)
    have f14 : I' 30 14 = I 30 14 := f 30 14 (by omega) (by omega) (by omega)
    have f8 : I' 3 8 = I 3 8 := f 3 8 (by omega) (by omega) (by omega)
    obtain ⟨c1, c2, c3, c4, c5, c6, c7⟩ := y1
    refine ⟨⟨fun k hk => by rw [f 3 k (by omega) (by omega) (by omega)]; exact c1 k hk, f4, fun p hp => by rw [f 5 p (by omega) (by omega) (by omega)]; exact c3 p hp, fun p hp => by rw [f 6 p (by omega) (by omega) (by omega)]; exact c4 p hp, fun p hp => by rw [f 7 p (by omega) (by omega) (by omega)]; exact c5 p hp, fun p o hp ho => by rw [f 8 _ (by omega) (by omega) (by omega)]; exact c6 p o hp ho, fun p o hp ho => by rw [f 9 _ (by omega) (by omega) (by omega)]; exact c7 p o hp ho⟩, by rw [f8]; exact y2, by rw [f9, y3, show (1 : Int32) = nI 1 from rfl, nI_add], y4, by omega, by rw [f 23 6 (by omega) (by omega) (by omega)]; exact y6, ?_, by rw [f13]; exact y8, fun z => ?_, by rw [f14]; exact o.1, fun z => absurd (by rw [f14] at z; exact z) o.2⟩
    · rw [sS_PC]
      exact y7.of ⟨f 23 4 (by omega) (by omega) (by omega), f 23 5 (by omega) (by omega) (by omega), f 23 6 (by omega) (by omega) (by omega)⟩ f8 (fun k => f 24 k (by omega) (by omega) (by omega)) (fun k => f 26 k (by omega) (by omega) (by omega)) (fun _ => rfl)
    · rw [sS_CE]
      rw [f13] at z
      exact (y9 z).of (fun k => f 34 k (by omega) (by omega) (by omega)) (fun k => f 35 k (by omega) (by omega) (by omega))
  · have f7 : I' 41 7 = I 41 7 := f 41 7 (by omega) (by omega) (by omega)
    obtain ⟨x1, x2⟩ := fo
    have o := x1.new (by omega)
    exact ⟨by rw [f7]; exact o.1, fun z => absurd (by rw [f7] at z; exact z) o.2⟩
/-- the model with other seats -/
theorem K2.seats (Y : K2 h n b fa pl C w a sn I) (f : ∀ r k, r ≠ 64 → r ≠ 65 → (r = 49 → k ≠ 45 ∧ k ≠ 57) → I' r k = I r k) (s : ∀ p, p < h 0 0 → I' 64 (9 + p) = nI (S p)) (z : I' 49 57 = 0) (N : NM h C' w' I') (A : ACM h a' sn' I') : K2 (sS h S) n b fa pl C' w' a' sn' I' := by
  obtain ⟨⟨⟨x0, y0⟩, _⟩, x2, x3, x4, x5, x6⟩ := Y
  have g : ∀ r k, r ≠ 64 → r ≠ 65 → r ≠ 49 → I' r k = I r k := fun r k p1 p2 p3 => f r k p1 p2 (fun e => absurd e p3)
  have g9 : ∀ k, k ≠ 45 → k ≠ 57 → I' 49 k = I 49 k := fun k p1 p2 => f 49 k (by omega) (by omega) (fun _ => ⟨p1, p2⟩)
  obtain ⟨c0, c1, c2, c3, c4, c5⟩ := y0
  refine ⟨⟨⟨?_, s, fun p hp => by rw [g 59 p (by omega) (by omega) (by omega)]; exact c1 p hp, fun p hp => by rw [g 60 p (by omega) (by omega) (by omega)]; exact c2 p hp, fun p hp => by rw [g 61 p (by omega) (by omega) (by omega)]; exact c3 p hp, fun p o hp ho => by rw [g 62 _ (by omega) (by omega) (by omega)]; exact c4 p o hp ho, fun p o hp ho => by rw [g 63 _ (by omega) (by omega) (by omega)]; exact c5 p o hp ho⟩, Or.inl z⟩, x2.of (g9 1 (by omega) (by omega)) (fun i => g 50 i (by omega) (by omega) (by omega)), by rw [g9 10 (by omega) (by omega)]; exact x3, by rw [g9 11 (by omega) (by omega)]; exact x4, N, A⟩
  rw [g9 30 (by omega) (by omega), g9 31 (by omega) (by omega), g9 32 (by omega) (by omega), g9 33 (by omega) (by omega), g9 34 (by omega) (by omega), g9 35 (by omega) (by omega), g9 36 (by omega) (by omega), g9 37 (by omega) (by omega)]
  exact x0
theorem s_undo (hF : pm_fix pt_me pt_Sg (pt_R L0 xs) F) (Z : GS h n b C w a sn) (X : K1 q h n b fa pl C w a sn I L) (Y : K2 h n b fa pl C w a sn I) (hq : q < 1000000) : NXT q (F 145 0 [some (.ref 0)] [] (81, pt_G, I, L)) (fun I L => (F 1241 0 [some (.ref 49), none] [] (81, pt_G, I, L))) := by
  have W := Z.1
  have hP := W.P
  have k0 := X.2
  match a, Z, X, Y, k0 with
  | 0, Z, X, Y, k0 =>
    refine NXT.same Z X Y (x := -1) ?_ ?_
    · rw [e145_0 hF, k0.2.2.2.2.2.2.1]
      rw [if_pos (by decide)]
    · try dsimp only
      rw [e1241_0 hF, Y.2.2.2.2.2.1, if_pos (show nI 0 = 0 from rfl)]
  | a + 1, Z, X, Y, k0 =>
    have a12 := Z.2.2.1
    obtain ⟨A, a1, a2, a3, a4, a5⟩ := c_takeBack (L := L) hF W k0.2.2.2.2.2.2
    have hi : HI I A := by
      rcases a5 with ⟨_, a5⟩ | ⟨q', v', _, _, _, _, a5⟩
      · exact fun r k hr => a5 r k (by omega)
      · exact fun r k hr => a5 r k (by omega) (by omega) (by omega)
    have YA := Y.hi W hi
    obtain ⟨B, b1, b2, b3, b4, b5⟩ := m_takeBack (L := L) hF W YA.2.2.2.2.2
    have z4 := Z.2.2.2.1 a (by omega)
    have lo : LO A B := fun r k hr => b2 r k (by omega) (by omega)
    have YB : K2 (sS h (sn a).2.2) n b fa pl (sn a).1 (sn a).2.1 a sn B := YA.seats (fun r k p1 p2 p3 => b2 r k p1 p3) b3.2.2 b5 ⟨b3.1, b3.2.1⟩ b4
    have Z' : GS (sS h (sn a).2.2) n b (sn a).1 (sn a).2.1 a sn := GS.seats ⟨Z.1, z4.1, by omega, fun i hi => Z.2.2.2.1 i (by omega), Z.2.2.2.2⟩ z4.2
    have XA : K1 (q + 1) (sS h (sn a).2.2) n b fa pl (sn a).1 (sn a).2.1 a sn A L := by
      rcases a5 with ⟨e5, a5⟩ | ⟨q', v', q1, q2, q3, q4, a5⟩
      · rw [e5] at a4 ⊢
        rw [sS_same]
        exact (X.cab (fun r k hr => a5 r k (by omega)) a2 a3 a4).mono (by omega)
      · refine X.seats hq (fun r k p1 p2 p3 => a5 r k (by omega) (fun z => absurd z p2) p3) (fun p hp => ?_) q4 a2 a3 a4
        rw [q2]
        unfold up
        by_cases z : p = q'
        · rw [if_pos z, z, q3]
        · rw [if_neg z, a5 4 p (by omega) (fun _ => z) (by omega)]
          exact X.H.seats hp
    refine NXT.mk1 (x := nI a) (I1 := A) (L1 := L) ?_ b1 Z' (XA.lo lo (fun _ _ _ => rfl)) YB
    rw [e145_0 hF, k0.2.2.2.2.2.2.1]
    simp (disch := omega) only [pm_k_i, Option.toList_some, Option.toList_none, List.cons_append, List.nil_append, cond_true, cond_false, ↓reduceIte, reduceCtorEq, z_1, nI_add, z_cl, z_ib, z_lt, z_le, z_eq, z_eq0, z_le0, z_lt0, z_b0, z_b1, z_m1, z_and7, Int32.add_zero, a1, e145_17 hF]
    try rw [if_neg (by decide)]
end
