/-! ===== one call: seats; another house ===== -/
section
variable {h : Nat → Nat → Nat} {I I' I0 : Nat → Nat → Int32} {L L' : Nat → Nat → Int64}
variable {q n C C' a a' c : Nat} {b w w' S : Nat → Nat} {fa pl : Int32} {sn sn' : Nat → SN} {e v : Nat}
variable {F : pm_F} {L0 : Nat} {xs : Nat → Int32}
def vS (x : Int32) : Bool := decide (1 ≤ x.toInt ∧ x.toInt ≤ 999)
theorem vS_of {x : Int32} (hx : vS x = true) : ∃ k, 1 ≤ k ∧ k ≤ 999 ∧ x = nI k := by
  have h1 := of_decide_eq_true hx
  refine ⟨x.toInt.toNat, by omega, by omega, ?_⟩
  apply Int32.toInt_inj.mp
  rw [nI_toInt (by omega)]
  omega
theorem g_999 (x : Int32) (A B : pm_R) : (if x < 1 then A else if x ≤ 999 then B else A) = bif vS x then B else A := by
  have i1 : (1 : Int32).toInt = 1 := by decide
  have i9 : (999 : Int32).toInt = 999 := by decide
  simp only [z_lti, z_lei, i1, i9]
  unfold vS
  by_cases c : x.toInt < 1
  · rw [if_pos c, decide_eq_false (by omega)]; rfl
  · rw [if_neg c]
    by_cases d : x.toInt ≤ 999
    · rw [if_pos d, decide_eq_true (by omega)]; rfl
    · rw [if_neg d, decide_eq_false (by omega)]; rfl
theorem m_isSeats (hF : pm_fix pt_me pt_Sg (pt_R L0 xs) F) (x : Int32) : (F 1202 0 [some (.long x.toInt64), none, some (.long 1), none, some (.long 999), none] [] (49, pt_G, I, L)) = some (some (.int (nI (vS x).toNat)), (49, pt_G, I, L)) := by
  have := m_isIn (I := I) (L := L) hF x 1 999
  have i1 : (1 : Int32).toInt = 1 := by decide
  have i9 : (999 : Int32).toInt = 999 := by decide
  rw [i1, i9] at this
  exact this
theorem s_house (hF : pm_fix pt_me pt_Sg (pt_R L0 xs) F) (Z : GS h n b C w a sn) (X : K1 q h n b fa pl C w a sn I L) (Y : K2 h n b fa pl C w a sn I) (hq : q < 1000000) : NXT q (F 104 0 [some (.ref 0), none] [] (49, pt_G, I, L)) (fun I L => (F 1237 0 [some (.ref 49)] [] (49, pt_G, I, L))) := by
  have W := Z.1
  have k0 := X.2
  have hn9 := k0.1.2.1
  have bb : ∀ i, b i < 256 := Z.2.2.2.2.2
  obtain ⟨A, K, a1, a2, a3, a4, a5, a6, a7, a8, a9⟩ := c_house (L := L) hF bb k0.1 k0.2.1
  have YA := Y.hi W (I' := A) (fun r k hr => a6 r k (by omega) (by omega))
  obtain ⟨B, G, b1, b2, b3, b4, b5, b6, b7, b8⟩ := m_house (L := K) hF bb YA.2.1
  obtain ⟨⟨e, v, e1, v1, cx, fo⟩, _⟩ := id X
  by_cases z : (rdn n b 900).2.1 = 0
  · have D := ((rdn_ok (b := b) hn9 900) z).1
    obtain ⟨c1, c2, c3, c4, c5⟩ := a8 z
    obtain ⟨m1, m2, m3, m4⟩ := b7 z
    obtain ⟨y1, y2, y3, y4, y5, ⟨m, y6, y6'⟩, y7, y8, y9, y10, y11⟩ := cx
    have o8 := y8.new (by omega)
    have o10 := y10.new (by omega)
    have o41 := fo.1.new (by omega)
    have f : ∀ r k, 22 < r → r < 44 → A r k = I r k := fun r k p1 p2 => a6 r k p1 (by omega)
    have XA : K1 (q + 1) (rdn n b 900).2.2 0 b (nI (rdn n b 900).2.1) (if (rdn n b 900).2.1 = 0 then -1 else nI (rdn n b 900).1) 0 (fun _ => 0) 0 sn A K := by
      refine ⟨⟨e + 1, v + 1, by omega, by omega, ⟨c1, by rw [c2, y2, show (1 : Int32) = nI 1 from rfl, nI_add], by rw [c3, y3, show (1 : Int32) = nI 1 from rfl, nI_add], by omega, by omega, ⟨m, by omega, by rw [f 23 6 (by omega) (by omega)]; exact y6'⟩, fun t _ _ _ u => ?_, by rw [f 30 13 (by omega) (by omega)]; exact o8.1, fun u => absurd (by rw [f 30 13 (by omega) (by omega)] at u; exact u) o8.2, by rw [f 30 14 (by omega) (by omega)]; exact o10.1, fun u => absurd (by rw [f 30 14 (by omega) (by omega)] at u; exact u) o10.2⟩, ?_⟩, a2, a3, a4, a5, c4, fun u => absurd rfl u, c5, by omega, fun i hi => absurd hi (by omega)⟩
      · rw [f 23 6 (by omega) (by omega), y6', c2, y2, show (1 : Int32) = nI 1 from rfl, nI_add] at u
        have := (z_eq (a := m) (b := e + 1) (by omega) (by omega)).mp u
        omega
      · exact ⟨by rw [f 41 7 (by omega) (by omega)]; exact o41.1, fun u => absurd (by rw [f 41 7 (by omega) (by omega)] at u; exact u) o41.2⟩
    have YB : K2 (rdn n b 900).2.2 0 b (nI (rdn n b 900).2.1) (if (rdn n b 900).2.1 = 0 then -1 else nI (rdn n b 900).1) 0 (fun _ => 0) 0 sn B := ⟨⟨m1, Or.inl m4⟩, b2, b3, b4, m2, m3, by omega, fun i hi => absurd hi (by omega)⟩
    have Z' : GS (rdn n b 900).2.2 0 b 0 (fun _ => 0) 0 sn := ⟨D.1, ⟨Nat.zero_le _, fun u => absurd rfl u⟩, by omega, fun i hi => absurd hi (by omega), by omega, bb⟩
    exact NXT.mk1 a1 b1 Z' (XA.lo b5 b6) YB
  · obtain ⟨c1, c2⟩ := a9 z
    obtain ⟨m1, m2⟩ := b8 z
    have f44 : ∀ r k, 22 < r → A r k = I r k := fun r k p => by
      by_cases u : r = 44
      · rw [u]; exact c2 k
      · exact a6 r k p (by omega)
    have cx' : CX h e v A K := by
      have g : LO (fun r k => if (3 ≤ r ∧ r < 10) ∨ 22 < r then I r k else A r k) A := fun r k _ => by
        by_cases c : (3 ≤ r ∧ r < 10) ∨ 22 < r
        · by_cases d : 22 < r
          · exact (f44 r k d).trans (if_pos c).symm
          · exact (c1 r k (by omega) (by omega)).trans (if_pos c).symm
        · exact (if_neg c).symm
      have gl : ∀ r k, r < 49 → K r k = (fun r k => if r = 10 ∨ r = 19 ∨ r = 20 then K r k else L r k) r k := fun r k _ => by
        by_cases c : r = 10 ∨ r = 19 ∨ r = 20
        · exact (if_pos c).symm
        · exact (a7 r k (by omega) (by omega) (by omega)).trans (if_neg c).symm
      exact (show CX h e v (fun r k => if (3 ≤ r ∧ r < 10) ∨ 22 < r then I r k else A r k) (fun r k => if r = 10 ∨ r = 19 ∨ r = 20 then K r k else L r k) from cx).lo g gl
    have XA : K1 q h 0 b (nI (rdn n b 900).2.1) (if (rdn n b 900).2.1 = 0 then -1 else nI (rdn n b 900).1) C w a sn A K := ⟨⟨e, v, e1, v1, cx', fo.of (fun r k p q => f44 r k (by omega))⟩, a2, a3, a4, a5, by rw [c2 5]; exact k0.2.2.2.2.1, fun u => by rw [c2 6]; exact k0.2.2.2.2.2.1 u, k0.2.2.2.2.2.2.of (c2 7) (fun r j p q => f44 r j (by omega))⟩
    have YB : K2 h 0 b (nI (rdn n b 900).2.1) (if (rdn n b 900).2.1 = 0 then -1 else nI (rdn n b 900).1) C w a sn B := by
      obtain ⟨⟨x0, x1⟩, x2, x3, x4, x5, x6⟩ := YA
      refine ⟨⟨x0.of (fun k p _ => m2 k p) (fun r p q k => m1 r k p) (fun k _ => m1 64 k (by omega)), ?_⟩, b2, b3, b4, x5.of (fun k _ => m1 64 k (by omega)) W, x6.of (m2 45 (by omega)) (fun j => m1 65 j (by omega))⟩
      rw [m2 57 (by omega)]
      rcases x1 with x1 | ⟨x1, y1, y2⟩
      · exact Or.inl x1
      · exact Or.inr ⟨x1, y1.of (fun r k p => m1 r k (by omega)), fun c c0 c1 => by rw [m1 75 c (by omega)]; exact y2 c c0 c1⟩
    exact NXT.mk a1 b1 ⟨Z.1, Z.2.1, Z.2.2.1, Z.2.2.2.1, by omega, bb⟩ (XA.lo b5 b6) YB
end
