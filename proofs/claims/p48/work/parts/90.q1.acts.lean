/-! ===== one call: the acts ===== -/
section
variable {h : Nat → Nat → Nat} {I I' I0 : Nat → Nat → Int32} {L L' : Nat → Nat → Int64}
variable {q n C C' a a' c : Nat} {b w w' : Nat → Nat} {fa pl : Int32} {sn sn' : Nat → SN} {e v : Nat}
variable {F : pm_F} {L0 : Nat} {xs : Nat → Int32}
theorem CX.r44 (X : CX h e v I L) (f : ∀ r k, r < 44 → I' r k = I r k) : CX h e v I' L := by
  have g : LO (fun r k => if 44 ≤ r then I' r k else I r k) I' := fun r k _ => by
    by_cases c : 44 ≤ r
    · exact (if_pos c).symm
    · exact (f r k (by omega)).trans (if_neg c).symm
  exact (show CX h e v (fun r k => if 44 ≤ r then I' r k else I r k) L from X).lo g (fun _ _ _ => rfl)
/-- the class with another cabinet -/
theorem K1.cab (X : K1 q h n b fa pl C w a sn I L) (f : ∀ r k, r < 44 → I' r k = I r k) (i1 : I' 44 5 = nI C') (i2 : C' ≠ 0 → I' 44 6 = nI (hp w')) (A : ACC (h 0 0) a' sn' (h 1) I') : K1 q h n b fa pl C' w' a' sn' I' L := by
  obtain ⟨⟨e, v, e1, v1, cx, fo⟩, x1, x2, x3, x4, x5, x6, x7⟩ := X
  exact ⟨⟨e, v, e1, v1, cx.r44 f, fo.of (fun r k p q => f r k (by omega))⟩, x1.of (f 1 1 (by omega)) (fun i => f 2 i (by omega)), x2, by rw [f 10 8 (by omega)]; exact x3, by rw [f 10 9 (by omega)]; exact x4, i1, i2, A⟩
/-- what an act of the model leaves alone -/
def AF (I I' : Nat → Nat → Int32) : Prop := ∀ r k, (r = 49 → k ≠ 45 ∧ k ≠ 51) → (r = 64 → 9 ≤ k) → r ≠ 65 → (r < 66 ∨ 72 < r) → I' r k = I r k
theorem AF.trans (f : AF I0 I) (g : AF I I') : AF I0 I' := fun r k p1 p2 p3 p4 => (g r k p1 p2 p3 p4).trans (f r k p1 p2 p3 p4)
theorem MH.af (H : MH h I) (f : AF I I') : MH h I' := H.of (fun k _ _ => f 49 k (fun _ => by omega) (by omega) (by omega) (by omega)) (fun r p q k => f r k (by omega) (by omega) (by omega) (by omega)) (fun k hk => f 64 k (by omega) (fun _ => hk) (by omega) (by omega))
theorem MX.af (X : MX h I) (f : AF I I') : MX h I' := by
  obtain ⟨x1, x2⟩ := X
  refine ⟨x1.af f, ?_⟩
  rw [f 49 57 (by omega) (by omega) (by omega) (by omega)]
  rcases x2 with x2 | ⟨x2, y1, y2⟩
  · exact Or.inl x2
  · exact Or.inr ⟨x2, y1.of (fun r k p => f r k (by omega) (by omega) (by omega) (by omega)), fun c c0 c1 => by rw [f 75 c (by omega) (by omega) (by omega) (by omega)]; exact y2 c c0 c1⟩
/-- the model with another cabinet -/
theorem K2.cab (Y : K2 h n b fa pl C w a sn I) (f : AF I I') (N : NM h C' w' I') (A : ACM h a' sn' I') : K2 h n b fa pl C' w' a' sn' I' := by
  obtain ⟨x1, x2, x3, x4, x5, x6⟩ := Y
  exact ⟨x1.af f, x2.of (f 49 1 (by omega) (by omega) (by omega) (by omega)) (fun i => f 50 i (by omega) (by omega) (by omega) (by omega)), by rw [f 49 10 (by omega) (by omega) (by omega) (by omega)]; exact x3, by rw [f 49 11 (by omega) (by omega) (by omega) (by omega)]; exact x4, N, A⟩
theorem K2.SR (Y : K2 h n b fa pl C w a sn I) : SR h (C, w, h 1) (fun k => I 64 k) := ⟨Y.2.2.2.2.1.1, Y.2.2.2.2.1.2, fun p hp => Y.H.seats hp⟩
theorem psh_ok {R : SN → Prop} {x : SN} (hR : ∀ i, i < a → R (sn i)) (ha : a ≤ 12) (hx : R x) : ∀ i, i < acm a + 1 → R (psh a sn x i) := by
  intro i hi
  unfold psh
  by_cases z : i = acm a
  · rw [if_pos z]
    exact hx
  · rw [if_neg z]
    unfold acm at hi z
    unfold acs
    by_cases d : a < 12
    · rw [if_pos d] at hi z ⊢
      exact hR i (by omega)
    · rw [if_neg d] at hi z ⊢
      exact hR (i + 1) (by omega)
theorem GS.act (Z : GS h n b C w a sn) (c : CAB h C' w') : GS h n b C' w' (acm a + 1) (psh a sn (C, w, h 1)) :=
  ⟨Z.1, c, by have := acm_lt a; omega, psh_ok (R := fun s => CAB h s.1 s.2.1 ∧ ∀ p, 1 ≤ s.2.2 p ∧ s.2.2 p ≤ 999) Z.2.2.2.1 Z.2.2.1 ⟨Z.2.1, Z.1.seats⟩, Z.2.2.2.2.1, Z.2.2.2.2.2⟩
end
