/-! ===== the model: what its short methods answer ===== -/
section
variable {h : Nat → Nat → Nat}
/-- the model holds the house -/
def MH (h : Nat → Nat → Nat) (I : Nat → Nat → Int32) : Prop := (I 49 30 = nI (h 0 0) ∧ I 49 31 = nI (h 0 1) ∧ I 49 32 = nI (h 0 2) ∧ I 49 33 = nI (h 0 3) ∧ I 49 34 = (if h 0 4 = 0 then -1 else nI (h 0 4)) ∧ I 49 35 = nI (h 0 5) ∧ I 49 36 = nI (h 0 6) ∧ I 49 37 = nI (h 0 7)) ∧ (∀ p, p < h 0 0 → I 64 (9 + p) = nI (h 1 p)) ∧ (∀ p, p < h 0 0 → I 59 p = nI (h 2 p)) ∧ (∀ p, p < h 0 0 → I 60 p = nI (h 3 p)) ∧ (∀ p, p < h 0 0 → I 61 p = nI (h 4 p)) ∧ (∀ p o, p < h 0 0 → o < h 0 1 → I 62 (8 * p + o) = nI (h 5 (8 * p + o))) ∧ (∀ p o, p < h 0 0 → o < h 0 1 → I 63 (8 * p + o) = nI (h 6 (8 * p + o)))
variable {I I' : Nat → Nat → Int32}
theorem MH.P (H : MH h I) : I 49 30 = nI (h 0 0) := H.1.1
theorem MH.O (H : MH h I) : I 49 31 = nI (h 0 1) := H.1.2.1
theorem MH.f (H : MH h I) : I 49 32 = nI (h 0 2) := H.1.2.2.1
theorem MH.s (H : MH h I) : I 49 33 = nI (h 0 3) := H.1.2.2.2.1
theorem MH.need (H : MH h I) : I 49 34 = (if h 0 4 = 0 then -1 else nI (h 0 4)) := H.1.2.2.2.2.1
theorem MH.care (H : MH h I) : I 49 35 = nI (h 0 5) := H.1.2.2.2.2.2.1
theorem MH.tries (H : MH h I) : I 49 36 = nI (h 0 6) := H.1.2.2.2.2.2.2.1
theorem MH.tire (H : MH h I) : I 49 37 = nI (h 0 7) := H.1.2.2.2.2.2.2.2
theorem MH.seats (H : MH h I) {p : Nat} (hp : p < h 0 0) : I 64 (9 + p) = nI (h 1 p) := H.2.1 p hp
theorem MH.place (H : MH h I) {p : Nat} (hp : p < h 0 0) : I 59 p = nI (h 2 p) := H.2.2.1 p hp
theorem MH.walk (H : MH h I) {p : Nat} (hp : p < h 0 0) : I 60 p = nI (h 3 p) := H.2.2.2.1 p hp
theorem MH.bars (H : MH h I) {p : Nat} (hp : p < h 0 0) : I 61 p = nI (h 4 p) := H.2.2.2.2.1 p hp
theorem MH.worth (H : MH h I) {p o : Nat} (hp : p < h 0 0) (ho : o < h 0 1) : I 62 (8 * p + o) = nI (h 5 (8 * p + o)) := H.2.2.2.2.2.1 p o hp ho
theorem MH.stance (H : MH h I) {p o : Nat} (hp : p < h 0 0) (ho : o < h 0 1) : I 63 (8 * p + o) = nI (h 6 (8 * p + o)) := H.2.2.2.2.2.2 p o hp ho
theorem MH.of (H : MH h I) (f1 : ∀ k, 30 ≤ k → k < 38 → I' 49 k = I 49 k) (f2 : ∀ r, 59 ≤ r → r ≤ 63 → ∀ k, I' r k = I r k) (f3 : ∀ k, 9 ≤ k → I' 64 k = I 64 k) : MH h I' :=
  ⟨⟨by rw [f1 30 (by omega) (by omega)]; exact H.P, by rw [f1 31 (by omega) (by omega)]; exact H.O, by rw [f1 32 (by omega) (by omega)]; exact H.f, by rw [f1 33 (by omega) (by omega)]; exact H.s, by rw [f1 34 (by omega) (by omega)]; exact H.need, by rw [f1 35 (by omega) (by omega)]; exact H.care, by rw [f1 36 (by omega) (by omega)]; exact H.tries, by rw [f1 37 (by omega) (by omega)]; exact H.tire⟩,
  fun p hp => by rw [f3 (9 + p) (by omega)]; exact H.seats hp, fun p hp => by rw [f2 59 (by omega) (by omega)]; exact H.place hp, fun p hp => by rw [f2 60 (by omega) (by omega)]; exact H.walk hp, fun p hp => by rw [f2 61 (by omega) (by omega)]; exact H.bars hp, fun p o hp ho => by rw [f2 62 (by omega) (by omega)]; exact H.worth hp ho, fun p o hp ho => by rw [f2 63 (by omega) (by omega)]; exact H.stance hp ho⟩
/-! who is asked for -/
def vP (n : Nat) (x : Int32) : Bool := decide (0 ≤ x.toInt ∧ x.toInt < n)
def vC (h : Nat → Nat → Nat) (x : Int32) : Bool := decide (1 ≤ x.toInt ∧ x.toInt ≤ ev h)
theorem vP_of {n : Nat} {x : Int32} (hn : n < 2147483648) (hx : vP n x = true) : ∃ k, k < n ∧ x = nI k := by
  have h1 := of_decide_eq_true hx
  refine ⟨x.toInt.toNat, by omega, ?_⟩
  apply Int32.toInt_inj.mp
  rw [nI_toInt (by omega)]
  omega
theorem vC_of {x : Int32} (W : WF h) (hx : vC h x = true) : ∃ C, 0 < C ∧ C ≤ ev h ∧ x = nI C := by
  have h1 := of_decide_eq_true hx
  have h2 := ev_lt W
  refine ⟨x.toInt.toNat, by omega, by omega, ?_⟩
  apply Int32.toInt_inj.mp
  rw [nI_toInt (by omega)]
  omega
theorem vP_nI {n k : Nat} (hk : k < 2147483648) : vP n (nI k) = decide (k < n) := by
  unfold vP
  rw [nI_toInt hk]
  by_cases c : k < n
  · rw [decide_eq_true c, decide_eq_true (by omega)]
  · rw [decide_eq_false c, decide_eq_false (by omega)]
variable {F : pm_F} {L0 : Nat} {xs : Nat → Int32} {L : Nat → Nat → Int64}
theorem lgc_le (x y : Int32) : (lg_cmp x.toInt64 y.toInt64 ≤ 0) = (x ≤ y) := by
  refine propext ?_
  have h1 : (x.toInt64 > y.toInt64) ↔ y < x := by
    show y.toInt64 < x.toInt64 ↔ _
    rw [Int64.lt_iff_toInt_lt, Int32.toInt_toInt64, Int32.toInt_toInt64, Int32.lt_iff_toInt_lt]
  have h3 : x ≤ y ↔ x.toInt ≤ y.toInt := Int32.le_iff_toInt_le
  have h4 : y < x ↔ y.toInt < x.toInt := Int32.lt_iff_toInt_lt
  unfold lg_cmp
  by_cases c1 : y < x
  · rw [if_pos (h1.mpr c1)]
    have d1 := h4.mp c1
    exact ⟨fun hh => absurd hh (by decide), fun hh => by have := h3.mp hh; omega⟩
  · rw [if_neg (fun hh => c1 (h1.mp hh))]
    have d1 : ¬ y.toInt < x.toInt := fun hh => c1 (h4.mpr hh)
    split
    · exact ⟨fun _ => h3.mpr (by omega), fun _ => by decide⟩
    · exact ⟨fun _ => h3.mpr (by omega), fun _ => by decide⟩
theorem z_and1 (b : Bool) : (nI b.toNat &&& 1 = nI b.toNat) = True := by cases b <;> decide +kernel
end
