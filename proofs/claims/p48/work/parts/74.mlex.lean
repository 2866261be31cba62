/-! ===== the model: tokens ===== -/
section
/-- codes of words -/
def cE (B s : Nat) (x : Nat → Nat) (m : Nat) : Nat := lp (fun i a => B * a + (x i - s)) m 0
theorem cE_inj {B s : Nat} (hB : 256 ≤ B + s * 3) (hs : (B = 32 ∧ s = 96) ∨ (B = 256 ∧ s = 0)) {x y : Nat → Nat} : ∀ m k, (∀ i, i < m → 97 ≤ x i ∧ x i ≤ 122) → (∀ i, i < k → 97 ≤ y i ∧ y i ≤ 122) → (cE B s x m = cE B s y k ↔ m = k ∧ ∀ i, i < m → x i = y i) := by
  intro m
  induction m with
  | zero =>
    intro k hx hy
    cases k with
    | zero => exact ⟨fun _ => ⟨rfl, fun i hi => by omega⟩, fun _ => rfl⟩
    | succ k =>
      refine ⟨fun z => ?_, fun z => by omega⟩
      have z : 0 = B * cE B s y k + (y k - s) := z
      have := hy k (by omega)
      omega
  | succ m ih =>
    intro k hx hy
    cases k with
    | zero =>
      refine ⟨fun z => ?_, fun z => by omega⟩
      have z : B * cE B s x m + (x m - s) = 0 := z
      have := hx m (by omega)
      omega
    | succ k =>
      have i := ih k (fun i hi => hx i (by omega)) (fun i hi => hy i (by omega))
      have a := hx m (by omega)
      have c := hy k (by omega)
      constructor
      · intro z
        have z : B * cE B s x m + (x m - s) = B * cE B s y k + (y k - s) := z
        have e : cE B s x m = cE B s y k ∧ x m = y k := by
          rcases hs with ⟨rfl, rfl⟩ | ⟨rfl, rfl⟩ <;> omega
        obtain ⟨i1, i2⟩ := i.mp e.1
        refine ⟨by omega, fun j hj => ?_⟩
        by_cases q : j = m
        · rw [q, e.2, i1]
        · exact i2 j (by omega)
      · rintro ⟨z1, z2⟩
        have e1 : m = k := by omega
        subst e1
        show B * cE B s x m + (x m - s) = B * cE B s y m + (y m - s)
        rw [i.mpr ⟨rfl, fun j hj => z2 j (by omega)⟩, z2 m (by omega)]
theorem cE_lt {x : Nat → Nat} : ∀ m, (∀ i, i < m → x i ≤ 122) → cE 256 0 x m < 256 ^ m ∧ (0 < m → cE 256 0 x m < 123 * 256 ^ (m - 1)) := by
  intro m
  induction m with
  | zero => exact fun _ => ⟨by show 0 < 1; omega, fun h => by omega⟩
  | succ m ih =>
    intro hx
    obtain ⟨i1, i2⟩ := ih (fun i hi => hx i (by omega))
    have c := hx m (by omega)
    have e : cE 256 0 x (m + 1) = 256 * cE 256 0 x m + (x m - 0) := rfl
    rw [e]
    refine ⟨by rw [Nat.pow_succ]; omega, fun _ => ?_⟩
    rw [Nat.add_sub_cancel]
    cases m with
    | zero => have : cE 256 0 x 0 = 0 := rfl
              rw [this]; show 256 * 0 + (x 0 - 0) < 123 * 1; omega
    | succ m =>
      have := i2 (by omega)
      rw [Nat.add_sub_cancel] at this
      rw [Nat.pow_succ]
      omega
variable {n q f : Nat} {b : Nat → Nat}
theorem wl_c (hn : n ≤ 900) (hq : q ≤ n) : ∀ i, i < wln n b q → 97 ≤ cb n b (q + i) ∧ cb n b (q + i) ≤ 122 := fun i hi => isL_c ((rn_ok isL (b := b) isL_6 hn hq).2.1 i hi).1
theorem e8_E (hw : wln n b q ≤ 8) : e8 n b q = cE 256 0 (fun i => cb n b (q + i)) (wln n b q) := by unfold e8; rw [Nat.min_eq_left hw]; rfl
theorem e58 {p : Nat} (hn : n ≤ 900) (h1 : q ≤ n) (h2 : p ≤ n) (w1 : wln n b q ≤ 8) (w2 : wln n b p ≤ 8) : (e8 n b q = e8 n b p) = (e5 n b q = e5 n b p) := by
  rw [e8_E w1, e8_E w2]
  exact propext ((cE_inj (by omega) (by omega) _ _ (wl_c hn h1) (wl_c hn h2)).trans (cE_inj (B := 32) (s := 96) (by omega) (by omega) _ _ (wl_c hn h1) (wl_c hn h2)).symm)
theorem e8_lt (hn : n ≤ 900) (h1 : q ≤ n) (w1 : wln n b q ≤ 8) : e8 n b q < 9223372036854775808 := by
  rw [e8_E w1]
  by_cases c : wln n b q = 0
  · rw [c]; show 0 < _; omega
  · have h := (cE_lt (wln n b q) (fun i hi => (wl_c hn h1 i hi).2)).2 (by omega)
    have p : 256 ^ (wln n b q - 1) ≤ 256 ^ 7 := Nat.pow_le_pow_right (by decide) (by omega)
    omega
variable {I I' : Nat → Nat → Int32} {L L' : Nat → Nat → Int64}
variable {F : pm_F} {L0 : Nat} {xs : Nat → Int32}
theorem TB.of (X : TB n b I) (f1 : I' 49 2 = I 49 2) (f2 : ∀ i, I' 50 i = I 50 i) : TB n b I' := ⟨by rw [f1]; exact X.1, X.2.1, fun i hi => by rw [f2]; exact X.2.2 i hi⟩
def MK (n : Nat) (b : Nat → Nat) (q : Nat) (I : Nat → Nat → Int32) (L : Nat → Nat → Int64) : Prop := I 49 3 = nI (en n b q) ∧ I 49 4 = nI q ∧ I 49 5 = nI (kd n b q) ∧ (kd n b q = 2 → I 49 6 = nI (vl n b q)) ∧ (kd n b q = 1 → I 49 7 = nI (wln n b q) ∧ L 49 12 = lN (e8 n b q))
def GT0 (I I' : Nat → Nat → Int32) (L L' : Nat → Nat → Int64) : Prop := (∀ r j, (r = 49 → j < 3 ∨ 7 < j) → I' r j = I r j) ∧ ∀ r j, (r = 49 → j ≠ 12) → L' r j = L r j
theorem GT0.rf : GT0 I I L L := ⟨fun _ _ _ => rfl, fun _ _ _ => rfl⟩
theorem GT0.tr {I1 I2 I3 : Nat → Nat → Int32} {L1 L2 L3 : Nat → Nat → Int64} (a : GT0 I1 I2 L1 L2) (b : GT0 I2 I3 L2 L3) : GT0 I1 I3 L1 L3 := ⟨fun r j q => (b.1 r j q).trans (a.1 r j q), fun r j q => (b.2 r j q).trans (a.2 r j q)⟩
theorem GT0.u {k : Nat} {v : Int32} (h : 3 ≤ k) (h2 : k ≤ 7) : GT0 I (pm_ui I 49 k v) L L := ⟨fun r j a => by
  by_cases z : r = 49
  · have := a z; rw [z, z_uk (by omega)]
  · rw [z_ur z], fun _ _ _ => rfl⟩
end
