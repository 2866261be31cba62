/-! ===== the house grown: its rows made ===== -/
section
variable {S S' : qm_S} {O : qm_O} {F : qm_F} {J L0 : Nat} {xs : List Int32}
variable {w b i A B P Q : Nat} {t : List Nat} {f : Nat → Int32} {g : Nat → Nat} {R : Nat → Nat → Nat → Nat} {ln : Nat → Nat} {C : pm_S} {ls : List LN} {x3 x4 x5 x6 x7 x8 x9 : Int32}
def gu (g : Nat → Nat) (k v : Nat) : Nat → Nat := fun j => if j = k then v else g j
def ru (R : Nat → Nat → Nat → Nat) (s a n : Nat) : Nat → Nat → Nat → Nat := fun x c p => if x = s ∧ c = a then (if p < n then a + 1 + p else 0) else R x c p
def lm (ln : Nat → Nat) (a n k : Nat) : Nat → Nat := fun x => if a < x ∧ x ≤ a + n then k else if x = a then n else ln x
theorem WI.ref (h : WI S w b i t f g R ln A B C) (k v : Nat) : WI (qu_g S 1 w k v) w b i t f (gu g k v) R ln A B C := by
  obtain ⟨⟨z, N, h1, h2, h3⟩, h4, h5, h6, h7, h8, h9, h10⟩ := h
  obtain ⟨a1, a2⟩ := h1
  refine ⟨⟨z, N, ⟨by rw [qg_g, if_neg (fun y => by omega)]; exact a1, a2⟩, h2, h3⟩, h4, h5, h6, fun j => ?_, fun s a j hs => by rw [qg_g, if_neg (fun y => by omega)]; exact h8 s a j hs, h9, h10⟩
  rw [qg_g]
  unfold gu
  by_cases c : j = k
  · rw [if_pos ⟨rfl, c, rfl⟩, if_pos c]
  · rw [if_neg (fun y => c y.2.1), if_neg c]
    exact h7 j
theorem WI.mk1 (h : WI S w b i t f g R ln A B C) {s n : Nat} (hs : s = 3 ∨ s = 4 ∨ s = 5) : WI (qm_mk S s n) w b i t f g R (gu ln S.1 n) (A + 1) (B + n) C := by
  obtain ⟨⟨v, N, h1, h2, h3⟩, h4, h5, h6, h7, h8, h9, h10⟩ := h
  obtain ⟨a1, a2, a3, a4, a5, a6, a7, a8, a9, a10, a11, a12, a13⟩ := h1
  have e1 : (qm_mk S s n).1 = S.1 + 1 := rfl
  have e2 : (qm_mk S s n).2.1 = S.2.1 + n := rfl
  refine ⟨⟨v, N, ⟨by rw [qg_mk, if_neg (fun y => by omega)]; exact a1, a2, by omega, by omega, by rw [qi_mk, if_neg (fun y => by omega)]; exact a5, by rw [qi_mk, if_neg (fun y => by omega)]; exact a6, a7, by rw [qn_mk, if_neg (by omega)]; exact a8, a9, a10, fun j hj => by rw [qi_mk, if_neg (fun y => by omega)]; exact a11 j hj, fun j hj => by rw [qi_mk, if_neg (fun y => by omega)]; exact a12 j hj, a13⟩, by omega, by omega⟩, by omega, fun k hk => by rw [qi_mk, if_neg (fun y => by omega)]; exact h5 k hk, by rw [qi_mk, if_neg (fun y => by omega)]; exact h6, fun k => by rw [qg_mk, if_neg (fun y => by omega)]; exact h7 k, fun x a k hx => by rw [qg_mk, if_neg (fun y => by omega)]; exact h8 x a k hx, fun a ha => ?_, h10⟩
  rw [qn_mk]
  unfold gu at ha ⊢
  by_cases c : a = S.1
  · rw [if_pos c, if_pos c]
    exact ⟨by omega, rfl⟩
  · have ha : 0 < ln a := by rw [if_neg c] at ha; exact ha
    rw [if_neg c, if_neg c]
    exact ⟨by have := (h9 a ha).1; omega, (h9 a ha).2⟩
theorem WI.mm (h : WI S w b i t f g R ln A B C) {s u n k : Nat} (hs : (s = 6 ∧ u = 7) ∨ (s = 8 ∧ u = 9) ∨ (s = 10 ∧ u = 11)) : WI (qm_mm S s u n k) w b i t f g (ru R s S.1 n) (lm ln S.1 n k) (A + 1 + n) (B + (n + n * k)) C := by
  obtain ⟨⟨v, N, h1, h2, h3⟩, h4, h5, h6, h7, h8, h9, h10⟩ := h
  obtain ⟨a1, a2, a3, a4, a5, a6, a7, a8, a9, a10, a11, a12, a13⟩ := h1
  have e1 : (qm_mm S s u n k).1 = S.1 + 1 + n := rfl
  have e2 : (qm_mm S s u n k).2.1 = S.2.1 + (n + n * k) := rfl
  refine ⟨⟨v, N, ⟨by rw [qg_mm, if_neg (fun y => by omega)]; exact a1, a2, by omega, by omega, by rw [qi_mm, if_neg (fun y => by omega)]; exact a5, by rw [qi_mm, if_neg (fun y => by omega)]; exact a6, a7, by rw [qn_mm, if_neg (fun y => by omega), if_neg (by omega)]; exact a8, a9, a10, fun j hj => by rw [qi_mm, if_neg (fun y => by omega)]; exact a11 j hj, fun j hj => by rw [qi_mm, if_neg (fun y => by omega)]; exact a12 j hj, a13⟩, by omega, by omega⟩, by omega, fun j hj => by rw [qi_mm, if_neg (fun y => by omega)]; exact h5 j hj, by rw [qi_mm, if_neg (fun y => by omega)]; exact h6, fun j => by rw [qg_mm, if_neg (fun y => by omega)]; exact h7 j, fun x a j hx => ?_, fun a ha => ?_, h10⟩
  · rw [qg_mm]
    unfold ru
    by_cases c : x = s ∧ a = S.1
    · rw [if_pos c, if_pos c]
    · rw [if_neg c, if_neg c]
      exact h8 x a j hx
  · rw [qn_mm]
    unfold lm at ha ⊢
    by_cases c : S.1 < a ∧ a ≤ S.1 + n
    · rw [if_pos c, if_pos c]
      exact ⟨by omega, rfl⟩
    · rw [if_neg c] at ha ⊢
      rw [if_neg c]
      by_cases d : a = S.1
      · rw [if_pos d, if_pos d]
        exact ⟨by omega, rfl⟩
      · rw [if_neg d] at ha ⊢
        rw [if_neg d]
        exact ⟨by have := (h9 a ha).1; omega, (h9 a ha).2⟩
end
