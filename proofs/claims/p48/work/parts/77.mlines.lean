/-! ===== lines of the model ===== -/
section
variable {I I' : Nat → Nat → Int32} {L L' : Nat → Nat → Int64}
variable {F : pm_F} {L0 : Nat} {xs : Nat → Int32}
variable {n q f : Nat} {b : Nat → Nat} {d : Nat → Nat → Nat}
theorem MD.s (X : MD n b d I L) {k v : Nat} {u : Int32} (k2 : 2 ≤ k) (k7 : k ≤ 7) (hu : u = if k = 4 then (if v = 0 then -1 else nI v) else nI v) : MD n b (ud d 0 k v) (pm_ui I 49 (13 + k) u) L := by
  obtain ⟨⟨x1, x2, x3, x4, x5, x6, x7, x8, x9⟩, y1, y2, y3, y4⟩ := X
  have hk : k = 2 ∨ k = 3 ∨ k = 4 ∨ k = 5 ∨ k = 6 ∨ k = 7 := by omega
  have r1 : ∀ p, p < d 0 0 → pm_ui I 49 (13 + k) u 53 p = nI (d 1 p) ∧ pm_ui I 49 (13 + k) u 54 p = nI (d 2 p) ∧ pm_ui I 49 (13 + k) u 55 p = nI (d 3 p) ∧ L 51 p = lN (e8 n b (d 7 p)) := fun p p0 => by
    rw [z_ur (by omega), z_ur (by omega), z_ur (by omega)]; exact y1 p p0
  have r2 : ∀ p, p < 7 → pm_ui I 49 (13 + k) u 56 p = nI (d 4 p) := fun p p0 => by rw [z_ur (by omega)]; exact y2 p p0
  have r3 : ∀ p o, p < 7 → o < 8 → pm_ui I 49 (13 + k) u 57 (8 * p + o) = (bif (d 9 p).testBit o then nI (d 5 (8 * p + o)) else -1) ∧ pm_ui I 49 (13 + k) u 58 (8 * p + o) = (bif (d 10 p).testBit o then nI (d 6 (8 * p + o)) else -1) := fun p o p0 o0 => by
    rw [z_ur (by omega), z_ur (by omega)]; exact y3 p o p0 o0
  rcases hk with rfl | rfl | rfl | rfl | rfl | rfl
  · refine ⟨⟨?_, ?_, ?_, ?_, ?_, ?_, ?_, ?_, ?_⟩, r1, r2, r3, y4⟩
    · rw [z_uk (by omega)]; exact x1
    · rw [z_uk (by omega)]; exact x2
    · rw [z_ue, hu]; rfl
    · rw [z_uk (by omega)]; exact x4
    · rw [z_uk (by omega)]; exact x5
    · rw [z_uk (by omega)]; exact x6
    · rw [z_uk (by omega)]; exact x7
    · rw [z_uk (by omega)]; exact x8
    · rw [z_uk (by omega)]; exact x9
  · refine ⟨⟨?_, ?_, ?_, ?_, ?_, ?_, ?_, ?_, ?_⟩, r1, r2, r3, y4⟩
    · rw [z_uk (by omega)]; exact x1
    · rw [z_uk (by omega)]; exact x2
    · rw [z_uk (by omega)]; exact x3
    · rw [z_ue, hu]; rfl
    · rw [z_uk (by omega)]; exact x5
    · rw [z_uk (by omega)]; exact x6
    · rw [z_uk (by omega)]; exact x7
    · rw [z_uk (by omega)]; exact x8
    · rw [z_uk (by omega)]; exact x9
  · refine ⟨⟨?_, ?_, ?_, ?_, ?_, ?_, ?_, ?_, ?_⟩, r1, r2, r3, y4⟩
    · rw [z_uk (by omega)]; exact x1
    · rw [z_uk (by omega)]; exact x2
    · rw [z_uk (by omega)]; exact x3
    · rw [z_uk (by omega)]; exact x4
    · rw [z_ue, hu]; rfl
    · rw [z_uk (by omega)]; exact x6
    · rw [z_uk (by omega)]; exact x7
    · rw [z_uk (by omega)]; exact x8
    · rw [z_uk (by omega)]; exact x9
  · refine ⟨⟨?_, ?_, ?_, ?_, ?_, ?_, ?_, ?_, ?_⟩, r1, r2, r3, y4⟩
    · rw [z_uk (by omega)]; exact x1
    · rw [z_uk (by omega)]; exact x2
    · rw [z_uk (by omega)]; exact x3
    · rw [z_uk (by omega)]; exact x4
    · rw [z_uk (by omega)]; exact x5
    · rw [z_ue, hu]; rfl
    · rw [z_uk (by omega)]; exact x7
    · rw [z_uk (by omega)]; exact x8
    · rw [z_uk (by omega)]; exact x9
  · refine ⟨⟨?_, ?_, ?_, ?_, ?_, ?_, ?_, ?_, ?_⟩, r1, r2, r3, y4⟩
    · rw [z_uk (by omega)]; exact x1
    · rw [z_uk (by omega)]; exact x2
    · rw [z_uk (by omega)]; exact x3
    · rw [z_uk (by omega)]; exact x4
    · rw [z_uk (by omega)]; exact x5
    · rw [z_uk (by omega)]; exact x6
    · rw [z_ue, hu]; rfl
    · rw [z_uk (by omega)]; exact x8
    · rw [z_uk (by omega)]; exact x9
  · refine ⟨⟨?_, ?_, ?_, ?_, ?_, ?_, ?_, ?_, ?_⟩, r1, r2, r3, y4⟩
    · rw [z_uk (by omega)]; exact x1
    · rw [z_uk (by omega)]; exact x2
    · rw [z_uk (by omega)]; exact x3
    · rw [z_uk (by omega)]; exact x4
    · rw [z_uk (by omega)]; exact x5
    · rw [z_uk (by omega)]; exact x6
    · rw [z_uk (by omega)]; exact x7
    · rw [z_ue, hu]; rfl
    · rw [z_uk (by omega)]; exact x9
end
