/-! ===== the law from its start to its end ===== -/
section
variable {F : pm_F} {L0 : Nat} {xs : Nat → Int32}
theorem kLG : LG kLZ := by
  unfold LG
  decide +kernel
theorem kIZ3 : ∀ k, k < 8 → kIZ 3 k = nI (d00 0 k) := by decide +kernel
theorem kIc : kIZ 3 8 = 0 ∧ kIZ 3 9 = 0 ∧ kIZ 23 6 = 0 ∧ kIZ 23 5 = -1 ∧ kIZ 30 13 = -1 ∧ kIZ 30 14 = -1 ∧ kIZ 41 7 = -1 ∧ kIZ 1 1 = 0 ∧ kIZ 10 8 = 0 ∧ kIZ 10 9 = -1 ∧ kIZ 44 5 = 0 ∧ kIZ 44 7 = 0 ∧ kIZ 49 1 = 0 ∧ kIZ 49 10 = 0 ∧ kIZ 49 11 = -1 := by decide +kernel
theorem m1_nI (n : Nat) (hn : n < 2147483648) : (-1 : Int32) ≠ nI n := by
  intro z
  have := congrArg Int32.toInt z
  rw [nI_toInt hn] at this
  have d : (-1 : Int32).toInt = -1 := by decide
  omega
theorem law_start (hF : pm_fix pt_me pt_Sg (pt_R L0 xs) F) : ∃ I', F 1 0 [some (.ref 203), none, none, none] [] (0, kG0, kI0, kL0) = F 1 18 [some (.ref 203), some (.ref 0), some (.ref 49), some (.int 0)] [] (81, pt_G, I', kLZ) ∧ ST 0 I' kLZ := by
  obtain ⟨A, a1, a2, a3⟩ := m_readsNothing (I := kIZ) (L := kLZ) (n := 0) (b := fun _ => 0) hF
  obtain ⟨B, b1, b2, b3, b4, b5, b6, b7⟩ := m_takes hF a3 d00_ok
  have f : ∀ r j, r < 49 → B r j = kIZ r j := fun r j hr => by rw [b2 r j (by omega), a2 r j (by omega) (by omega)]
  have f9 : ∀ j, j < 13 → B 49 j = kIZ 49 j := fun j hj => by rw [b3 j (by omega), a2 49 j (by omega) (by omega)]
  obtain ⟨c1, c2, c3, c4, c5, c6, c7, c8, c9, c10, c11, c12, c13, c14, c15⟩ := kIc
  refine ⟨B, ?_, d00, 0, fun _ => 0, 0, -1, 0, fun _ => 0, 0, fun _ => (0, fun _ => 0, fun _ => 0), ?_, ⟨⟨0, 0, by omega, by omega, ?_, ?_⟩, ?_⟩, ?_⟩
  · rw [klaw_a hF, a1]
    show pm_k (F 1201 279 [some (.ref 49)] [] (81, pt_G, A, kLZ)) _ = _
    rw [k1201_279 hF, b1]
    show pm_k (F 1201 283 [some (.ref 49)] [] (81, pt_G, B, kLZ)) _ = _
    rw [k1201_283 hF]
    show F 1 15 [some (.ref 203), some (.ref 0), none, none] [.ref 49] (81, pt_G, B, kLZ) = _
    rw [klaw_15 hF]
  · exact ⟨(d00_ok (n := 0) (b := fun _ => 0)).1, ⟨Nat.zero_le _, fun z => absurd rfl z⟩, by omega, fun i hi => absurd hi (by omega), by omega, fun _ => by show 0 < 256; omega⟩
  · have n13 : B 30 13 = -1 := by rw [f 30 13 (by omega)]; exact c5
    have n14 : B 30 14 = -1 := by rw [f 30 14 (by omega)]; exact c6
    refine ⟨⟨fun k hk => by rw [f 3 k (by omega)]; exact kIZ3 k hk, fun p hp => absurd hp (Nat.not_lt_zero _), fun p hp => absurd hp (Nat.not_lt_zero _), fun p hp => absurd hp (Nat.not_lt_zero _), fun p hp => absurd hp (Nat.not_lt_zero _), fun p o hp => absurd hp (Nat.not_lt_zero _), fun p o hp => absurd hp (Nat.not_lt_zero _)⟩, by rw [f 3 8 (by omega)]; exact c1, by rw [f 3 9 (by omega)]; exact c2, by omega, by omega, ⟨0, by omega, by rw [f 23 6 (by omega)]; exact c3⟩, fun t k _ z => ?_, Or.inl n13, fun z => ?_, Or.inl n14, fun z => ?_⟩
    · rw [f 23 5 (by omega), c4] at z
      exact absurd z (m1_nI _ (by have := hp_lt k; omega))
    · rw [n13] at z
      exact absurd z (m1_nI 0 (by omega))
    · rw [n14] at z
      exact absurd z (m1_nI 0 (by omega))
  · have n7 : B 41 7 = -1 := by rw [f 41 7 (by omega)]; exact c7
    exact ⟨Or.inl n7, fun z => by rw [n7] at z; exact absurd z (m1_nI 0 (by omega))⟩
  · exact ⟨⟨by rw [f 1 1 (by omega)]; exact c8, by omega, fun i hi => absurd hi (by omega)⟩, kLG, by rw [f 10 8 (by omega)]; exact c9, by rw [f 10 9 (by omega)]; exact c10, by rw [f 44 5 (by omega)]; exact c11, fun z => absurd rfl z, by rw [f 44 7 (by omega)]; exact c12, by omega, fun i hi => absurd hi (by omega)⟩
  · exact ⟨⟨b4, Or.inl b7⟩, ⟨by rw [f9 1 (by omega)]; exact c13, by omega, fun i hi => absurd hi (by omega)⟩, by rw [f9 10 (by omega)]; exact c14, by rw [f9 11 (by omega)]; exact c15, b5, b6, by omega, fun i hi => absurd hi (by omega)⟩
theorem law_one (hF : pm_fix pt_me pt_Sg (pt_R L0 xs) F) (hL : L0 ≤ 3072) : ∃ I' L', F 1 0 [some (.ref 203), none, none, none] [] (0, kG0, kI0, kL0) = some (some (.int 1), (81, pt_G, I', L')) := by
  obtain ⟨A, a1, a2⟩ := law_start hF
  obtain ⟨B, G, b1⟩ := law_loop hF hL (L0 / 6) 0 A kLZ (by omega) a2
  exact ⟨B, G, a1.trans b1⟩
end
