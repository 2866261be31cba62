/-! ===== one call: coalitions ===== -/
section
variable {h : Nat → Nat → Nat} {I I' : Nat → Nat → Int32} {L L' : Nat → Nat → Int64}
variable {q n C a : Nat} {b w : Nat → Nat} {fa pl : Int32} {sn : Nat → SN} {e v : Nat}
variable {F : pm_F} {L0 : Nat} {xs : Nat → Int32}
theorem FX.s (f : ∀ r k, r ≠ 38 → r ≠ 39 → r ≠ 40 → I' r k = I r k) : FX I I' L L := ⟨fun r k hx => f r k (fun z => hx (by unfold xc; omega)) (fun z => hx (by unfold xc; omega)) (fun z => hx (by unfold xc; omega)), fun _ _ _ => rfl⟩
theorem m_all_k (hF : pm_fix pt_me pt_Sg (pt_R L0 xs) F) (W : WF h) (Y : K2 h n b fa pl C w a sn I) : ∃ B, (F 1283 0 [some (.ref 49), none, none, none] [] (49, pt_G, I, L)) = some (none, (49, pt_G, B, L)) ∧ K2 h n b fa pl C w a sn B ∧ LY h B ∧ LO I B := by
  obtain ⟨B, b1, b2, b3, b4, b5⟩ := m_laysAll (L := L) hF W Y.1
  exact ⟨B, b1, Y.fm W b2 b3, b4, b2.lo⟩
theorem K1.back (X : K1 q h n b fa pl C w a sn I L) (f : LO I I') : K1 q h n b fa pl C w a sn I' L := X.lo f (fun _ _ _ => rfl)
theorem FR.rf (X : FR h e v I L) : CX h e v I L := X.1
end
