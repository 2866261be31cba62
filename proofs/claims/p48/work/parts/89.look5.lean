/-! ===== one call: coalitions ===== -/
section
variable {h : Nat → Nat → Nat} {I I' : Nat → Nat → Int32} {L L' : Nat → Nat → Int64}
variable {q n C a : Nat} {b w : Nat → Nat} {fa pl : Int32} {sn : Nat → SN} {e v : Nat}
variable {F : pm_F} {L0 : Nat} {xs : Nat → Int32}
theorem FX.s (f : ∀ r k, r ≠ 38 → r ≠ 39 → r ≠ 40 → I' r k = I r k) : FX I I' L L := ⟨fun r k hx => f r k (fun z => hx (by unfold xc; omega)) (fun z => hx (by unfold xc; omega)) (fun z => hx (by unfold xc; omega)), fun _ _ _ => rfl⟩
theorem K1.back (X : K1 q h n b fa pl C w a sn I L) (f : LO I I') : K1 q h n b fa pl C w a sn I' L := X.lo f (fun _ _ _ => rfl)
theorem FR.rf (X : FR h e v I L) : CX h e v I L := X.1
end
