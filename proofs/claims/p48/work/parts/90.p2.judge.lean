/-! ===== one call: judging ===== -/
section
variable {h : Nat → Nat → Nat} {I I' : Nat → Nat → Int32} {L L' : Nat → Nat → Int64}
variable {q n C a c : Nat} {b w : Nat → Nat} {fa pl : Int32} {sn : Nat → SN} {e v : Nat}
variable {F : pm_F} {L0 : Nat} {xs : Nat → Int32}
theorem MH.of70 (H : MH h I) (f : ∀ r j, r ≠ 66 → r ≠ 67 → r ≠ 70 → I' r j = I r j) : MH h I' := H.of (fun k _ _ => f 49 k (by omega) (by omega) (by omega)) (fun r p q k => f r k (by omega) (by omega) (by omega)) (fun k _ => f 64 k (by omega) (by omega) (by omega))
end
