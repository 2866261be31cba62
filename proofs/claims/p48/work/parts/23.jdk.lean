/-! ===== the JDK's: bits counted, the least bit ===== -/
section
variable {F : pm_F} {L0 : Nat} {xs : Nat → Int32} {I : Nat → Nat → Int32} {L : Nat → Nat → Int64}
theorem z_bc : ∀ C, C < 256 → (((((((((nI C) - ((pm_us (nI C) 1) &&& 1431655765)) &&& 858993459) + ((pm_us ((nI C) - ((pm_us (nI C) 1) &&& 1431655765)) 2) &&& 858993459)) + (pm_us ((((nI C) - ((pm_us (nI C) 1) &&& 1431655765)) &&& 858993459) + ((pm_us ((nI C) - ((pm_us (nI C) 1) &&& 1431655765)) 2) &&& 858993459)) 4)) &&& 252645135) + (pm_us ((((((nI C) - ((pm_us (nI C) 1) &&& 1431655765)) &&& 858993459) + ((pm_us ((nI C) - ((pm_us (nI C) 1) &&& 1431655765)) 2) &&& 858993459)) + (pm_us ((((nI C) - ((pm_us (nI C) 1) &&& 1431655765)) &&& 858993459) + ((pm_us ((nI C) - ((pm_us (nI C) 1) &&& 1431655765)) 2) &&& 858993459)) 4)) &&& 252645135) 8)) + (pm_us (((((((nI C) - ((pm_us (nI C) 1) &&& 1431655765)) &&& 858993459) + ((pm_us ((nI C) - ((pm_us (nI C) 1) &&& 1431655765)) 2) &&& 858993459)) + (pm_us ((((nI C) - ((pm_us (nI C) 1) &&& 1431655765)) &&& 858993459) + ((pm_us ((nI C) - ((pm_us (nI C) 1) &&& 1431655765)) 2) &&& 858993459)) 4)) &&& 252645135) + (pm_us ((((((nI C) - ((pm_us (nI C) 1) &&& 1431655765)) &&& 858993459) + ((pm_us ((nI C) - ((pm_us (nI C) 1) &&& 1431655765)) 2) &&& 858993459)) + (pm_us ((((nI C) - ((pm_us (nI C) 1) &&& 1431655765)) &&& 858993459) + ((pm_us ((nI C) - ((pm_us (nI C) 1) &&& 1431655765)) 2) &&& 858993459)) 4)) &&& 252645135) 8)) 16)) &&& 63) = nI (pc C) := by decide +kernel
theorem c_bitCount (hF : pm_fix pt_me pt_Sg (pt_R L0 xs) F) {C : Nat} (hC : C < 256) : F 1508 0 [some (.int (nI C))] [] (49, pt_G, I, L) = some (some (.int (nI (pc C))), (49, pt_G, I, L)) := by
  rw [e1508_0 hF, z_bc C hC]
def yy (C : Nat) : Int32 := ((nI C ^^^ (-1)) &&& (nI C - 1))
def ntB (C : Nat) : Bool := (decide (yy C ≤ 0) && decide (yy C &&& 32 = nI (tz C))) || (!decide (yy C ≤ 0) && (decide (yy C ≤ 65536) && (decide (yy C ≤ 256) && ((decide (yy C ≤ 16) && ((decide (yy C ≤ 4) && decide (1 + pm_us (yy C) 1 = nI (tz C))) || (!decide (yy C ≤ 4) && decide ((1 + 2) + pm_us (pm_us (yy C) 2) 1 = nI (tz C))))) || (!decide (yy C ≤ 16) && ((decide (pm_us (yy C) 4 ≤ 4) && decide ((1 + 4) + pm_us (pm_us (yy C) 4) 1 = nI (tz C))) || (!decide (pm_us (yy C) 4 ≤ 4) && decide (((1 + 4) + 2) + pm_us (pm_us (pm_us (yy C) 4) 2) 1 = nI (tz C)))))))))
theorem ntB_all : ∀ C, C < 256 → ntB (C + 1) = true ∨ C = 255 := by decide +kernel
theorem c_ntz (hF : pm_fix pt_me pt_Sg (pt_R L0 xs) F) {C : Nat} (hC : C < 256) (h0 : 0 < C) : F 1509 0 [some (.int (nI C)), none] [] (49, pt_G, I, L) = some (some (.int (nI (tz C))), (49, pt_G, I, L)) := by
  rw [e1509_0 hF]
  have hn : ntB C = true := by
    have := ntB_all (C - 1) (by omega)
    rw [show C - 1 + 1 = C by omega] at this
    exact this.elim id (fun hh => by omega)
  unfold ntB at hn
  simp only [Bool.or_eq_true, Bool.and_eq_true, Bool.not_eq_true', decide_eq_true_eq, decide_eq_false_iff_not] at hn
  change (if yy C ≤ 0 then _ else _) = _
  unfold yy at hn ⊢
  rcases hn with ⟨a, b⟩ | ⟨a, a2, a3, ⟨b, ⟨c, d⟩ | ⟨c, d⟩⟩ | ⟨b, ⟨c, d⟩ | ⟨c, d⟩⟩⟩
  · rw [if_pos a, b]
  · rw [if_neg a, if_pos a2, if_pos a3, if_pos b, if_pos c, d]
  · rw [if_neg a, if_pos a2, if_pos a3, if_pos b, if_neg c, d]
  · rw [if_neg a, if_pos a2, if_pos a3, if_neg b, if_pos c, d]
  · rw [if_neg a, if_pos a2, if_pos a3, if_neg b, if_neg c, d]
theorem c_max (hF : pm_fix pt_me pt_Sg (pt_R L0 xs) F) {a b : Nat} (ha : a < 2147483648) (hb : b < 2147483648) : F 1512 0 [some (.int (nI a)), some (.int (nI b))] [] (49, pt_G, I, L) = some (some (.int (nI (max a b))), (49, pt_G, I, L)) := by
  rw [e1512_0 hF]
  simp only [z_lt ha hb]
  by_cases h : a < b
  · rw [if_pos h, Nat.max_eq_right (by omega)]
  · rw [if_neg h, Nat.max_eq_left (by omega)]
theorem c_min (hF : pm_fix pt_me pt_Sg (pt_R L0 xs) F) {a b : Nat} (ha : a < 2147483648) (hb : b < 2147483648) : F 1511 0 [some (.int (nI a)), some (.int (nI b))] [] (49, pt_G, I, L) = some (some (.int (nI (min a b))), (49, pt_G, I, L)) := by
  rw [e1511_0 hF]
  simp only [z_le ha hb]
  by_cases h : a ≤ b
  · rw [if_pos h, Nat.min_eq_left h]
  · rw [if_neg h, Nat.min_eq_right (by omega)]
theorem z_neg {a b : Nat} (h : a ≤ b) : -(nI a - nI b) = nI (b - a) := by
  rw [Int32.neg_sub, pk_sub h]
theorem c_absd (hF : pm_fix pt_me pt_Sg (pt_R L0 xs) F) {a b : Nat} (ha : a < 1073741824) (hb : b < 1073741824) : F 1510 0 [some (.int (nI a - nI b))] [] (49, pt_G, I, L) = some (some (.int (nI (if a ≤ b then b - a else a - b))), (49, pt_G, I, L)) := by
  rw [e1510_0 hF]
  by_cases h : a < b
  · rw [if_pos (pk_sneg hb h), if_pos (by omega), z_neg (by omega)]
  · rw [pk_sub (by omega)]
    simp (disch := omega) only [z_lt0, ↓reduceIte]
    by_cases e : a = b
    · subst e; rw [if_pos (Nat.le_refl _)]
    · rw [if_neg (by omega)]
end
