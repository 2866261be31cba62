/-! ===== the model: picks' small ones ===== -/
section
theorem beq_f {a b : Nat} (h : ¬ a = b) : Nat.beq a b = false := by
  cases e : Nat.beq a b with
  | false => rfl
  | true => exact absurd (Nat.eq_of_beq_eq_true e) h
variable {h : Nat → Nat → Nat}
/-- owners lie there -/
def OW (h : Nat → Nat → Nat) (w : Nat → Nat) (I : Nat → Nat → Int32) : Prop := ∀ o, o < h 0 1 → I 70 o = nI (w o) ∧ w o < h 0 0
def swp (h : Nat → Nat → Nat) (w : Nat → Nat) (a b : Nat) : Bool := !Nat.beq (w a) (w b) && (decide (h 5 (8 * w a + a) < h 5 (8 * w a + b)) && decide (h 5 (8 * w b + b) < h 5 (8 * w b + a)))
variable {F : pm_F} {L0 : Nat} {xs : Nat → Int32} {I : Nat → Nat → Int32} {L : Nat → Nat → Int64}
theorem m_bestLeft (hF : pm_fix pt_me pt_Sg (pt_R L0 xs) F) (W : WF h) (H : MH h I) {p l : Nat} (hp : p < h 0 0) (hl : l < 256) : (F 1262 0 [some (.ref 49), some (.int (nI p)), some (.int (nI l)), none, none] [] (81, pt_G, I, L)) = some (some (.int (oI (dst h p l))), (81, pt_G, I, L)) := by
  have hP := W.P
  have hO := W.O
  rw [e1262_0 hF]
  refine ((lpI (G := fun k b => (F 1262 5 [some (.ref 49), some (.int (nI p)), some (.int (nI l)), some (.int (oI b)), some (.int (nI k))] [] (81, pt_G, I, L))) (f := ds1 h p l) (P := fun _ b => ∀ q, b = some q → q < h 0 1) (n := h 0 1) (a := none) (fun q h => by cases h) (fun k b hk hb => ⟨?_, ?_⟩)).1).trans ?_
  · try dsimp only
    rw [e1262_5 hF]
    simp (disch := omega) only [pm_k_i, Option.toList_some, Option.toList_none, List.cons_append, List.nil_append, cond_true, cond_false, ↓reduceIte, reduceCtorEq, z_1, nI_add, z_cl, z_ib, z_lt, z_le, z_eq, z_eq0, z_le0, z_lt0, z_b0, z_b1, z_m1, z_and7, Int32.add_zero, H.O, hk, m_holds hF, e1262_20 hF]
    unfold ds1
    cases hx : l.testBit k with
    | false => simp (disch := omega) only [pm_k_i, Option.toList_some, Option.toList_none, List.cons_append, List.nil_append, cond_true, cond_false, ↓reduceIte, reduceCtorEq, z_1, nI_add, z_cl, z_ib, z_lt, z_le, z_eq, z_eq0, z_le0, z_lt0, z_b0, z_b1, z_m1, z_and7, Int32.add_zero, Bool.false_and]
    | true =>
      cases b with
      | none =>
        simp (disch := omega) only [pm_k_i, Option.toList_some, Option.toList_none, List.cons_append, List.nil_append, cond_true, cond_false, ↓reduceIte, reduceCtorEq, z_1, nI_add, z_cl, z_ib, z_lt, z_le, z_eq, z_eq0, z_le0, z_lt0, z_b0, z_b1, z_m1, z_and7, Int32.add_zero, oI, Bool.true_and, eq_self]
      | some q =>
        have hq := hb q rfl
        have h1 := W.worth (8 * p + k)
        have h2 := W.worth (8 * p + q)
        show (if nI q = -1 then _ else _) = _
        simp (disch := omega) only [pm_k_i, Option.toList_some, Option.toList_none, List.cons_append, List.nil_append, cond_true, cond_false, ↓reduceIte, reduceCtorEq, z_1, nI_add, z_cl, z_ib, z_lt, z_le, z_eq, z_eq0, z_le0, z_lt0, z_b0, z_b1, z_m1, z_and7, Int32.add_zero, oI, Bool.true_and, m_worthOf hF W H, e1262_35 hF, e1262_41 hF]
        by_cases c : h 5 (8 * p + k) ≤ h 5 (8 * p + q)
        · rw [if_pos c, decide_eq_false (by omega)]
          rfl
        · rw [if_neg c, decide_eq_true (by omega)]
          rfl
  · intro q hq
    unfold ds1 at hq
    rcases bif_some hq with ⟨_, e⟩ | ⟨_, e⟩
    · rw [e]; exact hk
    · exact hb q e
  · try dsimp only
    rw [e1262_5 hF]
    simp (disch := omega) only [pm_k_i, Option.toList_some, Option.toList_none, List.cons_append, List.nil_append, cond_true, cond_false, ↓reduceIte, reduceCtorEq, z_1, nI_add, z_cl, z_ib, z_lt, z_le, z_eq, z_eq0, z_le0, z_lt0, z_b0, z_b1, z_m1, z_and7, Int32.add_zero, H.O, Nat.lt_irrefl]
    rfl
theorem m_wouldSwap (hF : pm_fix pt_me pt_Sg (pt_R L0 xs) F) (W : WF h) (H : MH h I) {w : Nat → Nat} (hw : OW h w I) {a b : Nat} (ha : a < h 0 1) (hb : b < h 0 1) : (F 1263 0 [some (.ref 49), some (.int (nI a)), some (.int (nI b)), none, none] [] (81, pt_G, I, L)) = some (some (.int (nI (swp h w a b).toNat)), (81, pt_G, I, L)) := by
  have hP := W.P
  have hO := W.O
  obtain ⟨h1, h2⟩ := hw a ha
  obtain ⟨h3, h4⟩ := hw b hb
  have k1 := W.worth (8 * w a + a)
  have k2 := W.worth (8 * w a + b)
  have k3 := W.worth (8 * w b + a)
  have k4 := W.worth (8 * w b + b)
  rw [e1263_0 hF]
  simp (disch := omega) only [pm_k_i, Option.toList_some, Option.toList_none, List.cons_append, List.nil_append, cond_true, cond_false, ↓reduceIte, reduceCtorEq, z_1, nI_add, z_cl, z_ib, z_lt, z_le, z_eq, z_eq0, z_le0, z_lt0, z_b0, z_b1, z_m1, z_and7, Int32.add_zero, h1, h3]
  unfold swp
  by_cases c : w a = w b
  · rw [if_pos c, c, Nat.beq_refl]; rfl
  · rw [if_neg c, beq_f c]
    simp (disch := omega) only [pm_k_i, Option.toList_some, Option.toList_none, List.cons_append, List.nil_append, cond_true, cond_false, ↓reduceIte, reduceCtorEq, z_1, nI_add, z_cl, z_ib, z_lt, z_le, z_eq, z_eq0, z_le0, z_lt0, z_b0, z_b1, z_m1, z_and7, Int32.add_zero, h1, h3, m_worthOf hF W H, e1263_27 hF, e1263_33 hF, e1263_43 hF, e1263_50 hF]
    by_cases c1 : h 5 (8 * w a + b) ≤ h 5 (8 * w a + a)
    · rw [if_pos c1, decide_eq_false (by omega)]; rfl
    · rw [if_neg c1, decide_eq_true (by omega)]
      by_cases c2 : h 5 (8 * w b + a) ≤ h 5 (8 * w b + b)
      · rw [if_pos c2, decide_eq_false (by omega)]; rfl
      · rw [if_neg c2, decide_eq_true (by omega)]; rfl
theorem m_ownedBy (hF : pm_fix pt_me pt_Sg (pt_R L0 xs) F) (W : WF h) (H : MH h I) {w : Nat → Nat} (hw : OW h w I) {p : Nat} (hp : p < h 0 0) : (F 1267 0 [some (.ref 49), some (.int (nI p)), none, none] [] (81, pt_G, I, L)) = some (some (.int (nI (own h w p p))), (81, pt_G, I, L)) := by
  have hP := W.P
  have hO := W.O
  rw [e1267_0 hF]
  refine (lpE (G := fun k a => (F 1267 4 [some (.ref 49), some (.int (nI p)), some (.int (nI a)), some (.int (nI k))] [] (81, pt_G, I, L))) (f := fun o a => bif Nat.beq (w o) p then a + h 5 (8 * p + o) else a) (n := h 0 1) (fun k a hk => ?_) 0).trans ?_
  · try dsimp only
    obtain ⟨h1, h2⟩ := hw k hk
    rw [e1267_4 hF]
    simp (disch := omega) only [pm_k_i, Option.toList_some, Option.toList_none, List.cons_append, List.nil_append, cond_true, cond_false, ↓reduceIte, reduceCtorEq, z_1, nI_add, z_cl, z_ib, z_lt, z_le, z_eq, z_eq0, z_le0, z_lt0, z_b0, z_b1, z_m1, z_and7, Int32.add_zero, H.O, hk, h1]
    by_cases c : w k = p
    · subst c
      simp (disch := omega) only [pm_k_i, Option.toList_some, Option.toList_none, List.cons_append, List.nil_append, cond_true, cond_false, ↓reduceIte, reduceCtorEq, z_1, nI_add, z_cl, z_ib, z_lt, z_le, z_eq, z_eq0, z_le0, z_lt0, z_b0, z_b1, z_m1, z_and7, Int32.add_zero, Nat.beq_refl, m_worthOf hF W H, e1267_29 hF]
    · simp (disch := omega) only [pm_k_i, Option.toList_some, Option.toList_none, List.cons_append, List.nil_append, cond_true, cond_false, ↓reduceIte, reduceCtorEq, z_1, nI_add, z_cl, z_ib, z_lt, z_le, z_eq, z_eq0, z_le0, z_lt0, z_b0, z_b1, z_m1, z_and7, Int32.add_zero, beq_f c, c]
  · try dsimp only
    rw [e1267_4 hF]
    simp (disch := omega) only [pm_k_i, Option.toList_some, Option.toList_none, List.cons_append, List.nil_append, cond_true, cond_false, ↓reduceIte, reduceCtorEq, z_1, nI_add, z_cl, z_ib, z_lt, z_le, z_eq, z_eq0, z_le0, z_lt0, z_b0, z_b1, z_m1, z_and7, Int32.add_zero, H.O, Nat.lt_irrefl]
    rfl
theorem m_worthTo (hF : pm_fix pt_me pt_Sg (pt_R L0 xs) F) (W : WF h) (H : MH h I) {w : Nat → Nat} (hw : OW h w I) {p q : Nat} (hp : p < h 0 0) (hq : q < h 0 0) : (F 1273 0 [some (.ref 49), some (.int (nI p)), some (.int (nI q)), none, none] [] (81, pt_G, I, L)) = some (some (.int (nI (own h w q p))), (81, pt_G, I, L)) := by
  have hP := W.P
  have hO := W.O
  rw [e1273_0 hF]
  refine (lpE (G := fun k a => (F 1273 5 [some (.ref 49), some (.int (nI p)), some (.int (nI q)), some (.int (nI a)), some (.int (nI k))] [] (81, pt_G, I, L))) (f := fun o a => bif Nat.beq (w o) q then a + h 5 (8 * p + o) else a) (n := h 0 1) (fun k a hk => ?_) 0).trans ?_
  · try dsimp only
    obtain ⟨h1, h2⟩ := hw k hk
    rw [e1273_5 hF]
    simp (disch := omega) only [pm_k_i, Option.toList_some, Option.toList_none, List.cons_append, List.nil_append, cond_true, cond_false, ↓reduceIte, reduceCtorEq, z_1, nI_add, z_cl, z_ib, z_lt, z_le, z_eq, z_eq0, z_le0, z_lt0, z_b0, z_b1, z_m1, z_and7, Int32.add_zero, H.O, hk, h1]
    by_cases c : w k = q
    · subst c
      simp (disch := omega) only [pm_k_i, Option.toList_some, Option.toList_none, List.cons_append, List.nil_append, cond_true, cond_false, ↓reduceIte, reduceCtorEq, z_1, nI_add, z_cl, z_ib, z_lt, z_le, z_eq, z_eq0, z_le0, z_lt0, z_b0, z_b1, z_m1, z_and7, Int32.add_zero, Nat.beq_refl, m_worthOf hF W H, e1273_33 hF]
    · simp (disch := omega) only [pm_k_i, Option.toList_some, Option.toList_none, List.cons_append, List.nil_append, cond_true, cond_false, ↓reduceIte, reduceCtorEq, z_1, nI_add, z_cl, z_ib, z_lt, z_le, z_eq, z_eq0, z_le0, z_lt0, z_b0, z_b1, z_m1, z_and7, Int32.add_zero, beq_f c, c]
  · try dsimp only
    rw [e1273_5 hF]
    simp (disch := omega) only [pm_k_i, Option.toList_some, Option.toList_none, List.cons_append, List.nil_append, cond_true, cond_false, ↓reduceIte, reduceCtorEq, z_1, nI_add, z_cl, z_ib, z_lt, z_le, z_eq, z_eq0, z_le0, z_lt0, z_b0, z_b1, z_m1, z_and7, Int32.add_zero, H.O, Nat.lt_irrefl]
    rfl
theorem z_absd {a b : Nat} (ha : a < 1073741824) (hb : b < 1073741824) : (nI a - nI b < 0) = (a < b) := by
  refine propext ⟨fun h => ?_, fun h => pk_sneg hb h⟩
  rw [Int32.lt_iff_toInt_lt, pk_sub_toInt ha hb] at h
  have : (0 : Int32).toInt = 0 := rfl
  omega
theorem m_griefOf (hF : pm_fix pt_me pt_Sg (pt_R L0 xs) F) (W : WF h) (H : MH h I) {w : Nat → Nat} (hw : OW h w I) {p : Nat} (hp : p < h 0 0) : (F 1271 0 [some (.ref 49), some (.int (nI p)), none, none, none] [] (81, pt_G, I, L)) = some (some (.int (nI (grf h w p))), (81, pt_G, I, L)) := by
  have hP := W.P
  have hO := W.O
  rw [e1271_0 hF]
  refine (lpE (G := fun k a => (F 1271 4 [some (.ref 49), some (.int (nI p)), some (.int (nI a)), some (.int (nI k)), none] [] (81, pt_G, I, L))) (f := fun o a => a + dis (h 6 (8 * p + o)) (h 6 (8 * w o + o)) * h 5 (8 * p + o)) (n := h 0 1) (fun k a hk => ?_) 0).trans ?_
  · try dsimp only
    obtain ⟨h1, h2⟩ := hw k hk
    have k1 := W.stance (8 * p + k)
    have k2 := W.stance (8 * w k + k)
    rw [e1271_4 hF]
    simp (disch := omega) only [pm_k_i, Option.toList_some, Option.toList_none, List.cons_append, List.nil_append, cond_true, cond_false, ↓reduceIte, reduceCtorEq, z_1, nI_add, z_cl, z_ib, z_lt, z_le, z_eq, z_eq0, z_le0, z_lt0, z_b0, z_b1, z_m1, z_and7, Int32.add_zero, H.O, hk, h1, z_8m, H.stance, m_worthOf hF W H, e1271_62 hF, z_absd]
    unfold dis
    by_cases c : h 6 (8 * p + k) < h 6 (8 * w k + k)
    · rw [if_pos c, if_pos (by omega), z_neg (by omega), pk_mul, nI_add]
    · rw [if_neg c, pk_sub (by omega), pk_mul, nI_add]
      by_cases e : h 6 (8 * p + k) = h 6 (8 * w k + k)
      · rw [if_pos (by omega), e]
      · rw [if_neg (by omega)]
  · try dsimp only
    rw [e1271_4 hF]
    simp (disch := omega) only [pm_k_i, Option.toList_some, Option.toList_none, List.cons_append, List.nil_append, cond_true, cond_false, ↓reduceIte, reduceCtorEq, z_1, nI_add, z_cl, z_ib, z_lt, z_le, z_eq, z_eq0, z_le0, z_lt0, z_b0, z_b1, z_m1, z_and7, Int32.add_zero, H.O, Nat.lt_irrefl]
    rfl
end
