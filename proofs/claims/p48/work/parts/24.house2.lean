/-! ===== the house: its longer methods ===== -/
section
theorem lp_pair {α β : Type} (f : Nat → α → α) (g : Nat → β → β) (n : Nat) (a : α) (b : β) : lp (fun k (x : α × β) => (f k x.1, g k x.2)) n (a, b) = (lp f n a, lp g n b) := by
  induction n with
  | zero => rfl
  | succ n ih => show (f n (lp _ n (a, b)).1, g n (lp _ n (a, b)).2) = _; rw [ih]; rfl
theorem z_sle {a b : Nat} (ha : a < 1073741824) (hb : b < 1073741824) : (nI a - nI b ≤ 0) = (a ≤ b) := by
  refine propext ?_
  rw [Int32.le_iff_toInt_le, pk_sub_toInt ha hb]
  have : (0 : Int32).toInt = 0 := rfl
  omega
theorem z_seq {a b : Nat} (ha : a < 1073741824) (hb : b < 1073741824) : (nI a - nI b = 0) = (a = b) := by
  refine propext ⟨fun h => ?_, fun h => ?_⟩
  · have h2 := congrArg Int32.toInt h
    rw [pk_sub_toInt ha hb] at h2
    have : (0 : Int32).toInt = 0 := rfl
    omega
  · subst h; exact Int32.sub_self _
variable {h : Nat → Nat → Nat}
def sO (h : Nat → Nat → Nat) : Option Nat → Nat
  | none => 0
  | some q => h 1 q
def dO (f s : Nat) (had : Nat → Nat) : Option Nat → Nat
  | none => 1
  | some q => f + s * had q
theorem nx1_eq (W : WF h) {f s C k : Nat} {had : Nat → Nat} {b : Option Nat} (hb : C.testBit k = true) : nx1 h f s had C k b = if sO h b * (f + s * had k) < h 1 k * dO f s had b ∨ (h 1 k * dO f s had b = sO h b * (f + s * had k) ∧ sO h b < h 1 k) then some k else b := by
  have := W.seats k
  unfold nx1
  rw [hb]
  cases b with
  | none =>
    show some k = _
    rw [if_pos]
    left
    show 0 * _ < h 1 k * 1
    omega
  | some q =>
    show (bif true && ahd h f s had k q then some k else some q) = _
    rw [Bool.true_and]
    unfold ahd
    show (bif decide (h 1 q * (f + s * had k) < h 1 k * (f + s * had q)) || (decide (h 1 k * (f + s * had q) = h 1 q * (f + s * had k)) && decide (h 1 q < h 1 k)) then some k else some q) = if h 1 q * (f + s * had k) < h 1 k * (f + s * had q) ∨ (h 1 k * (f + s * had q) = h 1 q * (f + s * had k) ∧ h 1 q < h 1 k) then some k else some q
    by_cases c1 : h 1 q * (f + s * had k) < h 1 k * (f + s * had q)
    · rw [decide_eq_true c1, if_pos (Or.inl c1)]; rfl
    · rw [decide_eq_false c1]
      by_cases c2 : h 1 k * (f + s * had q) = h 1 q * (f + s * had k)
      · rw [decide_eq_true c2]
        by_cases c3 : h 1 q < h 1 k
        · rw [decide_eq_true c3, if_pos (Or.inr ⟨c2, c3⟩)]; rfl
        · rw [decide_eq_false c3, if_neg (fun h => h.elim c1 (fun h => c3 h.2))]; rfl
      · rw [decide_eq_false c2, if_neg (fun h => h.elim c1 (fun h => c2 h.1))]; rfl
theorem bif_some {c : Bool} {k : Nat} {b : Option Nat} {q : Nat} (hh : (bif c then some k else b) = some q) : (c = true ∧ q = k) ∨ (c = false ∧ b = some q) := by
  cases c with
  | true => left; cases hh; exact ⟨rfl, rfl⟩
  | false => right; exact ⟨rfl, hh⟩
theorem nx1_lt {f s C k n : Nat} {had : Nat → Nat} {b : Option Nat} (hk : k < n) (hb : ∀ q, b = some q → q < n) : ∀ q, nx1 h f s had C k b = some q → q < n := by
  intro q hq
  unfold nx1 at hq
  rcases bif_some hq with ⟨_, e⟩ | ⟨_, e⟩
  · rw [e]; exact hk
  · exact hb q e
theorem nxt_lt {f s C : Nat} {had : Nat → Nat} {q : Nat} (hq : nxt h f s had C = some q) : q < h 0 0 :=
  lpP (f := nx1 h f s had C) (P := fun _ b => ∀ q, b = some q → q < h 0 0) (fun q h => by cases h) (fun k b hk hb => nx1_lt hk hb) q hq
theorem mulB {a b c d : Nat} (h1 : a ≤ c) (h2 : b ≤ d) : a * b ≤ c * d := Nat.mul_le_mul h1 h2
variable {F : pm_F} {L0 : Nat} {xs : Nat → Int32} {I : Nat → Nat → Int32} {L : Nat → Nat → Int64}
theorem c_nextBy (hF : pm_fix pt_me pt_Sg (pt_R L0 xs) F) (W : WF h) (H : CH h I) {C f s : Nat} {had : Nat → Nat} (hC : C < 128) (hh : ∀ p, had p ≤ 8) (hf : f ≤ 99) (hs : s ≤ 99) : (F 518 0 [some (.ref 3), some (.int (nI C)), some (.int (nI (pkc had))), some (.int (nI f)), some (.int (nI s)), none, none, none, none, none, none, none] [] (49, pt_G, I, L)) = some (some (.int (oI (nxt h f s had C))), (49, pt_G, I, L)) := by
  have hP := W.P
  have hh2 : ∀ p, had p < 16 := fun p => by have := hh p; omega
  rw [e518_0 hF]
  refine ((lpI (G := fun k b => (F 518 12 [some (.ref 3), some (.int (nI C)), some (.int (nI (pkc had))), some (.int (nI f)), some (.int (nI s)), some (.int (oI b)), some (.int (nI (sO h b))), some (.int (nI (dO f s had b))), some (.int (nI k)), none, none, none] [] (49, pt_G, I, L))) (f := nx1 h f s had C) (P := fun _ b => ∀ q, b = some q → q < h 0 0) (n := h 0 0) (a := none) (fun q h => by cases h) (fun k b hk hb => ⟨?_, nx1_lt hk hb⟩)).1).trans ?_
  · try dsimp only
    rw [e518_12 hF]
    simp (disch := omega) only [pm_k_i, Option.toList_some, Option.toList_none, List.cons_append, List.nil_append, cond_true, cond_false, ↓reduceIte, reduceCtorEq, z_1, nI_add, z_cl, z_ib, z_lt, z_le, z_eq, z_eq0, z_le0, z_lt0, z_b0, z_b1, z_m1, z_and7, H.P, hk, c_isIn hF, e518_27 hF]
    cases hx : C.testBit k with
    | false =>
      have : nx1 h f s had C k b = b := by unfold nx1; rw [hx]; rfl
      simp (disch := omega) only [pm_k_i, Option.toList_some, Option.toList_none, List.cons_append, List.nil_append, cond_true, cond_false, ↓reduceIte, reduceCtorEq, z_1, nI_add, z_cl, z_ib, z_lt, z_le, z_eq, z_eq0, z_le0, z_lt0, z_b0, z_b1, z_m1, z_and7, this]
    | true =>
      have h1 := W.seats k
      have h2 : sO h b ≤ 999 := by
        cases b with
        | none => show 0 ≤ _; omega
        | some q => exact (W.seats q).2
      have h3 : dO f s had b ≤ 891 := by
        cases b with
        | none => show 1 ≤ _; omega
        | some q => have := mulB hs (hh q); show f + s * had q ≤ _; omega
      have h4 : f + s * had k ≤ 891 := by have := mulB hs (hh k); omega
      have h5 := mulB h1.2 h3
      have h6 := mulB h2 h4
      simp (disch := omega) only [pm_k_i, Option.toList_some, Option.toList_none, List.cons_append, List.nil_append, cond_true, cond_false, ↓reduceIte, reduceCtorEq, z_1, nI_add, z_cl, z_ib, z_lt, z_le, z_eq, z_eq0, z_le0, z_lt0, z_b0, z_b1, z_m1, z_and7, c_seatsOf hF W H, e518_39 hF, c_count hF hh2, e518_50 hF, pk_mul, z_sle, z_seq]
      rw [nx1_eq W hx]
      by_cases c1 : h 1 k * dO f s had b ≤ sO h b * (f + s * had k)
      · rw [if_pos c1]
        by_cases c2 : h 1 k * dO f s had b = sO h b * (f + s * had k)
        · rw [if_pos c2]
          by_cases c3 : h 1 k ≤ sO h b
          · rw [if_pos c3, if_neg (fun h => h.elim (fun h => by omega) (fun h => by omega))]
          · rw [if_neg c3, if_pos (Or.inr ⟨c2, by omega⟩)]
            rfl
        · rw [if_neg c2, if_neg (fun h => h.elim (fun h => by omega) (fun h => c2 h.1))]
      · rw [if_neg c1, if_pos (Or.inl (by omega))]
        rfl
  · try dsimp only
    rw [e518_12 hF]
    simp (disch := omega) only [pm_k_i, Option.toList_some, Option.toList_none, List.cons_append, List.nil_append, cond_true, cond_false, ↓reduceIte, reduceCtorEq, z_1, nI_add, z_cl, z_ib, z_lt, z_le, z_eq, z_eq0, z_le0, z_lt0, z_b0, z_b1, z_m1, z_and7, H.P, Nat.lt_irrefl]
    rfl
def wO (h : Nat → Nat → Nat) (p : Nat) : Option Nat → Int32
  | none => -1
  | some q => nI (h 5 (8 * p + q))
theorem c_dearest (hF : pm_fix pt_me pt_Sg (pt_R L0 xs) F) (W : WF h) (H : CH h I) {p l : Nat} (hp : p < h 0 0) (hl : l < 256) : (F 519 0 [some (.ref 3), some (.int (nI p)), some (.int (nI l)), none, none, none] [] (49, pt_G, I, L)) = some (some (.int (oI (dst h p l))), (49, pt_G, I, L)) := by
  have hP := W.P
  have hO := W.O
  rw [e519_0 hF]
  refine (lpE (G := fun k b => (F 519 8 [some (.ref 3), some (.int (nI p)), some (.int (nI l)), some (.int (oI b)), some (.int (wO h p b)), some (.int (nI k))] [] (49, pt_G, I, L))) (f := ds1 h p l) (n := h 0 1) (fun k b hk => ?_) none).trans ?_
  · try dsimp only
    rw [e519_8 hF]
    simp (disch := omega) only [pm_k_i, Option.toList_some, Option.toList_none, List.cons_append, List.nil_append, cond_true, cond_false, ↓reduceIte, reduceCtorEq, z_1, nI_add, z_cl, z_ib, z_lt, z_le, z_eq, z_eq0, z_le0, z_lt0, z_b0, z_b1, z_m1, z_and7, H.O, hk, c_isIn hF, e519_23 hF]
    cases hx : l.testBit k with
    | false =>
      have : ds1 h p l k b = b := by unfold ds1; rw [hx]; rfl
      simp (disch := omega) only [pm_k_i, Option.toList_some, Option.toList_none, List.cons_append, List.nil_append, cond_true, cond_false, ↓reduceIte, reduceCtorEq, z_1, nI_add, z_cl, z_ib, z_lt, z_le, z_eq, z_eq0, z_le0, z_lt0, z_b0, z_b1, z_m1, z_and7, this]
    | true =>
      have h1 := W.worth (8 * p + k)
      simp (disch := omega) only [pm_k_i, Option.toList_some, Option.toList_none, List.cons_append, List.nil_append, cond_true, cond_false, ↓reduceIte, reduceCtorEq, z_1, nI_add, z_cl, z_ib, z_lt, z_le, z_eq, z_eq0, z_le0, z_lt0, z_b0, z_b1, z_m1, z_and7, c_worthTo hF W H, e519_33 hF]
      cases b with
      | none =>
        have : ds1 h p l k none = some k := by unfold ds1; rw [hx]; rfl
        rw [this]
        show (if nI (h 5 (8 * p + k)) ≤ -1 then _ else _) = _
        simp (disch := omega) only [pm_k_i, Option.toList_some, Option.toList_none, List.cons_append, List.nil_append, cond_true, cond_false, ↓reduceIte, reduceCtorEq, z_1, nI_add, z_cl, z_ib, z_lt, z_le, z_eq, z_eq0, z_le0, z_lt0, z_b0, z_b1, z_m1, z_and7, z_lem, c_worthTo hF W H, e519_48 hF]
        try rfl
      | some q =>
        have h2 := W.worth (8 * p + q)
        show (if nI (h 5 (8 * p + k)) ≤ nI (h 5 (8 * p + q)) then _ else _) = _
        simp (disch := omega) only [z_le]
        by_cases c : h 5 (8 * p + k) ≤ h 5 (8 * p + q)
        · have : ds1 h p l k (some q) = some q := by unfold ds1; rw [hx]; show (bif true && decide (h 5 (8 * p + q) < h 5 (8 * p + k)) then some k else some q) = _; rw [decide_eq_false (by omega)]; rfl
          rw [if_pos c, this]
          try rfl
        · have : ds1 h p l k (some q) = some k := by unfold ds1; rw [hx]; show (bif true && decide (h 5 (8 * p + q) < h 5 (8 * p + k)) then some k else some q) = _; rw [decide_eq_true (by omega)]; rfl
          rw [if_neg c, this]
          simp (disch := omega) only [pm_k_i, Option.toList_some, Option.toList_none, List.cons_append, List.nil_append, cond_true, cond_false, ↓reduceIte, reduceCtorEq, z_1, nI_add, z_cl, z_ib, z_lt, z_le, z_eq, z_eq0, z_le0, z_lt0, z_b0, z_b1, z_m1, z_and7, c_worthTo hF W H, e519_48 hF]
          rfl
  · try dsimp only
    rw [e519_8 hF]
    simp (disch := omega) only [pm_k_i, Option.toList_some, Option.toList_none, List.cons_append, List.nil_append, cond_true, cond_false, ↓reduceIte, reduceCtorEq, z_1, nI_add, z_cl, z_ib, z_lt, z_le, z_eq, z_eq0, z_le0, z_lt0, z_b0, z_b1, z_m1, z_and7, H.O, Nat.lt_irrefl]
    rfl
theorem c_middleOf (hF : pm_fix pt_me pt_Sg (pt_R L0 xs) F) (W : WF h) (H : CH h I) {C : Nat} (hC : C < 128) : (F 520 0 [some (.ref 3), some (.int (nI C)), none, none, none] [] (49, pt_G, I, L)) = some (some (.int (nI (mid h C))), (49, pt_G, I, L)) := by
  have hP := W.P
  rw [e520_0 hF]
  refine (lpE (G := fun k (a : Nat × Nat) => (F 520 7 [some (.ref 3), some (.int (nI C)), some (.int (nI a.1)), some (.int (nI a.2)), some (.int (nI k))] [] (49, pt_G, I, L))) (f := fun p a => (bif C.testBit p then a.1 + h 1 p * h 2 p else a.1, bif C.testBit p then a.2 + h 1 p else a.2)) (n := h 0 0) (fun k a hk => ?_) (0, 0)).trans ?_
  · try dsimp only
    rw [e520_7 hF]
    simp (disch := omega) only [pm_k_i, Option.toList_some, Option.toList_none, List.cons_append, List.nil_append, cond_true, cond_false, ↓reduceIte, reduceCtorEq, z_1, nI_add, z_cl, z_ib, z_lt, z_le, z_eq, z_eq0, z_le0, z_lt0, z_b0, z_b1, z_m1, z_and7, H.P, hk, c_isIn hF, e520_22 hF]
    cases C.testBit k
    · simp (disch := omega) only [pm_k_i, Option.toList_some, Option.toList_none, List.cons_append, List.nil_append, cond_true, cond_false, ↓reduceIte, reduceCtorEq, z_1, nI_add, z_cl, z_ib, z_lt, z_le, z_eq, z_eq0, z_le0, z_lt0, z_b0, z_b1, z_m1, z_and7]
    · simp (disch := omega) only [pm_k_i, Option.toList_some, Option.toList_none, List.cons_append, List.nil_append, cond_true, cond_false, ↓reduceIte, reduceCtorEq, z_1, nI_add, z_cl, z_ib, z_lt, z_le, z_eq, z_eq0, z_le0, z_lt0, z_b0, z_b1, z_m1, z_and7, c_seatsOf hF W H, c_placeOf hF W H, e520_35 hF, e520_41 hF, e520_51 hF, pk_mul]
  · try dsimp only
    rw [lp_pair (fun p a => bif C.testBit p then a + h 1 p * h 2 p else a) (fun p a => bif C.testBit p then a + h 1 p else a)]
    show (F 520 7 [some (.ref 3), some (.int (nI C)), some (.int (nI (wei h C))), some (.int (nI (sIn h C))), some (.int (nI (h 0 0)))] [] (49, pt_G, I, L)) = _
    have h1 := sIn_le W C
    have h2 := wei_le W C
    rw [e520_7 hF]
    simp (disch := omega) only [pm_k_i, Option.toList_some, Option.toList_none, List.cons_append, List.nil_append, cond_true, cond_false, ↓reduceIte, reduceCtorEq, z_1, nI_add, z_cl, z_ib, z_lt, z_le, z_eq, z_eq0, z_le0, z_lt0, z_b0, z_b1, z_m1, z_and7, H.P, Nat.lt_irrefl]
    unfold mid
    by_cases c : sIn h C = 0
    · rw [if_pos c, c, Nat.div_zero]; rfl
    · rw [if_neg c, pk_div (by omega) (by omega) (by omega)]
      simp (disch := omega) only [pm_k_i, Option.toList_some, Option.toList_none, List.cons_append, List.nil_append, cond_true, cond_false, ↓reduceIte, reduceCtorEq, z_1, nI_add, z_cl, z_ib, z_lt, z_le, z_eq, z_eq0, z_le0, z_lt0, z_b0, z_b1, z_m1, z_and7, c, decide_false, Bool.not_false]
theorem c_worthOfHeld (hF : pm_fix pt_me pt_Sg (pt_R L0 xs) F) (W : WF h) (H : CH h I) {q s p : Nat} (hq : q < 8) (hs : s < 16777216) (hp : p < h 0 0) : (F 521 0 [some (.ref 3), some (.int (nI q)), some (.int (nI s)), some (.int (nI p)), none, none] [] (49, pt_G, I, L)) = some (some (.int (nI (own h (gs s) q p))), (49, pt_G, I, L)) := by
  have hP := W.P
  have hO := W.O
  rw [e521_0 hF]
  refine (lpE (G := fun k a => (F 521 6 [some (.ref 3), some (.int (nI q)), some (.int (nI s)), some (.int (nI p)), some (.int (nI a)), some (.int (nI k))] [] (49, pt_G, I, L))) (f := fun o a => bif Nat.beq (gs s o) q then a + h 5 (8 * p + o) else a) (n := h 0 1) (fun k a hk => ?_) 0).trans ?_
  · try dsimp only
    have hg := gs_lt s k
    rw [e521_6 hF]
    simp (disch := omega) only [pm_k_i, Option.toList_some, Option.toList_none, List.cons_append, List.nil_append, cond_true, cond_false, ↓reduceIte, reduceCtorEq, z_1, nI_add, z_cl, z_ib, z_lt, z_le, z_eq, z_eq0, z_le0, z_lt0, z_b0, z_b1, z_m1, z_and7, H.O, hk, c_get hF, e521_21 hF]
    by_cases e : gs s k = q
    · subst e
      rw [Nat.beq_refl]
      simp (disch := omega) only [pm_k_i, Option.toList_some, Option.toList_none, List.cons_append, List.nil_append, cond_true, cond_false, ↓reduceIte, reduceCtorEq, z_1, nI_add, z_cl, z_ib, z_lt, z_le, z_eq, z_eq0, z_le0, z_lt0, z_b0, z_b1, z_m1, z_and7, c_worthTo hF W H, e521_34 hF]
    · rw [show Nat.beq (gs s k) q = false from by cases e2 : Nat.beq (gs s k) q with
        | false => rfl
        | true => exact absurd (Nat.eq_of_beq_eq_true e2) e]
      simp (disch := omega) only [pm_k_i, Option.toList_some, Option.toList_none, List.cons_append, List.nil_append, cond_true, cond_false, ↓reduceIte, reduceCtorEq, z_1, nI_add, z_cl, z_ib, z_lt, z_le, z_eq, z_eq0, z_le0, z_lt0, z_b0, z_b1, z_m1, z_and7, e]
  · try dsimp only
    rw [e521_6 hF]
    simp (disch := omega) only [pm_k_i, Option.toList_some, Option.toList_none, List.cons_append, List.nil_append, cond_true, cond_false, ↓reduceIte, reduceCtorEq, z_1, nI_add, z_cl, z_ib, z_lt, z_le, z_eq, z_eq0, z_le0, z_lt0, z_b0, z_b1, z_m1, z_and7, H.O, Nat.lt_irrefl]
    rfl
theorem c_worthOfAll (hF : pm_fix pt_me pt_Sg (pt_R L0 xs) F) (W : WF h) (H : CH h I) {s : Nat} (hs : s < 16777216) (hw : ∀ o, o < h 0 1 → gs s o < h 0 0) : (F 522 0 [some (.ref 3), some (.int (nI s)), none, none] [] (49, pt_G, I, L)) = some (some (.int (nI (wal h (gs s)))), (49, pt_G, I, L)) := by
  have hP := W.P
  have hO := W.O
  rw [e522_0 hF]
  refine (lpE (G := fun k a => (F 522 4 [some (.ref 3), some (.int (nI s)), some (.int (nI a)), some (.int (nI k))] [] (49, pt_G, I, L))) (f := fun o a => a + h 5 (8 * gs s o + o)) (n := h 0 1) (fun k a hk => ?_) 0).trans ?_
  · try dsimp only
    have hg := hw k hk
    rw [e522_4 hF]
    simp (disch := omega) only [pm_k_i, Option.toList_some, Option.toList_none, List.cons_append, List.nil_append, cond_true, cond_false, ↓reduceIte, reduceCtorEq, z_1, nI_add, z_cl, z_ib, z_lt, z_le, z_eq, z_eq0, z_le0, z_lt0, z_b0, z_b1, z_m1, z_and7, H.O, hk, c_get hF, e522_19 hF, c_worthTo hF W H, e522_23 hF]
  · try dsimp only
    rw [e522_4 hF]
    simp (disch := omega) only [pm_k_i, Option.toList_some, Option.toList_none, List.cons_append, List.nil_append, cond_true, cond_false, ↓reduceIte, reduceCtorEq, z_1, nI_add, z_cl, z_ib, z_lt, z_le, z_eq, z_eq0, z_le0, z_lt0, z_b0, z_b1, z_m1, z_and7, H.O, Nat.lt_irrefl]
    rfl
theorem c_payBy (hF : pm_fix pt_me pt_Sg (pt_R L0 xs) F) (W : WF h) (H : CH h I) {a p m : Nat} (hp : p < h 0 0) (hm : m < 1073741824) : (F 524 0 [some (.ref 3), some (.int (nI a)), some (.int (nI p)), some (.int (nI m))] [] (49, pt_G, I, L)) = some (some (.int (pyv h a p m)), (49, pt_G, I, L)) := by
  have h1 := W.place p
  rw [e524_0 hF]
  simp (disch := omega) only [pm_k_i, Option.toList_some, Option.toList_none, List.cons_append, List.nil_append, cond_true, cond_false, ↓reduceIte, reduceCtorEq, z_1, nI_add, z_cl, z_ib, z_lt, z_le, z_eq, z_eq0, z_le0, z_lt0, z_b0, z_b1, z_m1, z_and7, z_10m, H.care, c_placeOf hF W H, e524_13 hF, c_absd hF, e524_18 hF, pk_mul]
  rfl
theorem c_griefBy (hF : pm_fix pt_me pt_Sg (pt_R L0 xs) F) (W : WF h) (H : CH h I) {s p : Nat} (hs : s < 16777216) (hw : ∀ o, o < h 0 1 → gs s o < h 0 0) (hp : p < h 0 0) : (F 525 0 [some (.ref 3), some (.int (nI p)), some (.int (nI s)), none, none, none] [] (49, pt_G, I, L)) = some (some (.int (nI (grf h (gs s) p))), (49, pt_G, I, L)) := by
  have hP := W.P
  have hO := W.O
  rw [e525_0 hF]
  refine (lpE (G := fun k a => (F 525 5 [some (.ref 3), some (.int (nI p)), some (.int (nI s)), some (.int (nI a)), some (.int (nI k)), none] [] (49, pt_G, I, L))) (f := fun o a => a + dis (h 6 (8 * p + o)) (h 6 (8 * gs s o + o)) * h 5 (8 * p + o)) (n := h 0 1) (fun k a hk => ?_) 0).trans ?_
  · try dsimp only
    have hg := hw k hk
    have h1 := W.stance (8 * p + k)
    have h2 := W.stance (8 * gs s k + k)
    rw [e525_5 hF]
    simp (disch := omega) only [pm_k_i, Option.toList_some, Option.toList_none, List.cons_append, List.nil_append, cond_true, cond_false, ↓reduceIte, reduceCtorEq, z_1, nI_add, z_cl, z_ib, z_lt, z_le, z_eq, z_eq0, z_le0, z_lt0, z_b0, z_b1, z_m1, z_and7, H.O, hk, c_get hF, e525_21 hF, c_stanceOf hF W H, e525_26 hF, e525_36 hF, c_absd hF, e525_42 hF, c_worthTo hF W H, e525_49 hF, pk_mul]
    rfl
  · try dsimp only
    rw [e525_5 hF]
    simp (disch := omega) only [pm_k_i, Option.toList_some, Option.toList_none, List.cons_append, List.nil_append, cond_true, cond_false, ↓reduceIte, reduceCtorEq, z_1, nI_add, z_cl, z_ib, z_lt, z_le, z_eq, z_eq0, z_le0, z_lt0, z_b0, z_b1, z_m1, z_and7, H.O, Nat.lt_irrefl]
    rfl
end
