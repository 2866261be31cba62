/-! ===== one call: judging, the pieces ===== -/
section
variable {h : Nat → Nat → Nat} {I I' : Nat → Nat → Int32} {L L' : Nat → Nat → Int64}
variable {n c : Nat} {b w : Nat → Nat}
variable {F : pm_F} {L0 : Nat} {xs : Nat → Int32}
/-- the told cabinet -/
def tol (b : Nat → Nat) (n : Nat) : Nat → Nat := fun i => if i < n then b i else 0
def JB (h : Nat → Nat → Nat) (n : Nat) (b : Nat → Nat) (c : Nat) : Prop := n = h 0 1 ∧ ∀ i, i < h 0 1 → b i < h 0 0 ∧ c.testBit (b i) = true
theorem tol_K8 {k : Nat} (hk : k ≤ 8) (hb : ∀ i, i < k → b i < 8) : K8 (tol b k) := by
  refine ⟨fun i => ?_, fun i hi => if_neg (by omega)⟩
  unfold tol
  split
  · exact hb i (by assumption)
  · omega
theorem tol_up {k : Nat} : up (tol b k) k (b k) = tol b (k + 1) := by
  funext j
  unfold up tol
  by_cases e : j = k
  · rw [if_pos e, e, if_pos (by omega)]
  · rw [if_neg e]
    by_cases d : j < k
    · rw [if_pos d, if_pos (by omega)]
    · rw [if_neg d, if_neg (by omega)]
theorem tol_0 : nI (hp (tol b 0)) = 0 := by
  rw [show tol b 0 = fun _ => 0 from funext fun i => if_neg (by omega), hp_z]
  rfl
theorem c_told (hF : pm_fix pt_me pt_Sg (pt_R L0 xs) F) (W : WF h) (H : CH h I) (T : TC n b I) (hb : ∀ i, b i < 256) (cl : c ≤ ev h) {x : Int32} (y : JB h n b c → x = nI (hp (tol b (h 0 1)))) (z : ¬ JB h n b c → x = -1) : (F 147 0 [some (.ref 0), some (.int (nI c)), none, none, none] [] (49, pt_G, I, L)) = some (some (.int x), (49, pt_G, I, L)) := by
  have hO := W.O
  have hP := W.P
  have hE := ev_lt W
  have hn := T.2.1
  rw [e147_0 hF, c_length hF T]
  simp (disch := omega) only [pm_k_i, Option.toList_some, Option.toList_none, List.cons_append, List.nil_append, cond_true, cond_false, ↓reduceIte, reduceCtorEq, z_1, nI_add, z_cl, z_ib, z_lt, z_le, z_eq, z_eq0, z_le0, z_lt0, z_b0, z_b1, z_m1, z_and7, Int32.add_zero, e147_7 hF, H.O]
  by_cases e : n = h 0 1
  · rw [if_pos e]
    have g := wl (α := Unit) (G := fun k _ => (F 147 23 [some (.ref 0), some (.int (nI c)), some (.int (nI (hp (tol b k)))), some (.int (nI k)), none] [] (49, pt_G, I, L))) (P := fun k _ => ∀ i, i < k → b i < h 0 0 ∧ c.testBit (b i) = true) (Q := fun r => r = some (some (.int x), (49, pt_G, I, L))) (n := h 0 1) (fun k _ hk hg nx => by
      try dsimp only
      have b8 := hb k
      have kt := tol_K8 (b := b) (show k ≤ 8 by omega) (fun i hi => by have := (hg i hi).1; omega)
      have k2 := hp_lt kt
      rw [e147_23 hF]
      simp (disch := omega) only [pm_k_i, Option.toList_some, Option.toList_none, List.cons_append, List.nil_append, cond_true, cond_false, ↓reduceIte, reduceCtorEq, z_1, nI_add, z_cl, z_ib, z_lt, z_le, z_eq, z_eq0, z_le0, z_lt0, z_b0, z_b1, z_m1, z_and7, Int32.add_zero, H.O, hk, c_byteAt hF T, e, e147_42 hF, c_hasParty hF W H, vP_nI, e147_53 hF]
      by_cases d : b k < h 0 0
      · simp (disch := omega) only [pm_k_i, Option.toList_some, Option.toList_none, List.cons_append, List.nil_append, cond_true, cond_false, ↓reduceIte, reduceCtorEq, z_1, nI_add, z_cl, z_ib, z_lt, z_le, z_eq, z_eq0, z_le0, z_lt0, z_b0, z_b1, z_m1, z_and7, Int32.add_zero, decide_eq_true d, c_isIn hF, e147_62 hF]
        cases f : c.testBit (b k) with
        | false =>
          simp (disch := omega) only [pm_k_i, Option.toList_some, Option.toList_none, List.cons_append, List.nil_append, cond_true, cond_false, ↓reduceIte, reduceCtorEq, z_1, nI_add, z_cl, z_ib, z_lt, z_le, z_eq, z_eq0, z_le0, z_lt0, z_b0, z_b1, z_m1, z_and7, Int32.add_zero, f]
          rw [z (fun J => by have := (J.2 k hk).2; rw [f] at this; cases this)]
        | true =>
          simp (disch := omega) only [pm_k_i, Option.toList_some, Option.toList_none, List.cons_append, List.nil_append, cond_true, cond_false, ↓reduceIte, reduceCtorEq, z_1, nI_add, z_cl, z_ib, z_lt, z_le, z_eq, z_eq0, z_le0, z_lt0, z_b0, z_b1, z_m1, z_and7, Int32.add_zero, f, c_with hF, e147_74 hF]
          rw [hp_ws kt (show k < 8 by omega) (show b k < 8 by omega), tol_up]
          exact nx () (fun i hi => by
            by_cases q : i = k
            · rw [q]; exact ⟨d, f⟩
            · exact hg i (by omega))
      · simp (disch := omega) only [pm_k_i, Option.toList_some, Option.toList_none, List.cons_append, List.nil_append, cond_true, cond_false, ↓reduceIte, reduceCtorEq, z_1, nI_add, z_cl, z_ib, z_lt, z_le, z_eq, z_eq0, z_le0, z_lt0, z_b0, z_b1, z_m1, z_and7, Int32.add_zero, decide_eq_false d]
        rw [z (fun J => d (J.2 k hk).1)]) (fun _ hg => by
      try dsimp only
      rw [e147_23 hF]
      simp (disch := omega) only [pm_k_i, Option.toList_some, Option.toList_none, List.cons_append, List.nil_append, cond_true, cond_false, ↓reduceIte, reduceCtorEq, z_1, nI_add, z_cl, z_ib, z_lt, z_le, z_eq, z_eq0, z_le0, z_lt0, z_b0, z_b1, z_m1, z_and7, Int32.add_zero, H.O, Nat.lt_irrefl]
      rw [y ⟨e, hg⟩]) 0 () (Nat.zero_le _) (fun i hi => absurd hi (by omega))
    try dsimp only at g
    rw [tol_0] at g
    exact g
  · rw [if_neg e, z (fun J => e J.1)]
def sc1 (h : Nat → Nat → Nat) (w : Nat → Nat) (i : Nat) (a : Nat) : Nat := lp (fun d a => a + (swp h w i (i + 1 + d)).toNat) (h 0 1 - (i + 1)) a
def scn (h : Nat → Nat → Nat) (w : Nat → Nat) (n : Nat) : Nat := lp (fun i a => sc1 h w i a) n 0
theorem c_firstSwaps (hF : pm_fix pt_me pt_Sg (pt_R L0 xs) F) (W : WF h) (H : CH h I) (k : WK h w) : (F 613 0 [some (.ref 23), some (.int (nI (hp w))), none, none, none] [] (49, pt_G, I, L)) = some (some (.int (nI (scn h w (h 0 1)))), (49, pt_G, I, L)) := by
  have hO := W.O
  rw [e613_0 hF]
  refine (lpE (G := fun i a => (F 613 4 [some (.ref 23), some (.int (nI (hp w))), some (.int (nI a)), some (.int (nI i)), none] [] (49, pt_G, I, L))) (f := fun i a => sc1 h w i a) (n := h 0 1) (fun i a hi => ?_) 0).trans ?_
  · try dsimp only
    rw [e613_4 hF]
    simp (disch := omega) only [pm_k_i, Option.toList_some, Option.toList_none, List.cons_append, List.nil_append, cond_true, cond_false, ↓reduceIte, reduceCtorEq, z_1, nI_add, z_cl, z_ib, z_lt, z_le, z_eq, z_eq0, z_le0, z_lt0, z_b0, z_b1, z_m1, z_and7, Int32.add_zero, H.O, hi]
    refine (lpE (G := fun d a => (F 613 20 [some (.ref 23), some (.int (nI (hp w))), some (.int (nI a)), some (.int (nI i)), some (.int (nI (i + 1 + d)))] [] (49, pt_G, I, L))) (f := fun d a => a + (swp h w i (i + 1 + d)).toNat) (n := h 0 1 - (i + 1)) (fun d a hd => ?_) a).trans ?_
    · try dsimp only
      have hd' : i + 1 + d < h 0 1 := by omega
      rw [e613_20 hF]
      simp (disch := omega) only [pm_k_i, Option.toList_some, Option.toList_none, List.cons_append, List.nil_append, cond_true, cond_false, ↓reduceIte, reduceCtorEq, z_1, nI_add, z_cl, z_ib, z_lt, z_le, z_eq, z_eq0, z_le0, z_lt0, z_b0, z_b1, z_m1, z_and7, Int32.add_zero, H.O, hd', c_helpsBoth hF W H k hi hd', e613_40 hF]
      cases swp h w i (i + 1 + d) <;> rfl
    · try dsimp only
      rw [e613_20 hF]
      simp (disch := omega) only [pm_k_i, Option.toList_some, Option.toList_none, List.cons_append, List.nil_append, cond_true, cond_false, ↓reduceIte, reduceCtorEq, z_1, nI_add, z_cl, z_ib, z_lt, z_le, z_eq, z_eq0, z_le0, z_lt0, z_b0, z_b1, z_m1, z_and7, Int32.add_zero, H.O, show ¬ (i + 1 + (h 0 1 - (i + 1)) < h 0 1) by omega]
      rfl
  · try dsimp only
    rw [e613_4 hF]
    simp (disch := omega) only [pm_k_i, Option.toList_some, Option.toList_none, List.cons_append, List.nil_append, cond_true, cond_false, ↓reduceIte, reduceCtorEq, z_1, nI_add, z_cl, z_ib, z_lt, z_le, z_eq, z_eq0, z_le0, z_lt0, z_b0, z_b1, z_m1, z_and7, Int32.add_zero, H.O, Nat.lt_irrefl]
    rfl
def gmx (h : Nat → Nat → Nat) (c o n : Nat) : Nat := lp (fun p m => bif c.testBit p then max m (h 5 (8 * p + o)) else m) n 0
def gwn (h : Nat → Nat → Nat) (c n : Nat) : Nat := lp (fun o a => a + gmx h c o (h 0 0)) n 0
theorem gmx_le (W : WF h) (o n : Nat) : gmx h c o n ≤ 99 := lpP (P := fun _ m => m ≤ 99) (Nat.zero_le _) (fun k m _ hm => by
  have := W.worth (8 * k + o)
  cases c.testBit k
  · exact hm
  · show max m _ ≤ 99
    omega)
theorem c_greatestW (hF : pm_fix pt_me pt_Sg (pt_R L0 xs) F) (W : WF h) (H : CH h I) (cl : c ≤ ev h) : (F 523 0 [some (.ref 3), some (.int (nI c)), none, none, none, none] [] (49, pt_G, I, L)) = some (some (.int (nI (gwn h c (h 0 1)))), (49, pt_G, I, L)) := by
  have hO := W.O
  have hP := W.P
  have hE := ev_lt W
  rw [e523_0 hF]
  refine (lpE (G := fun o a => (F 523 4 [some (.ref 3), some (.int (nI c)), some (.int (nI a)), some (.int (nI o)), none, none] [] (49, pt_G, I, L))) (f := fun o a => a + gmx h c o (h 0 0)) (n := h 0 1) (fun o a ho => ?_) 0).trans ?_
  · try dsimp only
    rw [e523_4 hF]
    simp (disch := omega) only [pm_k_i, Option.toList_some, Option.toList_none, List.cons_append, List.nil_append, cond_true, cond_false, ↓reduceIte, reduceCtorEq, z_1, nI_add, z_cl, z_ib, z_lt, z_le, z_eq, z_eq0, z_le0, z_lt0, z_b0, z_b1, z_m1, z_and7, Int32.add_zero, H.O, ho]
    refine (stE (G := fun p => (F 523 18 [some (.ref 3), some (.int (nI c)), some (.int (nI a)), some (.int (nI o)), some (.int (nI (gmx h c o p))), some (.int (nI p))] [] (49, pt_G, I, L))) (n := h 0 0) (fun p hp => ?_)).trans ?_
    · try dsimp only
      have g1 := gmx_le (c := c) W o p
      have g2 := W.worth (8 * p + o)
      rw [e523_18 hF]
      simp (disch := omega) only [pm_k_i, Option.toList_some, Option.toList_none, List.cons_append, List.nil_append, cond_true, cond_false, ↓reduceIte, reduceCtorEq, z_1, nI_add, z_cl, z_ib, z_lt, z_le, z_eq, z_eq0, z_le0, z_lt0, z_b0, z_b1, z_m1, z_and7, Int32.add_zero, H.P, hp, c_isIn hF, e523_33 hF]
      cases f : c.testBit p with
      | false =>
        simp (disch := omega) only [pm_k_i, Option.toList_some, Option.toList_none, List.cons_append, List.nil_append, cond_true, cond_false, ↓reduceIte, reduceCtorEq, z_1, nI_add, z_cl, z_ib, z_lt, z_le, z_eq, z_eq0, z_le0, z_lt0, z_b0, z_b1, z_m1, z_and7, Int32.add_zero, f]
        rw [show gmx h c o (p + 1) = gmx h c o p from by
          show (bif c.testBit p then _ else _) = _
          rw [f]
          rfl]
      | true =>
        simp (disch := omega) only [pm_k_i, Option.toList_some, Option.toList_none, List.cons_append, List.nil_append, cond_true, cond_false, ↓reduceIte, reduceCtorEq, z_1, nI_add, z_cl, z_ib, z_lt, z_le, z_eq, z_eq0, z_le0, z_lt0, z_b0, z_b1, z_m1, z_and7, Int32.add_zero, f, c_worthTo hF W H, e523_45 hF, c_max hF, e523_48 hF]
        rw [show gmx h c o (p + 1) = max (gmx h c o p) (h 5 (8 * p + o)) from by
          show (bif c.testBit p then _ else _) = _
          rw [f]
          rfl]
    · try dsimp only
      rw [e523_18 hF]
      simp (disch := omega) only [pm_k_i, Option.toList_some, Option.toList_none, List.cons_append, List.nil_append, cond_true, cond_false, ↓reduceIte, reduceCtorEq, z_1, nI_add, z_cl, z_ib, z_lt, z_le, z_eq, z_eq0, z_le0, z_lt0, z_b0, z_b1, z_m1, z_and7, Int32.add_zero, H.P, Nat.lt_irrefl]
  · try dsimp only
    rw [e523_4 hF]
    simp (disch := omega) only [pm_k_i, Option.toList_some, Option.toList_none, List.cons_append, List.nil_append, cond_true, cond_false, ↓reduceIte, reduceCtorEq, z_1, nI_add, z_cl, z_ib, z_lt, z_le, z_eq, z_eq0, z_le0, z_lt0, z_b0, z_b1, z_m1, z_and7, Int32.add_zero, H.O, Nat.lt_irrefl]
    rfl
theorem cnw_z {t : Nat → Nat} {p : Nat} : ∀ n, (∀ i, i < n → t i ≠ p) → cnw t n p = 0 := by
  intro n
  induction n with
  | zero => exact fun _ => rfl
  | succ n ih => intro ht; rw [cnw_s, ih (fun i hi => ht i (by omega)), if_neg (fun z => ht n (by omega) z.symm)]
def ukn (h : Nat → Nat → Nat) (c : Nat) (w : Nat → Nat) (n : Nat) : Nat := lp (fun p a => a + (c.testBit p && !Nat.beq (cnw w (h 0 1) p) (cnw (du h c) (h 0 1) p)).toNat) n 0
theorem c_unkept (hF : pm_fix pt_me pt_Sg (pt_R L0 xs) F) (W : WF h) (H : CH h I) (c0 : 0 < c) (cl : c ≤ ev h) (k : WK h w) (hin : ∀ o, o < h 0 1 → c.testBit (w o) = true) : (F 148 0 [some (.ref 0), some (.int (nI c)), some (.int (nI (hp w))), none, none, none, none, none] [] (49, pt_G, I, L)) = some (some (.int (nI (ukn h c w (h 0 0)))), (49, pt_G, I, L)) := by
  have hO := W.O
  have hP := W.P
  have d := du_ok W c0 cl
  have l1 := hp_lt k.1
  have l2 := hp_lt d.1
  rw [e148_0 hF, H.f, H.s, c_dueOf hF W H c0 cl]
  have q1 : (∀ i, i < h 0 1 → gs (hp (du h c)) i < 7) := fun i hi => by rw [gs_hp d.1]; have := (d.2.1 i hi).1; omega
  have q2 : (∀ i, i < h 0 1 → gs (hp w) i < 7) := fun i hi => by rw [gs_hp k.1]; have := k.2 i hi; omega
  have cb1 : ∀ p, cnw (du h c) (h 0 1) p < 16 := fun p => by have := cnw_le (du h c) (h 0 1) p; omega
  have cb2 : ∀ p, cnw w (h 0 1) p < 16 := fun p => by have := cnw_le w (h 0 1) p; omega
  simp (disch := omega) only [pm_k_i, Option.toList_some, Option.toList_none, List.cons_append, List.nil_append, cond_true, cond_false, ↓reduceIte, reduceCtorEq, z_1, nI_add, z_cl, z_ib, z_lt, z_le, z_eq, z_eq0, z_le0, z_lt0, z_b0, z_b1, z_m1, z_and7, Int32.add_zero, e148_22 hF, H.O, c_countsOf hF l2 hO q1, e148_34 hF, c_countsOf hF l1 hO q2, e148_47 hF, gs_hp d.1, gs_hp k.1]
  refine (lpE (G := fun p a => (F 148 55 [some (.ref 0), some (.int (nI c)), some (.int (nI (hp w))), some (.int (nI (hp (du h c)))), some (.int (nI (pkc (cnw (du h c) (h 0 1))))), some (.int (nI (pkc (cnw w (h 0 1))))), some (.int (nI a)), some (.int (nI p))] [] (49, pt_G, I, L))) (f := fun p a => a + (c.testBit p && !Nat.beq (cnw w (h 0 1) p) (cnw (du h c) (h 0 1) p)).toNat) (n := h 0 0) (fun p a hp => ?_) 0).trans ?_
  · try dsimp only
    have u1 := cb1 p
    have u2 := cb2 p
    rw [e148_55 hF]
    simp (disch := omega) only [pm_k_i, Option.toList_some, Option.toList_none, List.cons_append, List.nil_append, cond_true, cond_false, ↓reduceIte, reduceCtorEq, z_1, nI_add, z_cl, z_ib, z_lt, z_le, z_eq, z_eq0, z_le0, z_lt0, z_b0, z_b1, z_m1, z_and7, Int32.add_zero, H.P, hp, c_count hF cb1 (show p < 7 by omega), e148_74 hF, c_count hF cb2 (show p < 7 by omega), e148_81 hF]
    cases f : c.testBit p with
    | false =>
      rw [if_pos (show cnw (du h c) (h 0 1) p = cnw w (h 0 1) p by
        rw [cnw_z _ (fun i hi z => by have := (d.2.1 i hi).2; rw [z, f] at this; cases this), cnw_z _ (fun i hi z => by have := hin i hi; rw [z, f] at this; cases this)])]
      rfl
    | true =>
      by_cases g : cnw (du h c) (h 0 1) p = cnw w (h 0 1) p
      · rw [if_pos g, g, Nat.beq_refl]
        rfl
      · rw [if_neg g, beq_f (fun z => g z.symm)]
        rfl
  · try dsimp only
    rw [e148_55 hF]
    simp (disch := omega) only [pm_k_i, Option.toList_some, Option.toList_none, List.cons_append, List.nil_append, cond_true, cond_false, ↓reduceIte, reduceCtorEq, z_1, nI_add, z_cl, z_ib, z_lt, z_le, z_eq, z_eq0, z_le0, z_lt0, z_b0, z_b1, z_m1, z_and7, Int32.add_zero, H.P, Nat.lt_irrefl]
    rfl
end
