/-! ===== who is asked for; middles; one office instead; envy ===== -/
section
variable {h : Nat → Nat → Nat}
variable {F : pm_F} {L0 : Nat} {xs : Nat → Int32} {I : Nat → Nat → Int32} {L : Nat → Nat → Int64}
theorem z_lt0i (x : Int32) : (x < 0) = (x.toInt < 0) := by
  refine propext ?_
  rw [Int32.lt_iff_toInt_lt]
  exact Iff.rfl
theorem z_lti (x y : Int32) : (x < y) = (x.toInt < y.toInt) := propext Int32.lt_iff_toInt_lt
theorem z_lei (x y : Int32) : (x ≤ y) = (x.toInt ≤ y.toInt) := propext Int32.le_iff_toInt_le
theorem i0 : (0 : Int32).toInt = 0 := rfl
theorem i1' : (1 : Int32).toInt = 1 := rfl
theorem i2' : (2 : Int32).toInt = 2 := rfl
theorem i99 : (99 : Int32).toInt = 99 := rfl
theorem i31 : (31 : Int32).toInt = 31 := rfl
theorem i3' : (3 : Int32).toInt = 3 := rfl
theorem in1 : (-1 : Int32).toInt = -1 := rfl
theorem i999 : (999 : Int32).toInt = 999 := rfl
theorem c_hasParty (hF : pm_fix pt_me pt_Sg (pt_R L0 xs) F) (W : WF h) (H : CH h I) (x : Int32) : (F 504 0 [some (.ref 3), some (.int x)] [] (49, pt_G, I, L)) = some (some (.int (nI (vP (h 0 0) x).toNat)), (49, pt_G, I, L)) := by
  have hP := W.P
  rw [e504_0 hF, H.P]
  simp only [z_lti, i0, nI_toInt (show h 0 0 < 2147483648 by omega)]
  unfold vP
  by_cases c : x.toInt < 0
  · rw [if_pos c, decide_eq_false (by omega)]; rfl
  · rw [if_neg c]
    by_cases d : x.toInt < (h 0 0 : Int)
    · rw [if_pos d, decide_eq_true (by omega)]; rfl
    · rw [if_neg d, decide_eq_false (by omega)]; rfl
theorem c_hasOffice (hF : pm_fix pt_me pt_Sg (pt_R L0 xs) F) (W : WF h) (H : CH h I) (x : Int32) : (F 505 0 [some (.ref 3), some (.int x)] [] (49, pt_G, I, L)) = some (some (.int (nI (vP (h 0 1) x).toNat)), (49, pt_G, I, L)) := by
  have hP := W.O
  rw [e505_0 hF, H.O]
  simp only [z_lti, i0, nI_toInt (show h 0 1 < 2147483648 by omega)]
  unfold vP
  by_cases c : x.toInt < 0
  · rw [if_pos c, decide_eq_false (by omega)]; rfl
  · rw [if_neg c]
    by_cases d : x.toInt < (h 0 1 : Int)
    · rw [if_pos d, decide_eq_true (by omega)]; rfl
    · rw [if_neg d, decide_eq_false (by omega)]; rfl
theorem c_hasCoalition (hF : pm_fix pt_me pt_Sg (pt_R L0 xs) F) (W : WF h) (H : CH h I) (x : Int32) : (F 506 0 [some (.ref 3), some (.int x)] [] (49, pt_G, I, L)) = some (some (.int (nI (vC h x).toNat)), (49, pt_G, I, L)) := by
  have hP := ev_lt W
  rw [e506_0 hF]
  simp (disch := omega) only [c_everyone hF W H, pm_k_i, Option.toList_some, List.cons_append, List.nil_append, e506_9 hF]
  simp only [z_lei, i0, nI_toInt (show ev h < 2147483648 by omega)]
  unfold vC
  by_cases c : x.toInt ≤ 0
  · rw [if_pos c, decide_eq_false (by omega)]; rfl
  · rw [if_neg c]
    by_cases d : x.toInt ≤ (ev h : Int)
    · rw [if_pos d, decide_eq_true (by omega)]; rfl
    · rw [if_neg d, decide_eq_false (by omega)]; rfl
theorem c_isWay (hF : pm_fix pt_me pt_Sg (pt_R L0 xs) F) (x : Int32) : (F 149 0 [some (.int x)] [] (49, pt_G, I, L)) = some (some (.int (nI (vP 3 x).toNat)), (49, pt_G, I, L)) := by
  rw [e149_0 hF]
  simp only [z_lti, z_lei, i0, i2']
  unfold vP
  by_cases c : x.toInt < 0
  · rw [if_pos c, decide_eq_false (by omega)]; rfl
  · rw [if_neg c]
    by_cases d : x.toInt ≤ 2
    · rw [if_pos d, decide_eq_true (by omega)]; rfl
    · rw [if_neg d, decide_eq_false (by omega)]; rfl
def vD (x : Int32) : Bool := decide (1 ≤ x.toInt ∧ x.toInt ≤ 99)
theorem vD_of {x : Int32} (hx : vD x = true) : ∃ k, 1 ≤ k ∧ k ≤ 99 ∧ x = nI k := by
  have h1 := of_decide_eq_true hx
  refine ⟨x.toInt.toNat, by omega, by omega, ?_⟩
  apply Int32.toInt_inj.mp
  rw [nI_toInt (by omega)]
  omega
theorem c_isDivisor (hF : pm_fix pt_me pt_Sg (pt_R L0 xs) F) (x : Int32) : (F 150 0 [some (.int x)] [] (49, pt_G, I, L)) = some (some (.int (nI (vD x).toNat)), (49, pt_G, I, L)) := by
  rw [e150_0 hF]
  simp only [z_lti, z_lei, i0, i99, i1']
  unfold vD
  by_cases c : x.toInt ≤ 0
  · rw [decide_eq_false (by omega)]
    first | (rw [if_pos c]; rfl) | (rw [if_pos (show x.toInt < 1 by omega)]; rfl)
  · first | rw [if_neg c] | rw [if_neg (show ¬ x.toInt < 1 by omega)]
    by_cases d : x.toInt ≤ 99
    · rw [if_pos d, decide_eq_true (by omega)]; rfl
    · rw [if_neg d, decide_eq_false (by omega)]; rfl
/-! one office instead -/
def ins (h : Nat → Nat → Nat) (t : Nat → Nat) (i n : Nat) : Nat := lp (fun k a => bif Nat.beq (t k) (t i) then a + h 5 (8 * t i + fch h t (pkS h t (cF h t) k).1) else a) n 0
def inv (h : Nat → Nat → Nat) (t : Nat → Nat) (i o : Nat) : Int32 := bif (pkS h t (cF h t) i).1.testBit o then nI (ins h t i i + h 5 (8 * t i + o) + fgn h t (rm (pkS h t (cF h t) i).1 o) (t i)) else -1
theorem fgn_le (W : WF h) (t : Nat → Nat) {l : Nat} (hl : l < 2 ^ h 0 1) (q : Nat) : fgn h t l q ≤ 792 := by
  have hO := W.O
  have h2 := o256 W
  have h3 := fsT_le W t (n := 2 ^ h 0 1 - 1) (Nat.le_refl _) l q
  have h4 := pc_sub (h 0 1) (by omega) l hl
  unfold fgn
  omega
theorem zl_i {a : Nat} (ha : a < 2147483648) : Int64.toInt32 (nI a).toInt64 = nI a := by rw [zl_of ha, lN_i]
theorem c_ifPicked (hF : pm_fix pt_me pt_Sg (pt_R L0 xs) F) (W : WF h) (H : CH h I) {t : Nat → Nat} (kt : K8 t) (ht : ∀ i, i < h 0 1 → t i < h 0 0) (A : AH h t I L) {i o : Nat} (hi : i < h 0 1) (ho : o < h 0 1) : (F 605 0 [some (.ref 23), some (.int (nI (hp t))), some (.int (nI i)), some (.int (nI o)), none, none, none, none, none] [] (49, pt_G, I, L)) = some (some (.int (inv h t i o)), (49, pt_G, I, L)) := by
  have hP := W.P
  have hO := W.O
  have h2 := o256 W
  have hlt := hp_lt kt
  have hti := ht i hi
  obtain ⟨A1, A2⟩ := A
  rw [e605_0 hF]
  simp (disch := omega) only [pm_k_i, Option.toList_some, Option.toList_none, List.cons_append, List.nil_append, cond_true, cond_false, ↓reduceIte, reduceCtorEq, z_1, nI_add, z_cl, z_ib, z_lt, z_le, z_eq, z_eq0, z_le0, z_lt0, z_b0, z_b1, z_m1, z_and7, Int32.add_zero, c_get hF hlt, gs_hp kt, e605_5 hF, c_allOffices hF W H, e605_14 hF]
  refine Eq.trans ?_ ((stE (G := fun k => (F 605 19 [some (.ref 23), some (.int (nI (hp t))), some (.int (nI i)), some (.int (nI o)), some (.int (nI (t i))), some (.int (nI (ins h t i k))), some (.int (nI (pkS h t (cF h t) k).1)), some (.int (nI k)), none] [] (49, pt_G, I, L))) (n := i) (fun k hk => ?_)).trans ?_)
  · rfl
  · try dsimp only
    obtain ⟨i1, i2, i3, i4⟩ := pkS_inv W ht (PK_F W t) (n := k) (by omega)
    have i5 := pkS_pos W ht (PK_F W t) (n := k) (by omega)
    obtain ⟨c1, c2⟩ := PK_F W t k _ (by omega) i5 i1
    have c3 := A1 _ i5 i1
    have c5 : fch h t (pkS h t (cF h t) k).1 < h 0 1 := c1
    have htk := ht k (by omega)
    rw [e605_19 hF, show (8 : Int32) = nI 8 from rfl]
    simp (disch := omega) only [pm_k_i, Option.toList_some, Option.toList_none, List.cons_append, List.nil_append, cond_true, cond_false, ↓reduceIte, reduceCtorEq, z_1, nI_add, z_cl, z_ib, z_lt, z_le, z_eq, z_eq0, z_le0, z_lt0, z_b0, z_b1, z_m1, z_and7, Int32.add_zero, hk, show (k < 8) = True from propext ⟨fun _ => trivial, fun _ => by omega⟩, z_and255, c3, c_get hF hlt, gs_hp kt, e605_51 hF]
    have nx : (pkS h t (cF h t) (k + 1)).1 = rm (pkS h t (cF h t) k).1 (fch h t (pkS h t (cF h t) k).1) := rfl
    have ni : ins h t i (k + 1) = bif Nat.beq (t k) (t i) then ins h t i k + h 5 (8 * t i + fch h t (pkS h t (cF h t) k).1) else ins h t i k := rfl
    by_cases e : t k = t i
    · rw [if_pos e, nx, ni, e, Nat.beq_refl, cond_true]
      simp (disch := omega) only [pm_k_i, Option.toList_some, Option.toList_none, List.cons_append, List.nil_append, cond_true, cond_false, ↓reduceIte, reduceCtorEq, z_1, nI_add, z_cl, z_ib, z_lt, z_le, z_eq, z_eq0, z_le0, z_lt0, z_b0, z_b1, z_m1, z_and7, Int32.add_zero, c_worthTo hF W H, e605_69 hF, z_rm]
    · rw [if_neg e, nx, ni, beq_f e, cond_false]
      simp (disch := omega) only [pm_k_i, Option.toList_some, Option.toList_none, List.cons_append, List.nil_append, cond_true, cond_false, ↓reduceIte, reduceCtorEq, z_1, nI_add, z_cl, z_ib, z_lt, z_le, z_eq, z_eq0, z_le0, z_lt0, z_b0, z_b1, z_m1, z_and7, Int32.add_zero, z_rm]
  · try dsimp only
    obtain ⟨i1, i2, i3, i4⟩ := pkS_inv W ht (PK_F W t) (n := i) (by omega)
    have r1 := rm_lt (pkS h t (cF h t) i).1 (by omega) o (by omega)
    have r2 := rm_sub (h 0 1) (by omega) _ i1 o ho
    rw [e605_19 hF]
    simp (disch := omega) only [pm_k_i, Option.toList_some, Option.toList_none, List.cons_append, List.nil_append, cond_true, cond_false, ↓reduceIte, reduceCtorEq, z_1, nI_add, z_cl, z_ib, z_lt, z_le, z_eq, z_eq0, z_le0, z_lt0, z_b0, z_b1, z_m1, z_and7, Int32.add_zero, Nat.lt_irrefl, c_isIn hF, e605_95 hF]
    unfold inv
    cases (pkS h t (cF h t) i).1.testBit o with
    | false => simp (disch := omega) only [pm_k_i, Option.toList_some, Option.toList_none, List.cons_append, List.nil_append, cond_true, cond_false, ↓reduceIte, reduceCtorEq, z_1, nI_add, z_cl, z_ib, z_lt, z_le, z_eq, z_eq0, z_le0, z_lt0, z_b0, z_b1, z_m1, z_and7, Int32.add_zero]
    | true =>
      have a2 := A2 _ i r2 hi
      have a3 := fgn_le W t r2 (t i)
      simp (disch := omega) only [pm_k_i, Option.toList_some, Option.toList_none, List.cons_append, List.nil_append, cond_true, cond_false, ↓reduceIte, reduceCtorEq, z_1, nI_add, z_cl, z_ib, z_lt, z_le, z_eq, z_eq0, z_le0, z_lt0, z_b0, z_b1, z_m1, z_and7, Int32.add_zero, z_rm, z_and255, e609_0 hF, a2, e605_123 hF, c_worthTo hF W H, e605_138 hF, zl_i]
/-! middles -/
theorem sIn_pos (W : WF h) {C : Nat} (h0 : 0 < C) (hC : C ≤ ev h) : 0 < sIn h C := by
  obtain ⟨p, hp, hb⟩ := mem_ex W h0 hC
  have key : ∀ n, p < n → 0 < lp (fun p a => bif C.testBit p then a + h 1 p else a) n 0 := by
    intro n
    induction n with
    | zero => intro hn; omega
    | succ n ih =>
      intro hn
      show 0 < (bif C.testBit n then _ else _)
      by_cases e : p = n
      · subst e
        have := (W.seats p).1
        rw [hb, cond_true]
        omega
      · have := ih (by omega)
        cases C.testBit n
        · exact this
        · rw [cond_true]; omega
  exact key _ hp
/-! envy -/
def env (h : Nat → Nat → Nat) (C : Nat) (w : Nat → Nat) : Nat := lp (fun p n => bif C.testBit p then lp (fun q n => bif !Nat.beq q p && decide (own h w p p < own h w q p) then n + 1 else n) (h 0 0) n else n) (h 0 0) 0
theorem own_0 {w : Nat → Nat} {q : Nat} (hw : ∀ o, o < h 0 1 → w o ≠ q) (p : Nat) : own h w q p = 0 := by
  have : ∀ n, n ≤ h 0 1 → lp (fun o a => bif Nat.beq (w o) q then a + h 5 (8 * p + o) else a) n 0 = 0 := by
    intro n
    induction n with
    | zero => intro _; rfl
    | succ n ih =>
      intro hn
      show (bif Nat.beq (w n) q then _ else _) = 0
      rw [beq_f (hw n (by omega))]
      exact ih (by omega)
  exact this _ (Nat.le_refl _)
end
