/-! ===== forming: its methods ===== -/
section
variable {h : Nat → Nat → Nat} {I I' : Nat → Nat → Int32} {L L' : Nat → Nat → Int64} {e v : Nat}
variable {F : pm_F} {L0 : Nat} {xs : Nat → Int32}
theorem c_nextFormer (hF : pm_fix pt_me pt_Sg (pt_R L0 xs) F) (W : WF h) (H : CH h I) {D : Nat} (hD : D < 256) : (F 404 0 [some (.ref 41), some (.int (nI D)), none, none] [] (49, pt_G, I, L)) = some (some (.int (oI (nfo h D))), (49, pt_G, I, L)) := by
  have hP := W.P
  rw [e404_0 hF]
  refine ((lpI (G := fun k b => (F 404 4 [some (.ref 41), some (.int (nI D)), some (.int (oI b)), some (.int (nI k))] [] (49, pt_G, I, L))) (f := nf1 h D) (P := fun k b => ∀ q, b = some q → q < k) (n := h 0 0) (a := none) (fun q hq => by cases hq) (fun k b hk hb => ⟨?_, fun q hq => ?_⟩)).1).trans ?_
  · try dsimp only
    have p1 := W.seats k
    rw [e404_4 hF]
    simp (disch := omega) only [pm_k_i, Option.toList_some, Option.toList_none, List.cons_append, List.nil_append, cond_true, cond_false, ↓reduceIte, reduceCtorEq, z_1, nI_add, z_cl, z_ib, z_lt, z_le, z_eq, z_eq0, z_le0, z_lt0, z_b0, z_b1, z_m1, z_and7, Int32.add_zero, H.P, hk, c_isIn hF, e404_20 hF]
    unfold nf1
    cases D.testBit k with
    | true => simp (disch := omega) only [pm_k_i, Option.toList_some, Option.toList_none, List.cons_append, List.nil_append, cond_true, cond_false, ↓reduceIte, reduceCtorEq, z_1, nI_add, z_cl, z_ib, z_lt, z_le, z_eq, z_eq0, z_le0, z_lt0, z_b0, z_b1, z_m1, z_and7, Int32.add_zero, Bool.not_true, Bool.false_and]
    | false =>
      cases b with
      | none => simp (disch := omega) only [pm_k_i, Option.toList_some, Option.toList_none, List.cons_append, List.nil_append, cond_true, cond_false, ↓reduceIte, reduceCtorEq, z_1, nI_add, z_cl, z_ib, z_lt, z_le, z_eq, z_eq0, z_le0, z_lt0, z_b0, z_b1, z_m1, z_and7, Int32.add_zero, oI, eq_self, Bool.not_false, Bool.true_and]
      | some z =>
        have hz := hb z rfl
        have p2 := W.seats z
        simp (disch := omega) only [pm_k_i, Option.toList_some, Option.toList_none, List.cons_append, List.nil_append, cond_true, cond_false, ↓reduceIte, reduceCtorEq, z_1, nI_add, z_cl, z_ib, z_lt, z_le, z_eq, z_eq0, z_le0, z_lt0, z_b0, z_b1, z_m1, z_and7, Int32.add_zero, oI, Bool.not_false, Bool.true_and, c_seatsOf hF W H, e404_36 hF, e404_44 hF]
        by_cases w : h 1 k ≤ h 1 z
        · rw [if_pos w, decide_eq_false (by omega)]; rfl
        · rw [if_neg w, decide_eq_true (by omega)]; rfl
  · unfold nf1 at hq
    rcases bif_some hq with ⟨_, e⟩ | ⟨_, e⟩
    · omega
    · have := hb q e; omega
  · try dsimp only
    rw [e404_4 hF]
    simp (disch := omega) only [pm_k_i, Option.toList_some, Option.toList_none, List.cons_append, List.nil_append, cond_true, cond_false, ↓reduceIte, reduceCtorEq, z_1, nI_add, z_cl, z_ib, z_lt, z_le, z_eq, z_eq0, z_le0, z_lt0, z_b0, z_b1, z_m1, z_and7, Int32.add_zero, H.P, Nat.lt_irrefl]
    rfl
theorem i_sle (x y : Int32) : (x - y ≤ 0) = ¬ (0 < x - y) := propext Int32.not_lt.symm
theorem c_isLiked (hF : pm_fix pt_me pt_Sg (pt_R L0 xs) F) (W : WF h) (X : FR h e v I L) {p c b : Nat} (hp : p < h 0 0) (c0 : 0 < c) (hc : c ≤ ev h) (c1 : I 33 c = 1) (b0 : 0 < b) (hb : b ≤ ev h) (b1 : I 33 b = 1) : (F 407 0 [some (.ref 41), some (.int (nI p)), some (.int (nI c)), some (.int (nI b)), none] [] (49, pt_G, I, L)) = some (some (.int (nI (lk h p c b).toNat)), (49, pt_G, I, L)) := by
  have hE := ev_lt W
  have p1 := pc_le8 (show c < 256 by omega)
  have p2 := pc_le8 (show b < 256 by omega)
  rw [e407_0 hF, c_payOf hF W X c0 hc c1 hp]
  simp only [pm_k_i, Option.toList_some, List.cons_append, List.nil_append, e407_9 hF, c_payOf hF W X b0 hb b1 hp, e407_18 hF]
  unfold lk
  by_cases q : 0 < pyc h c p - pyc h b p
  · rw [if_neg (Int32.not_le.mpr q), decide_eq_true q]; rfl
  · rw [if_pos (Int32.not_lt.mp q), decide_eq_false q]
    by_cases z : pyc h c p - pyc h b p = 0
    · rw [if_pos z, decide_eq_true z]
      simp (disch := omega) only [pm_k_i, Option.toList_some, Option.toList_none, List.cons_append, List.nil_append, cond_true, cond_false, ↓reduceIte, reduceCtorEq, z_1, nI_add, z_cl, z_ib, z_lt, z_le, z_eq, z_eq0, z_le0, z_lt0, z_b0, z_b1, z_m1, z_and7, Int32.add_zero, c_bitCount hF, e407_35 hF, e407_39 hF]
      by_cases w : pc c < pc b
      · rw [if_pos w, decide_eq_true w]; rfl
      · rw [if_neg w, decide_eq_false w]; rfl
    · rw [if_neg z, decide_eq_false z]; rfl
theorem c_choice (hF : pm_fix pt_me pt_Sg (pt_R L0 xs) F) (W : WF h) (X : FR h e v I L) (A : AL h I) {sp : Nat → Bool} (hs : ∀ x, x < 128 → I 43 x = nI (sp x).toNat) {p : Nat} (hp : p < h 0 0) : (F 406 0 [some (.ref 41), some (.int (nI p)), none, none] [] (49, pt_G, I, L)) = some (some (.int (nI (bch h sp p))), (49, pt_G, I, L)) := by
  have hE := ev_lt W
  have hP := W.P
  rw [e406_0 hF]
  refine ((lpI (G := fun k b => (F 406 4 [some (.ref 41), some (.int (nI p)), some (.int (nI b)), some (.int (nI (k + 1)))] [] (49, pt_G, I, L))) (f := bc1 h sp p) (P := fun k b => b ≤ k ∧ (0 < b → I 33 b = 1)) (n := ev h) (a := 0) ⟨Nat.le_refl _, fun q => by omega⟩ (fun k b hk hb => ⟨?_, ?_⟩)).1).trans ?_
  · obtain ⟨b1, b2⟩ := hb
    have hsk := hs (k + 1) (by omega)
    try dsimp only
    rw [e406_4 hF]
    simp (disch := omega) only [pm_k_i, Option.toList_some, Option.toList_none, List.cons_append, List.nil_append, cond_true, cond_false, ↓reduceIte, reduceCtorEq, z_1, nI_add, z_cl, z_ib, z_lt, z_le, z_eq, z_eq0, z_le0, z_lt0, z_b0, z_b1, z_m1, z_and7, Int32.add_zero, c_everyone hF W X.1.H, e406_12 hF, show (k + 1 ≤ ev h) = True from propext ⟨fun _ => trivial, fun _ => by omega⟩]
    rw [show (128 : Int32) = nI 128 from rfl]
    simp (disch := omega) only [pm_k_i, Option.toList_some, Option.toList_none, List.cons_append, List.nil_append, cond_true, cond_false, ↓reduceIte, reduceCtorEq, z_1, nI_add, z_cl, z_ib, z_lt, z_le, z_eq, z_eq0, z_le0, z_lt0, z_b0, z_b1, z_m1, z_and7, Int32.add_zero, show (k + 1 < 128) = True from propext ⟨fun _ => trivial, fun _ => by omega⟩, c_isIn hF, e406_27 hF]
    unfold bc1
    cases (k + 1).testBit p
    · simp (disch := omega) only [pm_k_i, Option.toList_some, Option.toList_none, List.cons_append, List.nil_append, cond_true, cond_false, ↓reduceIte, reduceCtorEq, z_1, nI_add, z_cl, z_ib, z_lt, z_le, z_eq, z_eq0, z_le0, z_lt0, z_b0, z_b1, z_m1, z_and7, Int32.add_zero, Bool.false_and]
    · simp (disch := omega) only [pm_k_i, Option.toList_some, Option.toList_none, List.cons_append, List.nil_append, cond_true, cond_false, ↓reduceIte, reduceCtorEq, z_1, nI_add, z_cl, z_ib, z_lt, z_le, z_eq, z_eq0, z_le0, z_lt0, z_b0, z_b1, z_m1, z_and7, Int32.add_zero, hsk, Bool.true_and]
      cases sp (k + 1)
      · simp (disch := omega) only [pm_k_i, Option.toList_some, Option.toList_none, List.cons_append, List.nil_append, cond_true, cond_false, ↓reduceIte, reduceCtorEq, z_1, nI_add, z_cl, z_ib, z_lt, z_le, z_eq, z_eq0, z_le0, z_lt0, z_b0, z_b1, z_m1, z_and7, Int32.add_zero, c_canBe hF W X.ct (show k + 1 ≤ ev h by omega), e406_47 hF, Bool.not_false, Bool.true_and]
        cases g : can h (k + 1) with
        | false => simp (disch := omega) only [pm_k_i, Option.toList_some, Option.toList_none, List.cons_append, List.nil_append, cond_true, cond_false, ↓reduceIte, reduceCtorEq, z_1, nI_add, z_cl, z_ib, z_lt, z_le, z_eq, z_eq0, z_le0, z_lt0, z_b0, z_b1, z_m1, z_and7, Int32.add_zero, Bool.false_and]
        | true =>
          simp (disch := omega) only [pm_k_i, Option.toList_some, Option.toList_none, List.cons_append, List.nil_append, cond_true, cond_false, ↓reduceIte, reduceCtorEq, z_1, nI_add, z_cl, z_ib, z_lt, z_le, z_eq, z_eq0, z_le0, z_lt0, z_b0, z_b1, z_m1, z_and7, Int32.add_zero, Bool.true_and]
          by_cases z : b = 0
          · rw [if_pos z, z]; rfl
          · rw [if_neg z, beq_f z, Bool.false_or]
            simp (disch := omega) only [pm_k_i, Option.toList_some, Option.toList_none, List.cons_append, List.nil_append, cond_true, cond_false, ↓reduceIte, reduceCtorEq, z_1, nI_add, z_cl, z_ib, z_lt, z_le, z_eq, z_eq0, z_le0, z_lt0, z_b0, z_b1, z_m1, z_and7, Int32.add_zero, c_isLiked hF W X hp (show 0 < k + 1 by omega) (show k + 1 ≤ ev h by omega) (A (k + 1) (by omega) (by omega) g) (show 0 < b by omega) (show b ≤ ev h by omega) (b2 (by omega)), e406_64 hF]
            cases lk h p (k + 1) b <;> rfl
      · simp (disch := omega) only [pm_k_i, Option.toList_some, Option.toList_none, List.cons_append, List.nil_append, cond_true, cond_false, ↓reduceIte, reduceCtorEq, z_1, nI_add, z_cl, z_ib, z_lt, z_le, z_eq, z_eq0, z_le0, z_lt0, z_b0, z_b1, z_m1, z_and7, Int32.add_zero, Bool.not_true, Bool.false_and]
  · obtain ⟨b1, b2⟩ := hb
    unfold bc1
    cases q : (((k + 1).testBit p && (!sp (k + 1) && can h (k + 1))) && (Nat.beq b 0 || lk h p (k + 1) b)) with
    | false => exact ⟨by show b ≤ _; omega, b2⟩
    | true =>
      rw [Bool.and_eq_true, Bool.and_eq_true, Bool.and_eq_true] at q
      exact ⟨Nat.le_refl _, fun _ => A (k + 1) (by omega) (by omega) q.1.2.2⟩
  · try dsimp only
    rw [e406_4 hF]
    simp (disch := omega) only [pm_k_i, Option.toList_some, Option.toList_none, List.cons_append, List.nil_append, cond_true, cond_false, ↓reduceIte, reduceCtorEq, z_1, nI_add, z_cl, z_ib, z_lt, z_le, z_eq, z_eq0, z_le0, z_lt0, z_b0, z_b1, z_m1, z_and7, Int32.add_zero, c_everyone hF W X.1.H, e406_12 hF, show (ev h + 1 ≤ ev h) = False from propext ⟨fun hh => by omega, False.elim⟩]
    rfl
theorem c_walkersFrom (hF : pm_fix pt_me pt_Sg (pt_R L0 xs) F) (W : WF h) (X : FR h e v I L) {c r : Nat} (c0 : 0 < c) (hc : c ≤ ev h) (c1 : I 33 c = 1) : (F 408 0 [some (.ref 41), some (.int (nI c)), some (.int (nI (h 0 7 * r))), none, none] [] (49, pt_G, I, L)) = some (some (.int (nI (wkr h c r))), (49, pt_G, I, L)) := by
  have hE := ev_lt W
  have hP := W.P
  rw [e408_0 hF]
  refine ((lpI (G := fun k a => (F 408 5 [some (.ref 41), some (.int (nI c)), some (.int (nI (h 0 7 * r))), some (.int (nI a)), some (.int (nI k))] [] (49, pt_G, I, L))) (f := fun p a => bif c.testBit p && decide (pyc h c p < nI (h 3 p) - nI (h 0 7 * r)) then ad a p else a) (P := fun _ a => a < 128) (n := h 0 0) (a := 0) (Nat.zero_lt_succ 127) (fun k a hk ha => ⟨?_, ?_⟩)).1).trans ?_
  · try dsimp only
    rw [e408_5 hF]
    simp (disch := omega) only [pm_k_i, Option.toList_some, Option.toList_none, List.cons_append, List.nil_append, cond_true, cond_false, ↓reduceIte, reduceCtorEq, z_1, nI_add, z_cl, z_ib, z_lt, z_le, z_eq, z_eq0, z_le0, z_lt0, z_b0, z_b1, z_m1, z_and7, Int32.add_zero, X.1.H.P, hk, c_isIn hF, e408_23 hF]
    cases c.testBit k
    · simp (disch := omega) only [pm_k_i, Option.toList_some, Option.toList_none, List.cons_append, List.nil_append, cond_true, cond_false, ↓reduceIte, reduceCtorEq, z_1, nI_add, z_cl, z_ib, z_lt, z_le, z_eq, z_eq0, z_le0, z_lt0, z_b0, z_b1, z_m1, z_and7, Int32.add_zero, Bool.false_and]
    · simp (disch := omega) only [pm_k_i, Option.toList_some, Option.toList_none, List.cons_append, List.nil_append, cond_true, cond_false, ↓reduceIte, reduceCtorEq, z_1, nI_add, z_cl, z_ib, z_lt, z_le, z_eq, z_eq0, z_le0, z_lt0, z_b0, z_b1, z_m1, z_and7, Int32.add_zero, c_payOf hF W X c0 hc c1 hk, e408_36 hF, c_walkOf hF W X.1.H, e408_45 hF, Bool.true_and]
      by_cases q : pyc h c k < nI (h 3 k) - nI (h 0 7 * r)
      · rw [if_pos q, decide_eq_true q, z_ad a (by omega) k (by omega)]; rfl
      · rw [if_neg q, decide_eq_false q]; rfl
  · cases (c.testBit k && decide (pyc h c k < nI (h 3 k) - nI (h 0 7 * r)))
    · exact ha
    · exact ad_128 a ha k (by omega)
  · try dsimp only
    rw [e408_5 hF]
    simp (disch := omega) only [pm_k_i, Option.toList_some, Option.toList_none, List.cons_append, List.nil_append, cond_true, cond_false, ↓reduceIte, reduceCtorEq, z_1, nI_add, z_cl, z_ib, z_lt, z_le, z_eq, z_eq0, z_le0, z_lt0, z_b0, z_b1, z_m1, z_and7, Int32.add_zero, X.1.H.P, Nat.lt_irrefl]
    rfl
/-! the state of forming: tried in this round; how many tries; who, which, who walked out; what was formed -/
def fst' : Type := (Nat → Bool) × Nat × (Nat → Nat × Nat × Nat) × Nat
def tr1 (h : Nat → Nat → Nat) (r p : Nat) (s : fst') : fst' := bif Nat.beq s.2.2.2 0 && !Nat.beq (bch h s.1 p) 0 then
  (fun x => Nat.beq x (bch h s.1 p) || s.1 x, s.2.1 + 1, fun i => if i = s.2.1 then (p, bch h s.1 p, wkr h (bch h s.1 p) r) else s.2.2.1 i, bif Nat.beq (wkr h (bch h s.1 p) r) 0 then bch h s.1 p else 0) else s
def trs (h : Nat → Nat → Nat) (r p n : Nat) (s : fst') : fst' := lp (fun _ s => tr1 h r p s) n s
def rnd (h : Nat → Nat → Nat) (r n : Nat) (s : fst') : fst' := lp (fun f s => trs h r (fo h f) (h 0 6) s) n ((fun _ => false), s.2)
def fmr (h : Nat → Nat → Nat) (n : Nat) : Nat × fst' := lp (fun r a => bif Nat.beq a.2.2.2.2 0 then (a.1 + 1, rnd h r (h 0 0) a.2) else a) n (0, (fun _ => false), 0, (fun _ => (0, 0, 0)), 0)
theorem lp_fix {α : Type} {f : Nat → α → α} {a : α} {n m : Nat} (hn : n ≤ m) {a0 : α} (h0 : lp f n a0 = a) (hf : ∀ k, n ≤ k → k < m → f k a = a) : lp f m a0 = a := by
  induction m with
  | zero => rw [show n = 0 by omega] at h0; exact h0
  | succ m ih =>
    by_cases q : n = m + 1
    · rw [← q]; exact h0
    · show f m (lp f m a0) = a
      rw [ih (by omega) (fun k a b => hf k a (by omega))]
      exact hf m (by omega) (by omega)
theorem tr1_done {r p : Nat} {s : fst'} (hs : s.2.2.2 ≠ 0) : tr1 h r p s = s := by
  unfold tr1
  rw [beq_f hs]
  rfl
theorem tr1_none {r p : Nat} {s : fst'} (hs : bch h s.1 p = 0) : tr1 h r p s = s := by
  unfold tr1
  rw [hs]
  cases Nat.beq s.2.2.2 0 <;> rfl
theorem trs_done {r p n : Nat} {s : fst'} (hs : s.2.2.2 ≠ 0) : trs h r p n s = s := lp_fix (Nat.zero_le _) rfl (fun _ _ _ => tr1_done hs)
/-- a try as one number -/
def pkt (t : Nat × Nat × Nat) : Nat := t.1 * 16384 + t.2.2 * 128 + t.2.1
/-- the class holds that state -/
def FS (s : fst') (J : Nat → Nat → Int32) : Prop := (∀ x, x < 128 → J 43 x = nI (s.1 x).toNat) ∧ J 41 4 = nI s.2.1 ∧ J 41 6 = nI s.2.2.2 ∧ (s.2.2.2 < 128) ∧ ∀ i, i < s.2.1 → J 42 i = nI (pkt (s.2.2.1 i)) ∧ (s.2.2.1 i).1 < 7 ∧ (s.2.2.1 i).2.1 < 128 ∧ (s.2.2.1 i).2.2 < 128
theorem pkt_or {p c w : Nat} (hp : p < 7) (hc : c < 128) (hw : w < 128) : (((nI p : Int32) <<< (14 &&& 31)) ||| ((nI w : Int32) <<< (7 &&& 31))) ||| nI c = nI (pkt (p, c, w)) := by
  have e1 : ∀ p, p < 8 → (nI p : Int32) <<< ((14 : Int32) &&& 31) = nI (p <<< 14) := by decide +kernel
  have e2 : ∀ w, w < 128 → (nI w : Int32) <<< ((7 : Int32) &&& 31) = nI (w <<< 7) := by decide +kernel
  rw [e1 p (by omega), e2 w hw, nx_or, nx_or, Nat.or_assoc, ← Nat.shiftLeft_add_eq_or_of_lt (show c < 2 ^ 7 by omega), ← Nat.shiftLeft_add_eq_or_of_lt (show w <<< 7 + c < 2 ^ 14 by rw [Nat.shiftLeft_eq]; omega), Nat.shiftLeft_eq, Nat.shiftLeft_eq]
  have e3 : p * 2 ^ 14 + (w * 2 ^ 7 + c) = pkt (p, c, w) := by
    show p * 16384 + (w * 128 + c) = p * 16384 + w * 128 + c
    omega
  rw [e3]
/-- one former's tries -/
theorem c_letForm (hF : pm_fix pt_me pt_Sg (pt_R L0 xs) F) (W : WF h) (X : FR h e v I L) (A : AL h I) {s : fst'} (hs : FS s I) {p r : Nat} (hp : p < h 0 0) (hc : s.2.1 + h 0 6 ≤ 567) : ∃ I', (F 405 0 [some (.ref 41), some (.int (nI p)), some (.int (nI r)), none, none, none] [] (49, pt_G, I, L)) = some (none, (49, pt_G, I', L)) ∧ (∀ x k, (x = 41 → k ≠ 4 ∧ k ≠ 6) → x ≠ 42 → x ≠ 43 → I' x k = I x k) ∧ FS (trs h r p (h 0 6) s) I' ∧ (trs h r p (h 0 6) s).2.1 ≤ s.2.1 + h 0 6 := by
  have hE := ev_lt W
  have hP := W.P
  have ht := W.tries
  rw [e405_0 hF]
  refine wl (Q := fun x => ∃ I', x = some (none, (49, pt_G, I', L)) ∧ (∀ x k, (x = 41 → k ≠ 4 ∧ k ≠ 6) → x ≠ 42 → x ≠ 43 → I' x k = I x k) ∧ FS (trs h r p (h 0 6) s) I' ∧ (trs h r p (h 0 6) s).2.1 ≤ s.2.1 + h 0 6) (G := fun n J => (F 405 2 [some (.ref 41), some (.int (nI p)), some (.int (nI r)), some (.int (nI n)), none, none] [] (49, pt_G, J, L))) (P := fun n J => (∀ x k, (x = 41 → k ≠ 4 ∧ k ≠ 6) → x ≠ 42 → x ≠ 43 → J x k = I x k) ∧ FS (trs h r p n s) J ∧ (trs h r p n s).2.1 ≤ s.2.1 + n) (n := h 0 6) (fun n J hn hJ go => ?_) (fun J hJ => ?_) 0 I (Nat.zero_le _) ⟨fun _ _ _ _ _ => rfl, hs, Nat.le_refl _⟩
  · obtain ⟨j1, j2, j3⟩ := hJ
    obtain ⟨s1, s2, s3, s4, s5⟩ := j2
    have XJ : FR h e v J L := X.of2 (fun x k a => j1 x k (fun q => by omega) (by omega) (by omega))
    have AJ : AL h J := A.of (fun k => j1 33 k (fun q => by omega) (by omega) (by omega))
    try dsimp only
    rw [e405_2 hF, s3, XJ.1.H.tries]
    simp (disch := omega) only [pm_k_i, Option.toList_some, Option.toList_none, List.cons_append, List.nil_append, cond_true, cond_false, ↓reduceIte, reduceCtorEq, z_1, nI_add, z_cl, z_ib, z_lt, z_le, z_eq, z_eq0, z_le0, z_lt0, z_b0, z_b1, z_m1, z_and7, Int32.add_zero, hn]
    by_cases q : (trs h r p n s).2.2.2 = 0
    · rw [if_pos q]
      obtain ⟨b1, b2⟩ := bch_ok (h := h) (trs h r p n s).1 p
      simp (disch := omega) only [pm_k_i, Option.toList_some, Option.toList_none, List.cons_append, List.nil_append, cond_true, cond_false, ↓reduceIte, reduceCtorEq, z_1, nI_add, z_cl, z_ib, z_lt, z_le, z_eq, z_eq0, z_le0, z_lt0, z_b0, z_b1, z_m1, z_and7, Int32.add_zero, c_choice hF W XJ AJ s1 hp, e405_25 hF]
      by_cases z : bch h (trs h r p n s).1 p = 0
      · rw [if_pos z]
        have e1 : trs h r p (h 0 6) s = trs h r p n s := lp_fix (by omega) rfl (fun _ _ _ => tr1_none z)
        rw [e1]
        exact ⟨J, rfl, j1, ⟨s1, s2, s3, s4, s5⟩, by omega⟩
      · rw [if_neg z]
        have b3 := AJ _ (by omega) b1 (b2 (by omega))
        have w1 := wkr_lt W (bch h (trs h r p n s).1 p) r
        have b127 := z_and127 (bch h (trs h r p n s).1 p) (by omega)
        have e1 : trs h r p (n + 1) s = (fun x => Nat.beq x (bch h (trs h r p n s).1 p) || (trs h r p n s).1 x, (trs h r p n s).2.1 + 1, fun i => if i = (trs h r p n s).2.1 then (p, bch h (trs h r p n s).1 p, wkr h (bch h (trs h r p n s).1 p) r) else (trs h r p n s).2.2.1 i, bif Nat.beq (wkr h (bch h (trs h r p n s).1 p) r) 0 then bch h (trs h r p n s).1 p else 0) := by
          show tr1 h r p (trs h r p n s) = _
          unfold tr1
          rw [q, beq_f z]
          rfl
        have pk := pkt_or (p := p) (by omega) (show bch h (trs h r p n s).1 p < 128 by omega) w1
        have fin : ∀ (N : Nat → Nat → Int32), (∀ x k, (x = 41 → k ≠ 6) → N x k = pm_ui (pm_ui (pm_ui J 43 (bch h (trs h r p n s).1 p) 1) 42 (trs h r p n s).2.1 (nI (pkt (p, bch h (trs h r p n s).1 p, wkr h (bch h (trs h r p n s).1 p) r)))) 41 4 (nI ((trs h r p n s).2.1 + 1)) x k) → N 41 6 = nI (bif Nat.beq (wkr h (bch h (trs h r p n s).1 p) r) 0 then bch h (trs h r p n s).1 p else 0) → (∀ x k, (x = 41 → k ≠ 4 ∧ k ≠ 6) → x ≠ 42 → x ≠ 43 → N x k = I x k) ∧ FS (trs h r p (n + 1) s) N ∧ (trs h r p (n + 1) s).2.1 ≤ s.2.1 + (n + 1) := by
          intro N n1 n2
          rw [e1]
          refine ⟨fun x k a b c => ?_, ⟨fun x hx => ?_, ?_, n2, ?_, fun i hi => ?_⟩, ?_⟩
          · rw [n1 x k (fun q => (a q).2)]
            have e2 : pm_ui (pm_ui (pm_ui J 43 (bch h (trs h r p n s).1 p) 1) 42 (trs h r p n s).2.1 (nI (pkt (p, bch h (trs h r p n s).1 p, wkr h (bch h (trs h r p n s).1 p) r)))) 41 4 (nI ((trs h r p n s).2.1 + 1)) x k = J x k := by
              by_cases y : x = 41
              · rw [y, z_uk (a y).1, z_ur (by omega), z_ur (by omega)]
              · rw [z_ur y, z_ur b, z_ur c]
            rw [e2]
            exact j1 x k a b c
          · rw [n1 43 x (fun q => by omega), z_ur (by omega), z_ur (by omega)]
            show _ = nI (Nat.beq x (bch h (trs h r p n s).1 p) || (trs h r p n s).1 x).toNat
            by_cases y : x = bch h (trs h r p n s).1 p
            · rw [y, z_ue, Nat.beq_refl]; rfl
            · rw [z_uk y, beq_f y, Bool.false_or]; exact s1 x hx
          · rw [n1 41 4 (fun _ => by omega), z_ue]
          · show (bif Nat.beq (wkr h (bch h (trs h r p n s).1 p) r) 0 then bch h (trs h r p n s).1 p else 0) < 128
            cases Nat.beq (wkr h (bch h (trs h r p n s).1 p) r) 0
            · show 0 < 128; omega
            · show bch h (trs h r p n s).1 p < 128; omega
          · rw [n1 42 i (fun q => by omega), z_ur (by omega)]
            show _ = nI (pkt (if i = (trs h r p n s).2.1 then ((p, bch h (trs h r p n s).1 p, wkr h (bch h (trs h r p n s).1 p) r) : Nat × Nat × Nat) else (trs h r p n s).2.2.1 i)) ∧ (if i = (trs h r p n s).2.1 then ((p, bch h (trs h r p n s).1 p, wkr h (bch h (trs h r p n s).1 p) r) : Nat × Nat × Nat) else (trs h r p n s).2.2.1 i).1 < 7 ∧ (if i = (trs h r p n s).2.1 then ((p, bch h (trs h r p n s).1 p, wkr h (bch h (trs h r p n s).1 p) r) : Nat × Nat × Nat) else (trs h r p n s).2.2.1 i).2.1 < 128 ∧ (if i = (trs h r p n s).2.1 then ((p, bch h (trs h r p n s).1 p, wkr h (bch h (trs h r p n s).1 p) r) : Nat × Nat × Nat) else (trs h r p n s).2.2.1 i).2.2 < 128
            by_cases y : i = (trs h r p n s).2.1
            · rw [if_pos y, y, z_ue]
              exact ⟨rfl, by show p < 7; omega, by show bch h (trs h r p n s).1 p < 128; omega, w1⟩
            · rw [if_neg y, z_uk y, z_ur (by omega)]
              exact s5 i (by have hi : i < (trs h r p n s).2.1 + 1 := hi; omega)
          · show (trs h r p n s).2.1 + 1 ≤ _; omega
        have w0 := c_walkersFrom hF W XJ (r := r) (show 0 < bch h (trs h r p n s).1 p by omega) b1 b3
        rw [XJ.1.H.tire]
        simp (disch := omega) only [pm_k_i, Option.toList_some, Option.toList_none, List.cons_append, List.nil_append, cond_true, cond_false, ↓reduceIte, reduceCtorEq, z_1, nI_add, z_cl, z_ib, z_lt, z_le, z_eq, z_eq0, z_le0, z_lt0, z_b0, z_b1, z_m1, z_and7, Int32.add_zero, pk_mul, w0, e405_48 hF, b127, vb1, e409_0 hF]
        rw [z_ur (by omega), s2]
        rw [show (567 : Int32) = nI 567 from rfl]
        simp (disch := omega) only [pm_k_i, Option.toList_some, Option.toList_none, List.cons_append, List.nil_append, cond_true, cond_false, ↓reduceIte, reduceCtorEq, z_1, nI_add, z_cl, z_ib, z_lt, z_le, z_eq, z_eq0, z_le0, z_lt0, z_b0, z_b1, z_m1, z_and7, Int32.add_zero, show ((trs h r p n s).2.1 < 567) = True from propext ⟨fun _ => trivial, fun _ => by omega⟩, pk, e405_70 hF]
        by_cases y : wkr h (bch h (trs h r p n s).1 p) r = 0
        · rw [if_pos y]
          refine go _ (fin _ (fun x k a => ?_) ?_)
          · by_cases u : x = 41
            · rw [u, z_uk (a u)]
            · rw [z_ur u]
          · rw [z_ue, y]; rfl
        · rw [if_neg y]
          refine go _ (fin _ (fun x k a => rfl) ?_)
          rw [z_uk (by omega), z_ur (by omega), z_ur (by omega), s3, q, beq_f y]
          rfl
    · rw [if_neg q]
      have e1 : trs h r p (h 0 6) s = trs h r p n s := lp_fix (by omega) rfl (fun _ _ _ => tr1_done q)
      rw [e1]
      exact ⟨J, rfl, j1, ⟨s1, s2, s3, s4, s5⟩, by omega⟩
  · obtain ⟨j1, j2, j3⟩ := hJ
    have HT : J 3 6 = nI (h 0 6) := by rw [j1 3 6 (fun q => by omega) (by omega) (by omega)]; exact X.1.H.tries
    try dsimp only
    rw [e405_2 hF, HT]
    simp (disch := omega) only [pm_k_i, Option.toList_some, Option.toList_none, List.cons_append, List.nil_append, cond_true, cond_false, ↓reduceIte, reduceCtorEq, z_1, nI_add, z_cl, z_ib, z_lt, z_le, z_eq, z_eq0, z_le0, z_lt0, z_b0, z_b1, z_m1, z_and7, Int32.add_zero, Nat.lt_irrefl]
    exact ⟨J, rfl, j1, j2, j3⟩
end
