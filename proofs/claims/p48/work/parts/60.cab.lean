/-! ===== a cabinet in office: who holds what, who goes ===== -/
section
variable {h : Nat → Nat → Nat} {I I' : Nat → Nat → Int32} {L L' : Nat → Nat → Int64}
/-- the offices of one; as held; how many each has, but those that are free -/
def fro (h : Nat → Nat → Nat) (w : Nat → Nat) (p : Nat) : Nat := lp (fun i a => bif Nat.beq (w i) p then ad a i else a) (h 0 1) 0
def hld (h : Nat → Nat → Nat) (C : Nat) (w : Nat → Nat) (p : Nat) : Nat := bif Nat.beq C 0 then 0 else fro h w p
def hcl (h : Nat → Nat → Nat) (w : Nat → Nat) (l : Nat) : Nat → Nat := lp (fun o c => bif l.testBit o then c else inc c (w o)) (h 0 1) (fun _ => 0)
/-- one of those that are free is taken -/
def gtt (h : Nat → Nat → Nat) (C : Nat) (x : Nat × (Nat → Nat)) : Nat := (nxt h (h 0 2) (h 0 3) (hcl h x.2 x.1) C).getD 0
def gto (h : Nat → Nat → Nat) (C : Nat) (x : Nat × (Nat → Nat)) : Nat := (dst h (gtt h C x) x.1).getD 0
def gt1 (h : Nat → Nat → Nat) (C : Nat) (x : Nat × (Nat → Nat)) : Nat × (Nat → Nat) := (rm x.1 (gto h C x), up x.2 (gto h C x) (gtt h C x))
def gtn (h : Nat → Nat → Nat) (C l : Nat) (w : Nat → Nat) (n : Nat) : Nat × (Nat → Nat) := lp (fun _ x => gt1 h C x) n (l, w)
def lgw (h : Nat → Nat → Nat) (C : Nat) (w : Nat → Nat) (p : Nat) : Nat → Nat := (gtn h (rm C p) (fro h w p) w (pc (fro h w p))).2
/-- a cabinet that can be -/
def CAB (h : Nat → Nat → Nat) (C : Nat) (w : Nat → Nat) : Prop := C ≤ ev h ∧ (C ≠ 0 → WK h w ∧ ∀ o, o < h 0 1 → C.testBit (w o) = true)
theorem set_lp (P : Nat → Bool) : ∀ n, n ≤ 8 → lp (fun i a => bif P i then ad a i else a) n 0 < 256 ∧ ∀ j, j < 8 → (lp (fun i a => bif P i then ad a i else a) n 0).testBit j = (decide (j < n) && P j) := by
  intro n
  induction n with
  | zero =>
    intro _
    refine ⟨by show 0 < 256; omega, fun j hj => ?_⟩
    show (0 : Nat).testBit j = _
    rw [Nat.zero_testBit, decide_eq_false (Nat.not_lt_zero j), Bool.false_and]
  | succ n ih =>
    intro hn
    obtain ⟨a1, a2⟩ := ih (by omega)
    have e : ∀ j, (decide (j < n + 1) && P j) = ((decide (j < n) && P j) || (Nat.beq j n && P n)) := by
      intro j
      by_cases q : j = n
      · subst q
        rw [decide_eq_true (Nat.lt_succ_self j), decide_eq_false (Nat.lt_irrefl j), Nat.beq_refl, Bool.false_and, Bool.false_or]
      · rw [beq_f q, Bool.false_and, Bool.or_false]
        by_cases r : j < n
        · rw [decide_eq_true r, decide_eq_true (by omega)]
        · rw [decide_eq_false r, decide_eq_false (by omega)]
    show (bif P n then ad (lp (fun i a => bif P i then ad a i else a) n 0) n else lp (fun i a => bif P i then ad a i else a) n 0) < 256 ∧ ∀ j, j < 8 → (bif P n then ad (lp (fun i a => bif P i then ad a i else a) n 0) n else lp (fun i a => bif P i then ad a i else a) n 0).testBit j = _
    generalize lp (fun i a => bif P i then ad a i else a) n 0 = D at a1 a2
    cases q : P n with
    | true =>
      refine ⟨(ad_lt D a1 n (by omega)).1, fun j hj => ?_⟩
      show (ad D n).testBit j = _
      rw [z_adb D a1 n (by omega) j hj, a2 j hj, e, q, Bool.and_true]
    | false =>
      refine ⟨a1, fun j hj => ?_⟩
      show D.testBit j = _
      rw [a2 j hj, e, q, Bool.and_false, Bool.or_false]
theorem fro_ok (W : WF h) (w : Nat → Nat) (p : Nat) : fro h w p < 2 ^ h 0 1 ∧ fro h w p < 256 ∧ ∀ j, j < 8 → (fro h w p).testBit j = (decide (j < h 0 1) && Nat.beq (w j) p) := by
  obtain ⟨a1, a2⟩ := set_lp (fun i => Nat.beq (w i) p) (h 0 1) W.O
  refine ⟨lt_tb (fun b hb => ?_), a1, a2⟩
  by_cases q : b < 8
  · have := a2 b q
    rw [decide_eq_false (by omega), Bool.false_and] at this
    exact this
  · exact z_tbig (n := 8) a1 (by omega)
theorem bit_lt {C p : Nat} (hC : C ≤ ev h) (hb : C.testBit p = true) : p < h 0 0 := by
  by_cases c : p < h 0 0
  · exact c
  · rw [z_tbig (n := h 0 0) (by unfold ev at hC; have := Nat.one_le_two_pow (n := h 0 0); omega) (by omega)] at hb
    cases hb
theorem bit_pos {C p : Nat} (hb : C.testBit p = true) : C ≠ 0 := fun z => by rw [z, Nat.zero_testBit] at hb; cases hb
theorem hcl_le (W : WF h) (w : Nat → Nat) (l q : Nat) : hcl h w l q ≤ 8 := by
  have hO := W.O
  have := lpP (f := fun o (c : Nat → Nat) => bif l.testBit o then c else inc c (w o)) (P := fun n c => c q ≤ n) (n := h 0 1) (a := fun _ => 0) (Nat.le_refl _) (fun k c _ hc => by
    cases l.testBit k
    · have := inc_le c (w k) q
      show inc c (w k) q ≤ _
      omega
    · show c q ≤ _
      omega)
  have e : hcl h w l q ≤ h 0 1 := this
  omega
theorem hcl_lp (w : Nat → Nat) (l q : Nat) : hcl h w l q = lp (fun o a => a + (!l.testBit o && Nat.beq (w o) q).toNat) (h 0 1) 0 := by
  unfold hcl
  generalize h 0 1 = n
  induction n with
  | zero => rfl
  | succ n ih =>
    show (bif l.testBit n then _ else inc _ (w n)) q = _ + (!l.testBit n && Nat.beq (w n) q).toNat
    rw [← ih]
    cases l.testBit n with
    | true => rfl
    | false =>
      show inc _ (w n) q = _ + (Nat.beq (w n) q).toNat
      unfold inc
      by_cases e : q = w n
      · rw [e, Nat.beq_refl]; rfl
      · rw [beq_f e, beq_f (fun z => e z.symm)]; rfl
theorem gt1_ok (W : WF h) {C : Nat} {x : Nat × (Nat → Nat)} (c0 : 0 < C) (hC : C ≤ ev h) (h0 : 0 < x.1) (hl : x.1 < 2 ^ h 0 1) : nxt h (h 0 2) (h 0 3) (hcl h x.2 x.1) C = some (gtt h C x) ∧ gtt h C x < h 0 0 ∧ C.testBit (gtt h C x) = true ∧ dst h (gtt h C x) x.1 = some (gto h C x) ∧ gto h C x < h 0 1 ∧ x.1.testBit (gto h C x) = true := by
  have hO := W.O
  obtain ⟨p, p1, p2⟩ := mem_ex W c0 hC
  obtain ⟨q, hq⟩ := nxt_some (h := h) (f := h 0 2) (s := h 0 3) (had := hcl h x.2 x.1) p1 p2
  have e : gtt h C x = q := by unfold gtt; rw [hq]; rfl
  obtain ⟨o, o1, o2⟩ := set_ex (h 0 1) (by omega) x.1 hl h0
  obtain ⟨m, hm⟩ := amx_some (val := fun o => h 5 (8 * gtt h C x + o)) o1 o2
  rw [← dst_amx] at hm
  have e2 : gto h C x = m := by unfold gto; rw [hm]; rfl
  obtain ⟨a1, a2⟩ := amx_in (by rw [← dst_amx]; exact hm)
  rw [e2]
  refine ⟨by rw [e]; exact hq, by rw [e]; exact nxt_lt hq, by rw [e]; exact nxt_in hq, hm, a1, a2⟩
theorem gtn_ok (W : WF h) {C l : Nat} {w : Nat → Nat} (c0 : 0 < C) (hC : C ≤ ev h) (hl : l < 2 ^ h 0 1) (k : WK h w) (hin : ∀ o, o < h 0 1 → l.testBit o = false → C.testBit (w o) = true) : ∀ n, n ≤ pc l → (gtn h C l w n).1 < 2 ^ h 0 1 ∧ pc (gtn h C l w n).1 + n = pc l ∧ WK h (gtn h C l w n).2 ∧ ∀ o, o < h 0 1 → (gtn h C l w n).1.testBit o = false → C.testBit ((gtn h C l w n).2 o) = true := by
  have hO := W.O
  have hP := W.P
  have h2 := o256 W
  intro n
  induction n with
  | zero => intro _; exact ⟨hl, rfl, k, hin⟩
  | succ n ih =>
    intro hn
    obtain ⟨i1, i2, i3, i4⟩ := ih (by omega)
    have h0 : 0 < (gtn h C l w n).1 := by
      rcases Nat.eq_zero_or_pos (gtn h C l w n).1 with e | e
      · rw [e, show pc 0 = 0 from by decide +kernel] at i2; omega
      · exact e
    obtain ⟨g1, g2, g3, g4, g5, g6⟩ := gt1_ok W c0 hC h0 i1
    show (gt1 h C (gtn h C l w n)).1 < _ ∧ pc (gt1 h C (gtn h C l w n)).1 + (n + 1) = _ ∧ WK h (gt1 h C (gtn h C l w n)).2 ∧ ∀ o, o < h 0 1 → (gt1 h C (gtn h C l w n)).1.testBit o = false → C.testBit ((gt1 h C (gtn h C l w n)).2 o) = true
    generalize gtn h C l w n = x at *
    have r1 := pc_rm x.1 (by omega) (gto h C x) (by omega) g6
    refine ⟨rm_sub (h 0 1) (by omega) x.1 i1 _ g5, by show pc (rm x.1 (gto h C x)) + _ = _; omega, ⟨i3.1.up (by omega) (by omega), up_lt i3.2 g2⟩, fun o ho hb => ?_⟩
    have hb : (rm x.1 (gto h C x)).testBit o = false := hb
    show C.testBit (up x.2 (gto h C x) (gtt h C x) o) = true
    rw [z_rmb x.1 (by omega) _ (by omega) o (by omega)] at hb
    unfold up
    by_cases e : o = gto h C x
    · rw [if_pos e]; exact g3
    · rw [if_neg e]
      rw [beq_f e, Bool.not_false, Bool.and_true] at hb
      exact i4 o ho hb
/-- what it is when one has gone -/
theorem lgw_ok (W : WF h) {C p : Nat} {w : Nat → Nat} (hc : CAB h C w) (hb : C.testBit p = true) : CAB h (rm C p) (lgw h C w p) := by
  have hE := ev_lt W
  have hP := W.P
  have p1 := bit_lt hc.1 hb
  have r := rm_le W hc.1 (p := p) (by omega)
  refine ⟨r, fun z => ?_⟩
  obtain ⟨k, hin⟩ := hc.2 (bit_pos hb)
  obtain ⟨f1, f2, f3⟩ := fro_ok W w p
  have key : ∀ o, o < h 0 1 → (fro h w p).testBit o = false → (rm C p).testBit (w o) = true := by
    intro o ho q
    have hO := W.O
    have c8 := k.2 o ho
    rw [f3 o (by omega), decide_eq_true ho, Bool.true_and] at q
    rw [z_rmb C (by have := hc.1; omega) p (by omega) (w o) (by omega), hin o ho, q]
    rfl
  obtain ⟨a1, a2, a3, a4⟩ := gtn_ok W (C := rm C p) (l := fro h w p) (w := w) (Nat.pos_of_ne_zero z) r f1 k key (pc (fro h w p)) (Nat.le_refl _)
  have e := pc_0 _ (show (gtn h (rm C p) (fro h w p) w (pc (fro h w p))).1 < 256 by have := o256 W; omega) (by omega)
  exact ⟨a3, fun o ho => a4 o ho (by rw [e]; exact Nat.zero_testBit o)⟩
variable {F : pm_F} {L0 : Nat} {xs : Nat → Int32}
theorem c_heldBy (hF : pm_fix pt_me pt_Sg (pt_R L0 xs) F) (W : WF h) (H : CH h I) {C p : Nat} {w : Nat → Nat} (h45 : I 44 5 = nI C) (hC : C < 128) (hk : C ≠ 0 → WK h w ∧ I 44 6 = nI (hp w)) (p8 : p < 8) : (F 206 0 [some (.ref 44), some (.int (nI p))] [] (49, pt_G, I, L)) = some (some (.int (nI (hld h C w p))), (49, pt_G, I, L)) := by
  have hO := W.O
  rw [e206_0 hF, h45]
  unfold hld
  by_cases c : C = 0
  · subst c
    simp (disch := omega) only [pm_k_i, Option.toList_some, Option.toList_none, List.cons_append, List.nil_append, cond_true, cond_false, ↓reduceIte, reduceCtorEq, z_1, nI_add, z_cl, z_ib, z_lt, z_le, z_eq, z_eq0, z_le0, z_lt0, z_b0, z_b1, z_m1, z_and7, Int32.add_zero, e206_26 hF]
    rfl
  · obtain ⟨k, h46⟩ := hk c
    have g := hp_lt k.1
    rw [beq_f c]
    simp (disch := omega) only [pm_k_i, Option.toList_some, Option.toList_none, List.cons_append, List.nil_append, cond_true, cond_false, ↓reduceIte, reduceCtorEq, z_1, nI_add, z_cl, z_ib, z_lt, z_le, z_eq, z_eq0, z_le0, z_lt0, z_b0, z_b1, z_m1, z_and7, Int32.add_zero, c, h46, H.O, c_placesOf hF, gs_hp k.1, e206_26 hF]
    rfl
theorem hld_lt (W : WF h) (C : Nat) (w : Nat → Nat) (p : Nat) : hld h C w p < 256 := by
  unfold hld
  cases Nat.beq C 0
  · exact (fro_ok W w p).2.1
  · show 0 < 256; omega
theorem c_officesOf (hF : pm_fix pt_me pt_Sg (pt_R L0 xs) F) (W : WF h) (H : CH h I) {C p : Nat} {w : Nat → Nat} (h45 : I 44 5 = nI C) (hC : C < 128) (hk : C ≠ 0 → WK h w ∧ I 44 6 = nI (hp w)) (p8 : p < 8) : (F 205 0 [some (.ref 44), some (.int (nI p))] [] (49, pt_G, I, L)) = some (some (.int (nI (pc (hld h C w p)))), (49, pt_G, I, L)) := by
  have l := hld_lt W C w p
  rw [e205_0 hF, c_heldBy hF W H h45 hC hk p8]
  simp (disch := omega) only [pm_k_i, Option.toList_some, Option.toList_none, List.cons_append, List.nil_append, cond_true, cond_false, ↓reduceIte, reduceCtorEq, z_1, nI_add, z_cl, z_ib, z_lt, z_le, z_eq, z_eq0, z_le0, z_lt0, z_b0, z_b1, z_m1, z_and7, Int32.add_zero, e205_5 hF, c_bitCount hF, e205_8 hF]
/-- NOW's pay -/
def pnw (h : Nat → Nat → Nat) (C : Nat) (w : Nat → Nat) (p : Nat) : Int32 := pyv h (own h w p p) p (mid h C)
theorem c_payNow (hF : pm_fix pt_me pt_Sg (pt_R L0 xs) F) (W : WF h) (H : CH h I) {C p : Nat} {w : Nat → Nat} (h45 : I 44 5 = nI C) (hC : C < 128) (k : WK h w) (h46 : I 44 6 = nI (hp w)) (p0 : p < h 0 0) : (F 207 0 [some (.ref 44), some (.int (nI p)), none] [] (49, pt_G, I, L)) = some (some (.int (pnw h C w p)), (49, pt_G, I, L)) := by
  have hP := W.P
  have g := hp_lt k.1
  have m := mid_le W C
  rw [e207_0 hF, h46]
  simp (disch := omega) only [pm_k_i, Option.toList_some, Option.toList_none, List.cons_append, List.nil_append, cond_true, cond_false, ↓reduceIte, reduceCtorEq, z_1, nI_add, z_cl, z_ib, z_lt, z_le, z_eq, z_eq0, z_le0, z_lt0, z_b0, z_b1, z_m1, z_and7, Int32.add_zero, c_worthOfHeld hF W H, gs_hp k.1, e207_13 hF, h45, c_middleOf hF W H, e207_31 hF, c_payBy hF W H, e207_34 hF]
  rfl
/-- the first who is paid too little -/
def fup (h : Nat → Nat → Nat) (C : Nat) (w : Nat → Nat) : Option Nat := ff (fun p => C.testBit p && decide (pnw h C w p < nI (h 3 p))) (h 0 0)
theorem c_firstUnpaid (hF : pm_fix pt_me pt_Sg (pt_R L0 xs) F) (W : WF h) (H : CH h I) {C : Nat} {w : Nat → Nat} (h45 : I 44 5 = nI C) (hC : C < 128) (hk : C ≠ 0 → WK h w ∧ I 44 6 = nI (hp w)) : (F 211 0 [some (.ref 44), none] [] (49, pt_G, I, L)) = some (some (.int (oI (fup h C w))), (49, pt_G, I, L)) := by
  have hP := W.P
  rw [e211_0 hF]
  refine (ffE (G := fun k => (F 211 2 [some (.ref 44), some (.int (nI k))] [] (49, pt_G, I, L))) (X := fun p => (some (some (.int (nI p)), (49, pt_G, I, L)) : pm_R)) (p := fun p => C.testBit p && decide (pnw h C w p < nI (h 3 p))) (n := h 0 0) (fun p p0 => ?_)).trans ?_
  · try dsimp only
    rw [e211_2 hF]
    simp (disch := omega) only [pm_k_i, Option.toList_some, Option.toList_none, List.cons_append, List.nil_append, cond_true, cond_false, ↓reduceIte, reduceCtorEq, z_1, nI_add, z_cl, z_ib, z_lt, z_le, z_eq, z_eq0, z_le0, z_lt0, z_b0, z_b1, z_m1, z_and7, Int32.add_zero, H.P, p0, h45, c_isIn hF, e211_21 hF]
    cases q : C.testBit p with
    | false => simp (disch := omega) only [pm_k_i, Option.toList_some, Option.toList_none, List.cons_append, List.nil_append, cond_true, cond_false, ↓reduceIte, reduceCtorEq, z_1, nI_add, z_cl, z_ib, z_lt, z_le, z_eq, z_eq0, z_le0, z_lt0, z_b0, z_b1, z_m1, z_and7, Int32.add_zero, Bool.false_and]
    | true =>
      obtain ⟨k, h46⟩ := hk (bit_pos q)
      simp (disch := omega) only [pm_k_i, Option.toList_some, Option.toList_none, List.cons_append, List.nil_append, cond_true, cond_false, ↓reduceIte, reduceCtorEq, z_1, nI_add, z_cl, z_ib, z_lt, z_le, z_eq, z_eq0, z_le0, z_lt0, z_b0, z_b1, z_m1, z_and7, Int32.add_zero, Bool.true_and, c_payNow hF W H h45 hC k h46 p0, e211_29 hF, c_walkOf hF W H, e211_37 hF]
      by_cases d : pnw h C w p < nI (h 3 p)
      · rw [if_pos d, decide_eq_true d]; rfl
      · rw [if_neg d, decide_eq_false d]; rfl
  · unfold fup
    cases ff (fun p => C.testBit p && decide (pnw h C w p < nI (h 3 p))) (h 0 0) with
    | some k => rfl
    | none =>
      dsimp only
      rw [e211_2 hF]
      simp (disch := omega) only [pm_k_i, Option.toList_some, Option.toList_none, List.cons_append, List.nil_append, cond_true, cond_false, ↓reduceIte, reduceCtorEq, z_1, nI_add, z_cl, z_ib, z_lt, z_le, z_eq, z_eq0, z_le0, z_lt0, z_b0, z_b1, z_m1, z_and7, Int32.add_zero, H.P, Nat.lt_irrefl]
      rfl
theorem c_countsHeld (hF : pm_fix pt_me pt_Sg (pt_R L0 xs) F) (W : WF h) (H : CH h I) {l : Nat} {w : Nat → Nat} (hl : l < 256) (k : WK h w) (h46 : I 44 6 = nI (hp w)) : (F 213 0 [some (.ref 44), some (.int (nI l)), none, none] [] (49, pt_G, I, L)) = some (some (.int (nI (pkc (hcl h w l)))), (49, pt_G, I, L)) := by
  have hP := W.P
  have hO := W.O
  have g := hp_lt k.1
  rw [e213_0 hF]
  refine (lpE (G := fun o c => (F 213 4 [some (.ref 44), some (.int (nI l)), some (.int (nI (pkc c))), some (.int (nI o))] [] (49, pt_G, I, L))) (f := fun o c => bif l.testBit o then c else inc c (w o)) (n := h 0 1) (fun o c ho => ?_) (fun _ => 0)).trans ?_
  · try dsimp only
    have hw := k.2 o ho
    rw [e213_4 hF]
    simp (disch := omega) only [pm_k_i, Option.toList_some, Option.toList_none, List.cons_append, List.nil_append, cond_true, cond_false, ↓reduceIte, reduceCtorEq, z_1, nI_add, z_cl, z_ib, z_lt, z_le, z_eq, z_eq0, z_le0, z_lt0, z_b0, z_b1, z_m1, z_and7, Int32.add_zero, H.O, ho, c_isIn hF, e213_20 hF]
    cases l.testBit o
    · simp (disch := omega) only [pm_k_i, Option.toList_some, Option.toList_none, List.cons_append, List.nil_append, cond_true, cond_false, ↓reduceIte, reduceCtorEq, z_1, nI_add, z_cl, z_ib, z_lt, z_le, z_eq, z_eq0, z_le0, z_lt0, z_b0, z_b1, z_m1, z_and7, Int32.add_zero, h46, c_get hF, gs_hp k.1, e213_32 hF, c_oneMore hF, e213_35 hF]
    · simp (disch := omega) only [pm_k_i, Option.toList_some, Option.toList_none, List.cons_append, List.nil_append, cond_true, cond_false, ↓reduceIte, reduceCtorEq, z_1, nI_add, z_cl, z_ib, z_lt, z_le, z_eq, z_eq0, z_le0, z_lt0, z_b0, z_b1, z_m1, z_and7, Int32.add_zero]
  · try dsimp only
    rw [e213_4 hF]
    simp (disch := omega) only [pm_k_i, Option.toList_some, Option.toList_none, List.cons_append, List.nil_append, cond_true, cond_false, ↓reduceIte, reduceCtorEq, z_1, nI_add, z_cl, z_ib, z_lt, z_le, z_eq, z_eq0, z_le0, z_lt0, z_b0, z_b1, z_m1, z_and7, Int32.add_zero, H.O, Nat.lt_irrefl]
    rfl
theorem c_letGo (hF : pm_fix pt_me pt_Sg (pt_R L0 xs) F) (W : WF h) (H : CH h I) {C p : Nat} {w : Nat → Nat} (h45 : I 44 5 = nI C) (h46 : I 44 6 = nI (hp w)) (hc : CAB h C w) (hb : C.testBit p = true) : ∃ I', (F 212 0 [some (.ref 44), some (.int (nI p)), none, none, none, none, none] [] (49, pt_G, I, L)) = some (some (.int (nI (pc (fro h w p)))), (49, pt_G, I', L)) ∧ (∀ r j, (r = 44 → j ≠ 5 ∧ j ≠ 6) → I' r j = I r j) ∧ I' 44 5 = nI (rm C p) ∧ (rm C p ≠ 0 → I' 44 6 = nI (hp (lgw h C w p))) := by
  have hP := W.P
  have hO := W.O
  have hE := ev_lt W
  have h2 := o256 W
  have p1 := bit_lt hc.1 hb
  have c0 := bit_pos hb
  have r := rm_le W hc.1 (p := p) (by omega)
  have hc1 := hc.1
  obtain ⟨k, hin⟩ := hc.2 c0
  obtain ⟨f1, f2, f3⟩ := fro_ok W w p
  have e1 : hld h C w p = fro h w p := by unfold hld; rw [beq_f c0]; rfl
  have l8 := pc_le8 f2
  rw [e212_0 hF, c_heldBy hF W H h45 (by omega) (fun _ => ⟨k, h46⟩) (by omega), e1]
  simp (disch := omega) only [pm_k_i, Option.toList_some, Option.toList_none, List.cons_append, List.nil_append, cond_true, cond_false, ↓reduceIte, reduceCtorEq, z_1, nI_add, z_cl, z_ib, z_lt, z_le, z_eq, z_eq0, z_le0, z_lt0, z_b0, z_b1, z_m1, z_and7, Int32.add_zero, e212_5 hF, c_bitCount hF, e212_10 hF, h45, z_rm]
  by_cases z : rm C p = 0
  · rw [z]
    refine ⟨pm_ui I 44 5 0, ?_, fun r j a => ?_, by rw [z_ue]; rfl, fun q => absurd rfl q⟩
    · rw [e212_28 hF]
      simp (disch := omega) only [pm_k_i, Option.toList_some, Option.toList_none, List.cons_append, List.nil_append, cond_true, cond_false, ↓reduceIte, reduceCtorEq, z_1, nI_add, z_cl, z_ib, z_lt, z_le, z_eq, z_eq0, z_le0, z_lt0, z_b0, z_b1, z_m1, z_and7, Int32.add_zero, z_ue, z_0lt]
      by_cases d : 0 < pc (fro h w p)
      · rw [if_pos d]
        rfl
      · rw [if_neg d]
        rfl
    · by_cases y : r = 44
      · have := a y; rw [y, z_uk (by omega)]
      · rw [z_ur y]
  · have gk := gtn_ok W (C := rm C p) (l := fro h w p) (w := w) (Nat.pos_of_ne_zero z) r f1 k (fun o ho q => by
      have c8 := k.2 o ho
      rw [f3 o (by omega), decide_eq_true ho, Bool.true_and] at q
      rw [z_rmb C (by omega) p (by omega) (w o) (by omega), hin o ho, q]
      rfl)
    refine wl (Q := fun x => ∃ I', x = some (some (.int (nI (pc (fro h w p)))), (49, pt_G, I', L)) ∧ (∀ r j, (r = 44 → j ≠ 5 ∧ j ≠ 6) → I' r j = I r j) ∧ I' 44 5 = nI (rm C p) ∧ (rm C p ≠ 0 → I' 44 6 = nI (hp (lgw h C w p)))) (G := fun n J => (F 212 28 [some (.ref 44), some (.int (nI p)), some (.int (nI (gtn h (rm C p) (fro h w p) w n).1)), some (.int (nI (pc (fro h w p)))), some (.int (nI n)), none, none] [] (49, pt_G, J, L))) (P := fun n J => (∀ r j, (r = 44 → j ≠ 5 ∧ j ≠ 6) → J r j = I r j) ∧ J 44 5 = nI (rm C p) ∧ J 44 6 = nI (hp (gtn h (rm C p) (fro h w p) w n).2)) (n := pc (fro h w p)) (fun n J hn hJ go => ?_) (fun J hJ => ?_) 0 _ (Nat.zero_le _) ⟨fun r j a => ?_, by rw [z_ue], by rw [z_uk (by omega)]; exact h46⟩
    · obtain ⟨j1, j2, j3⟩ := hJ
      obtain ⟨g1, g2, g3, g4⟩ := gk n (by omega)
      have HJ : CH h J := H.of (fun k _ => j1 3 k (fun q => by omega)) (fun r a b k => j1 r k (fun q => by omega))
      have t0 : 0 < (gtn h (rm C p) (fro h w p) w n).1 := by
        rcases Nat.eq_zero_or_pos (gtn h (rm C p) (fro h w p) w n).1 with e | e
        · rw [e, show pc 0 = 0 from by decide +kernel] at g2; omega
        · exact e
      obtain ⟨t1, t2, t3, t4, t5, t6⟩ := gt1_ok W (Nat.pos_of_ne_zero z) r t0 g1
      have gl := hp_lt g3.1
      have n0 := c_nextBy (L := L) hF W HJ (C := rm C p) (f := h 0 2) (s := h 0 3) (had := hcl h (gtn h (rm C p) (fro h w p) w n).2 (gtn h (rm C p) (fro h w p) w n).1) (by omega) (hcl_le W _ _) W.f.2 W.s.2
      have n1 := c_dearest (L := L) hF W HJ (l := (gtn h (rm C p) (fro h w p) w n).1) t2 (by omega)
      rw [t1] at n0
      rw [t4] at n1
      try dsimp only
      rw [e212_28 hF, j2]
      simp (disch := omega) only [pm_k_i, Option.toList_some, Option.toList_none, List.cons_append, List.nil_append, cond_true, cond_false, ↓reduceIte, reduceCtorEq, z_1, nI_add, z_cl, z_ib, z_lt, z_le, z_eq, z_eq0, z_le0, z_lt0, z_b0, z_b1, z_m1, z_and7, Int32.add_zero, hn, z, c_countsHeld hF W HJ (show (gtn h (rm C p) (fro h w p) w n).1 < 256 by omega) g3 j3, e212_54 hF, HJ.f, HJ.s, n0, oI, e212_71 hF, n1, e212_83 hF, j3, c_with hF, hp_ws g3.1, e212_97 hF, z_rm]
      refine go _ ⟨fun r j a => ?_, ?_, ?_⟩
      · by_cases y : r = 44
        · have := a y; rw [y, z_uk (by omega)]; exact j1 44 j (fun _ => this)
        · rw [z_ur y]; exact j1 r j a
      · rw [z_uk (by omega)]; exact j2
      · rw [z_ue]; rfl
    · obtain ⟨j1, j2, j3⟩ := hJ
      try dsimp only
      rw [e212_28 hF]
      simp (disch := omega) only [pm_k_i, Option.toList_some, Option.toList_none, List.cons_append, List.nil_append, cond_true, cond_false, ↓reduceIte, reduceCtorEq, z_1, nI_add, z_cl, z_ib, z_lt, z_le, z_eq, z_eq0, z_le0, z_lt0, z_b0, z_b1, z_m1, z_and7, Int32.add_zero, Nat.lt_irrefl]
      exact ⟨J, rfl, j1, j2, fun _ => j3⟩
    · by_cases y : r = 44
      · have := a y; rw [y, z_uk (by omega)]
      · rw [z_ur y]
end
