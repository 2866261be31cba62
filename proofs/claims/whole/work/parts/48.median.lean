/-! ===== the median ===== -/
section
variable {h : Nat → Nat → Nat} {I I' : Nat → Nat → Int32} {L L' : Nat → Nat → Int64} {e v : Nat}
variable {F : pm_F} {L0 : Nat} {xs : Nat → Int32}
def lle (h : Nat → Nat → Nat) (y x : Nat) : Bool := decide (h 2 y < h 2 x ∨ (h 2 y = h 2 x ∧ y ≤ x))
def ssm (h : Nat → Nat → Nat) (x : Nat) : Nat := sm (fun y => bif lle h y x then h 1 y else 0) (h 0 0)
def isM (h : Nat → Nat → Nat) (x : Nat) : Prop := x < h 0 0 ∧ sIn h (ev h) ≤ 2 * ssm h x ∧ ∀ y, y < h 0 0 → lle h y x = true → y ≠ x → 2 * ssm h y < sIn h (ev h)
def med (h : Nat → Nat → Nat) : Option Nat := ff (fun x => decide (sIn h (ev h) ≤ 2 * ssm h x) && (ff (fun y => lle h y x && (!Nat.beq y x && decide (sIn h (ev h) ≤ 2 * ssm h y))) (h 0 0)).isNone) (h 0 0)
theorem lle_tot (x y : Nat) : lle h x y = true ∨ lle h y x = true := by
  unfold lle
  rw [decide_eq_true_eq, decide_eq_true_eq]
  omega
theorem isM_u {x y : Nat} (a : isM h x) (b : isM h y) : x = y := by
  by_cases q : x = y
  · exact q
  · rcases lle_tot (h := h) x y with t | t
    · have := b.2.2 x a.1 t q
      have := a.2.1
      omega
    · have := a.2.2 y b.1 t (fun hh => q hh.symm)
      have := b.2.1
      omega
theorem isM_of {x : Nat} (hx : x < h 0 0) (hp : (decide (sIn h (ev h) ≤ 2 * ssm h x) && (ff (fun y => lle h y x && (!Nat.beq y x && decide (sIn h (ev h) ≤ 2 * ssm h y))) (h 0 0)).isNone) = true) : isM h x := by
  rw [Bool.and_eq_true, decide_eq_true_eq] at hp
  refine ⟨hx, hp.1, fun y hy a b => ?_⟩
  have := ff_none (Option.isNone_iff_eq_none.mp hp.2) y hy
  try dsimp only at this
  rw [a, beq_f b, Bool.not_false, Bool.true_and, Bool.true_and, decide_eq_false_iff_not] at this
  omega
theorem med_of {x : Nat} (a : isM h x) : med h = some x := by
  unfold med
  refine ff_of a.1 ?_ (fun i hi => ?_)
  · rw [decide_eq_true a.2.1, Bool.true_and]
    refine Option.isNone_iff_eq_none.mpr (ff_of_none (fun y hy => ?_))
    cases q : lle h y x with
    | false => rfl
    | true =>
      rw [Bool.true_and]
      by_cases w : y = x
      · rw [w, Nat.beq_refl]; rfl
      · have := a.2.2 y hy q w
        rw [decide_eq_false (by omega), Bool.and_false]
  · cases q : (decide (sIn h (ev h) ≤ 2 * ssm h i) && (ff (fun y => lle h y i && (!Nat.beq y i && decide (sIn h (ev h) ≤ 2 * ssm h y))) (h 0 0)).isNone) with
    | false => rfl
    | true =>
      have := isM_u a (isM_of (by have := a.1; omega) q)
      omega
theorem med_0 (hP : h 0 0 = 0) : med h = none := by
  unfold med
  rw [hP]
  rfl
theorem sm_le {f g : Nat → Nat} {n : Nat} (hh : ∀ i, i < n → f i ≤ g i) : sm f n ≤ sm g n := by
  induction n with
  | zero => exact Nat.le_refl _
  | succ n ih =>
    have h1 := ih (fun i hi => hh i (by omega))
    have h2 := hh n (by omega)
    show sm f n + f n ≤ sm g n + g n
    omega
theorem all_pos (W : WF h) (hP : 0 < h 0 0) : 0 < sIn h (ev h) := sIn_pos W (by unfold ev; have : 2 ^ 1 ≤ 2 ^ h 0 0 := Nat.pow_le_pow_right (by decide) hP; omega) (Nat.le_refl _)
/-- who is next by place -/
def nb1 (h : Nat → Nat → Nat) (D p : Nat) (b : Option Nat) : Option Nat := bif !D.testBit p && (match b with
  | none => true
  | some q => decide (h 2 p < h 2 q)) then some p else b
def nbp (h : Nat → Nat → Nat) (D : Nat) : Option Nat := lp (nb1 h D) (h 0 0) none
theorem nbp_ok {D : Nat} (hx : ∃ x, x < h 0 0 ∧ D.testBit x = false) : ∃ m, nbp h D = some m ∧ m < h 0 0 ∧ D.testBit m = false ∧ ∀ y, y < h 0 0 → D.testBit y = false → lle h m y = true := by
  have key := lpP (f := nb1 h D) (P := fun k b => (b = none → ∀ y, y < k → D.testBit y = true) ∧ ∀ m, b = some m → m < k ∧ D.testBit m = false ∧ ∀ y, y < k → D.testBit y = false → lle h m y = true) (n := h 0 0) (a := none) ⟨fun _ y hy => by omega, fun m hm => by cases hm⟩ (fun k b hk hb => by
    obtain ⟨b1, b2⟩ := hb
    cases hd : D.testBit k with
    | true =>
      have e : nb1 h D k b = b := by unfold nb1; rw [hd]; rfl
      rw [e]
      refine ⟨fun q y hy => ?_, fun m hm => ?_⟩
      · by_cases w : y = k
        · rw [w]; exact hd
        · exact b1 q y (by omega)
      · obtain ⟨c1, c2, c3⟩ := b2 m hm
        refine ⟨by omega, c2, fun y hy hz => ?_⟩
        by_cases w : y = k
        · rw [w, hd] at hz; cases hz
        · exact c3 y (by omega) hz
    | false =>
      cases b with
      | none =>
        have e : nb1 h D k none = some k := by unfold nb1; rw [hd]; rfl
        rw [e]
        refine ⟨(fun q => by cases q), fun m hm => ?_⟩
        cases hm
        refine ⟨by omega, hd, fun y hy hz => ?_⟩
        by_cases w : y = k
        · rw [w]; exact decide_eq_true (by omega)
        · have := b1 rfl y (by omega)
          rw [this] at hz; cases hz
      | some q =>
        obtain ⟨c1, c2, c3⟩ := b2 q rfl
        by_cases w : h 2 k < h 2 q
        · have e : nb1 h D k (some q) = some k := by unfold nb1; rw [hd]; show (bif !false && decide _ then _ else _) = _; rw [decide_eq_true w]; rfl
          rw [e]
          refine ⟨(fun q => by cases q), fun m hm => ?_⟩
          cases hm
          refine ⟨by omega, hd, fun y hy hz => ?_⟩
          by_cases w2 : y = k
          · rw [w2]; exact decide_eq_true (by omega)
          · have := of_decide_eq_true (c3 y (by omega) hz)
            exact decide_eq_true (by omega)
        · have e : nb1 h D k (some q) = some q := by unfold nb1; rw [hd]; show (bif !false && decide _ then _ else _) = _; rw [decide_eq_false w]; rfl
          rw [e]
          refine ⟨(fun q => by cases q), fun m hm => ?_⟩
          cases hm
          refine ⟨by omega, c2, fun y hy hz => ?_⟩
          by_cases w2 : y = k
          · rw [w2]; exact decide_eq_true (by omega)
          · exact c3 y (by omega) hz)
  obtain ⟨x, x1, x2⟩ := hx
  cases q : nbp h D with
  | none =>
    have := key.1 q x x1
    rw [this] at x2; cases x2
  | some m => exact ⟨m, rfl, key.2 m q⟩
theorem c_nextByPlace (hF : pm_fix pt_me pt_Sg (pt_R L0 xs) F) (W : WF h) (H : CH h I) {D : Nat} (hD : D < 256) : (F 532 0 [some (.ref 3), some (.int (nI D)), none, none] [] (81, pt_G, I, L)) = some (some (.int (oI (nbp h D))), (81, pt_G, I, L)) := by
  have hP := W.P
  rw [e532_0 hF]
  refine ((lpI (G := fun k b => (F 532 4 [some (.ref 3), some (.int (nI D)), some (.int (oI b)), some (.int (nI k))] [] (81, pt_G, I, L))) (f := nb1 h D) (P := fun k b => ∀ q, b = some q → q < k) (n := h 0 0) (a := none) (fun q hq => by cases hq) (fun k b hk hb => ⟨?_, fun q hq => ?_⟩)).1).trans ?_
  · try dsimp only
    have p1 := W.place k
    rw [e532_4 hF]
    simp (disch := omega) only [pm_k_i, Option.toList_some, Option.toList_none, List.cons_append, List.nil_append, cond_true, cond_false, ↓reduceIte, reduceCtorEq, z_1, nI_add, z_cl, z_ib, z_lt, z_le, z_eq, z_eq0, z_le0, z_lt0, z_b0, z_b1, z_m1, z_and7, Int32.add_zero, H.P, hk, c_isIn hF, e532_17 hF]
    unfold nb1
    cases D.testBit k with
    | true => simp (disch := omega) only [pm_k_i, Option.toList_some, Option.toList_none, List.cons_append, List.nil_append, cond_true, cond_false, ↓reduceIte, reduceCtorEq, z_1, nI_add, z_cl, z_ib, z_lt, z_le, z_eq, z_eq0, z_le0, z_lt0, z_b0, z_b1, z_m1, z_and7, Int32.add_zero, Bool.not_true, Bool.false_and]
    | false =>
      cases b with
      | none => simp (disch := omega) only [pm_k_i, Option.toList_some, Option.toList_none, List.cons_append, List.nil_append, cond_true, cond_false, ↓reduceIte, reduceCtorEq, z_1, nI_add, z_cl, z_ib, z_lt, z_le, z_eq, z_eq0, z_le0, z_lt0, z_b0, z_b1, z_m1, z_and7, Int32.add_zero, oI, eq_self, Bool.not_false, Bool.true_and]
      | some z =>
        have hz := hb z rfl
        have p2 := W.place z
        simp (disch := omega) only [pm_k_i, Option.toList_some, Option.toList_none, List.cons_append, List.nil_append, cond_true, cond_false, ↓reduceIte, reduceCtorEq, z_1, nI_add, z_cl, z_ib, z_lt, z_le, z_eq, z_eq0, z_le0, z_lt0, z_b0, z_b1, z_m1, z_and7, Int32.add_zero, oI, Bool.not_false, Bool.true_and, c_placeOf hF W H, e532_30 hF, e532_35 hF]
        by_cases w : h 2 k < h 2 z
        · rw [if_pos w, decide_eq_true w]; rfl
        · rw [if_neg w, decide_eq_false w]; rfl
  · unfold nb1 at hq
    rcases bif_some hq with ⟨_, e⟩ | ⟨_, e⟩
    · omega
    · have := hb q e; omega
  · try dsimp only
    rw [e532_4 hF]
    simp (disch := omega) only [pm_k_i, Option.toList_some, Option.toList_none, List.cons_append, List.nil_append, cond_true, cond_false, ↓reduceIte, reduceCtorEq, z_1, nI_add, z_cl, z_ib, z_lt, z_le, z_eq, z_eq0, z_le0, z_lt0, z_b0, z_b1, z_m1, z_and7, Int32.add_zero, H.P, Nat.lt_irrefl]
    rfl
theorem full_set : ∀ n, n < 8 → ∀ D, D < 2 ^ n → pc D = n → D = 2 ^ n - 1 := by decide +kernel
theorem free_set : ∀ n, n < 8 → ∀ D, D < 2 ^ n → pc D < n → ∃ x, x < n ∧ D.testBit x = false := by decide +kernel
theorem ad_sub : ∀ n, n < 8 → ∀ D, D < 2 ^ n → ∀ k, k < n → ad D k < 2 ^ n := by decide +kernel
theorem c_medianParty (hF : pm_fix pt_me pt_Sg (pt_R L0 xs) F) (W : WF h) (H : CH h I) : (F 531 0 [some (.ref 3), none, none, none, none, none] [] (81, pt_G, I, L)) = some (some (.int (oI (med h))), (81, pt_G, I, L)) := by
  have hP := W.P
  have hE := ev_lt W
  have s4 := sIn_le W (ev h)
  rw [e531_0 hF]
  simp (disch := omega) only [pm_k_i, Option.toList_some, Option.toList_none, List.cons_append, List.nil_append, cond_true, cond_false, ↓reduceIte, reduceCtorEq, z_1, nI_add, z_cl, z_ib, z_lt, z_le, z_eq, z_eq0, z_le0, z_lt0, z_b0, z_b1, z_m1, z_and7, Int32.add_zero, c_everyone hF W H, e531_5 hF, c_seatsIn hF W H, e531_8 hF]
  have s0 : sIn h 0 = 0 := by
    unfold sIn
    refine lpP (P := fun _ a => a = 0) rfl (fun k a _ ha => ?_)
    rw [Nat.zero_testBit]
    exact ha
  suffices hh : (F 531 16 [some (.ref 3), some (.int (nI (sIn h (ev h)))), some (.int (nI (sIn h 0))), some (.int (nI 0)), some (.int (nI 0)), none] [] (81, pt_G, I, L)) = some (some (.int (oI (med h))), (81, pt_G, I, L)) by
    rw [s0] at hh
    exact hh
  refine wl (Q := fun r => r = some (some (.int (oI (med h))), (81, pt_G, I, L))) (G := fun n D => (F 531 16 [some (.ref 3), some (.int (nI (sIn h (ev h)))), some (.int (nI (sIn h D))), some (.int (nI D)), some (.int (nI n)), none] [] (81, pt_G, I, L))) (P := fun n D => D < 2 ^ h 0 0 ∧ pc D = n ∧ (∀ x y, x < h 0 0 → y < h 0 0 → D.testBit x = true → lle h y x = true → D.testBit y = true) ∧ (0 < h 0 0 → 2 * sIn h D < sIn h (ev h))) (n := h 0 0) (fun n D hn hD go => ?_) (fun D hD => ?_) 0 0 (Nat.zero_le _) ⟨Nat.two_pow_pos _, by decide +kernel, (fun x y _ _ a _ => by rw [Nat.zero_testBit] at a; cases a), fun q => ?_⟩
  · obtain ⟨d1, d2, d3, d4⟩ := hD
    have l7 : 2 ^ h 0 0 ≤ 2 ^ 7 := Nat.pow_le_pow_right (by decide) hP
    obtain ⟨m, m1, m2, m3, m4⟩ := nbp_ok (h := h) (D := D) (free_set (h 0 0) (by omega) D d1 (by omega))
    have a1 := ad_lt D (by omega) m (by omega)
    have a2 := ad_sub (h 0 0) (by omega) D d1 m m2
    have ab := z_adb D (by omega) m (by omega)
    have s1 : sIn h (ad D m) = sIn h D + h 1 m := by
      have t1 : (ad D m).testBit m = true := by rw [ab m (by omega), Nat.beq_refl, Bool.or_true]
      have := sIn_rm W (C := ad D m) (by omega) m2 t1
      have e2 : rm (ad D m) m = D := by
        have := (tb_mod D (by omega) m (by omega)).2.2 m3
        rw [this.1]; exact this.2
      rw [e2] at this
      exact this
    have s2 := sIn_le W (ad D m)
    have sS : ssm h m = sIn h (ad D m) := by
      rw [sIn_sm]
      refine sm_congr (fun y hy => ?_)
      try dsimp only
      have : lle h y m = (ad D m).testBit y := by
        rw [ab y (by omega)]
        cases q : D.testBit y with
        | true =>
          rw [Bool.true_or]
          rcases lle_tot (h := h) y m with t | t
          · exact t
          · have := d3 y m hy m2 q t
            rw [m3] at this; cases this
        | false =>
          rw [Bool.false_or]
          have t := m4 y hy q
          by_cases w : y = m
          · rw [w, Nat.beq_refl]
            exact decide_eq_true (by omega)
          · rw [beq_f w]
            have t := of_decide_eq_true t
            exact decide_eq_false (by omega)
      rw [this]
    have below : ∀ y, y < h 0 0 → D.testBit y = true → ssm h y ≤ sIn h D := fun y hy hb => by
      rw [sIn_sm]
      refine sm_le (fun z hz => ?_)
      try dsimp only
      cases q : lle h z y with
      | false => exact Nat.zero_le _
      | true => rw [d3 y z hy hz hb q]; exact Nat.le_refl _
    try dsimp only
    rw [e531_16 hF]
    simp (disch := omega) only [pm_k_i, Option.toList_some, Option.toList_none, List.cons_append, List.nil_append, cond_true, cond_false, ↓reduceIte, reduceCtorEq, z_1, nI_add, z_cl, z_ib, z_lt, z_le, z_eq, z_eq0, z_le0, z_lt0, z_b0, z_b1, z_m1, z_and7, Int32.add_zero, H.P, hn, c_nextByPlace hF W H, m1, oI, e531_30 hF, c_seatsOf hF W H, e531_46 hF, z_2m]
    rw [← s1]
    by_cases w : 2 * sIn h (ad D m) < sIn h (ev h)
    · rw [if_pos w, z_ad D (by omega) m (by omega)]
      refine go (ad D m) ⟨a2, ?_, fun x y hx hy hb hl => ?_, fun _ => w⟩
      · rw [pc_ad D (by omega) m (by omega) m3, d2]
      · rw [ab x (by omega), Bool.or_eq_true] at hb
        rw [ab y (by omega), Bool.or_eq_true]
        rcases hb with hb | hb
        · exact Or.inl (d3 x y hx hy hb hl)
        · have hb := Nat.eq_of_beq_eq_true hb
          rw [hb] at hl
          cases q : D.testBit y with
          | true => exact Or.inl rfl
          | false =>
            right
            have t := of_decide_eq_true (m4 y hy q)
            have hl := of_decide_eq_true hl
            rw [show y = m by omega, Nat.beq_refl]
    · rw [if_neg w]
      have : isM h m := ⟨m2, by rw [sS]; omega, fun y hy hl hne => by
        have yb : D.testBit y = true := by
          cases q : D.testBit y with
          | true => rfl
          | false =>
            have t := of_decide_eq_true (m4 y hy q)
            have hl := of_decide_eq_true hl
            omega
        have := below y hy yb
        have := d4 (by omega)
        omega⟩
      rw [med_of this]
      try rfl
  · obtain ⟨d1, d2, d3, d4⟩ := hD
    try dsimp only
    rw [e531_16 hF]
    simp (disch := omega) only [pm_k_i, Option.toList_some, Option.toList_none, List.cons_append, List.nil_append, cond_true, cond_false, ↓reduceIte, reduceCtorEq, z_1, nI_add, z_cl, z_ib, z_lt, z_le, z_eq, z_eq0, z_le0, z_lt0, z_b0, z_b1, z_m1, z_and7, Int32.add_zero, H.P, Nat.lt_irrefl]
    have e0 := full_set (h 0 0) (by omega) D d1 d2
    rcases Nat.eq_zero_or_pos (h 0 0) with q | q
    · rw [med_0 q]; rfl
    · have := d4 q
      rw [e0] at this
      have : 2 * sIn h (ev h) < sIn h (ev h) := this
      omega
  · have := all_pos W q
    omega
/-- the model's: those ahead of a place and a party -/
def bfr (h : Nat → Nat → Nat) (a p y : Nat) : Bool := decide (h 2 y < a ∨ (h 2 y = a ∧ y < p))
def bsm (h : Nat → Nat → Nat) (a p : Nat) : Nat := sm (fun y => bif bfr h a p y then h 1 y else 0) (h 0 0)
theorem m_median (hF : pm_fix pt_me pt_Sg (pt_R L0 xs) F) (W : WF h) (H : MH h I) : (F 1303 0 [some (.ref 49), none, none, none, none] [] (81, pt_G, I, L)) = some (some (.int (oI (med h))), (81, pt_G, I, L)) := by
  have hP := W.P
  have hE := ev_lt W
  have s4 := sIn_le W (ev h)
  have bl : ∀ a p, bsm h a p ≤ sIn h (ev h) := fun a p => by
    rw [sIn_sm]
    refine sm_le (fun y hy => ?_)
    try dsimp only
    rw [ev_tb W hy]
    cases bfr h a p y
    · exact Nat.zero_le _
    · exact Nat.le_refl _
  rw [e1303_0 hF]
  simp (disch := omega) only [pm_k_i, Option.toList_some, Option.toList_none, List.cons_append, List.nil_append, cond_true, cond_false, ↓reduceIte, reduceCtorEq, z_1, nI_add, z_cl, z_ib, z_lt, z_le, z_eq, z_eq0, z_le0, z_lt0, z_b0, z_b1, z_m1, z_and7, Int32.add_zero, m_everyone hF W H, e1303_7 hF, m_seatsIn hF W H, e1303_10 hF]
  refine wl (α := Unit) (Q := fun r => r = some (some (.int (oI (med h))), (81, pt_G, I, L))) (G := fun a _ => (F 1303 13 [some (.ref 49), some (.int (nI (bsm h a 0))), some (.int (nI (sIn h (ev h)))), some (.int (nI a)), none] [] (81, pt_G, I, L))) (P := fun a _ => 0 < h 0 0 → 2 * bsm h a 0 < sIn h (ev h)) (n := 100) (fun a _ ha hA go => ?_) (fun _ hA => ?_) 0 () (Nat.zero_le _) (fun q => ?_) |> (fun hh => by
    have z : bsm h 0 0 = 0 := sm_zero (fun i _ => by
      show (bif bfr h 0 0 i then _ else _) = 0
      unfold bfr
      rw [decide_eq_false (by omega)]
      rfl)
    rw [z] at hh
    exact hh)
  · try dsimp only
    rw [e1303_13 hF, show (99 : Int32) = nI 99 from rfl]
    simp (disch := omega) only [pm_k_i, Option.toList_some, Option.toList_none, List.cons_append, List.nil_append, cond_true, cond_false, ↓reduceIte, reduceCtorEq, z_1, nI_add, z_cl, z_ib, z_lt, z_le, z_eq, z_eq0, z_le0, z_lt0, z_b0, z_b1, z_m1, z_and7, Int32.add_zero, show (a ≤ 99) = True from propext ⟨fun _ => trivial, fun _ => by omega⟩]
    refine wl (α := Unit) (Q := fun r => r = some (some (.int (oI (med h))), (81, pt_G, I, L))) (G := fun p _ => (F 1303 22 [some (.ref 49), some (.int (nI (bsm h a p))), some (.int (nI (sIn h (ev h)))), some (.int (nI a)), some (.int (nI p))] [] (81, pt_G, I, L))) (P := fun p _ => 0 < h 0 0 → 2 * bsm h a p < sIn h (ev h)) (n := h 0 0) (fun p _ hp hB go2 => ?_) (fun _ hB => ?_) 0 () (Nat.zero_le _) hA
    · have hB := hB (by omega)
      have pl := W.place p
      have b2 := bl a p
      have b3 := bl a (p + 1)
      try dsimp only
      rw [e1303_22 hF]
      simp (disch := omega) only [pm_k_i, Option.toList_some, Option.toList_none, List.cons_append, List.nil_append, cond_true, cond_false, ↓reduceIte, reduceCtorEq, z_1, nI_add, z_cl, z_ib, z_lt, z_le, z_eq, z_eq0, z_le0, z_lt0, z_b0, z_b1, z_m1, z_and7, Int32.add_zero, H.P, hp, H.place]
      by_cases w : h 2 p = a
      · rw [if_pos w]
        have s1 : bsm h a p + h 1 p = bsm h a (p + 1) := by
          have t1 := sm_up (f := fun y => bif bfr h a p y then h 1 y else 0) (v := h 1 p) hp
          have t2 : (bif bfr h a p p then h 1 p else 0) = 0 := by unfold bfr; rw [decide_eq_false (by omega)]; rfl
          try dsimp only at t1
          rw [t2] at t1
          have t3 : bsm h a (p + 1) = sm (up (fun y => bif bfr h a p y then h 1 y else 0) p (h 1 p)) (h 0 0) := by
            refine sm_congr (fun y hy => ?_)
            unfold up bfr
            by_cases z : y = p
            · rw [if_pos z, z, decide_eq_true (by omega)]; rfl
            · rw [if_neg z]
              congr 1
              exact decide_eq_decide.mpr (by omega)
          rw [t3]
          unfold bsm
          omega
        have sS : ssm h p = bsm h a (p + 1) := by
          refine sm_congr (fun y hy => ?_)
          unfold lle bfr
          congr 1
          exact decide_eq_decide.mpr (by omega)
        simp (disch := omega) only [pm_k_i, Option.toList_some, Option.toList_none, List.cons_append, List.nil_append, cond_true, cond_false, ↓reduceIte, reduceCtorEq, z_1, nI_add, z_cl, z_ib, z_lt, z_le, z_eq, z_eq0, z_le0, z_lt0, z_b0, z_b1, z_m1, z_and7, Int32.add_zero, m_seatsOf hF W H, e1303_52 hF, z_2m]
        rw [s1]
        by_cases w2 : 2 * bsm h a (p + 1) < sIn h (ev h)
        · rw [if_pos w2]
          exact go2 () (fun _ => w2)
        · rw [if_neg w2]
          have : isM h p := ⟨hp, by rw [sS]; omega, fun y hy hl hne => by
            have hl := of_decide_eq_true hl
            have : ssm h y ≤ bsm h a p := by
              refine sm_le (fun z hz => ?_)
              try dsimp only
              cases q : lle h z y with
              | false => exact Nat.zero_le _
              | true =>
                have q := of_decide_eq_true q
                have : bfr h a p z = true := decide_eq_true (by omega)
                rw [this]
                exact Nat.le_refl _
            omega⟩
          rw [med_of this]
          try rfl
      · rw [if_neg w]
        have e1 : bsm h a (p + 1) = bsm h a p := by
          refine sm_congr (fun y hy => ?_)
          unfold bfr
          congr 1
          refine decide_eq_decide.mpr ⟨fun hh => ?_, fun hh => by omega⟩
          rcases hh with hh | hh
          · exact Or.inl hh
          · by_cases z : y = p
            · rw [z] at hh; exact absurd hh.1 w
            · right; omega
        rw [← e1] at hB ⊢
        exact go2 () (fun _ => hB)
    · try dsimp only
      rw [e1303_22 hF]
      simp (disch := omega) only [pm_k_i, Option.toList_some, Option.toList_none, List.cons_append, List.nil_append, cond_true, cond_false, ↓reduceIte, reduceCtorEq, z_1, nI_add, z_cl, z_ib, z_lt, z_le, z_eq, z_eq0, z_le0, z_lt0, z_b0, z_b1, z_m1, z_and7, Int32.add_zero, H.P, Nat.lt_irrefl]
      have e1 : bsm h a (h 0 0) = bsm h (a + 1) 0 := by
        refine sm_congr (fun y hy => ?_)
        unfold bfr
        congr 1
        exact decide_eq_decide.mpr (by omega)
      rw [e1]
      exact go () (fun q => by have := hB q; rw [e1] at this; exact this)
  · try dsimp only
    rw [e1303_13 hF, if_neg (by decide)]
    rcases Nat.eq_zero_or_pos (h 0 0) with q | q
    · rw [med_0 q]; rfl
    · have hA := hA q
      have e1 : bsm h 100 0 = sIn h (ev h) := by
        rw [sIn_sm]
        refine sm_congr (fun y hy => ?_)
        try dsimp only
        have := W.place y
        rw [ev_tb W hy]
        unfold bfr
        rw [decide_eq_true (by omega)]
      omega
  · have z : bsm h 0 0 = 0 := sm_zero (fun i _ => by
      show (bif bfr h 0 0 i then _ else _) = 0
      unfold bfr
      rw [decide_eq_false (by omega)]
      rfl)
    have := all_pos W q
    omega
end
