/-! ===== the model: how many, which, beaten, dream, drift; enough, span, median ===== -/
section
variable {h : Nat → Nat → Nat} {I I' : Nat → Nat → Int32} {L L' : Nat → Nat → Int64} {e v : Nat}
variable {F : pm_F} {L0 : Nat} {xs : Nat → Int32}
theorem m_many_run (hF : pm_fix pt_me pt_Sg (pt_R L0 xs) F) (W : WF h) (H : MH h I) (Y : LY h I) {K : Nat} (hK : K < 32) : (F 1294 18 [some (.ref 49), some (.int (nI K)), none, none] [] (81, pt_G, I, L)) = some (some (.int (nI (cntP h (kp h K)))), (81, pt_G, I, L)) := by
  have hE := ev_lt W
  rw [e1294_18 hF]
  refine (lpE (G := fun k a => (F 1294 22 [some (.ref 49), some (.int (nI K)), some (.int (nI a)), some (.int (nI (k + 1)))] [] (81, pt_G, I, L))) (f := fun k a => bif kp h K (k + 1) then a + 1 else a) (n := ev h) (fun k a hk => ?_) 0).trans ?_
  · try dsimp only
    have kl := kin_lt (h := h) (k + 1)
    have al : kin h (k + 1) &&& K ≤ K := Nat.and_le_right
    rw [e1294_22 hF]
    simp (disch := omega) only [pm_k_i, Option.toList_some, Option.toList_none, List.cons_append, List.nil_append, cond_true, cond_false, ↓reduceIte, reduceCtorEq, z_1, nI_add, z_cl, z_ib, z_lt, z_le, z_eq, z_eq0, z_le0, z_lt0, z_b0, z_b1, z_m1, z_and7, Int32.add_zero, m_everyone hF W H, e1294_27 hF, show (k + 1 ≤ ev h) = True from propext ⟨fun _ => trivial, fun _ => by omega⟩, m_kindOf hF W H Y (show 0 < k + 1 by omega) (show k + 1 ≤ ev h by omega), e1294_36 hF, nx_and]
    unfold kp
    by_cases q : kin h (k + 1) &&& K = K
    · rw [if_pos q, q, Nat.beq_refl]
      simp (disch := omega) only [pm_k_i, Option.toList_some, Option.toList_none, List.cons_append, List.nil_append, cond_true, cond_false, ↓reduceIte, reduceCtorEq, z_1, nI_add, z_cl, z_ib, z_lt, z_le, z_eq, z_eq0, z_le0, z_lt0, z_b0, z_b1, z_m1, z_and7, Int32.add_zero, m_truth1 hF, e1294_50 hF]
    · rw [if_neg q, beq_f q]
      simp (disch := omega) only [pm_k_i, Option.toList_some, Option.toList_none, List.cons_append, List.nil_append, cond_true, cond_false, ↓reduceIte, reduceCtorEq, z_1, nI_add, z_cl, z_ib, z_lt, z_le, z_eq, z_eq0, z_le0, z_lt0, z_b0, z_b1, z_m1, z_and7, Int32.add_zero, m_truth0 hF, e1294_50 hF]
  · try dsimp only
    rw [e1294_22 hF]
    simp (disch := omega) only [pm_k_i, Option.toList_some, Option.toList_none, List.cons_append, List.nil_append, cond_true, cond_false, ↓reduceIte, reduceCtorEq, z_1, nI_add, z_cl, z_ib, z_lt, z_le, z_eq, z_eq0, z_le0, z_lt0, z_b0, z_b1, z_m1, z_and7, Int32.add_zero, m_everyone hF W H, e1294_27 hF, show (ev h + 1 ≤ ev h) = False from propext ⟨fun hh => by omega, False.elim⟩]
    rfl
theorem m_nth_run (hF : pm_fix pt_me pt_Sg (pt_R L0 xs) F) (W : WF h) (H : MH h I) (Y : LY h I) {K n : Nat} (hK : K < 32) (hn : n < 2147483648) : (F 1295 22 [some (.ref 49), some (.int (nI K)), some (.int (nI n)), none, none] [] (81, pt_G, I, L)) = some (some (.int (oI (nthP h (kp h K) n))), (81, pt_G, I, L)) := by
  have hE := ev_lt W
  rw [e1295_22 hF]
  have key : ∀ m k a, k + m = ev h → a ≤ n → (F 1295 27 [some (.ref 49), some (.int (nI K)), some (.int (nI n)), some (.int (nI a)), some (.int (nI (k + 1)))] [] (81, pt_G, I, L)) = some (some (.int (oI (fnd (kp h K) (k + 1) m a))), (81, pt_G, I, L)) := by
    intro m
    induction m with
    | zero =>
      intro k a hk ha
      have : k = ev h := by omega
      subst this
      rw [e1295_27 hF]
      simp (disch := omega) only [pm_k_i, Option.toList_some, Option.toList_none, List.cons_append, List.nil_append, cond_true, cond_false, ↓reduceIte, reduceCtorEq, z_1, nI_add, z_cl, z_ib, z_lt, z_le, z_eq, z_eq0, z_le0, z_lt0, z_b0, z_b1, z_m1, z_and7, Int32.add_zero, m_everyone hF W H, e1295_33 hF, show (ev h + 1 ≤ ev h) = False from propext ⟨fun hh => by omega, False.elim⟩]
      rfl
    | succ m ih =>
      intro k a hk ha
      have kl := kin_lt (h := h) (k + 1)
      have al : kin h (k + 1) &&& K ≤ K := Nat.and_le_right
      rw [e1295_27 hF]
      simp (disch := omega) only [pm_k_i, Option.toList_some, Option.toList_none, List.cons_append, List.nil_append, cond_true, cond_false, ↓reduceIte, reduceCtorEq, z_1, nI_add, z_cl, z_ib, z_lt, z_le, z_eq, z_eq0, z_le0, z_lt0, z_b0, z_b1, z_m1, z_and7, Int32.add_zero, m_everyone hF W H, e1295_33 hF, show (k + 1 ≤ ev h) = True from propext ⟨fun _ => trivial, fun _ => by omega⟩, m_kindOf hF W H Y (show 0 < k + 1 by omega) (show k + 1 ≤ ev h by omega), e1295_42 hF, nx_and]
      unfold fnd
      by_cases q : kin h (k + 1) &&& K = K
      · have q2 : kp h K (k + 1) = true := by unfold kp; rw [q, Nat.beq_refl]
        rw [if_pos q, q2, cond_true]
        cases a with
        | zero => rw [if_pos rfl]; rfl
        | succ a =>
          rw [if_neg (by omega), pk_m1]
          exact ih (k + 1) a (by omega) (by omega)
      · have q2 : kp h K (k + 1) = false := by unfold kp; rw [beq_f q]
        rw [if_neg q, q2, cond_false]
        exact ih (k + 1) a (by omega) ha
  exact key (ev h) 0 n (by omega) (Nat.le_refl _)
theorem grf_le (W : WF h) (w : Nat → Nat) (p : Nat) : grf h w p ≤ 7128 := by
  have h1 := lp_le (f := fun o a => a + dis (h 6 (8 * p + o)) (h 6 (8 * w o + o)) * h 5 (8 * p + o)) (n := h 0 1) (c := 891) (fun k a _ => by
    have s1 := W.stance (8 * p + k)
    have s2 := W.stance (8 * w k + k)
    have s3 := W.worth (8 * p + k)
    have s4 : dis (h 6 (8 * p + k)) (h 6 (8 * w k + k)) ≤ 9 := by unfold dis; split <;> omega
    have := mulB s4 s3
    show a + _ ≤ _
    omega) 0
  have hO := W.O
  have h3 : h 0 1 * 891 ≤ 8 * 891 := Nat.mul_le_mul_right _ hO
  show lp _ _ _ ≤ _
  omega
theorem m_beatsIt (hF : pm_fix pt_me pt_Sg (pt_R L0 xs) F) (W : WF h) (H : MH h I) (Y : LYs h I) {a b : Nat} (a0 : 0 < a) (ha : a ≤ ev h) (b0 : 0 < b) (hb : b ≤ ev h) : (F 1297 0 [some (.ref 49), some (.int (nI a)), some (.int (nI b)), none, none] [] (81, pt_G, I, L)) = some (some (.int (nI (bet h a b).toNat)), (81, pt_G, I, L)) := by
  have hE := ev_lt W
  have hP := W.P
  rw [e1297_0 hF]
  refine (lpE (G := fun k n => (F 1297 5 [some (.ref 49), some (.int (nI a)), some (.int (nI b)), some (.int (nI n)), some (.int (nI k))] [] (81, pt_G, I, L))) (f := fun p n => bif decide (grf h (fs h a) p < grf h (fs h b) p) then n + h 1 p else n) (n := h 0 0) (fun k n hk => ?_) 0).trans ?_
  · try dsimp only
    have la := (Y a a0 ha k hk).2
    have lb := (Y b b0 hb k hk).2
    have ga := grf_le W (fs h a) k
    have gb := grf_le W (fs h b) k
    rw [e1297_5 hF]
    simp (disch := omega) only [pm_k_i, Option.toList_some, Option.toList_none, List.cons_append, List.nil_append, cond_true, cond_false, ↓reduceIte, reduceCtorEq, z_1, nI_add, z_cl, z_ib, z_lt, z_le, z_eq, z_eq0, z_le0, z_lt0, z_b0, z_b1, z_m1, z_and7, Int32.add_zero, H.P, hk, z_7m, la, lb]
    by_cases q : grf h (fs h a) k < grf h (fs h b) k
    · rw [if_pos q, decide_eq_true q]
      simp (disch := omega) only [pm_k_i, Option.toList_some, Option.toList_none, List.cons_append, List.nil_append, cond_true, cond_false, ↓reduceIte, reduceCtorEq, z_1, nI_add, z_cl, z_ib, z_lt, z_le, z_eq, z_eq0, z_le0, z_lt0, z_b0, z_b1, z_m1, z_and7, Int32.add_zero, m_seatsOf hF W H, e1297_48 hF]
    · rw [if_neg q, decide_eq_false q]
      rfl
  · have s1 : lp (fun p n => bif decide (grf h (fs h a) p < grf h (fs h b) p) then n + h 1 p else n) (h 0 0) 0 ≤ 999 * h 0 0 := by
      have h1 := lp_le (f := fun p n => bif decide (grf h (fs h a) p < grf h (fs h b) p) then n + h 1 p else n) (n := h 0 0) (c := 999) (fun k a' _ => by
        have := W.seats k
        cases decide (grf h (fs h a) k < grf h (fs h b) k) <;> (try simp only [cond_true, cond_false]) <;> omega) 0
      omega
    have n1 := need_le W
    try dsimp only
    rw [e1297_5 hF]
    simp (disch := omega) only [pm_k_i, Option.toList_some, Option.toList_none, List.cons_append, List.nil_append, cond_true, cond_false, ↓reduceIte, reduceCtorEq, z_1, nI_add, z_cl, z_ib, z_lt, z_le, z_eq, z_eq0, z_le0, z_lt0, z_b0, z_b1, z_m1, z_and7, Int32.add_zero, H.P, Nat.lt_irrefl, m_need hF W H, e1297_65 hF]
    unfold bet
    by_cases q : lp (fun p n => bif decide (grf h (fs h a) p < grf h (fs h b) p) then n + h 1 p else n) (h 0 0) 0 < need h
    · rw [if_pos q, decide_eq_false (by omega)]; rfl
    · rw [if_neg q, decide_eq_true (by omega)]; rfl
theorem m_isUnbeaten (hF : pm_fix pt_me pt_Sg (pt_R L0 xs) F) (W : WF h) (H : MH h I) (Y : LYs h I) {c : Nat} (h0 : 0 < c) (hc : c ≤ ev h) : (F 1299 0 [some (.ref 49), some (.int (nI c)), none] [] (81, pt_G, I, L)) = some (some (.int (nI (unb h c).toNat)), (81, pt_G, I, L)) := by
  have hE := ev_lt W
  rw [e1299_0 hF]
  simp (disch := omega) only [pm_k_i, Option.toList_some, Option.toList_none, List.cons_append, List.nil_append, cond_true, cond_false, ↓reduceIte, reduceCtorEq, z_1, nI_add, z_cl, z_ib, z_lt, z_le, z_eq, z_eq0, z_le0, z_lt0, z_b0, z_b1, z_m1, z_and7, Int32.add_zero, m_can hF W H, e1299_5 hF]
  unfold unb
  cases can h c with
  | false => rfl
  | true =>
    simp (disch := omega) only [pm_k_i, Option.toList_some, Option.toList_none, List.cons_append, List.nil_append, cond_true, cond_false, ↓reduceIte, reduceCtorEq, z_1, nI_add, z_cl, z_ib, z_lt, z_le, z_eq, z_eq0, z_le0, z_lt0, z_b0, z_b1, z_m1, z_and7, Int32.add_zero, Bool.true_and]
    refine (ffE (G := fun k => (F 1299 12 [some (.ref 49), some (.int (nI c)), some (.int (nI (k + 1)))] [] (81, pt_G, I, L))) (X := fun _ => (some (some (.int 0), (81, pt_G, I, L)) : pm_R)) (p := fun k => can h (k + 1) && bet h (k + 1) c) (n := ev h) (fun k hk => ?_)).trans ?_
    · try dsimp only
      rw [e1299_12 hF]
      simp (disch := omega) only [pm_k_i, Option.toList_some, Option.toList_none, List.cons_append, List.nil_append, cond_true, cond_false, ↓reduceIte, reduceCtorEq, z_1, nI_add, z_cl, z_ib, z_lt, z_le, z_eq, z_eq0, z_le0, z_lt0, z_b0, z_b1, z_m1, z_and7, Int32.add_zero, m_everyone hF W H, e1299_17 hF, show (k + 1 ≤ ev h) = True from propext ⟨fun _ => trivial, fun _ => by omega⟩, m_can hF W H, e1299_25 hF]
      cases can h (k + 1) with
      | false => simp (disch := omega) only [pm_k_i, Option.toList_some, Option.toList_none, List.cons_append, List.nil_append, cond_true, cond_false, ↓reduceIte, reduceCtorEq, z_1, nI_add, z_cl, z_ib, z_lt, z_le, z_eq, z_eq0, z_le0, z_lt0, z_b0, z_b1, z_m1, z_and7, Int32.add_zero, Bool.false_and]
      | true =>
        simp (disch := omega) only [pm_k_i, Option.toList_some, Option.toList_none, List.cons_append, List.nil_append, cond_true, cond_false, ↓reduceIte, reduceCtorEq, z_1, nI_add, z_cl, z_ib, z_lt, z_le, z_eq, z_eq0, z_le0, z_lt0, z_b0, z_b1, z_m1, z_and7, Int32.add_zero, m_beatsIt hF W H Y (show 0 < k + 1 by omega) (show k + 1 ≤ ev h by omega) h0 hc, e1299_34 hF, Bool.true_and]
        cases bet h (k + 1) c <;> rfl
    · cases ff (fun k => can h (k + 1) && bet h (k + 1) c) (ev h) with
      | some k => rfl
      | none =>
        dsimp only
        rw [e1299_12 hF]
        simp (disch := omega) only [pm_k_i, Option.toList_some, Option.toList_none, List.cons_append, List.nil_append, cond_true, cond_false, ↓reduceIte, reduceCtorEq, z_1, nI_add, z_cl, z_ib, z_lt, z_le, z_eq, z_eq0, z_le0, z_lt0, z_b0, z_b1, z_m1, z_and7, Int32.add_zero, m_everyone hF W H, e1299_17 hF, show (ev h + 1 ≤ ev h) = False from propext ⟨fun hh => by omega, False.elim⟩]
        rfl
/-- by a number: the k-th; by -1: how many; else -1 -/
theorem m_unbeaten_k (hF : pm_fix pt_me pt_Sg (pt_R L0 xs) F) (W : WF h) (H : MH h I) (Y : LYs h I) {n : Nat} (hn : n < 2147483648) : (F 1300 4 [some (.ref 49), some (.int (nI n)), none, none] [] (81, pt_G, I, L)) = some (some (.int (oI (nthP h (unb h) n))), (81, pt_G, I, L)) := by
  have hE := ev_lt W
  rw [e1300_4 hF]
  have key : ∀ m k a, k + m = ev h → a ≤ n → a ≤ k → (F 1300 8 [some (.ref 49), some (.int (nI n)), some (.int (nI a)), some (.int (nI (k + 1)))] [] (81, pt_G, I, L)) = some (some (.int (oI (fnd (unb h) (k + 1) m (n - a)))), (81, pt_G, I, L)) := by
    intro m
    induction m with
    | zero =>
      intro k a hk ha hak
      have : k = ev h := by omega
      subst this
      rw [e1300_8 hF]
      simp (disch := omega) only [pm_k_i, Option.toList_some, Option.toList_none, List.cons_append, List.nil_append, cond_true, cond_false, ↓reduceIte, reduceCtorEq, z_1, nI_add, z_cl, z_ib, z_lt, z_le, z_eq, z_eq0, z_le0, z_lt0, z_b0, z_b1, z_m1, z_and7, Int32.add_zero, m_everyone hF W H, e1300_13 hF, show (ev h + 1 ≤ ev h) = False from propext ⟨fun hh => by omega, False.elim⟩]
      rfl
    | succ m ih =>
      intro k a hk ha hak
      rw [e1300_8 hF]
      simp (disch := omega) only [pm_k_i, Option.toList_some, Option.toList_none, List.cons_append, List.nil_append, cond_true, cond_false, ↓reduceIte, reduceCtorEq, z_1, nI_add, z_cl, z_ib, z_lt, z_le, z_eq, z_eq0, z_le0, z_lt0, z_b0, z_b1, z_m1, z_and7, Int32.add_zero, m_everyone hF W H, e1300_13 hF, show (k + 1 ≤ ev h) = True from propext ⟨fun _ => trivial, fun _ => by omega⟩, m_isUnbeaten hF W H Y (show 0 < k + 1 by omega) (show k + 1 ≤ ev h by omega), e1300_21 hF]
      unfold fnd
      cases q : unb h (k + 1) with
      | true =>
        simp (disch := omega) only [pm_k_i, Option.toList_some, Option.toList_none, List.cons_append, List.nil_append, cond_true, cond_false, ↓reduceIte, reduceCtorEq, z_1, nI_add, z_cl, z_ib, z_lt, z_le, z_eq, z_eq0, z_le0, z_lt0, z_b0, z_b1, z_m1, z_and7, Int32.add_zero]
        by_cases d : a = n
        · subst d
          rw [if_pos rfl, Nat.sub_self]
          rfl
        · rw [if_neg d]
          obtain ⟨x, hx⟩ : ∃ x, n - a = x + 1 := ⟨n - a - 1, by omega⟩
          rw [hx]
          have := ih (k + 1) (a + 1) (by omega) (by omega) (by omega)
          rw [show n - (a + 1) = x by omega] at this
          exact this
      | false =>
        simp (disch := omega) only [pm_k_i, Option.toList_some, Option.toList_none, List.cons_append, List.nil_append, cond_true, cond_false, ↓reduceIte, reduceCtorEq, z_1, nI_add, z_cl, z_ib, z_lt, z_le, z_eq, z_eq0, z_le0, z_lt0, z_b0, z_b1, z_m1, z_and7, Int32.add_zero]
        exact ih (k + 1) a (by omega) ha (by omega)
  exact key (ev h) 0 0 (by omega) (Nat.zero_le _) (Nat.le_refl _)
theorem m_unbeaten_x (hF : pm_fix pt_me pt_Sg (pt_R L0 xs) F) (W : WF h) (H : MH h I) (Y : LYs h I) {x : Int32} (hx : x.toInt < 0) : (F 1300 4 [some (.ref 49), some (.int x), none, none] [] (81, pt_G, I, L)) = some (some (.int (if x = -1 then nI (cntP h (unb h)) else -1)), (81, pt_G, I, L)) := by
  have hE := ev_lt W
  rw [e1300_4 hF]
  refine ((lpI (G := fun k a => (F 1300 8 [some (.ref 49), some (.int x), some (.int (nI a)), some (.int (nI (k + 1)))] [] (81, pt_G, I, L))) (f := fun k a => bif unb h (k + 1) then a + 1 else a) (P := fun k a => a ≤ k) (n := ev h) (a := 0) (Nat.le_refl _) (fun k a hk ha => ⟨?_, ?_⟩)).1).trans ?_
  · try dsimp only
    rw [e1300_8 hF]
    simp (disch := omega) only [pm_k_i, Option.toList_some, Option.toList_none, List.cons_append, List.nil_append, cond_true, cond_false, ↓reduceIte, reduceCtorEq, z_1, nI_add, z_cl, z_ib, z_lt, z_le, z_eq, z_eq0, z_le0, z_lt0, z_b0, z_b1, z_m1, z_and7, Int32.add_zero, m_everyone hF W H, e1300_13 hF, show (k + 1 ≤ ev h) = True from propext ⟨fun _ => trivial, fun _ => by omega⟩, m_isUnbeaten hF W H Y (show 0 < k + 1 by omega) (show k + 1 ≤ ev h by omega), e1300_21 hF]
    cases unb h (k + 1) with
    | true =>
      have : (nI a = x) = False := propext ⟨fun q => by have q2 := congrArg Int32.toInt q; rw [nI_toInt (by omega)] at q2; omega, False.elim⟩
      simp (disch := omega) only [pm_k_i, Option.toList_some, Option.toList_none, List.cons_append, List.nil_append, cond_true, cond_false, ↓reduceIte, reduceCtorEq, z_1, nI_add, z_cl, z_ib, z_lt, z_le, z_eq, z_eq0, z_le0, z_lt0, z_b0, z_b1, z_m1, z_and7, Int32.add_zero, this]
    | false => simp (disch := omega) only [pm_k_i, Option.toList_some, Option.toList_none, List.cons_append, List.nil_append, cond_true, cond_false, ↓reduceIte, reduceCtorEq, z_1, nI_add, z_cl, z_ib, z_lt, z_le, z_eq, z_eq0, z_le0, z_lt0, z_b0, z_b1, z_m1, z_and7, Int32.add_zero]
  · cases unb h (k + 1)
    · show a ≤ _; omega
    · show a + 1 ≤ _; omega
  · try dsimp only
    rw [e1300_8 hF]
    simp (disch := omega) only [pm_k_i, Option.toList_some, Option.toList_none, List.cons_append, List.nil_append, cond_true, cond_false, ↓reduceIte, reduceCtorEq, z_1, nI_add, z_cl, z_ib, z_lt, z_le, z_eq, z_eq0, z_le0, z_lt0, z_b0, z_b1, z_m1, z_and7, Int32.add_zero, m_everyone hF W H, e1300_13 hF, show (ev h + 1 ≤ ev h) = False from propext ⟨fun hh => by omega, False.elim⟩]
    by_cases q : x = -1
    · rw [if_pos q, if_pos q]; rfl
    · rw [if_neg q, if_neg q]
theorem m_dream_run (hF : pm_fix pt_me pt_Sg (pt_R L0 xs) F) (W : WF h) (H : MH h I) (Y : LYs h I) {p : Nat} (hp : p < h 0 0) : (F 1308 14 [some (.ref 49), some (.int (nI p)), none, none] [] (81, pt_G, I, L)) = some (some (.int (nI (drm h p))), (81, pt_G, I, L)) := by
  have hE := ev_lt W
  have hP := W.P
  rw [e1308_14 hF]
  refine ((lpI (G := fun k b => (F 1308 18 [some (.ref 49), some (.int (nI p)), some (.int (nI b)), some (.int (nI (k + 1)))] [] (81, pt_G, I, L))) (f := dr1 h p) (P := fun k b => b ≤ k) (n := ev h) (a := 0) (Nat.le_refl _) (fun k b hk hb => ⟨?_, ?_⟩)).1).trans ?_
  · try dsimp only
    rw [e1308_18 hF]
    simp (disch := omega) only [pm_k_i, Option.toList_some, Option.toList_none, List.cons_append, List.nil_append, cond_true, cond_false, ↓reduceIte, reduceCtorEq, z_1, nI_add, z_cl, z_ib, z_lt, z_le, z_eq, z_eq0, z_le0, z_lt0, z_b0, z_b1, z_m1, z_and7, Int32.add_zero, m_everyone hF W H, e1308_23 hF, show (k + 1 ≤ ev h) = True from propext ⟨fun _ => trivial, fun _ => by omega⟩, m_can hF W H, e1308_31 hF]
    unfold dr1
    cases g : can h (k + 1) with
    | false => simp (disch := omega) only [pm_k_i, Option.toList_some, Option.toList_none, List.cons_append, List.nil_append, cond_true, cond_false, ↓reduceIte, reduceCtorEq, z_1, nI_add, z_cl, z_ib, z_lt, z_le, z_eq, z_eq0, z_le0, z_lt0, z_b0, z_b1, z_m1, z_and7, Int32.add_zero, Bool.false_and]
    | true =>
      simp (disch := omega) only [pm_k_i, Option.toList_some, Option.toList_none, List.cons_append, List.nil_append, cond_true, cond_false, ↓reduceIte, reduceCtorEq, z_1, nI_add, z_cl, z_ib, z_lt, z_le, z_eq, z_eq0, z_le0, z_lt0, z_b0, z_b1, z_m1, z_and7, Int32.add_zero, Bool.true_and]
      by_cases z : b = 0
      · rw [if_pos z, z]; rfl
      · rw [if_neg z, beq_f z, Bool.false_or]
        simp (disch := omega) only [pm_k_i, Option.toList_some, Option.toList_none, List.cons_append, List.nil_append, cond_true, cond_false, ↓reduceIte, reduceCtorEq, z_1, nI_add, z_cl, z_ib, z_lt, z_le, z_eq, z_eq0, z_le0, z_lt0, z_b0, z_b1, z_m1, z_and7, Int32.add_zero, z_7m, (Y (k + 1) (by omega) (by omega) p hp).1, (Y b (by omega) (by omega) p hp).1]
        by_cases q : pyc h (k + 1) p ≤ pyc h b p
        · rw [if_pos q, decide_eq_false (Int32.not_lt.mpr q)]; rfl
        · rw [if_neg q, decide_eq_true (Int32.not_le.mp q)]; rfl
  · unfold dr1
    cases (can h (k + 1) && (Nat.beq b 0 || decide (pyc h b p < pyc h (k + 1) p)))
    · show b ≤ _; omega
    · exact Nat.le_refl _
  · try dsimp only
    rw [e1308_18 hF]
    simp (disch := omega) only [pm_k_i, Option.toList_some, Option.toList_none, List.cons_append, List.nil_append, cond_true, cond_false, ↓reduceIte, reduceCtorEq, z_1, nI_add, z_cl, z_ib, z_lt, z_le, z_eq, z_eq0, z_le0, z_lt0, z_b0, z_b1, z_m1, z_and7, Int32.add_zero, m_everyone hF W H, e1308_23 hF, show (ev h + 1 ≤ ev h) = False from propext ⟨fun hh => by omega, False.elim⟩]
    rfl
theorem m_drift_run (hF : pm_fix pt_me pt_Sg (pt_R L0 xs) F) (W : WF h) (Y : ∀ c, 0 < c → c ≤ ev h → I 75 c = nI (rvl h c)) {c : Nat} (h0 : 0 < c) (hc : c ≤ ev h) (b : Bool) : ∃ I', (F 1309 24 [some (.ref 49), some (.int (nI c)), some (.int (nI b.toNat)), none, none] [] (81, pt_G, I, L)) = some (some (.int (bif b then (bif Nat.beq (rvl h (drS h c (drN h c)).1) 0 then nI (drS h c (drN h c)).1 else 0) else nI (drN h c))), (81, pt_G, I', L)) ∧ ∀ r k, r ≠ 76 → I' r k = I r k := by
  have hE := ev_lt W
  rw [e1309_24 hF]
  refine wl (Q := fun r => ∃ I', r = some (some (.int (bif b then (bif Nat.beq (rvl h (drS h c (drN h c)).1) 0 then nI (drS h c (drN h c)).1 else 0) else nI (drN h c))), (81, pt_G, I', L)) ∧ ∀ r k, r ≠ 76 → I' r k = I r k) (G := fun k J => (F 1309 26 [some (.ref 49), some (.int (nI c)), some (.int (nI b.toNat)), some (.int (nI k)), none] [] (81, pt_G, J, L))) (P := fun k J => (∀ r j, r ≠ 76 → J r j = I r j) ∧ ∀ x, x < k → J 76 x = 0) (n := 128) (fun k J hk hJ go => ?_) (fun J hJ => ?_) 0 I (Nat.zero_le _) ⟨fun _ _ _ => rfl, fun x hx => by omega⟩
  · rw [e1309_26 hF, show (128 : Int32) = nI 128 from rfl]
    simp (disch := omega) only [pm_k_i, Option.toList_some, Option.toList_none, List.cons_append, List.nil_append, cond_true, cond_false, ↓reduceIte, reduceCtorEq, z_1, nI_add, z_cl, z_ib, z_lt, z_le, z_eq, z_eq0, z_le0, z_lt0, z_b0, z_b1, z_m1, z_and7, Int32.add_zero, hk, vb0]
    refine go _ ⟨fun r j hr => by rw [z_ur hr]; exact hJ.1 r j hr, fun x hx => ?_⟩
    by_cases q : x = k
    · subst q; rw [z_ue]
    · rw [z_uk q]; exact hJ.2 x (by omega)
  · obtain ⟨j1, j2⟩ := hJ
    rw [e1309_26 hF, if_neg (by decide)]
    simp (disch := omega) only [pm_k_i, Option.toList_some, Option.toList_none, List.cons_append, List.nil_append, cond_true, cond_false, ↓reduceIte, reduceCtorEq, z_1, nI_add, z_cl, z_ib, z_lt, z_le, z_eq, z_eq0, z_le0, z_lt0, z_b0, z_b1, z_m1, z_and7, Int32.add_zero, vb1]
    refine wl (Q := fun r => ∃ I', r = some (some (.int (bif b then (bif Nat.beq (rvl h (drS h c (drN h c)).1) 0 then nI (drS h c (drN h c)).1 else 0) else nI (drN h c))), (81, pt_G, I', L)) ∧ ∀ r k, r ≠ 76 → I' r k = I r k) (G := fun n N => (F 1309 58 [some (.ref 49), some (.int (nI c)), some (.int (nI b.toNat)), some (.int (nI (drS h c n).1)), some (.int (nI n))] [] (81, pt_G, N, L))) (P := fun n N => (∀ r k, r ≠ 76 → N r k = I r k) ∧ ∀ x, x < 128 → N 76 x = nI ((drS h c n).2 x).toNat) (n := drN h c) (fun n N hn hN go => ?_) (fun N hN => ?_) 0 (pm_ui J 76 c 1) (Nat.zero_le _) ⟨fun r k b => by rw [z_ur b]; exact j1 r k b, fun x hx => ?_⟩
    · obtain ⟨n1, n3⟩ := hN
      obtain ⟨d1, d2, d3⟩ := ff_some (drN_some W h0 hc)
      have q1 := d3 n hn
      obtain ⟨k0, k1, k2⟩ := drS_ok W h0 hc (n := n + 1) (fun i hi => d3 i (by omega))
      obtain ⟨l0, l1, l2⟩ := drS_ok W h0 hc (n := n) (fun i hi => d3 i (by omega))
      have q2 := q1
      unfold drE at q2
      rw [Bool.or_eq_false_iff] at q2
      have r0 : 0 < rvl h (drS h c n).1 := k0
      have r1 : rvl h (drS h c n).1 ≤ ev h := k1
      have n4 := n3 (rvl h (drS h c n).1) (by omega)
      rw [q2.2] at n4
      have n5 : N 75 (drS h c n).1 = nI (rvl h (drS h c n).1) := by rw [n1 75 _ (by omega)]; exact Y _ l0 l1
      try dsimp only
      rw [e1309_58 hF]
      simp (disch := omega) only [pm_k_i, Option.toList_some, Option.toList_none, List.cons_append, List.nil_append, cond_true, cond_false, ↓reduceIte, reduceCtorEq, z_1, nI_add, z_cl, z_ib, z_lt, z_le, z_eq, z_eq0, z_le0, z_lt0, z_b0, z_b1, z_m1, z_and7, Int32.add_zero, n5, show (rvl h (drS h c n).1 = 0) = False from propext ⟨fun hh => by omega, False.elim⟩, n4, show nI false.toNat = 0 from rfl, eq_self, vb1]
      refine go _ ⟨fun r k b => by rw [z_ur b]; exact n1 r k b, fun x hx => ?_⟩
      show _ = nI (Nat.beq x (rvl h (drS h c n).1) || (drS h c n).2 x).toNat
      by_cases q : x = rvl h (drS h c n).1
      · rw [q, z_ue, Nat.beq_refl]; rfl
      · rw [z_uk q, beq_f q, Bool.false_or]; exact n3 x hx
    · obtain ⟨n1, n3⟩ := hN
      obtain ⟨d1, d2, d3⟩ := ff_some (drN_some W h0 hc)
      obtain ⟨l0, l1, l2⟩ := drS_ok W h0 hc (n := drN h c) (fun i hi => d3 i (by omega))
      have r1 := (rvl_le W (drS h c (drN h c)).1).1
      have n5 : N 75 (drS h c (drN h c)).1 = nI (rvl h (drS h c (drN h c)).1) := by rw [n1 75 _ (by omega)]; exact Y _ l0 l1
      unfold drE at d2
      try dsimp only
      rw [e1309_58 hF]
      by_cases z : rvl h (drS h c (drN h c)).1 = 0
      · rw [z] at n5 ⊢
        simp (disch := omega) only [pm_k_i, Option.toList_some, Option.toList_none, List.cons_append, List.nil_append, cond_true, cond_false, ↓reduceIte, reduceCtorEq, z_1, nI_add, z_cl, z_ib, z_lt, z_le, z_eq, z_eq0, z_le0, z_lt0, z_b0, z_b1, z_m1, z_and7, Int32.add_zero, n5, eq_self]
        refine ⟨N, ?_, n1⟩
        cases b <;> rfl
      · rw [beq_f z, Bool.false_or] at d2
        have n4 := n3 (rvl h (drS h c (drN h c)).1) (by omega)
        rw [d2] at n4
        simp (disch := omega) only [pm_k_i, Option.toList_some, Option.toList_none, List.cons_append, List.nil_append, cond_true, cond_false, ↓reduceIte, reduceCtorEq, z_1, nI_add, z_cl, z_ib, z_lt, z_le, z_eq, z_eq0, z_le0, z_lt0, z_b0, z_b1, z_m1, z_and7, Int32.add_zero, n5, z, n4, show nI true.toNat = 1 from rfl]
        rw [beq_f z]
        refine ⟨N, ?_, n1⟩
        cases b <;> rfl
    · show pm_ui J 76 c 1 76 x = nI (Nat.beq x c).toNat
      by_cases q : x = c
      · rw [q, z_ue, Nat.beq_refl]; rfl
      · rw [z_uk q, beq_f q]; exact j2 x hx
/-! enough -/
def eno (h : Nat → Nat → Nat) (C p : Nat) : Option Nat := match ff (fun k => decide (ned h (sIn h (ev h) - h 1 p + (k + 1)) ≤ sIn h C - h 1 p + (k + 1))) 999 with
  | some k => some (k + 1)
  | none => none
theorem sIn_ge (W : WF h) {C p : Nat} (hC : C < 256) (hp : p < h 0 0) (hb : C.testBit p = true) : h 1 p ≤ sIn h C := by
  have := sIn_rm W hC hp hb
  omega
theorem ev_tb (W : WF h) {p : Nat} (hp : p < h 0 0) : (ev h).testBit p = true := by
  have hP := W.P
  unfold ev
  rw [all_tb (h 0 0) (by omega) p (by omega)]
  exact decide_eq_true hp
theorem c_seatsToLead (hF : pm_fix pt_me pt_Sg (pt_R L0 xs) F) (W : WF h) (H : CH h I) {C p : Nat} (hC : C ≤ ev h) (hp : p < h 0 0) (hb : C.testBit p = true) : (F 530 0 [some (.ref 3), some (.int (nI C)), some (.int (nI p)), none, none, none] [] (81, pt_G, I, L)) = some (some (.int (oI (eno h C p))), (81, pt_G, I, L)) := by
  have hE := ev_lt W
  have hP := W.P
  have s1 := sIn_ge W (show C < 256 by omega) hp hb
  have s2 := sIn_ge W (show ev h < 256 by omega) hp (ev_tb W hp)
  have s3 := sIn_le W C
  have s4 := sIn_le W (ev h)
  rw [e530_0 hF]
  simp (disch := omega) only [pm_k_i, Option.toList_some, Option.toList_none, List.cons_append, List.nil_append, cond_true, cond_false, ↓reduceIte, reduceCtorEq, z_1, nI_add, z_cl, z_ib, z_lt, z_le, z_eq, z_eq0, z_le0, z_lt0, z_b0, z_b1, z_m1, z_and7, Int32.add_zero, c_seatsIn hF W H, e530_5 hF, c_seatsOf hF W H, e530_10 hF, c_everyone hF W H, e530_17 hF, e530_20 hF, e530_25 hF, pk_sub]
  refine (ffE (G := fun k => (F 530 31 [some (.ref 3), some (.int (nI C)), some (.int (nI p)), some (.int (nI (sIn h C - h 1 p))), some (.int (nI (sIn h (ev h) - h 1 p))), some (.int (nI (k + 1)))] [] (81, pt_G, I, L))) (X := fun k => (some (some (.int (nI (k + 1))), (81, pt_G, I, L)) : pm_R)) (p := fun k => decide (ned h (sIn h (ev h) - h 1 p + (k + 1)) ≤ sIn h C - h 1 p + (k + 1))) (n := 999) (fun k hk => ?_)).trans ?_
  · try dsimp only
    have nl := ned_le W (a := sIn h (ev h) - h 1 p + (k + 1)) (by omega)
    rw [e530_31 hF, show (999 : Int32) = nI 999 from rfl]
    simp (disch := omega) only [pm_k_i, Option.toList_some, Option.toList_none, List.cons_append, List.nil_append, cond_true, cond_false, ↓reduceIte, reduceCtorEq, z_1, nI_add, z_cl, z_ib, z_lt, z_le, z_eq, z_eq0, z_le0, z_lt0, z_b0, z_b1, z_m1, z_and7, Int32.add_zero, show (k + 1 ≤ 999) = True from propext ⟨fun _ => trivial, fun _ => by omega⟩, c_needOf hF W H, e530_52 hF]
    by_cases q : sIn h C - h 1 p + (k + 1) < ned h (sIn h (ev h) - h 1 p + (k + 1))
    · rw [if_pos q, decide_eq_false (by omega)]; rfl
    · rw [if_neg q, decide_eq_true (by omega)]; rfl
  · unfold eno
    cases ff (fun k => decide (ned h (sIn h (ev h) - h 1 p + (k + 1)) ≤ sIn h C - h 1 p + (k + 1))) 999 with
    | some k => rfl
    | none =>
      dsimp only
      rw [e530_31 hF, if_neg (by decide)]
      rfl
theorem m_enough_run (hF : pm_fix pt_me pt_Sg (pt_R L0 xs) F) (W : WF h) (H : MH h I) {C p : Nat} (hC : C ≤ ev h) (hp : p < h 0 0) (hb : C.testBit p = true) : (F 1301 21 [some (.ref 49), some (.int (nI C)), some (.int (nI p)), none, none, none] [.int (nI true.toNat)] (81, pt_G, I, L)) = some (some (.int (oI (eno h C p))), (81, pt_G, I, L)) := by
  have hE := ev_lt W
  have hP := W.P
  have hn := W.need
  have s1 := sIn_ge W (show C < 256 by omega) hp hb
  have s2 := sIn_ge W (show ev h < 256 by omega) hp (ev_tb W hp)
  have s3 := sIn_le W C
  have s4 := sIn_le W (ev h)
  rw [e1301_21 hF]
  simp (disch := omega) only [pm_k_i, Option.toList_some, Option.toList_none, List.cons_append, List.nil_append, cond_true, cond_false, ↓reduceIte, reduceCtorEq, z_1, nI_add, z_cl, z_ib, z_lt, z_le, z_eq, z_eq0, z_le0, z_lt0, z_b0, z_b1, z_m1, z_and7, Int32.add_zero, m_seatsIn hF W H, e1301_31 hF, m_seatsOf hF W H, e1301_36 hF, m_everyone hF W H, e1301_43 hF, e1301_46 hF, e1301_51 hF, pk_sub]
  refine (ffE (G := fun k => (F 1301 57 [some (.ref 49), some (.int (nI C)), some (.int (nI p)), some (.int (nI (sIn h C - h 1 p))), some (.int (nI (sIn h (ev h) - h 1 p))), some (.int (nI (k + 1)))] [] (81, pt_G, I, L))) (X := fun k => (some (some (.int (nI (k + 1))), (81, pt_G, I, L)) : pm_R)) (p := fun k => decide (ned h (sIn h (ev h) - h 1 p + (k + 1)) ≤ sIn h C - h 1 p + (k + 1))) (n := 999) (fun k hk => ?_)).trans ?_
  · try dsimp only
    rw [e1301_57 hF, show (999 : Int32) = nI 999 from rfl, H.need]
    simp (disch := omega) only [pm_k_i, Option.toList_some, Option.toList_none, List.cons_append, List.nil_append, cond_true, cond_false, ↓reduceIte, reduceCtorEq, z_1, nI_add, z_cl, z_ib, z_lt, z_le, z_eq, z_eq0, z_le0, z_lt0, z_b0, z_b1, z_m1, z_and7, Int32.add_zero, show (k + 1 ≤ 999) = True from propext ⟨fun _ => trivial, fun _ => by omega⟩]
    by_cases c : h 0 4 = 0
    · rw [if_pos c, if_pos rfl]
      simp (disch := omega) only [pm_k_i, Option.toList_some, Option.toList_none, List.cons_append, List.nil_append, cond_true, cond_false, ↓reduceIte, reduceCtorEq, z_1, nI_add, z_cl, z_ib, z_lt, z_le, z_eq, z_eq0, z_le0, z_lt0, z_b0, z_b1, z_m1, z_and7, Int32.add_zero, decide_false, Bool.not_false, z_d2]
      have nd : ned h (sIn h (ev h) - h 1 p + (k + 1)) = (sIn h (ev h) - h 1 p + (k + 1)) / 2 + 1 := by unfold ned; rw [c]; rfl
      rw [nd]
      by_cases q : sIn h C - h 1 p + (k + 1) < (sIn h (ev h) - h 1 p + (k + 1)) / 2 + 1
      · rw [if_pos q, decide_eq_false (by omega)]; rfl
      · rw [if_neg q, decide_eq_true (by omega)]; rfl
    · rw [if_neg c]
      simp (disch := omega) only [pm_k_i, Option.toList_some, Option.toList_none, List.cons_append, List.nil_append, cond_true, cond_false, ↓reduceIte, reduceCtorEq, z_1, nI_add, z_cl, z_ib, z_lt, z_le, z_eq, z_eq0, z_le0, z_lt0, z_b0, z_b1, z_m1, z_and7, Int32.add_zero]
      have nd : ned h (sIn h (ev h) - h 1 p + (k + 1)) = h 0 4 := by unfold ned; rw [show Nat.blt 0 (h 0 4) = true from Nat.ble_eq_true_of_le (show 1 ≤ h 0 4 by omega)]; rfl
      rw [nd]
      by_cases q : sIn h C - h 1 p + (k + 1) < h 0 4
      · rw [if_pos q, decide_eq_false (by omega)]; rfl
      · rw [if_neg q, decide_eq_true (by omega)]; rfl
  · unfold eno
    cases ff (fun k => decide (ned h (sIn h (ev h) - h 1 p + (k + 1)) ≤ sIn h C - h 1 p + (k + 1))) 999 with
    | some k => rfl
    | none =>
      dsimp only
      rw [e1301_57 hF, if_neg (by decide)]
      rfl
/-! span -/
theorem gpl_0 (C : Nat) : lp (fun p a => bif C.testBit p then max a (h 2 p) else a) (h 0 0) 0 = (gpl h C).getD 0 := by
  unfold gpl
  have : ∀ n, lp (fun p a => bif C.testBit p then max a (h 2 p) else a) n 0 = (lp (fun p b => bif C.testBit p then some (gp1 b (h 2 p)) else b) n none).getD 0 := by
    intro n
    induction n with
    | zero => rfl
    | succ n ih =>
      show (bif C.testBit n then max (lp _ n 0) (h 2 n) else lp _ n 0) = (bif C.testBit n then some (gp1 (lp _ n none) (h 2 n)) else lp _ n none).getD 0
      rw [ih]
      cases C.testBit n
      · rfl
      · show max ((lp (fun p b => bif C.testBit p then some (gp1 b (h 2 p)) else b) n none).getD 0) (h 2 n) = gp1 (lp (fun p b => bif C.testBit p then some (gp1 b (h 2 p)) else b) n none) (h 2 n)
        cases lp (fun p b => bif C.testBit p then some (gp1 b (h 2 p)) else b) n none with
        | none => show max 0 (h 2 n) = h 2 n; omega
        | some q => rfl
  exact this _
theorem m_span_run (hF : pm_fix pt_me pt_Sg (pt_R L0 xs) F) (W : WF h) (H : MH h I) {C : Nat} (h0 : 0 < C) (hC : C ≤ ev h) : (F 1302 18 [some (.ref 49), some (.int (nI C)), some (.int 99), some (.int 0), some (.int 0)] [] (81, pt_G, I, L)) = some (some (.int (nI (gpv h C) - nI (lpi h C 999))), (81, pt_G, I, L)) := by
  have hP := W.P
  have hE := ev_lt W
  refine ((lpI (G := fun k (b : Nat × Nat) => (F 1302 18 [some (.ref 49), some (.int (nI C)), some (.int (nI b.1)), some (.int (nI b.2)), some (.int (nI k))] [] (81, pt_G, I, L))) (f := fun p b => (bif C.testBit p then min b.1 (h 2 p) else b.1, bif C.testBit p then max b.2 (h 2 p) else b.2)) (P := fun _ b => b.1 ≤ 99 ∧ b.2 ≤ 99) (n := h 0 0) (a := (99, 0)) ⟨Nat.le_refl _, Nat.zero_le _⟩ (fun k b hk hb => ⟨?_, ?_⟩)).1).trans ?_
  · obtain ⟨x, y⟩ := b
    obtain ⟨b1, b2⟩ := hb
    try dsimp only at b1 b2
    try dsimp only
    have hp := W.place k
    rw [e1302_18 hF]
    simp (disch := omega) only [pm_k_i, Option.toList_some, Option.toList_none, List.cons_append, List.nil_append, cond_true, cond_false, ↓reduceIte, reduceCtorEq, z_1, nI_add, z_cl, z_ib, z_lt, z_le, z_eq, z_eq0, z_le0, z_lt0, z_b0, z_b1, z_m1, z_and7, Int32.add_zero, H.P, hk, m_holds hF, e1302_33 hF]
    cases C.testBit k
    · simp (disch := omega) only [pm_k_i, Option.toList_some, Option.toList_none, List.cons_append, List.nil_append, cond_true, cond_false, ↓reduceIte, reduceCtorEq, z_1, nI_add, z_cl, z_ib, z_lt, z_le, z_eq, z_eq0, z_le0, z_lt0, z_b0, z_b1, z_m1, z_and7, Int32.add_zero]
    · simp (disch := omega) only [pm_k_i, Option.toList_some, Option.toList_none, List.cons_append, List.nil_append, cond_true, cond_false, ↓reduceIte, reduceCtorEq, z_1, nI_add, z_cl, z_ib, z_lt, z_le, z_eq, z_eq0, z_le0, z_lt0, z_b0, z_b1, z_m1, z_and7, Int32.add_zero, H.place, m_greater hF, e1302_73 hF]
      by_cases q : h 2 k < x
      · rw [if_pos q, Nat.min_eq_right (by omega)]
      · rw [if_neg q, Nat.min_eq_left (by omega)]
  · obtain ⟨x, y⟩ := b
    obtain ⟨b1, b2⟩ := hb
    try dsimp only at b1 b2
    have hp := W.place k
    cases C.testBit k
    · exact ⟨b1, b2⟩
    · exact ⟨by show min x (h 2 k) ≤ 99; omega, by show max y (h 2 k) ≤ 99; omega⟩
  · rw [lp_pair (fun p a => bif C.testBit p then min a (h 2 p) else a) (fun p b => bif C.testBit p then max b (h 2 p) else b), gpl_0]
    show (F 1302 18 [some (.ref 49), some (.int (nI C)), some (.int (nI (lpi h C 99))), some (.int (nI (gpv h C))), some (.int (nI (h 0 0)))] [] (81, pt_G, I, L)) = _
    rw [lpi_eq W h0 hC (by omega) (by omega), e1302_18 hF]
    simp (disch := omega) only [pm_k_i, Option.toList_some, Option.toList_none, List.cons_append, List.nil_append, cond_true, cond_false, ↓reduceIte, reduceCtorEq, z_1, nI_add, z_cl, z_ib, z_lt, z_le, z_eq, z_eq0, z_le0, z_lt0, z_b0, z_b1, z_m1, z_and7, Int32.add_zero, H.P, Nat.lt_irrefl]
end
