/-! ===== what holds, one coalition: its rival, who joins, where it drifts ===== -/
section
variable {S S' S0 S1 : qm_S} {F : qm_F} {J L0 : Nat} {xs : List Int32} {G : qm_R → Prop}
variable {h : Nat → Nat → Nat} {q C a c x s y z k5 : Nat} {w : Nat → Nat} {sn : Nat → SN} {x2 x3 : Int32}
theorem z_c1 (x4 : Nat) : nI x4 + 1 = nI (x4 + 1) := z_1 x4
theorem h_drift (hF : qm_fix cO qt_me qt_qs (qt_C L0 xs) J F) (h4 : h 0 0 ≤ 4) (c0 : 0 < c) (cl : c ≤ ev h) {m : Nat} {x7 : Int32} {x8 : Int32} (hk : ∀ S, HZ q h C w a sn m S0 x s S → G (F 8 78 [some (.inr (0, z)), some (.inr (1, y)), some (.inl x2), some (.inl x3), some (.inl (nI (c + 1))), none, none, none, none, none] [] S)) (H : HZ q h C w a sn m S0 x s S) : G (qm_o cO J 134 [.inr (0, z), .inl (nI c), .inl 1] S (fun v U => F 8 556 [some (.inr (0, z)), some (.inr (1, y)), some (.inl x2), some (.inl x3), some (.inl (nI c)), some (.inr (18, k5)), some (.inl (nI (kin h c))), some (.inl x7), some (.inl x8), none] (v.toList ++ []) U)) := by
  have hE := ev16 h4
  obtain ⟨b, X⟩ := H.1
  have W := X.W
  obtain ⟨Y, X1, e1⟩ := qa_drift (J := J) (z := z) (c := c) X c0 cl
  obtain ⟨d1, d2, d3⟩ := ff_some (drN_some W c0 cl)
  obtain ⟨k0, k1, k2⟩ := drS_ok W c0 cl (n := drN h c) (fun i hi => d3 i (by omega))
  generalize (drS h c (drN h c)).1 = t at e1 k0 k1 k2
  rw [e1]
  simp only [Option.toList_some, Option.toList_none, List.cons_append, List.nil_append, List.append_nil]
  by_cases r0 : rvl h t = 0
  · obtain ⟨Y2, X2, e2⟩ := qa_rival (J := J) (z := z) (S := qm_sC S Y) (c := t) X1 k0 k1
    rw [r0, Nat.beq_refl]
    show G (F 8 556 [some (.inr (0, z)), some (.inr (1, y)), some (.inl x2), some (.inl x3), some (.inl (nI c)), some (.inr (18, k5)), some (.inl (nI (kin h c))), some (.inl x7), some (.inl x8), none] [.inl (nI t)] (qm_sC S Y))
    rw [q8_556 hF, if_neg (nI_nle k0 (by omega)), e2]
    simp only [Option.toList_some, Option.toList_none, List.cons_append, List.nil_append, List.append_nil]
    rw [q8_569 hF, r0, if_pos (show nI 0 = 0 from rfl), z_1]
    exact hk _ ((H.sC X1).sC X2)
  · rw [beq_f r0]
    show G (F 8 556 [some (.inr (0, z)), some (.inr (1, y)), some (.inl x2), some (.inl x3), some (.inl (nI c)), some (.inr (18, k5)), some (.inl (nI (kin h c))), some (.inl x7), some (.inl x8), none] [.inl 0] (qm_sC S Y))
    rw [q8_556 hF, if_pos (by decide), z_1]
    exact hk _ (H.sC X1)
theorem h_528 (hF : qm_fix cO qt_me qt_qs (qt_C L0 xs) J F) (h4 : h 0 0 ≤ 4) (c0 : 0 < c) (cl : c ≤ ev h) {m : Nat} {x7 : Int32} {x8 : Int32} {t : Nat} (ct : can h t = true) (hx : x8 = 0 ∨ can h c = false) (hk : ∀ S, HZ q h C w a sn m S0 x s S → G (F 8 78 [some (.inr (0, z)), some (.inr (1, y)), some (.inl x2), some (.inl x3), some (.inl (nI (c + 1))), none, none, none, none, none] [] S)) (H : HZ q h C w a sn m S0 x s S) : G (F 8 528 [some (.inr (0, z)), some (.inr (1, y)), some (.inl x2), some (.inl x3), some (.inl (nI c)), some (.inr (18, k5)), some (.inl (nI (kin h c))), some (.inl x7), some (.inl x8), none] [.inl (nI (kin h t))] S) := by
  obtain ⟨b16, b3, b4, b1⟩ := kin_b (h := h) t
  obtain ⟨d16, d3, d4, d1⟩ := kin_b (h := h) c
  rw [q8_528 hF, if_pos (b3.mpr ct)]
  by_cases z8 : x8 = 0
  · rw [if_pos z8]
    exact h_drift hF h4 c0 cl hk H
  · rw [if_neg z8]
    rcases hx with hx | hx
    · exact absurd hx z8
    · rw [if_neg (fun e => by have := d3.mp e; rw [hx] at this; cases this)]
      exact h_drift hF h4 c0 cl hk H
theorem h_504 (hF : qm_fix cO qt_me qt_qs (qt_C L0 xs) J F) (h4 : h 0 0 ≤ 4) (c0 : 0 < c) (cl : c ≤ ev h) {m : Nat} {x7 : Int32} {o8 : Option qm_V} (hk : ∀ S, HZ q h C w a sn m S0 x s S → G (F 8 78 [some (.inr (0, z)), some (.inr (1, y)), some (.inl x2), some (.inl x3), some (.inl (nI (c + 1))), none, none, none, none, none] [] S)) (H : HZ q h C w a sn m S0 x s S) : G (qm_o cO J 132 [.inr (0, z), .inl (nI c)] S (fun v U => F 8 504 [some (.inr (0, z)), some (.inr (1, y)), some (.inl x2), some (.inl x3), some (.inl (nI c)), some (.inr (18, k5)), some (.inl (nI (kin h c))), some (.inl x7), o8, none] (v.toList ++ []) U)) := by
  have hE := ev16 h4
  obtain ⟨b, X⟩ := H.1
  have W := X.W
  obtain ⟨d16, d3, d4, d1⟩ := kin_b (h := h) c
  obtain ⟨Y, X1, e1⟩ := qa_joins (J := J) (z := z) (c := c) X c0 cl
  rw [e1]
  simp only [Option.toList_some, Option.toList_none, List.cons_append, List.nil_append, List.append_nil]
  cases cc : can h c with
  | true =>
    show G (F 8 504 [some (.inr (0, z)), some (.inr (1, y)), some (.inl x2), some (.inl x3), some (.inl (nI c)), some (.inr (18, k5)), some (.inl (nI (kin h c))), some (.inl x7), o8, none] [.inl (nI 0)] (qm_sC S Y))
    obtain ⟨Y2, X2, e2⟩ := qa_kind (J := J) (z := z) (S := qm_sC S Y) (c := c ||| 0) X1 (by rw [Nat.or_zero]; exact c0) (by rw [Nat.or_zero]; exact cl)
    rw [q8_504 hF, if_neg (by decide), nx_and, Nat.zero_and, if_pos (show nI 0 = 0 from rfl), nx_or, e2]
    simp only [Option.toList_some, Option.toList_none, List.cons_append, List.nil_append, List.append_nil]
    exact h_528 hF h4 c0 cl (by rw [Nat.or_zero]; exact cc) (Or.inl rfl) hk ((H.sC X1).sC X2)
  | false =>
    cases jj : joi h c with
    | none =>
      show G (F 8 504 [some (.inr (0, z)), some (.inr (1, y)), some (.inl x2), some (.inl x3), some (.inl (nI c)), some (.inr (18, k5)), some (.inl (nI (kin h c))), some (.inl x7), o8, none] [.inl (-1)] (qm_sC S Y))
      rw [q8_504 hF, if_pos (by decide), if_neg (by decide), if_neg (fun e => by have := d3.mp e; rw [cc] at this; cases this)]
      exact h_drift hF h4 c0 cl hk (H.sC X1)
    | some j =>
      show G (F 8 504 [some (.inr (0, z)), some (.inr (1, y)), some (.inl x2), some (.inl x3), some (.inl (nI c)), some (.inr (18, k5)), some (.inl (nI (kin h c))), some (.inl x7), o8, none] [.inl (nI j)] (qm_sC S Y))
      obtain ⟨j1, j2, j3, j5⟩ := joi_ok jj
      have j4 : can h (c ||| j) = true := by rw [Nat.or_comm]; exact j5
      obtain ⟨Y2, X2, e2⟩ := qa_kind (J := J) (z := z) (S := qm_sC S Y) (c := c ||| j) X1 (Nat.lt_of_lt_of_le c0 Nat.left_le_or) (or_ev cl j2)
      rw [q8_504 hF, if_neg (nI_pos (by omega)), nx_and, j3, if_pos (show nI 0 = 0 from rfl), nx_or, e2]
      simp only [Option.toList_some, Option.toList_none, List.cons_append, List.nil_append, List.append_nil]
      exact h_528 hF h4 c0 cl j4 (Or.inr cc) hk ((H.sC X1).sC X2)
theorem h_490 (hF : qm_fix cO qt_me qt_qs (qt_C L0 xs) J F) (h4 : h 0 0 ≤ 4) (c0 : 0 < c) (cl : c ≤ ev h) {m : Nat} {x7 : Int32} {o8 : Option qm_V} {r : Nat} (r0 : 0 < r) (rl : r ≤ ev h) (cr : can h r = true) (hk : ∀ S, HZ q h C w a sn m S0 x s S → G (F 8 78 [some (.inr (0, z)), some (.inr (1, y)), some (.inl x2), some (.inl x3), some (.inl (nI (c + 1))), none, none, none, none, none] [] S)) (H : HZ q h C w a sn m S0 x s S) : G (qm_o cO J 121 [.inr (0, z), .inl (nI r)] S (fun v U => F 8 490 [some (.inr (0, z)), some (.inr (1, y)), some (.inl x2), some (.inl x3), some (.inl (nI c)), some (.inr (18, k5)), some (.inl (nI (kin h c))), some (.inl x7), o8, none] (v.toList ++ []) U)) := by
  obtain ⟨b, X⟩ := H.1
  obtain ⟨b16, b3, b4, b1⟩ := kin_b (h := h) r
  obtain ⟨Y, X1, e1⟩ := qa_kind (J := J) (z := z) (c := r) X r0 rl
  rw [e1]
  simp only [Option.toList_some, Option.toList_none, List.cons_append, List.nil_append, List.append_nil]
  rw [q8_490 hF, if_pos (b3.mpr cr)]
  exact h_504 hF h4 c0 cl hk (H.sC X1)
/-- each of a rival has more by it -/
theorem h_430 (hF : qm_fix cO qt_me qt_qs (qt_C L0 xs) J F) (h4 : h 0 0 ≤ 4) (c0 : 0 < c) (cl : c ≤ ev h) {m t e : Nat} (r0 : 0 < rvl h c) (hm : m ≤ t) (hk : ∀ S, HZ q h C w a sn m S0 x s S → G (F 8 78 [some (.inr (0, z)), some (.inr (1, y)), some (.inl x2), some (.inl x3), some (.inl (nI (c + 1))), none, none, none, none, none] [] S)) : ∀ (d i : Nat) (S : qm_S), i + d = (MB (rvl h c) (h 0 0)).length → HZ q h C w a sn m S0 x s S → ITS S t e (MB (rvl h c) (h 0 0)) i → G (F 8 430 [some (.inr (0, z)), some (.inr (1, y)), some (.inl x2), some (.inl x3), some (.inl (nI c)), some (.inr (18, k5)), some (.inl (nI (kin h c))), some (.inl (nI (rvl h c))), some (.inr (27, t)), none] [] S) := by
  have hE := ev16 h4
  have ml := MB_len (rvl h c) (h 0 0)
  intro d
  induction d with
  | zero =>
    intro i S id H T
    have iq : i = (MB (rvl h c) (h 0 0)).length := by omega
    have W := H.W
    have rv := rvl_le W c
    rw [q8_430 hF, j_hasNext hF T (by omega) (by omega), if_pos iq]
    simp only [qm_k_n, Option.toList_some, Option.toList_none, List.cons_append, List.nil_append, List.append_nil]
    rw [q8_437 hF, if_pos rfl, if_neg (nI_nle r0 (by omega))]
    exact h_490 hF h4 c0 cl r0 rv.1 (rv.2 r0) hk H
  | succ d ih =>
    intro i S id H T
    have W := H.W
    have rv := rvl_le W c
    obtain ⟨u1, u2⟩ := MB_in (r := rvl h c) (p := h 0 0) (i := i) (by omega)
    obtain ⟨S1, a1, a2, a3, a4, a5, a6⟩ := j_next27 hF T (by omega) (by omega)
    have H1 : HZ q h C w a sn m S0 x s S1 := by
      obtain ⟨⟨b, X⟩, y1, y2, y3⟩ := H
      exact ⟨⟨b, by show KS q h 0 b C w a sn S1.2.2.2.2.2.2; rw [a6]; exact X⟩, y1.tr (a3.mono hm), by omega, by omega⟩
    generalize (MB (rvl h c) (h 0 0)).getD i 0 = p at a1 u1 u2
    obtain ⟨b, X⟩ := H1.1
    obtain ⟨Y1, X1, e1⟩ := qa_pay (J := J) (z := z) (c := rvl h c) (p := p) X r0 rv.1 u1
    obtain ⟨Y2, X2, e2⟩ := qa_pay (J := J) (z := z) (S := qm_sC S1 Y1) (c := c) (p := p) X1 c0 cl u1
    rw [q8_430 hF, j_hasNext hF T (by omega) (by omega), if_neg (by omega)]
    simp only [qm_k_n, Option.toList_some, Option.toList_none, List.cons_append, List.nil_append, List.append_nil]
    rw [q8_437 hF, if_neg (by decide), a1]
    simp only [qm_k_n, Option.toList_some, Option.toList_none, List.cons_append, List.nil_append, List.append_nil]
    rw [q8_447 hF, j_iv hF (by omega)]
    simp only [qm_k_n, Option.toList_some, Option.toList_none, List.cons_append, List.nil_append, List.append_nil]
    rw [q8_453 hF, e1]
    simp only [Option.toList_some, Option.toList_none, List.cons_append, List.nil_append, List.append_nil]
    rw [q8_463 hF, e2]
    simp only [Option.toList_some, Option.toList_none, List.cons_append, List.nil_append, List.append_nil]
    rw [q8_471 hF, if_neg (rvl_mor r0 u1 u2)]
    exact ih (i + 1) _ (by omega) ((H1.sC X1).sC X2) a2
theorem h_1204 (hF : qm_fix cO qt_me qt_qs (qt_C L0 xs) J F) (h4 : h 0 0 ≤ 4) (c0 : 0 < c) (cl : c ≤ ev h) {m : Nat} (r0 : 0 < rvl h c) (hy : y < m) (hS : 1001 ≤ S0.1) (hm : m ≤ S0.1) (hP : qr_i S0 1 y 0 = nI (h 0 0)) (hk : ∀ S, HZ q h C w a sn m S0 (x + 6) (s + 47) S → G (F 8 78 [some (.inr (0, z)), some (.inr (1, y)), some (.inl x2), some (.inl x3), some (.inl (nI (c + 1))), none, none, none, none, none] [] S)) (H : HZ q h C w a sn m S0 x s S) : G (qm_k (F 1204 0 [some (.inr (1, y)), some (.inl (nI (rvl h c))), none, none] [] S) (fun v U => F 8 423 [some (.inr (0, z)), some (.inr (1, y)), some (.inl x2), some (.inl x3), some (.inl (nI c)), some (.inr (18, k5)), some (.inl (nI (kin h c))), some (.inl (nI (rvl h c))), none, none] (v.toList ++ []) U)) := by
  have hE := ev16 h4
  have W := H.W
  have rv := rvl_le W c
  have sm := H.2.1.2.2.2.1
  obtain ⟨S1, a1, a2, a3, a4, a5, a6, a7⟩ := j_of hF (y := y) (r := rvl h c) (P := h 0 0) (S := S) h4 (by omega) (by omega) (by omega) (H.P hy hP)
  obtain ⟨S2, b1, b2, b3, b4, b5, b6⟩ := j_iter hF a2 (by omega) (by omega)
  have f1 := a3.2.2.2.1
  have H2 : HZ q h C w a sn m S0 (x + 6) (s + 47) S2 := by
    obtain ⟨⟨b, X⟩, y1, y2, y3⟩ := H
    exact ⟨⟨b, by show KS q h 0 b C w a sn S2.2.2.2.2.2.2; rw [b6, a7]; exact X⟩, (y1.tr (a3.mono (by omega))).tr (b3.mono (by omega)), by omega, by omega⟩
  rw [a1]
  simp only [qm_k_n, Option.toList_some, Option.toList_none, List.cons_append, List.nil_append, List.append_nil]
  rw [q8_423 hF, b1]
  simp only [qm_k_n, Option.toList_some, Option.toList_none, List.cons_append, List.nil_append, List.append_nil]
  rw [q8_428 hF]
  exact h_430 hF h4 c0 cl (t := S1.1) (e := S.1) r0 (by omega) hk _ 0 S2 (Nat.zero_add _) H2 b2
theorem h_370 (hF : qm_fix cO qt_me qt_qs (qt_C L0 xs) J F) (h4 : h 0 0 ≤ 4) (c0 : 0 < c) (cl : c ≤ ev h) {m : Nat} (hy : y < m) (hS : 1001 ≤ S0.1) (hm : m ≤ S0.1) (hP : qr_i S0 1 y 0 = nI (h 0 0)) (hk : ∀ S, HZ q h C w a sn m S0 (x + 6) (s + 47) S → G (F 8 78 [some (.inr (0, z)), some (.inr (1, y)), some (.inl x2), some (.inl x3), some (.inl (nI (c + 1))), none, none, none, none, none] [] S)) (H : HZ q h C w a sn m S0 x s S) : G (F 8 370 [some (.inr (0, z)), some (.inr (1, y)), some (.inl x2), some (.inl x3), some (.inl (nI c)), some (.inr (18, k5)), some (.inl (nI (kin h c))), none, none, none] [.inl (nI (rvl h c))] S) := by
  have hE := ev16 h4
  have W := H.W
  have rv := rvl_le W c
  obtain ⟨d16, d3, d4, d1⟩ := kin_b (h := h) c
  have n1 : nI (kin h c) &&& 4 = 4 → ¬ nI (kin h c) &&& 1 = 0 := fun e1 e2 => by
    have := mnl_led (d4.mp e1)
    rw [d1.mp e2] at this
    cases this
  rw [q8_370 hF]
  rcases Nat.eq_zero_or_pos (rvl h c) with r0 | r0
  · rw [r0]
    have l0 : nI 0 ≤ 0 := by decide
    by_cases e16 : nI (kin h c) &&& 16 = 16
    · have ck := (Bool.and_eq_true_iff.mp (d16.mp e16)).1
      rw [if_pos e16, if_pos (show nI 0 = 0 from rfl), if_pos (d3.mpr ck)]
      by_cases e4 : nI (kin h c) &&& 4 = 4
      · rw [if_pos e4, if_neg (n1 e4), if_pos l0, if_pos l0]
        exact h_504 hF h4 c0 cl hk (H.le (by omega) (by omega))
      · rw [if_neg e4, if_pos l0, if_pos l0]
        exact h_504 hF h4 c0 cl hk (H.le (by omega) (by omega))
    · rw [if_neg e16]
      by_cases e4 : nI (kin h c) &&& 4 = 4
      · rw [if_pos e4, if_neg (n1 e4), if_pos l0, if_pos l0]
        exact h_504 hF h4 c0 cl hk (H.le (by omega) (by omega))
      · rw [if_neg e4, if_pos l0, if_pos l0]
        exact h_504 hF h4 c0 cl hk (H.le (by omega) (by omega))
  · have e16 : ¬ nI (kin h c) &&& 16 = 16 := fun e => by
      have := (Bool.and_eq_true_iff.mp (d16.mp e)).2
      have := Nat.eq_of_beq_eq_true this
      omega
    rw [if_neg e16]
    by_cases e4 : nI (kin h c) &&& 4 = 4
    · rw [if_pos e4, if_neg (n1 e4), if_neg (nI_nle r0 (by omega))]
      exact h_1204 hF h4 c0 cl r0 hy hS hm hP hk H
    · rw [if_neg e4, if_neg (nI_nle r0 (by omega))]
      exact h_1204 hF h4 c0 cl r0 hy hS hm hP hk H
end
