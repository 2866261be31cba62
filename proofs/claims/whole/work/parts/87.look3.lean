/-! ===== one call: turns, an office instead, turns that are kept, seats enough ===== -/
section
variable {h : Nat → Nat → Nat} {I I' : Nat → Nat → Int32} {L L' : Nat → Nat → Int64}
variable {q n C a : Nat} {b w : Nat → Nat} {fa pl : Int32} {sn : Nat → SN} {e v : Nat}
variable {F : pm_F} {L0 : Nat} {xs : Nat → Int32}
theorem hdn_ud (f s v u C : Nat) : ∀ i, hdn (ud (ud h 0 2 v) 0 3 u) f s C i = hdn h f s C i := by
  intro i
  induction i with
  | zero => rfl
  | succ i ih =>
    have e : ∀ g : Nat → Nat → Nat, hdn g f s C (i + 1) = inc (hdn g f s C i) ((nxt g f s (hdn g f s C i) C).getD 0) := fun _ => rfl
    rw [e, e, ih]
    rfl
theorem tw_ud (f s v u C i : Nat) : tw (ud (ud h 0 2 v) 0 3 u) f s C i = tw h f s C i := by
  unfold tw
  rw [hdn_ud]
  rfl
theorem c_turnBy (hF : pm_fix pt_me pt_Sg (pt_R L0 xs) F) (W : WF h) (H : CH h I) {x f s i : Int32} {k u : Nat} (hk : f = nI k) (hu : s = nI u) (k1 : 1 ≤ k) (k9 : k ≤ 99) (u1 : 1 ≤ u) (u9 : u ≤ 99) : (F 110 0 [some (.ref 0), some (.int x), some (.int f), some (.int s), some (.int i)] [] (81, pt_G, I, L)) = some (some (.int (bif vC h x && vP (h 0 1) i then nI (tw h k u x.toNatClampNeg i.toNatClampNeg) else -1)), (81, pt_G, I, L)) := by
  have hP := W.P
  have hO := W.O
  have hE := ev_lt W
  subst hk
  subst hu
  have d1 : vD (nI k) = true := by unfold vD; rw [nI_toInt (by omega)]; exact decide_eq_true (by omega)
  have d2 : vD (nI u) = true := by unfold vD; rw [nI_toInt (by omega)]; exact decide_eq_true (by omega)
  rw [e110_0 hF, c_hasCoalition hF W H]
  simp (disch := omega) only [pm_k_i, Option.toList_some, Option.toList_none, List.cons_append, List.nil_append, cond_true, cond_false, ↓reduceIte, reduceCtorEq, z_1, nI_add, z_cl, z_ib, z_lt, z_le, z_eq, z_eq0, z_le0, z_lt0, z_b0, z_b1, z_m1, z_and7, Int32.add_zero, e110_8 hF, H.O, g_vP, c_isDivisor hF, d1, d2, e110_34 hF, e110_41 hF, Bool.toNat_true]
  try rw [if_neg (show ¬ nI 1 = 0 from by decide)]
  cases hv : vC h x with
  | false => rfl
  | true =>
    cases hi : vP (h 0 1) i with
    | false => rfl
    | true =>
      obtain ⟨c, c0, cl, rfl⟩ := vC_of W hv
      obtain ⟨j, jl, rfl⟩ := vP_of (by omega) hi
      have mem := mem_ex W c0 cl
      obtain ⟨p, p1, p2⟩ := mem
      have K := tq_K8 W (f := k) (s := u) p1 p2 W.O
      have K : K8 (tq h k u c) := K
      have g := hp_lt K
      have e : tq h k u c j = tw h k u c j := by unfold tq; rw [show Nat.blt j (h 0 1) = true from Nat.ble_eq_true_of_le jl]; rfl
      simp (disch := omega) only [pm_k_i, Option.toList_some, Option.toList_none, List.cons_append, List.nil_append, cond_true, cond_false, ↓reduceIte, reduceCtorEq, z_1, nI_add, z_cl, z_ib, z_lt, z_le, z_eq, z_eq0, z_le0, z_lt0, z_b0, z_b1, z_m1, z_and7, Int32.add_zero, c_turnsOf hF W H c0 cl k9 u9, e110_56 hF, c_get hF, gs_hp K, e110_61 hF, e, Bool.true_and]
theorem s_turn (hF : pm_fix pt_me pt_Sg (pt_R L0 xs) F) (Z : GS h n b C w a sn) (X : K1 q h n b fa pl C w a sn I L) (Y : K2 h n b fa pl C w a sn I) (x i : Int32) : NXT q (F 109 0 [some (.ref 0), some (.int x), some (.int i)] [] (81, pt_G, I, L)) (fun I L => (F 1257 0 [some (.ref 49), some (.int x), some (.int i)] [] (81, pt_G, I, L))) := by
  have W := Z.1
  have hP := W.P
  have hO := W.O
  have hE := ev_lt W
  have H := X.H
  have M := Y.H
  have ct := c_turnBy (L := L) hF W H (x := x) (i := i) (f := nI (h 0 2)) (s := nI (h 0 3)) rfl rfl W.f.1 W.f.2 W.s.1 W.s.2
  have c1 : (F 109 0 [some (.ref 0), some (.int x), some (.int i)] [] (81, pt_G, I, L)) = some (some (.int (bif vC h x && vP (h 0 1) i then nI (tw h (h 0 2) (h 0 3) x.toNatClampNeg i.toNatClampNeg) else -1)), (81, pt_G, I, L)) := by
    rw [e109_0 hF, H.f, H.s, ct]
    simp (disch := omega) only [pm_k_i, Option.toList_some, Option.toList_none, List.cons_append, List.nil_append, cond_true, cond_false, ↓reduceIte, reduceCtorEq, z_1, nI_add, z_cl, z_ib, z_lt, z_le, z_eq, z_eq0, z_le0, z_lt0, z_b0, z_b1, z_m1, z_and7, Int32.add_zero, e109_20 hF]
  have n1 : (vC h x && vP (h 0 1) i) = false → NXT q (F 109 0 [some (.ref 0), some (.int x), some (.int i)] [] (81, pt_G, I, L)) (fun I L => (F 1257 0 [some (.ref 49), some (.int x), some (.int i)] [] (81, pt_G, I, L))) := by
    intro hn
    rw [hn] at c1
    refine NXT.same Z X Y (x := -1) c1 ?_
    try dsimp only
    rw [e1257_0 hF, m_isCoalition hF W M]
    simp (disch := omega) only [pm_k_i, Option.toList_some, Option.toList_none, List.cons_append, List.nil_append, cond_true, cond_false, ↓reduceIte, reduceCtorEq, z_1, nI_add, z_cl, z_ib, z_lt, z_le, z_eq, z_eq0, z_le0, z_lt0, z_b0, z_b1, z_m1, z_and7, Int32.add_zero, e1257_5 hF, M.O, m_isOff hF W, e1257_21 hF]
    cases hv : vC h x
    · rfl
    · rw [hv] at hn
      rw [show vP (h 0 1) i = false from hn]
      rfl
  cases hv : vC h x with
  | false => exact n1 (by rw [hv]; rfl)
  | true =>
    cases hu : vP (h 0 1) i with
    | false => exact n1 (by rw [hv, hu]; rfl)
    | true =>
      obtain ⟨c, c0, cl, rfl⟩ := vC_of W hv
      obtain ⟨j, jl, rfl⟩ := vP_of (by omega) hu
      rw [hv, hu] at c1
      simp (disch := omega) only [z_cl, Bool.true_and, cond_true] at c1
      obtain ⟨B, b1, b2, b3, b4⟩ := m_laysTurns (L := L) hF W M c0 cl
      refine NXT.mk c1 ?_ Z (X.lo (fun r k hr => b2 r k (by omega) (by omega)) (fun _ _ _ => rfl)) (Y.pk W (fun r k c1 c2 c3 c4 c5 c6 _ _ => b2 r k c2 c3))
      try dsimp only
      rw [e1257_0 hF, m_isCoalition hF W M]
      simp (disch := omega) only [pm_k_i, Option.toList_some, Option.toList_none, List.cons_append, List.nil_append, cond_true, cond_false, ↓reduceIte, reduceCtorEq, z_1, nI_add, z_cl, z_ib, z_lt, z_le, z_eq, z_eq0, z_le0, z_lt0, z_b0, z_b1, z_m1, z_and7, Int32.add_zero, hv, hu, e1257_5 hF, M.O, m_isOff hF W, e1257_21 hF, Bool.toNat_true]
      try rw [if_neg (show ¬ nI 1 = 0 from by decide)]
      rw [b1]
      simp (disch := omega) only [pm_k_i, Option.toList_some, Option.toList_none, List.cons_append, List.nil_append, cond_true, cond_false, ↓reduceIte, reduceCtorEq, z_1, nI_add, z_cl, z_ib, z_lt, z_le, z_eq, z_eq0, z_le0, z_lt0, z_b0, z_b1, z_m1, z_and7, Int32.add_zero, e1257_31 hF, b3]
theorem vD_i {x : Int32} (hx : vD x = false) : ¬ (1 ≤ x.toInt ∧ x.toInt ≤ 99) := of_decide_eq_false hx
theorem s_turnBy (hF : pm_fix pt_me pt_Sg (pt_R L0 xs) F) (Z : GS h n b C w a sn) (X : K1 q h n b fa pl C w a sn I L) (Y : K2 h n b fa pl C w a sn I) (x f s i : Int32) : NXT q (F 110 0 [some (.ref 0), some (.int x), some (.int f), some (.int s), some (.int i)] [] (81, pt_G, I, L)) (fun I L => (F 1258 0 [some (.ref 49), some (.int x), some (.int f), some (.int s), some (.int i), none, none] [] (81, pt_G, I, L))) := by
  have W := Z.1
  have hP := W.P
  have hO := W.O
  have hE := ev_lt W
  have H := X.H
  have M := Y.H
  have n1 : (vC h x && (vD f && (vD s && vP (h 0 1) i))) = false → NXT q (F 110 0 [some (.ref 0), some (.int x), some (.int f), some (.int s), some (.int i)] [] (81, pt_G, I, L)) (fun I L => (F 1258 0 [some (.ref 49), some (.int x), some (.int f), some (.int s), some (.int i), none, none] [] (81, pt_G, I, L))) := by
    intro hn
    refine NXT.same Z X Y (x := -1) ?_ ?_
    · rw [e110_0 hF, c_hasCoalition hF W H]
      simp (disch := omega) only [pm_k_i, Option.toList_some, Option.toList_none, List.cons_append, List.nil_append, cond_true, cond_false, ↓reduceIte, reduceCtorEq, z_1, nI_add, z_cl, z_ib, z_lt, z_le, z_eq, z_eq0, z_le0, z_lt0, z_b0, z_b1, z_m1, z_and7, Int32.add_zero, e110_8 hF, H.O, g_vP, c_isDivisor hF, e110_34 hF, e110_41 hF]
      cases hv : vC h x
      · rfl
      · cases hi : vP (h 0 1) i
        · rfl
        · cases h1 : vD f
          · rfl
          · cases h2 : vD s
            · rfl
            · rw [hv, hi, h1, h2] at hn; cases hn
    · try dsimp only
      rw [e1258_0 hF, m_isCoalition hF W M]
      simp (disch := omega) only [pm_k_i, Option.toList_some, Option.toList_none, List.cons_append, List.nil_append, cond_true, cond_false, ↓reduceIte, reduceCtorEq, z_1, nI_add, z_cl, z_ib, z_lt, z_le, z_eq, z_eq0, z_le0, z_lt0, z_b0, z_b1, z_m1, z_and7, Int32.add_zero, e1258_5 hF, m_isDivisor hF, e1258_17 hF, e1258_29 hF, M.O, m_isOff hF W, e1258_46 hF]
      cases hv : vC h x
      · rfl
      · cases h1 : vD f
        · rfl
        · cases h2 : vD s
          · rfl
          · cases hi : vP (h 0 1) i
            · rfl
            · rw [hv, hi, h1, h2] at hn; cases hn
  cases hv : vC h x with
  | false => exact n1 (by rw [hv]; rfl)
  | true =>
    cases h1 : vD f with
    | false => exact n1 (by rw [hv, h1]; rfl)
    | true =>
      cases h2 : vD s with
      | false => exact n1 (by rw [hv, h1, h2]; rfl)
      | true =>
        cases hu : vP (h 0 1) i with
        | false => exact n1 (by rw [hv, h1, h2, hu]; rfl)
        | true =>
          obtain ⟨c, c0, cl, rfl⟩ := vC_of W hv
          obtain ⟨k, k1, k9, rfl⟩ := vD_of h1
          obtain ⟨u, u1, u9, rfl⟩ := vD_of h2
          obtain ⟨j, jl, rfl⟩ := vP_of (by omega) hu
          have ct := c_turnBy (L := L) hF W H (x := nI c) (i := nI j) rfl rfl k1 k9 u1 u9
          rw [hv, hu] at ct
          simp (disch := omega) only [z_cl, Bool.true_and, cond_true] at ct
          have W2 : WF (ud (ud h 0 2 k) 0 3 u) := (W.put0 (k := 2) (by omega) (by omega) (by omega)).put0 (k := 3) (by omega) (by omega) (by omega)
          have M2 : MH (ud (ud h 0 2 k) 0 3 u) (pm_ui (pm_ui I 49 32 (nI k)) 49 33 (nI u)) := by
            obtain ⟨⟨m1, m2, m3, m4, m5, m6, m7, m8⟩, mr⟩ := M
            refine ⟨⟨?_, ?_, ?_, ?_, ?_, ?_, ?_, ?_⟩, ?_⟩
            · simp (disch := omega) only [z_uk]; exact m1
            · simp (disch := omega) only [z_uk]; exact m2
            · simp (disch := omega) only [z_uk, z_ue]; rfl
            · simp (disch := omega) only [z_uk, z_ue]; rfl
            · simp (disch := omega) only [z_uk]; exact m5
            · simp (disch := omega) only [z_uk]; exact m6
            · simp (disch := omega) only [z_uk]; exact m7
            · simp (disch := omega) only [z_uk]; exact m8
            · simp (disch := omega) only [z_ur]; exact mr
          obtain ⟨B, b1, b2, b3, b4⟩ := m_laysTurns (L := L) hF W2 M2 c0 cl
          have fr : ∀ r k', r ≠ 66 → r ≠ 67 → (pm_ui (pm_ui B 49 32 (nI (h 0 2))) 49 33 (nI (h 0 3))) r k' = I r k' := by
            intro r k' e1 e2
            by_cases z : r = 49
            · subst z
              by_cases z3 : k' = 33
              · subst z3; rw [z_ue]; exact M.s.symm
              · rw [z_uk z3]
                by_cases z2 : k' = 32
                · subst z2; rw [z_ue]; exact M.f.symm
                · rw [z_uk z2, b2 49 k' (by omega) (by omega), z_uk z3, z_uk z2]
            · rw [z_ur z, z_ur z, b2 r k' e1 e2, z_ur z, z_ur z]
          refine NXT.mk ct ?_ Z (X.lo (fun r k hr => fr r k (by omega) (by omega)) (fun _ _ _ => rfl)) (Y.pk W (fun r k c1 c2 c3 c4 c5 c6 _ _ => fr r k c2 c3))
          have b3j := b3 j jl
          rw [tw_ud] at b3j
          have b3j : B 66 j = nI (tw h k u c j) := b3j
          try dsimp only
          rw [e1258_0 hF, m_isCoalition hF W M]
          simp (disch := omega) only [pm_k_i, Option.toList_some, Option.toList_none, List.cons_append, List.nil_append, cond_true, cond_false, ↓reduceIte, reduceCtorEq, z_1, nI_add, z_cl, z_ib, z_lt, z_le, z_eq, z_eq0, z_le0, z_lt0, z_b0, z_b1, z_m1, z_and7, Int32.add_zero, hv, h1, h2, hu, e1258_5 hF, m_isDivisor hF, e1258_17 hF, e1258_29 hF, M.O, m_isOff hF W, e1258_46 hF, Bool.toNat_true]
          try rw [if_neg (show ¬ nI 1 = 0 from by decide)]
          rw [b1]
          simp (disch := omega) only [pm_k_i, Option.toList_some, Option.toList_none, List.cons_append, List.nil_append, cond_true, cond_false, ↓reduceIte, reduceCtorEq, z_1, nI_add, z_cl, z_ib, z_lt, z_le, z_eq, z_eq0, z_le0, z_lt0, z_b0, z_b1, z_m1, z_and7, Int32.add_zero, e1258_78 hF, b3j, M.f, M.s]
theorem s_instead (hF : pm_fix pt_me pt_Sg (pt_R L0 xs) F) (Z : GS h n b C w a sn) (X : K1 q h n b fa pl C w a sn I L) (Y : K2 h n b fa pl C w a sn I) (x i o : Int32) : NXT q (F 114 0 [some (.ref 0), some (.int x), some (.int i), some (.int o), none] [] (81, pt_G, I, L)) (fun I L => (F 1279 0 [some (.ref 49), some (.int x), some (.int i), some (.int o), none, none, none] [] (81, pt_G, I, L))) := by
  have W := Z.1
  have hP := W.P
  have hO := W.O
  have hE := ev_lt W
  have H := X.H
  have M := Y.H
  have n1 : (vC h x && (vP (h 0 1) i && vP (h 0 1) o)) = false → NXT q (F 114 0 [some (.ref 0), some (.int x), some (.int i), some (.int o), none] [] (81, pt_G, I, L)) (fun I L => (F 1279 0 [some (.ref 49), some (.int x), some (.int i), some (.int o), none, none, none] [] (81, pt_G, I, L))) := by
    intro hn
    refine NXT.same Z X Y (x := -1) ?_ ?_
    · rw [e114_0 hF, c_hasCoalition hF W H]
      simp (disch := omega) only [pm_k_i, Option.toList_some, Option.toList_none, List.cons_append, List.nil_append, cond_true, cond_false, ↓reduceIte, reduceCtorEq, z_1, nI_add, z_cl, z_ib, z_lt, z_le, z_eq, z_eq0, z_le0, z_lt0, z_b0, z_b1, z_m1, z_and7, Int32.add_zero, e114_8 hF, H.O, g_vP, c_hasOffice hF W H, e114_36 hF]
      cases hv : vC h x
      · rfl
      · cases hi : vP (h 0 1) i
        · rfl
        · cases h1 : vP (h 0 1) o
          · rfl
          · rw [hv, hi, h1] at hn; cases hn
    · try dsimp only
      rw [e1279_0 hF, m_isCoalition hF W M]
      simp (disch := omega) only [pm_k_i, Option.toList_some, Option.toList_none, List.cons_append, List.nil_append, cond_true, cond_false, ↓reduceIte, reduceCtorEq, z_1, nI_add, z_cl, z_ib, z_lt, z_le, z_eq, z_eq0, z_le0, z_lt0, z_b0, z_b1, z_m1, z_and7, Int32.add_zero, e1279_5 hF, M.O, m_isOff hF W, e1279_21 hF, m_isOffice hF W M, e1279_29 hF]
      cases hv : vC h x
      · rfl
      · cases hi : vP (h 0 1) i
        · rfl
        · cases h1 : vP (h 0 1) o
          · rfl
          · rw [hv, hi, h1] at hn; cases hn
  cases hv : vC h x with
  | false => exact n1 (by rw [hv]; rfl)
  | true =>
    cases hi : vP (h 0 1) i with
    | false => exact n1 (by rw [hv, hi]; rfl)
    | true =>
      cases h1 : vP (h 0 1) o with
      | false => exact n1 (by rw [hv, hi, h1]; rfl)
      | true =>
        obtain ⟨c, c0, cl, rfl⟩ := vC_of W hv
        obtain ⟨j, jl, rfl⟩ := vP_of (by omega) hi
        obtain ⟨o, ol, rfl⟩ := vP_of (by omega) h1
        obtain ⟨⟨e, v, e1, v1, cx, fo⟩, k0⟩ := X
        have d := du_ok W c0 cl
        have dt : ∀ i, i < h 0 1 → du h c i < h 0 0 := fun i hi => (d.2.1 i hi).1
        obtain ⟨A, K, a1, a2, a3, a4, a5, a6⟩ := c_lookAhead hF W H d.1 dt (cx.pc _ d.1 dt)
        have fx : FX I A L K := ⟨fun r k hx => a2 r k (fun z => by unfold xc at hx; omega) (fun z => hx (by unfold xc; omega)) (fun z => hx (by unfold xc; omega)), a3⟩
        have e8 : A 3 8 = I 3 8 := fx.1 3 8 (by unfold xc; omega)
        have cxA : CX h e v A K := by
          obtain ⟨x1, x2, x3, x4, x5, x6, x7, x8, x9, x10, x11⟩ := cx
          have f30 : ∀ k, A 30 k = I 30 k := fun k => a2 30 k (by omega) (by omega) (by omega)
          refine ⟨fx.H x1, by rw [e8]; exact x2, by rw [fx.1 3 9 (by unfold xc; omega)]; exact x3, x4, x5, ⟨e, Nat.le_refl _, by rw [a6]; exact x2⟩, ?_, by rw [f30]; exact x8, fun z => (x9 (by rw [f30] at z; exact z)).of (fun k => a2 34 k (by omega) (by omega) (by omega)) (fun k => a2 35 k (by omega) (by omega) (by omega)), by rw [f30]; exact x10, fun z => ?_⟩
          · intro t kt ht t5 t6
            rw [a5] at t5
            have : t = du h c := hp_inj kt d.1 (by
              have h1 := hp_lt kt
              have h2 := hp_lt d.1
              exact ((nI_eq (by omega) (by omega)).mp t5).symm)
            rw [this]
            exact a4
          · rw [f30] at z
            obtain ⟨y0, y1, y2, y3⟩ := x11 z
            have fr : ∀ r k, 31 ≤ r → r ≤ 39 → A r k = I r k := fun r k p1 p2 => a2 r k (by omega) (by omega) (by omega)
            refine ⟨by rw [f30]; exact y0, by rw [f30]; exact y1, fun c hc => by rw [fr 31 c (by omega) (by omega), fr 32 c (by omega) (by omega)]; exact y2 c hc, fun c c0 c1 => ?_⟩
            obtain ⟨z1, z2, z3⟩ := y3 c c0 c1
            refine ⟨?_, by rw [fr 38 c (by omega) (by omega)]; exact z2, by rw [fr 39 c (by omega) (by omega)]; exact z3⟩
            rw [fr 33 c (by omega) (by omega)]
            rcases z1 with z1 | ⟨z1, l1, l2, l3⟩
            · exact Or.inl z1
            · exact Or.inr ⟨z1, by rw [fr 34 c (by omega) (by omega)]; exact l1, by rw [fr 35 c (by omega) (by omega)]; exact l2, fun p hp => by rw [fr 36 _ (by omega) (by omega), fr 37 _ (by omega) (by omega)]; exact l3 p hp⟩
        have HA := cxA.1
        have XA : K1 q h n b fa pl C w a sn A K := K1.fx e1 v1 cxA fo k0 fx
        have YA := Y.hi W fx.hi
        have MA := YA.H
        obtain ⟨B, b1, b2, b3, b4⟩ := m_laysTurns (L := K) hF W MA c0 cl
        have MB : MH h B := MA.of (fun k _ _ => b2 49 k (by omega) (by omega)) (fun r p q k => b2 r k (by omega) (by omega)) (fun k _ => b2 64 k (by omega) (by omega))
        have bt : ∀ i, i < h 0 1 → B 66 i = nI (du h c i) ∧ du h c i < h 0 0 := fun i hi => ⟨by rw [b3 i hi, d.2.2 i hi], dt i hi⟩
        obtain ⟨D, d1, d2, d3, d4⟩ := m_foresees (L := K) hF W MB bt
        have MD' : MH h D := MB.of (fun k _ _ => d2 49 k (by omega) (by omega)) (fun r p q k => d2 r k (by omega) (by omega)) (fun k _ => d2 64 k (by omega) (by omega))
        have fD : ∀ r k, r ≠ 66 → r ≠ 67 → r ≠ 68 → r ≠ 69 → D r k = A r k := fun r k g1 g2 g3 g4 => by rw [d2 r k g3 g4]; exact b2 r k g1 g2
        refine NXT.mk (x := inv h (du h c) j o) (I1 := A) (L1 := K) ?_ ?_ Z (XA.lo (fun r k hr => fD r k (by omega) (by omega) (by omega) (by omega)) (fun _ _ _ => rfl)) (YA.pk W (fun r k c1 c2 c3 c4 c5 c6 _ _ => fD r k c2 c3 c4 c5))
        · rw [e114_0 hF, c_hasCoalition hF W H]
          simp (disch := omega) only [pm_k_i, Option.toList_some, Option.toList_none, List.cons_append, List.nil_append, cond_true, cond_false, ↓reduceIte, reduceCtorEq, z_1, nI_add, z_cl, z_ib, z_lt, z_le, z_eq, z_eq0, z_le0, z_lt0, z_b0, z_b1, z_m1, z_and7, Int32.add_zero, hv, hi, h1, e114_8 hF, H.O, g_vP, c_hasOffice hF W H, e114_36 hF, H.f, H.s, c_dueOf hF W H c0 cl, e114_63 hF, a1, e114_74 hF, Bool.toNat_true]
          try rw [if_neg (show ¬ nI 1 = 0 from by decide)]
          simp (disch := omega) only [pm_k_i, Option.toList_some, Option.toList_none, List.cons_append, List.nil_append, cond_true, cond_false, ↓reduceIte, reduceCtorEq, z_1, nI_add, z_cl, z_ib, z_lt, z_le, z_eq, z_eq0, z_le0, z_lt0, z_b0, z_b1, z_m1, z_and7, Int32.add_zero, H.f, H.s, c_dueOf hF W H c0 cl, e114_63 hF, a1, e114_74 hF, c_ifPicked hF W HA d.1 dt a4 jl ol, e114_85 hF]
          try rw [if_pos jl]
        · try dsimp only
          rw [e1279_0 hF, m_isCoalition hF W MA]
          simp (disch := omega) only [pm_k_i, Option.toList_some, Option.toList_none, List.cons_append, List.nil_append, cond_true, cond_false, ↓reduceIte, reduceCtorEq, z_1, nI_add, z_cl, z_ib, z_lt, z_le, z_eq, z_eq0, z_le0, z_lt0, z_b0, z_b1, z_m1, z_and7, Int32.add_zero, hv, hi, h1, e1279_5 hF, MA.O, m_isOff hF W, e1279_21 hF, m_isOffice hF W MA, e1279_29 hF, Bool.toNat_true]
          try rw [if_neg (show ¬ nI 1 = 0 from by decide)]
          rw [b1]
          simp (disch := omega) only [pm_k_i, Option.toList_some, Option.toList_none, List.cons_append, List.nil_append, cond_true, cond_false, ↓reduceIte, reduceCtorEq, z_1, nI_add, z_cl, z_ib, z_lt, z_le, z_eq, z_eq0, z_le0, z_lt0, z_b0, z_b1, z_m1, z_and7, Int32.add_zero, e1279_39 hF, d1]
          exact m_instead_run hF W MD' (fun i hi => ⟨by rw [d2 66 i (by omega) (by omega)]; exact (bt i hi).1, (bt i hi).2⟩) d3 d4 jl ol
theorem s_enough (hF : pm_fix pt_me pt_Sg (pt_R L0 xs) F) (Z : GS h n b C w a sn) (X : K1 q h n b fa pl C w a sn I L) (Y : K2 h n b fa pl C w a sn I) (x y : Int32) : NXT q (F 127 0 [some (.ref 0), some (.int x), some (.int y)] [] (81, pt_G, I, L)) (fun I L => (F 1301 0 [some (.ref 49), some (.int x), some (.int y), none, none, none] [] (81, pt_G, I, L))) := by
  have W := Z.1
  have hP := W.P
  have hE := ev_lt W
  have H := X.H
  have M := Y.H
  cases hv : vC h x with
  | false =>
    exact NXT.same Z X Y (x := -1) (by
      rw [e127_0 hF, c_hasCoalition hF W H]
      simp (disch := omega) only [pm_k_i, Option.toList_some, Option.toList_none, List.cons_append, List.nil_append, cond_true, cond_false, ↓reduceIte, reduceCtorEq, z_1, nI_add, z_cl, z_ib, z_lt, z_le, z_eq, z_eq0, z_le0, z_lt0, z_b0, z_b1, z_m1, z_and7, Int32.add_zero, hv, e127_8 hF]) (by
      try dsimp only
      rw [e1301_0 hF, m_isCoalition hF W M]
      simp (disch := omega) only [pm_k_i, Option.toList_some, Option.toList_none, List.cons_append, List.nil_append, cond_true, cond_false, ↓reduceIte, reduceCtorEq, z_1, nI_add, z_cl, z_ib, z_lt, z_le, z_eq, z_eq0, z_le0, z_lt0, z_b0, z_b1, z_m1, z_and7, Int32.add_zero, hv, e1301_5 hF])
  | true =>
    obtain ⟨c, c0, cl, rfl⟩ := vC_of W hv
    cases hu : vP (h 0 0) y with
    | false =>
      exact NXT.same Z X Y (x := -1) (by
        rw [e127_0 hF, c_hasCoalition hF W H]
        simp (disch := omega) only [pm_k_i, Option.toList_some, Option.toList_none, List.cons_append, List.nil_append, cond_true, cond_false, ↓reduceIte, reduceCtorEq, z_1, nI_add, z_cl, z_ib, z_lt, z_le, z_eq, z_eq0, z_le0, z_lt0, z_b0, z_b1, z_m1, z_and7, Int32.add_zero, hv, hu, e127_8 hF, c_hasParty hF W H, e127_19 hF]) (by
        try dsimp only
        rw [e1301_0 hF, m_isCoalition hF W M]
        simp (disch := omega) only [pm_k_i, Option.toList_some, Option.toList_none, List.cons_append, List.nil_append, cond_true, cond_false, ↓reduceIte, reduceCtorEq, z_1, nI_add, z_cl, z_ib, z_lt, z_le, z_eq, z_eq0, z_le0, z_lt0, z_b0, z_b1, z_m1, z_and7, Int32.add_zero, hv, hu, e1301_5 hF, m_isParty hF W M, e1301_13 hF])
    | true =>
      obtain ⟨p, p0, rfl⟩ := vP_of (by omega) hu
      cases hb : c.testBit p with
      | false =>
        exact NXT.same Z X Y (x := -1) (by
          rw [e127_0 hF, c_hasCoalition hF W H]
          simp (disch := omega) only [pm_k_i, Option.toList_some, Option.toList_none, List.cons_append, List.nil_append, cond_true, cond_false, ↓reduceIte, reduceCtorEq, z_1, nI_add, z_cl, z_ib, z_lt, z_le, z_eq, z_eq0, z_le0, z_lt0, z_b0, z_b1, z_m1, z_and7, Int32.add_zero, hv, hu, hb, e127_8 hF, c_hasParty hF W H, e127_19 hF, c_isIn hF, e127_29 hF]) (by
          try dsimp only
          rw [e1301_0 hF, m_isCoalition hF W M]
          simp (disch := omega) only [pm_k_i, Option.toList_some, Option.toList_none, List.cons_append, List.nil_append, cond_true, cond_false, ↓reduceIte, reduceCtorEq, z_1, nI_add, z_cl, z_ib, z_lt, z_le, z_eq, z_eq0, z_le0, z_lt0, z_b0, z_b1, z_m1, z_and7, Int32.add_zero, hv, hu, hb, e1301_5 hF, m_isParty hF W M, e1301_13 hF, m_holds hF, e1301_21 hF])
      | true =>
        exact NXT.same Z X Y (x := oI (eno h c p)) (by
          rw [e127_0 hF, c_hasCoalition hF W H]
          simp (disch := omega) only [pm_k_i, Option.toList_some, Option.toList_none, List.cons_append, List.nil_append, cond_true, cond_false, ↓reduceIte, reduceCtorEq, z_1, nI_add, z_cl, z_ib, z_lt, z_le, z_eq, z_eq0, z_le0, z_lt0, z_b0, z_b1, z_m1, z_and7, Int32.add_zero, hv, hu, hb, e127_8 hF, c_hasParty hF W H, e127_19 hF, c_isIn hF, e127_29 hF, c_seatsToLead hF W H cl p0 hb, e127_41 hF]) (by
          try dsimp only
          rw [e1301_0 hF, m_isCoalition hF W M]
          simp (disch := omega) only [pm_k_i, Option.toList_some, Option.toList_none, List.cons_append, List.nil_append, cond_true, cond_false, ↓reduceIte, reduceCtorEq, z_1, nI_add, z_cl, z_ib, z_lt, z_le, z_eq, z_eq0, z_le0, z_lt0, z_b0, z_b1, z_m1, z_and7, Int32.add_zero, hv, hu, hb, e1301_5 hF, m_isParty hF W M, e1301_13 hF, m_holds hF]
          exact m_enough_run hF W M cl p0 hb)
end
