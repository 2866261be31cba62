/-! ===== one call: kept ===== -/
section
variable {h : Nat → Nat → Nat} {I I' : Nat → Nat → Int32} {L L' : Nat → Nat → Int64}
variable {q n C a : Nat} {b w : Nat → Nat} {fa pl : Int32} {sn : Nat → SN} {e v : Nat}
variable {F : pm_F} {L0 : Nat} {xs : Nat → Int32}
theorem cnw_sm {t : Nat → Nat} {P : Nat} : ∀ n, (∀ i, i < n → t i < P) → sm (cnw t n) P = n := by
  intro n
  induction n with
  | zero => intro _; exact lpP (P := fun _ a => a = 0) rfl (fun k a _ ha => by rw [ha]; rfl)
  | succ n ih =>
    intro ht
    have e : cnw t (n + 1) = up (cnw t n) (t n) (cnw t n (t n) + 1) := by
      show inc (cnw t n) (t n) = _
      funext q
      unfold inc up
      by_cases c : q = t n
      · rw [c, Nat.beq_refl, if_pos rfl]; rfl
      · rw [beq_f c, if_neg c]; rfl
    have s := sm_up (f := cnw t n) (v := cnw t n (t n) + 1) (ht n (by omega))
    rw [e]
    have i := ih (fun i hi => ht i (by omega))
    omega
theorem hdn_cnw (W : WF h) {c : Nat} (c0 : 0 < c) (cl : c ≤ ev h) : ∀ i, i ≤ h 0 1 → hdn h (h 0 2) (h 0 3) c i = cnw (du h c) i := by
  intro i
  induction i with
  | zero => exact fun _ => rfl
  | succ i ih =>
    intro hi
    have e : hdn h (h 0 2) (h 0 3) c (i + 1) = inc (hdn h (h 0 2) (h 0 3) c i) (tw h (h 0 2) (h 0 3) c i) := rfl
    have d := (du_ok W c0 cl).2.2 i (by omega)
    rw [e, ih (by omega), ← d]
    rfl
theorem s_kept (hF : pm_fix pt_me pt_Sg (pt_R L0 xs) F) (Z : GS h n b C w a sn) (X : K1 q h n b fa pl C w a sn I L) (Y : K2 h n b fa pl C w a sn I) (x y : Int32) : NXT q (F 120 0 [some (.ref 0), some (.int x), some (.int y), none] [] (81, pt_G, I, L)) (fun I L => (F 1277 0 [some (.ref 49), some (.int x), some (.int y), none] [] (81, pt_G, I, L))) := by
  have W := Z.1
  have hP := W.P
  have hO := W.O
  have hE := ev_lt W
  have H := X.H
  have M := Y.H
  have h2 := o256 W
  have n1 : (vC h x && vP 2 y) = false → NXT q (F 120 0 [some (.ref 0), some (.int x), some (.int y), none] [] (81, pt_G, I, L)) (fun I L => (F 1277 0 [some (.ref 49), some (.int x), some (.int y), none] [] (81, pt_G, I, L))) := by
    intro hn
    refine NXT.same Z X Y (x := -1) ?_ ?_
    · rw [e120_0 hF, c_hasCoalition hF W H]
      simp (disch := omega) only [pm_k_i, Option.toList_some, Option.toList_none, List.cons_append, List.nil_append, cond_true, cond_false, ↓reduceIte, reduceCtorEq, z_1, nI_add, z_cl, z_ib, z_lt, z_le, z_eq, z_eq0, z_le0, z_lt0, z_b0, z_b1, z_m1, z_and7, Int32.add_zero, e120_8 hF, g_2]
      cases hv : vC h x
      · rfl
      · rw [hv] at hn
        rw [show vP 2 y = false from hn]
        rfl
    · try dsimp only
      rw [e1277_0 hF, m_isCoalition hF W M]
      simp (disch := omega) only [pm_k_i, Option.toList_some, Option.toList_none, List.cons_append, List.nil_append, cond_true, cond_false, ↓reduceIte, reduceCtorEq, z_1, nI_add, z_cl, z_ib, z_lt, z_le, z_eq, z_eq0, z_le0, z_lt0, z_b0, z_b1, z_m1, z_and7, Int32.add_zero, e1277_5 hF, m_isWhat hF, e1277_15 hF]
      cases hv : vC h x
      · rfl
      · rw [hv] at hn
        rw [show vP 2 y = false from hn]
        rfl
  cases hv : vC h x with
  | false => exact n1 (by rw [hv]; rfl)
  | true =>
    cases hu : vP 2 y with
    | false => exact n1 (by rw [hv, hu]; rfl)
    | true =>
      obtain ⟨c, c0, cl, rfl⟩ := vC_of W hv
      obtain ⟨k, kl, rfl⟩ := vP_of (by omega) hu
      obtain ⟨bb, hbb⟩ : ∃ bb : Bool, k = bb.toNat := by
        have : k = 0 ∨ k = 1 := by omega
        rcases this with rfl | rfl
        · exact ⟨false, rfl⟩
        · exact ⟨true, rfl⟩
      subst hbb
      have d := du_ok W c0 cl
      have dt : ∀ i, i < h 0 1 → du h c i < h 0 0 := fun i hi => (d.2.1 i hi).1
      have g := hp_lt d.1
      have co := c_countsOf (I := I) (L := L) hF g hO (by rw [gs_hp d.1]; exact fun i hi => by have := dt i hi; omega)
      rw [gs_hp d.1] at co
      -- the class up to its asking
      have cls : ∀ r : pm_R, (F 802 0 [some (.ref 27), some (.int (nI (pkc (cnw (du h c) (h 0 1))))), some (.int (nI bb.toNat)), none, none, none, none, none] [] (81, pt_G, I, L)) = r → (F 120 0 [some (.ref 0), some (.int (nI c)), some (.int (nI bb.toNat)), none] [] (81, pt_G, I, L)) = pm_k r (fun v S => F 120 73 [some (.ref 0), some (.int (nI c)), some (.int (nI bb.toNat)), some (.int (nI (hp (du h c))))] (v.toList ++ []) S) := by
        intro r hr
        rw [e120_0 hF, c_hasCoalition hF W H]
        simp (disch := omega) only [pm_k_i, Option.toList_some, Option.toList_none, List.cons_append, List.nil_append, cond_true, cond_false, ↓reduceIte, reduceCtorEq, z_1, nI_add, z_cl, z_ib, z_lt, z_le, z_eq, z_eq0, z_le0, z_lt0, z_b0, z_b1, z_m1, z_and7, Int32.add_zero, hv, hu, e120_8 hF, g_2, H.f, H.s, c_dueOf hF W H c0 cl, e120_44 hF, H.O, co, e120_60 hF]
        cases bb with
        | true =>
          have hr : (F 802 0 [some (.ref 27), some (.int (nI (pkc (cnw (du h c) (h 0 1))))), some (.int 1), none, none, none, none, none] [] (81, pt_G, I, L)) = r := hr
          rw [if_pos (show nI true.toNat ≤ 1 by decide), if_pos (show true = true from rfl), hr]
        | false =>
          have hr : (F 802 0 [some (.ref 27), some (.int (nI (pkc (cnw (du h c) (h 0 1))))), some (.int 0), none, none, none, none, none] [] (81, pt_G, I, L)) = r := hr
          rw [if_pos (show nI false.toNat ≤ 1 by decide), if_neg (show ¬ false = true by decide), hr]
      by_cases o0 : h 0 1 = 0
      · -- no offices
        refine NXT.same Z X Y (x := 0) ?_ ?_
        · rw [cls _ rfl, e802_0 hF, H.O, o0, if_pos (show nI 0 = 0 from rfl)]
          simp (disch := omega) only [pm_k_i, Option.toList_some, Option.toList_none, List.cons_append, List.nil_append, cond_true, cond_false, ↓reduceIte, reduceCtorEq, z_1, nI_add, z_cl, z_ib, z_lt, z_le, z_eq, z_eq0, z_le0, z_lt0, z_b0, z_b1, z_m1, z_and7, Int32.add_zero, e120_73 hF]
        · try dsimp only
          rw [e1277_0 hF, m_isCoalition hF W M]
          simp (disch := omega) only [pm_k_i, Option.toList_some, Option.toList_none, List.cons_append, List.nil_append, cond_true, cond_false, ↓reduceIte, reduceCtorEq, z_1, nI_add, z_cl, z_ib, z_lt, z_le, z_eq, z_eq0, z_le0, z_lt0, z_b0, z_b1, z_m1, z_and7, Int32.add_zero, hv, hu, e1277_5 hF, m_isWhat hF, e1277_15 hF, M.O, o0]
      · have cb : ∀ p, cnw (du h c) (h 0 1) p ≤ 8 := fun p => by have := cnw_le (du h c) (h 0 1) p; omega
        obtain ⟨A, m, a1, a2, a3⟩ := c_greatest (b := bb) (L := L) hF W H (c := cnw (du h c) (h 0 1)) (fun p => by have := cb p; omega) (cnw_sm _ dt) (by omega)
        have XA : K1 q h n b fa pl C w a sn A L := by
          obtain ⟨⟨e, v, e1, v1, cx, fo⟩, k0⟩ := X
          refine ⟨⟨e, v, e1, v1, ?_, fo.of (fun r k p q => a2 r k (by omega) (by omega))⟩, k0.of (fun r k p => a2 r k (by omega) (by omega)) (fun _ => rfl)⟩
          obtain ⟨x1, x2, x3, x4, x5, x6, x7, x8, x9, x10, x11⟩ := cx
          have f : ∀ r k, r ≠ 28 → r ≠ 29 → A r k = I r k := a2
          have f30 : ∀ k, A 30 k = I 30 k := fun k => f 30 k (by omega) (by omega)
          refine ⟨x1.of (fun k _ => f 3 k (by omega) (by omega)) (fun r p q k => f r k (by omega) (by omega)), by rw [f 3 8 (by omega) (by omega)]; exact x2, by rw [f 3 9 (by omega) (by omega)]; exact x3, x4, x5, by rw [f 23 6 (by omega) (by omega)]; exact x6, x7.of ⟨f 23 4 (by omega) (by omega), f 23 5 (by omega) (by omega), f 23 6 (by omega) (by omega)⟩ (f 3 8 (by omega) (by omega)) (fun k => f 24 k (by omega) (by omega)) (fun k => f 26 k (by omega) (by omega)) (fun _ => rfl), by rw [f30]; exact x8, fun z => (x9 (by rw [f30] at z; exact z)).of (fun k => f 34 k (by omega) (by omega)) (fun k => f 35 k (by omega) (by omega)), by rw [f30]; exact x10, fun z => ?_⟩
          rw [f30] at z
          obtain ⟨y0, y1, y2, y3⟩ := x11 z
          have fr : ∀ r k, 31 ≤ r → r ≤ 39 → A r k = I r k := fun r k p1 p2 => f r k (by omega) (by omega)
          refine ⟨by rw [f30]; exact y0, by rw [f30]; exact y1, fun c hc => by rw [fr 31 c (by omega) (by omega), fr 32 c (by omega) (by omega)]; exact y2 c hc, fun c c0 c1 => ?_⟩
          obtain ⟨z1, z2, z3⟩ := y3 c c0 c1
          refine ⟨?_, by rw [fr 38 c (by omega) (by omega)]; exact z2, by rw [fr 39 c (by omega) (by omega)]; exact z3⟩
          rw [fr 33 c (by omega) (by omega)]
          rcases z1 with z1 | ⟨z1, l1, l2, l3⟩
          · exact Or.inl z1
          · exact Or.inr ⟨z1, by rw [fr 34 c (by omega) (by omega)]; exact l1, by rw [fr 35 c (by omega) (by omega)]; exact l2, fun p hp => by rw [fr 36 _ (by omega) (by omega), fr 37 _ (by omega) (by omega)]; exact l3 p hp⟩
        have YA : K2 h n b fa pl C w a sn A := Y.hi W (fun r k hr => a2 r k (by omega) (by omega))
        have MA := YA.H
        have c1 : (F 120 0 [some (.ref 0), some (.int (nI c)), some (.int (nI bb.toNat)), none] [] (81, pt_G, I, L)) = some (some (.int (nI m)), (81, pt_G, A, L)) := by
          rw [cls _ a1]
          simp (disch := omega) only [pm_k_i, Option.toList_some, Option.toList_none, List.cons_append, List.nil_append, cond_true, cond_false, ↓reduceIte, reduceCtorEq, z_1, nI_add, z_cl, z_ib, z_lt, z_le, z_eq, z_eq0, z_le0, z_lt0, z_b0, z_b1, z_m1, z_and7, Int32.add_zero, e120_73 hF]
        -- the model
        suffices hm : ∃ B, (F 1277 0 [some (.ref 49), some (.int (nI c)), some (.int (nI bb.toNat)), none] [] (81, pt_G, A, L)) = some (some (.int (nI m)), (81, pt_G, B, L)) ∧ ∀ r k, r ≠ 66 → r ≠ 67 → r ≠ 71 → r ≠ 72 → B r k = A r k by
          obtain ⟨B, b1, b2⟩ := hm
          exact NXT.mk c1 b1 Z (XA.lo (fun r k hr => b2 r k (by omega) (by omega) (by omega) (by omega)) (fun _ _ _ => rfl)) (YA.pk W (fun r k _ c2 c3 _ _ _ c7 c8 => b2 r k c2 c3 c7 c8))
        obtain ⟨B, b1, b2, b3, b4⟩ := m_laysTurns (L := L) hF W MA c0 cl
        have BO : B 49 31 = nI (h 0 1) := by rw [b2 49 31 (by omega) (by omega)]; exact MA.O
        have B67 : ∀ p, p < h 0 0 → B 67 p = nI (cnw (du h c) (h 0 1) p) := fun p p0 => by rw [b4 p p0, hdn_cnw W c0 cl _ (Nat.le_refl _)]
        have sh : (1 : Int32) <<< (nI (h 0 1) &&& 31) = nI (2 ^ h 0 1) := z_sh1 _ (by omega)
        rw [e1277_0 hF, m_isCoalition hF W MA]
        simp (disch := omega) only [pm_k_i, Option.toList_some, Option.toList_none, List.cons_append, List.nil_append, cond_true, cond_false, ↓reduceIte, reduceCtorEq, z_1, nI_add, z_cl, z_ib, z_lt, z_le, z_eq, z_eq0, z_le0, z_lt0, z_b0, z_b1, z_m1, z_and7, Int32.add_zero, hv, hu, e1277_5 hF, m_isWhat hF, e1277_15 hF, MA.O, o0]
        try rw [if_neg (show ¬ nI 1 = 0 from by decide)]
        rw [b1]
        simp (disch := omega) only [pm_k_i, Option.toList_some, Option.toList_none, List.cons_append, List.nil_append, cond_true, cond_false, ↓reduceIte, reduceCtorEq, z_1, nI_add, z_cl, z_ib, z_lt, z_le, z_eq, z_eq0, z_le0, z_lt0, z_b0, z_b1, z_m1, z_and7, Int32.add_zero, e1277_34 hF]
        refine wl (Q := fun x => ∃ B, x = some (some (.int (nI m)), (81, pt_G, B, L)) ∧ ∀ r k, r ≠ 66 → r ≠ 67 → r ≠ 71 → r ≠ 72 → B r k = A r k) (G := fun s J => (F 1277 36 [some (.ref 49), some (.int (nI c)), some (.int (nI bb.toNat)), some (.int (nI s))] [] (81, pt_G, J, L))) (P := fun s J => (∀ r k, r ≠ 71 → J r k = B r k) ∧ ∀ t, t < s → J 71 t = -1) (n := 2 ^ h 0 1) (fun s J hs hJ go => ?_) (fun J hJ => ?_) 0 B (Nat.zero_le _) ⟨fun _ _ _ => rfl, fun t ht => by omega⟩
        · obtain ⟨j1, j2⟩ := hJ
          try dsimp only
          rw [e1277_36 hF, j1 49 31 (by omega), BO, sh]
          simp (disch := omega) only [pm_k_i, Option.toList_some, Option.toList_none, List.cons_append, List.nil_append, cond_true, cond_false, ↓reduceIte, reduceCtorEq, z_1, nI_add, z_cl, z_ib, z_lt, z_le, z_eq, z_eq0, z_le0, z_lt0, z_b0, z_b1, z_m1, z_and7, Int32.add_zero, hs]
          refine go _ ⟨fun r k z => by rw [z_ur z]; exact j1 r k z, fun t ht => ?_⟩
          by_cases z : t = s
          · rw [z, z_ue]
          · rw [z_uk z]; exact j2 t (by omega)
        · obtain ⟨j1, j2⟩ := hJ
          -- the first who is given
          have key : ∀ J0 : Nat → Nat → Int32, (∀ r k, r ≠ 71 → J0 r k = B r k) → (∀ t, t < 2 ^ h 0 1 → J0 71 t = oI (if t = 0 then some (ini bb 999) else none)) → ∃ B, (F 1277 78 [some (.ref 49), some (.int (nI c)), some (.int (nI bb.toNat)), some (.int 0)] [] (81, pt_G, J0, L)) = some (some (.int (nI m)), (81, pt_G, B, L)) ∧ ∀ r k, r ≠ 66 → r ≠ 67 → r ≠ 71 → r ≠ 72 → B r k = A r k := by
            intro J0 i1 i2
            refine wl (Q := fun x => ∃ B, x = some (some (.int (nI m)), (81, pt_G, B, L)) ∧ ∀ r k, r ≠ 66 → r ≠ 67 → r ≠ 71 → r ≠ 72 → B r k = A r k) (G := fun p N => (F 1277 78 [some (.ref 49), some (.int (nI c)), some (.int (nI bb.toNat)), some (.int (nI p))] [] (81, pt_G, N, L))) (P := fun p N => (∀ r k, r ≠ 71 → r ≠ 72 → N r k = B r k) ∧ ∃ gv : Nat → Option Nat, ∀ s, s < 2 ^ h 0 1 → N 71 s = oI (gv s) ∧ LV h (cnw (du h c) (h 0 1)) bb 999 p s (gv s)) (n := h 0 0) (fun p N hp' hN go => ?_) (fun N hN => ?_) 0 J0 (Nat.zero_le _) ⟨fun r k z _ => i1 r k z, fun t => if t = 0 then some (ini bb 999) else none, fun s hs => ⟨i2 s hs, LV_zero _ _ _ _⟩⟩
            · obtain ⟨n1, gv, n2⟩ := hN
              have NP : N 49 30 = nI (h 0 0) := by rw [n1 49 30 (by omega) (by omega), b2 49 30 (by omega) (by omega)]; exact MA.P
              have N67 : N 67 p = nI (cnw (du h c) (h 0 1) p) := by rw [n1 67 p (by omega) (by omega)]; exact B67 p hp'
              have MN : MH h N := MA.of (fun k _ _ => by rw [n1 49 k (by omega) (by omega)]; exact b2 49 k (by omega) (by omega)) (fun r p q k => by rw [n1 r k (by omega) (by omega)]; exact b2 r k (by omega) (by omega)) (fun k _ => by rw [n1 64 k (by omega) (by omega)]; exact b2 64 k (by omega) (by omega))
              have cp := cb p
              try dsimp only
              rw [e1277_78 hF, NP]
              simp (disch := omega) only [pm_k_i, Option.toList_some, Option.toList_none, List.cons_append, List.nil_append, cond_true, cond_false, ↓reduceIte, reduceCtorEq, z_1, nI_add, z_cl, z_ib, z_lt, z_le, z_eq, z_eq0, z_le0, z_lt0, z_b0, z_b1, z_m1, z_and7, Int32.add_zero, hp', N67]
              by_cases z : cnw (du h c) (h 0 1) p = 0
              · rw [if_pos z, e1277_110 hF]
                simp (disch := omega) only [pm_k_i, Option.toList_some, Option.toList_none, List.cons_append, List.nil_append, cond_true, cond_false, ↓reduceIte, reduceCtorEq, z_1, nI_add, z_cl, z_ib, z_lt, z_le, z_eq, z_eq0, z_le0, z_lt0, z_b0, z_b1, z_m1, z_and7, Int32.add_zero]
                exact go N ⟨n1, gv, fun s hs => ⟨(n2 s hs).1, LV_skip z (n2 s hs).2⟩⟩
              · rw [if_neg z]
                obtain ⟨U, u1, u2, u3⟩ := m_gives (b := bb) (L := L) hF W MN hp' (Nat.pos_of_ne_zero z) cp N67 gv n2
                have u4 : ∀ s, ∃ x, s < 2 ^ h 0 1 → U 71 s = oI x ∧ LV h (cnw (du h c) (h 0 1)) bb 999 (p + 1) s x := by
                  intro s
                  by_cases hs : s < 2 ^ h 0 1
                  · obtain ⟨x, x1⟩ := u3 s hs
                    exact ⟨x, fun _ => x1⟩
                  · exact ⟨none, fun h => absurd h hs⟩
                obtain ⟨gv', g1⟩ := Classical.skolem.mp u4
                have nx := go U ⟨fun r k z1 z2 => by rw [u2 r k z1 z2]; exact n1 r k z1 z2, gv', g1⟩
                cases bb with
                | true =>
                  have u1 : (F 1276 0 [some (.ref 49), some (.int (nI p)), some (.int 1), none, none, none, none] [] (81, pt_G, N, L)) = _ := u1
                  rw [if_pos (show true = true from rfl), u1]
                  simp (disch := omega) only [pm_k_i, Option.toList_some, Option.toList_none, List.cons_append, List.nil_append, cond_true, cond_false, ↓reduceIte, reduceCtorEq, z_1, nI_add, z_cl, z_ib, z_lt, z_le, z_eq, z_eq0, z_le0, z_lt0, z_b0, z_b1, z_m1, z_and7, Int32.add_zero, e1277_110 hF]
                  exact nx
                | false =>
                  have u1 : (F 1276 0 [some (.ref 49), some (.int (nI p)), some (.int 0), none, none, none, none] [] (81, pt_G, N, L)) = _ := u1
                  rw [if_neg (show ¬ false = true by decide), u1]
                  simp (disch := omega) only [pm_k_i, Option.toList_some, Option.toList_none, List.cons_append, List.nil_append, cond_true, cond_false, ↓reduceIte, reduceCtorEq, z_1, nI_add, z_cl, z_ib, z_lt, z_le, z_eq, z_eq0, z_le0, z_lt0, z_b0, z_b1, z_m1, z_and7, Int32.add_zero, e1277_110 hF]
                  exact nx
            · obtain ⟨n1, gv, n2⟩ := hN
              have MN : MH h N := MA.of (fun k _ _ => by rw [n1 49 k (by omega) (by omega)]; exact b2 49 k (by omega) (by omega)) (fun r p q k => by rw [n1 r k (by omega) (by omega)]; exact b2 r k (by omega) (by omega)) (fun k _ => by rw [n1 64 k (by omega) (by omega)]; exact b2 64 k (by omega) (by omega))
              obtain ⟨g1, g2⟩ := n2 (2 ^ h 0 1 - 1) (by omega)
              have p1 : 2 ^ 1 ≤ 2 ^ h 0 1 := Nat.pow_le_pow_right (by decide) (by omega)
              have g3 := LV_same W (i := 999) (j := 1000000) (by omega) (by omega) (show 0 < 2 ^ h 0 1 - 1 by omega) g2
              have g4 := LV_u g3 a3
              rw [g4] at g1
              try dsimp only
              rw [e1277_78 hF, MN.P]
              simp (disch := omega) only [pm_k_i, Option.toList_some, Option.toList_none, List.cons_append, List.nil_append, cond_true, cond_false, ↓reduceIte, reduceCtorEq, z_1, nI_add, z_cl, z_ib, z_lt, z_le, z_eq, z_eq0, z_le0, z_lt0, z_b0, z_b1, z_m1, z_and7, Int32.add_zero, Nat.lt_irrefl, m_all hF W MN, e1277_124 hF, g1]
              exact ⟨N, rfl, fun r k z1 z2 z3 z4 => by rw [n1 r k z3 z4]; exact b2 r k z1 z2⟩
          have ib : pm_ib 0 256 = true := by decide +kernel
          try dsimp only
          rw [e1277_36 hF, j1 49 31 (by omega), BO, sh]
          simp (disch := omega) only [pm_k_i, Option.toList_some, Option.toList_none, List.cons_append, List.nil_append, cond_true, cond_false, ↓reduceIte, reduceCtorEq, z_1, nI_add, z_cl, z_ib, z_lt, z_le, z_eq, z_eq0, z_le0, z_lt0, z_b0, z_b1, z_m1, z_and7, Int32.add_zero, Nat.lt_irrefl, ib, cl0]
          cases bb with
          | true =>
            rw [if_neg (show ¬ true.toNat = 0 by decide)]
            refine key _ (fun r k z => by rw [z_ur z]; exact j1 r k z) (fun t ht => ?_)
            by_cases z : t = 0
            · rw [z, z_ue]; rfl
            · rw [z_uk z, if_neg z]; exact j2 t ht
          | false =>
            rw [if_pos (show false.toNat = 0 from rfl)]
            refine key _ (fun r k z => by rw [z_ur z]; exact j1 r k z) (fun t ht => ?_)
            by_cases z : t = 0
            · rw [z, z_ue]; rfl
            · rw [z_uk z, if_neg z]; exact j2 t ht
end
