/-! ===== one call: holding and trading ===== -/
section
variable {h : Nat → Nat → Nat} {I I' I0 : Nat → Nat → Int32} {L L' : Nat → Nat → Int64}
variable {q n C C' a a' c : Nat} {b w w' : Nat → Nat} {fa pl : Int32} {sn sn' : Nat → SN} {e v : Nat}
variable {F : pm_F} {L0 : Nat} {xs : Nat → Int32}
theorem z_1p (k : Nat) : (1 : Int32) + nI k = nI (1 + k) := nI_add 1 k
theorem z_9p (k : Nat) : (9 : Int32) + nI k = nI (9 + k) := nI_add 9 k
theorem s_hold (hF : pm_fix pt_me pt_Sg (pt_R L0 xs) F) (Z : GS h n b C w a sn) (X : K1 q h n b fa pl C w a sn I L) (Y : K2 h n b fa pl C w a sn I) (x y : Int32) : NXT q (F 137 0 [some (.ref 0), some (.int x), some (.int y)] [] (81, pt_G, I, L)) (fun I L => (F 1318 0 [some (.ref 49), some (.int x), some (.int y), none, none] [] (81, pt_G, I, L))) := by
  have W := Z.1
  have hP := W.P
  have hO := W.O
  have hE := ev_lt W
  have H := X.H
  have M := Y.H
  by_cases hn : (vC h x && vP 3 y) = false
  · refine NXT.same Z X Y (x := -1) ?_ ?_
    · rw [e137_0 hF, c_hasCoalition hF W H]
      simp (disch := omega) only [pm_k_i, Option.toList_some, Option.toList_none, List.cons_append, List.nil_append, cond_true, cond_false, ↓reduceIte, reduceCtorEq, z_1, nI_add, z_cl, z_ib, z_lt, z_le, z_eq, z_eq0, z_le0, z_lt0, z_b0, z_b1, z_m1, z_and7, Int32.add_zero, e137_8 hF, c_isWay hF, e137_15 hF]
      cases hv : vC h x
      · rfl
      · rw [hv] at hn
        rw [show vP 3 y = false from hn]
        rfl
    · try dsimp only
      rw [e1318_0 hF, m_isCoalition hF W M]
      simp (disch := omega) only [pm_k_i, Option.toList_some, Option.toList_none, List.cons_append, List.nil_append, cond_true, cond_false, ↓reduceIte, reduceCtorEq, z_1, nI_add, z_cl, z_ib, z_lt, z_le, z_eq, z_eq0, z_le0, z_lt0, z_b0, z_b1, z_m1, z_and7, Int32.add_zero, e1318_5 hF, m_isWay hF, e1318_17 hF]
      cases hv : vC h x
      · rfl
      · rw [hv] at hn
        rw [show vP 3 y = false from hn]
        rfl
  · have hn : (vC h x && vP 3 y) = true := by
      cases z : (vC h x && vP 3 y)
      · exact absurd z hn
      · rfl
    have hn := Bool.and_eq_true_iff.mp hn
    obtain ⟨c, c0, cl, rfl⟩ := vC_of W hn.1
    obtain ⟨y, yl, rfl⟩ := vP_of (by omega) hn.2
    obtain ⟨⟨e, v, e1, v1, cx, fo⟩, k0⟩ := id X
    obtain ⟨A, K, a1, a2, a3⟩ := c_picked hF W cx c0 cl (y := y) (by omega)
    have XA : K1 q h n b fa pl C w a sn A K := K1.fx e1 v1 a3 fo k0 a2
    have YA := Y.hi W a2.hi
    have kA := XA.2
    have kw := pw_ok W c0 cl y
    obtain ⟨B, b1, b2, b3, b4, b5⟩ := c_install (L := K) hF W a3.1 kA.2.2.2.2.1 kA.2.2.2.2.2.1 kA.2.2.2.2.2.2 (show c ≠ 0 by omega) (show c < 128 by omega) kw
    have XB : K1 q h n b fa pl c (pw h c y) _ _ B K := XA.cab (fun r k hr => b2 r k (by omega) (by omega)) b3 (fun _ => b4) b5
    have YB := YA.hi W (I' := B) (fun r k hr => b2 r k (by omega) (by omega))
    obtain ⟨D, d1, d2, YD⟩ := m_acts (L := K) hF W YB
    obtain ⟨E, g1, g2, g3, g4⟩ := m_picks (L := K) hF W YD.H c0 cl (y := y) (by omega)
    have YE := YD.pk W (fun r k c1 c2 c3 c4 c5 c6 _ _ => g2 r k c1 c2 c3 c4 c5 c6)
    have ME := YE.H
    have cin := pw_all W c0 cl y
    -- the seats of the new cabinet are written down
    have wr : ∃ J, (F 1318 32 [some (.ref 49), some (.int (nI c)), some (.int (nI y)), none, none] [] (81, pt_G, E, K)) = some (some (.int (nI (hct h (pw h c y)))), (81, pt_G, J, K)) ∧ (∀ r k, (r = 64 → 9 ≤ k) → J r k = E r k) ∧ NM h c (pw h c y) J := by
      rw [e1318_32 hF]
      simp (disch := omega) only [pm_k_i, Option.toList_some, Option.toList_none, List.cons_append, List.nil_append, cond_true, cond_false, ↓reduceIte, reduceCtorEq, z_1, nI_add, z_cl, z_ib, z_lt, z_le, z_eq, z_eq0, z_le0, z_lt0, z_b0, z_b1, z_m1, z_and7, Int32.add_zero, ib16, cl0]
      refine wl (α := Nat → Nat → Int32) (G := fun k J => (F 1318 44 [some (.ref 49), some (.int (nI c)), some (.int (nI y)), some (.int (nI (lp (fun o a => ad a (pw h c y o)) k 0))), some (.int (nI k))] [] (81, pt_G, J, K))) (P := fun k J => (∀ r k, (r = 64 → 9 ≤ k) → J r k = E r k) ∧ J 64 0 = nI c ∧ ∀ o, o < k → J 64 (1 + o) = nI (pw h c y o)) (Q := fun r => ∃ J, r = some (some (.int (nI (hct h (pw h c y)))), (81, pt_G, J, K)) ∧ (∀ r k, (r = 64 → 9 ≤ k) → J r k = E r k) ∧ NM h c (pw h c y) J) (n := h 0 1) (fun k J hk hJ nx => ?_) (fun J hJ => ?_) 0 _ (Nat.zero_le _) ⟨fun r k hk => ?_, z_ue, fun o ho => absurd ho (by omega)⟩
      · try dsimp only
        obtain ⟨j1, j2, j3⟩ := hJ
        have HJ : MH h J := ME.of (fun k _ _ => j1 49 k (by omega)) (fun r p q k => j1 r k (by omega)) (fun k hk => j1 64 k (by omega))
        have t : J 70 k = nI (pw h c y k) := (j1 70 k (by omega)).trans (g3 k hk).1
        have pb := kw.2 k hk
        have l8 := (hst_ok W kw k (by omega)).1
        have l7 : 2 ^ h 0 0 ≤ 2 ^ 7 := Nat.pow_le_pow_right (by decide) hP
        rw [e1318_44 hF]
        simp (disch := omega) only [pm_k_i, Option.toList_some, Option.toList_none, List.cons_append, List.nil_append, cond_true, cond_false, ↓reduceIte, reduceCtorEq, z_1, nI_add, z_cl, z_ib, z_lt, z_le, z_eq, z_eq0, z_le0, z_lt0, z_b0, z_b1, z_m1, z_and7, Int32.add_zero, HJ.O, hk, z_1p, t, z_ad _ (show lp (fun o a => ad a (pw h c y o)) k 0 < 256 by omega) _ (show pw h c y k < 8 by omega)]
        refine nx _ ⟨fun r m hm => ?_, ?_, fun o ho => ?_⟩
        · by_cases z : r = 64
          · rw [z, z_uk (by have := hm z; omega), ← z]
            exact j1 r m hm
          · rw [z_ur z]
            exact j1 r m hm
        · rw [z_uk (by omega)]
          exact j2
        · by_cases z : o = k
          · rw [z, z_ue]
          · rw [z_uk (by omega)]
            exact j3 o (by omega)
      · try dsimp only
        obtain ⟨j1, j2, j3⟩ := hJ
        have HJ : MH h J := ME.of (fun k _ _ => j1 49 k (by omega)) (fun r p q k => j1 r k (by omega)) (fun k hk => j1 64 k (by omega))
        have l8 := (hst_ok W kw (h 0 1) (by omega)).1
        have l7 : 2 ^ h 0 0 ≤ 2 ^ 7 := Nat.pow_le_pow_right (by decide) hP
        have on := m_ones (I := J) (L := K) hF (C := lp (fun o a => ad a (pw h c y o)) (h 0 1) 0) (by omega)
        rw [e1318_44 hF]
        simp (disch := omega) only [pm_k_i, Option.toList_some, Option.toList_none, List.cons_append, List.nil_append, cond_true, cond_false, ↓reduceIte, reduceCtorEq, z_1, nI_add, z_cl, z_ib, z_lt, z_le, z_eq, z_eq0, z_le0, z_lt0, z_b0, z_b1, z_m1, z_and7, Int32.add_zero, HJ.O, Nat.lt_irrefl, on, e1318_91 hF]
        refine ⟨J, ?_, j1, j2, fun o ho => by rw [if_neg (by omega)]; exact j3 o ho⟩
        rw [← hst_hct W kw]
        rfl
      · by_cases z : r = 64
        · rw [z, z_uk (by have := hk z; omega)]
        · rw [z_ur z]
    obtain ⟨J, j1, j2, j3⟩ := wr
    have YJ := YE.cab (fun r k p1 p2 p3 p4 => j2 r k p2) j3 (YE.2.2.2.2.2.of (j2 49 45 (by omega)) (fun k => j2 65 k (by omega)))
    have lo : LO B J := fun r k hr => ((j2 r k (by omega)).trans (g2 r k (by omega) (by omega) (by omega) (by omega) (by omega) (by omega))).trans (d2 r k hr)
    refine NXT.mk (x := nI (hct h (pw h c y))) (I1 := B) (L1 := K) ?_ ?_ (Z.act (C' := c) (w' := pw h c y) ⟨cl, fun _ => ⟨kw, cin⟩⟩) (XB.lo lo (fun _ _ _ => rfl)) YJ
    · rw [e137_0 hF, c_hasCoalition hF W H]
      simp (disch := omega) only [pm_k_i, Option.toList_some, Option.toList_none, List.cons_append, List.nil_append, cond_true, cond_false, ↓reduceIte, reduceCtorEq, z_1, nI_add, z_cl, z_ib, z_lt, z_le, z_eq, z_eq0, z_le0, z_lt0, z_b0, z_b1, z_m1, z_and7, Int32.add_zero, hn.1, hn.2, e137_8 hF, c_isWay hF, e137_15 hF, a1, e137_34 hF, b1, e137_37 hF]
      try rw [if_neg (by decide)]
    · try dsimp only
      rw [e1318_0 hF, m_isCoalition hF W YB.H]
      simp (disch := omega) only [pm_k_i, Option.toList_some, Option.toList_none, List.cons_append, List.nil_append, cond_true, cond_false, ↓reduceIte, reduceCtorEq, z_1, nI_add, z_cl, z_ib, z_lt, z_le, z_eq, z_eq0, z_le0, z_lt0, z_b0, z_b1, z_m1, z_and7, Int32.add_zero, hn.1, hn.2, e1318_5 hF, m_isWay hF, e1318_17 hF, d1, e1318_26 hF, g1, j1]
      try rw [if_neg (by decide)]
theorem c_holderOf (hF : pm_fix pt_me pt_Sg (pt_R L0 xs) F) (W : WF h) (H : CH h I) (hc : CAB h C w) (h45 : I 44 5 = nI C) (h46 : C ≠ 0 → I 44 6 = nI (hp w)) (x : Int32) : (F 204 0 [some (.ref 44), some (.int x)] [] (81, pt_G, I, L)) = some (some (.int (if C = 0 then -1 else bif vP (h 0 1) x then nI (w x.toNatClampNeg) else -1)), (81, pt_G, I, L)) := by
  have hO := W.O
  have hE := ev_lt W
  have hc1 := hc.1
  rw [e204_0 hF, h45]
  by_cases z : C = 0
  · rw [z, if_pos (show nI 0 = 0 from rfl), if_pos rfl]
  · have k := (hc.2 z).1
    have g := hp_lt k.1
    rw [if_neg (show ¬ nI C = 0 by rw [z_eq0 (by omega)]; exact z), if_neg z, c_hasOffice hF W H]
    cases hv : vP (h 0 1) x with
    | false => simp (disch := omega) only [pm_k_i, Option.toList_some, Option.toList_none, List.cons_append, List.nil_append, cond_true, cond_false, ↓reduceIte, reduceCtorEq, z_1, nI_add, z_cl, z_ib, z_lt, z_le, z_eq, z_eq0, z_le0, z_lt0, z_b0, z_b1, z_m1, z_and7, Int32.add_zero, e204_15 hF]
    | true =>
      obtain ⟨o, ol, rfl⟩ := vP_of (by omega) hv
      simp (disch := omega) only [pm_k_i, Option.toList_some, Option.toList_none, List.cons_append, List.nil_append, cond_true, cond_false, ↓reduceIte, reduceCtorEq, z_1, nI_add, z_cl, z_ib, z_lt, z_le, z_eq, z_eq0, z_le0, z_lt0, z_b0, z_b1, z_m1, z_and7, Int32.add_zero, e204_15 hF, h46 z, c_get hF, e204_26 hF, gs_hp k.1]
      try rw [if_neg (by decide)]
theorem z_trade {x y p q r s : Nat} (h : x + r + s = y + p + q) : nI x - nI y = nI q + nI p - nI r - nI s := by
  have e : nI x + nI r + nI s = nI y + nI p + nI q := by rw [nI_add, nI_add, nI_add, nI_add, h]
  have e2 : nI x = nI y + nI p + nI q - nI s - nI r := by rw [← e]; grind
  rw [e2]
  grind
end
