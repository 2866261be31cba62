/-! ===== one call: trading ===== -/
section
variable {h : Nat → Nat → Nat} {I I' I0 : Nat → Nat → Int32} {L L' : Nat → Nat → Int64}
variable {q n C C' a a' c : Nat} {b w w' : Nat → Nat} {fa pl : Int32} {sn sn' : Nat → SN} {e v : Nat}
variable {F : pm_F} {L0 : Nat} {xs : Nat → Int32}
theorem s_trade (hF : pm_fix pt_me pt_Sg (pt_R L0 xs) F) (Z : GS h n b C w a sn) (X : K1 q h n b fa pl C w a sn I L) (Y : K2 h n b fa pl C w a sn I) (x y : Int32) : NXT q (F 142 0 [some (.ref 0), some (.int x), some (.int y), none, none] [] (81, pt_G, I, L)) (fun I L => (F 1326 0 [some (.ref 49), some (.int x), some (.int y), none, none] [] (81, pt_G, I, L))) := by
  have W := Z.1
  have hP := W.P
  have hO := W.O
  have hE := ev_lt W
  have hc := Z.2.1
  have hc1 := hc.1
  have H := X.H
  have M := Y.H
  have k0 := X.2
  have nm := Y.2.2.2.2.1
  have ho := fun x => c_holderOf (L := L) hF W H hc k0.2.2.2.2.1 k0.2.2.2.2.2.1 x
  -- no act
  have no : (vP (h 0 1) x = true → vP (h 0 1) y = true → C ≠ 0 → w x.toNatClampNeg = w y.toNatClampNeg) → NXT q (F 142 0 [some (.ref 0), some (.int x), some (.int y), none, none] [] (81, pt_G, I, L)) (fun I L => (F 1326 0 [some (.ref 49), some (.int x), some (.int y), none, none] [] (81, pt_G, I, L))) := by
    intro hh
    refine NXT.same Z X Y (x := -1000000) ?_ ?_
    · rw [e142_0 hF, ho]
      simp (disch := omega) only [pm_k_i, Option.toList_some, Option.toList_none, List.cons_append, List.nil_append, cond_true, cond_false, ↓reduceIte, reduceCtorEq, z_1, nI_add, z_cl, z_ib, z_lt, z_le, z_eq, z_eq0, z_le0, z_lt0, z_b0, z_b1, z_m1, z_and7, Int32.add_zero, e142_8 hF, ho, e142_17 hF]
      by_cases z : C = 0
      · rw [if_pos z, if_pos rfl]
      · rw [if_neg z, if_neg z]
        cases hv : vP (h 0 1) x with
        | false => exact if_pos rfl
        | true =>
          cases hu : vP (h 0 1) y with
          | false => 
            show (if nI (w x.toNatClampNeg) = -1 then _ else if (-1 : Int32) = -1 then _ else _) = _
            rw [if_pos (show (-1 : Int32) = -1 from rfl)]
            exact ite_self _
          | true =>
            show (if nI (w x.toNatClampNeg) = -1 then _ else if nI (w y.toNatClampNeg) = -1 then _ else if nI (w x.toNatClampNeg) = nI (w y.toNatClampNeg) then _ else _) = _
            rw [if_pos (show nI (w x.toNatClampNeg) = nI (w y.toNatClampNeg) by rw [hh hv hu z])]
            split
            · rfl
            · split <;> rfl
    · try dsimp only
      rw [e1326_0 hF, m_isOffice hF W M]
      simp (disch := omega) only [pm_k_i, Option.toList_some, Option.toList_none, List.cons_append, List.nil_append, cond_true, cond_false, ↓reduceIte, reduceCtorEq, z_1, nI_add, z_cl, z_ib, z_lt, z_le, z_eq, z_eq0, z_le0, z_lt0, z_b0, z_b1, z_m1, z_and7, Int32.add_zero, e1326_5 hF, m_isOffice hF W M, e1326_13 hF]
      cases hv : vP (h 0 1) x with
      | false => rfl
      | true =>
        cases hu : vP (h 0 1) y with
        | false => rfl
        | true =>
          obtain ⟨o, ol, rfl⟩ := vP_of (by omega) hv
          obtain ⟨p, pl', rfl⟩ := vP_of (by omega) hu
          have t1 := nm.2 o ol
          have t2 := nm.2 p pl'
          by_cases z : C = 0
          · rw [if_pos z] at t1
            simp (disch := omega) only [pm_k_i, Option.toList_some, Option.toList_none, List.cons_append, List.nil_append, cond_true, cond_false, ↓reduceIte, reduceCtorEq, z_1, nI_add, z_cl, z_ib, z_lt, z_le, z_eq, z_eq0, z_le0, z_lt0, z_b0, z_b1, z_m1, z_and7, Int32.add_zero, z_1p, t1]
            try rw [if_neg (by decide), if_neg (by decide)]
          · rw [if_neg z] at t1 t2
            have hw := hh hv hu z
            rw [z_cl (by omega), z_cl (by omega)] at hw
            have k := (hc.2 z).1
            have := k.1.1 o
            rw [hw] at t1
            simp (disch := omega) only [pm_k_i, Option.toList_some, Option.toList_none, List.cons_append, List.nil_append, cond_true, cond_false, ↓reduceIte, reduceCtorEq, z_1, nI_add, z_cl, z_ib, z_lt, z_le, z_eq, z_eq0, z_le0, z_lt0, z_b0, z_b1, z_m1, z_and7, Int32.add_zero, z_1p, t1, t2]
            try rw [if_neg (by decide), if_neg (by decide)]
  cases hv : vP (h 0 1) x with
  | false => exact no (fun p => by rw [hv] at p; cases p)
  | true =>
    cases hu : vP (h 0 1) y with
    | false => exact no (fun _ p => by rw [hu] at p; cases p)
    | true =>
      by_cases z : C = 0
      · exact no (fun _ _ p => absurd z p)
      · by_cases d : w x.toNatClampNeg = w y.toNatClampNeg
        · exact no (fun _ _ _ => d)
        · obtain ⟨o, ol, rfl⟩ := vP_of (by omega) hv
          obtain ⟨p, pl', rfl⟩ := vP_of (by omega) hu
          rw [z_cl (by omega), z_cl (by omega)] at d
          have k := (hc.2 z).1
          have b1 := k.2 o ol
          have b2 := k.2 p pl'
          have op : o ≠ p := fun e => d (by rw [e])
          obtain ⟨A, a1, a2, a3, a4, a5⟩ := c_exchange (L := L) hF W H k0.2.2.2.2.1 k (k0.2.2.2.2.2.1 z) k0.2.2.2.2.2.2 ol pl'
          have XA : K1 q h n b fa pl C (xw w o p) _ _ A L := X.cab (fun r k hr => a2 r k (by omega) (by omega)) a3 (fun _ => a4) a5
          have YA := Y.hi W (I' := A) (fun r k hr => a2 r k (by omega) (by omega))
          obtain ⟨D, d1, d2, YD⟩ := m_acts (L := L) hF W YA
          have nA := YA.2.2.2.2.1
          have t1 := nA.2 o ol
          have t2 := nA.2 p pl'
          have nD := YD.2.2.2.2.1
          rw [if_neg z] at t1 t2
          have jf : ∀ r k, (r = 64 → 9 ≤ k) → pm_ui (pm_ui D 64 (1 + o) (nI (w p))) 64 (1 + p) (nI (w o)) r k = D r k := fun r k hk => by
            by_cases e : r = 64
            · have := hk e
              rw [e, z_uk (by omega), z_uk (by omega)]
            · rw [z_ur e, z_ur e]
          have N : NM h C (xw w o p) (pm_ui (pm_ui D 64 (1 + o) (nI (w p))) 64 (1 + p) (nI (w o))) := by
            refine ⟨by rw [z_uk (by omega), z_uk (by omega)]; exact nD.1, fun j hj => ?_⟩
            rw [if_neg z]
            unfold xw up
            by_cases e1 : j = p
            · rw [e1, z_ue, if_pos rfl]
            · rw [z_uk (by omega), if_neg e1]
              by_cases e2 : j = o
              · rw [e2, z_ue, if_pos rfl]
              · rw [z_uk (by omega), if_neg e2]
                have := nD.2 j hj
                rw [if_neg z] at this
                exact this
          have YE := YD.cab (fun r k p1 p2 p3 p4 => jf r k p2) N (YD.2.2.2.2.2.of (jf 49 45 (by omega)) (fun k => jf 65 k (by omega)))
          have ME := YE.H
          have lo : LO A (pm_ui (pm_ui D 64 (1 + o) (nI (w p))) 64 (1 + p) (nI (w o))) := fun r k hr => (jf r k (by omega)).trans (d2 r k hr)
          have w1 := hc.2 z
          refine NXT.mk (x := xch h w o p) (I1 := A) (L1 := L) ?_ ?_ (Z.act (C' := C) (w' := xw w o p) ⟨hc1, fun _ => ⟨xw_ok W k ol pl', up_all (A := fun j => C.testBit j = true) (up_all (A := fun j => C.testBit j = true) w1.2 (w1.2 p pl')) (w1.2 o ol)⟩⟩) (XA.lo lo (fun _ _ _ => rfl)) YE
          · rw [e142_0 hF, ho]
            simp (disch := omega) only [pm_k_i, Option.toList_some, Option.toList_none, List.cons_append, List.nil_append, cond_true, cond_false, ↓reduceIte, reduceCtorEq, z_1, nI_add, z_cl, z_ib, z_lt, z_le, z_eq, z_eq0, z_le0, z_lt0, z_b0, z_b1, z_m1, z_and7, Int32.add_zero, e142_8 hF, ho, e142_17 hF, hv, hu, z]
            simp (disch := omega) only [pm_k_i, Option.toList_some, Option.toList_none, List.cons_append, List.nil_append, cond_true, cond_false, ↓reduceIte, reduceCtorEq, z_1, nI_add, z_cl, z_ib, z_lt, z_le, z_eq, z_eq0, z_le0, z_lt0, z_b0, z_b1, z_m1, z_and7, Int32.add_zero, d, a1, e142_48 hF]
          · try dsimp only
            rw [e1326_0 hF, m_isOffice hF W YA.H]
            simp (disch := omega) only [pm_k_i, Option.toList_some, Option.toList_none, List.cons_append, List.nil_append, cond_true, cond_false, ↓reduceIte, reduceCtorEq, z_1, nI_add, z_cl, z_ib, z_lt, z_le, z_eq, z_eq0, z_le0, z_lt0, z_b0, z_b1, z_m1, z_and7, Int32.add_zero, e1326_5 hF, m_isOffice hF W YA.H, e1326_13 hF, hv, hu, z_1p, t1, t2, d, d1, e1326_86 hF, m_worthOf hF W ME b1 pl', m_worthOf hF W ME b2 ol, m_worthOf hF W ME b1 ol, m_worthOf hF W ME b2 pl', e1326_111 hF, e1326_118 hF, e1326_125 hF, e1326_133 hF]
            try rw [if_neg (by decide), if_neg (by decide)]
            unfold xch
            rw [z_trade (wal_xch op ol pl')]
            try rw [nI_add]
end
