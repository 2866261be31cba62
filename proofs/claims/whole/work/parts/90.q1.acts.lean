/-! ===== one call: the acts ===== -/
section
variable {h : Nat → Nat → Nat} {I I' I0 : Nat → Nat → Int32} {L L' : Nat → Nat → Int64}
variable {q n C C' a a' c : Nat} {b w w' : Nat → Nat} {fa pl : Int32} {sn sn' : Nat → SN} {e v : Nat}
variable {F : pm_F} {L0 : Nat} {xs : Nat → Int32}
theorem CX.r44 (X : CX h e v I L) (f : ∀ r k, r < 44 → I' r k = I r k) : CX h e v I' L := by
  have g : LO (fun r k => if 44 ≤ r then I' r k else I r k) I' := fun r k _ => by
    by_cases c : 44 ≤ r
    · exact (if_pos c).symm
    · exact (f r k (by omega)).trans (if_neg c).symm
  exact (show CX h e v (fun r k => if 44 ≤ r then I' r k else I r k) L from X).lo g (fun _ _ _ => rfl)
/-- the class with another cabinet -/
theorem K1.cab (X : K1 q h n b fa pl C w a sn I L) (f : ∀ r k, r < 44 → I' r k = I r k) (i1 : I' 44 5 = nI C') (i2 : C' ≠ 0 → I' 44 6 = nI (hp w')) (A : ACC (h 0 0) a' sn' (h 1) I') : K1 q h n b fa pl C' w' a' sn' I' L := by
  obtain ⟨⟨e, v, e1, v1, cx, fo⟩, x1, x2, x3, x4, x5, x6, x7⟩ := X
  exact ⟨⟨e, v, e1, v1, cx.r44 f, fo.of (fun r k p q => f r k (by omega))⟩, x1.of (f 1 1 (by omega)) (fun i => f 2 i (by omega)), x2, by rw [f 10 8 (by omega)]; exact x3, by rw [f 10 9 (by omega)]; exact x4, i1, i2, A⟩
/-- what an act of the model leaves alone -/
def AF (I I' : Nat → Nat → Int32) : Prop := ∀ r k, (r = 49 → k ≠ 45 ∧ k ≠ 51) → (r = 64 → 9 ≤ k) → r ≠ 65 → (r < 66 ∨ 72 < r) → I' r k = I r k
theorem AF.trans (f : AF I0 I) (g : AF I I') : AF I0 I' := fun r k p1 p2 p3 p4 => (g r k p1 p2 p3 p4).trans (f r k p1 p2 p3 p4)
theorem MH.af (H : MH h I) (f : AF I I') : MH h I' := H.of (fun k _ _ => f 49 k (fun _ => by omega) (by omega) (by omega) (by omega)) (fun r p q k => f r k (by omega) (by omega) (by omega) (by omega)) (fun k hk => f 64 k (by omega) (fun _ => hk) (by omega) (by omega))
theorem MX.af (X : MX h I) (f : AF I I') : MX h I' := by
  obtain ⟨x1, x2⟩ := X
  refine ⟨x1.af f, ?_⟩
  rw [f 49 57 (by omega) (by omega) (by omega) (by omega)]
  rcases x2 with x2 | ⟨x2, y1, y2⟩
  · exact Or.inl x2
  · exact Or.inr ⟨x2, y1.of (fun r k p => f r k (by omega) (by omega) (by omega) (by omega)), fun c c0 c1 => by rw [f 75 c (by omega) (by omega) (by omega) (by omega)]; exact y2 c c0 c1⟩
/-- the model with another cabinet -/
theorem K2.cab (Y : K2 h n b fa pl C w a sn I) (f : AF I I') (N : NM h C' w' I') (A : ACM h a' sn' I') : K2 h n b fa pl C' w' a' sn' I' := by
  obtain ⟨x1, x2, x3, x4, x5, x6⟩ := Y
  exact ⟨x1.af f, x2.of (f 49 1 (by omega) (by omega) (by omega) (by omega)) (fun i => f 50 i (by omega) (by omega) (by omega) (by omega)), by rw [f 49 10 (by omega) (by omega) (by omega) (by omega)]; exact x3, by rw [f 49 11 (by omega) (by omega) (by omega) (by omega)]; exact x4, N, A⟩
theorem K2.SR (Y : K2 h n b fa pl C w a sn I) : SR h (C, w, h 1) (fun k => I 64 k) := ⟨Y.2.2.2.2.1.1, Y.2.2.2.2.1.2, fun p hp => Y.H.seats hp⟩
theorem psh_ok {R : SN → Prop} {x : SN} (hR : ∀ i, i < a → R (sn i)) (ha : a ≤ 12) (hx : R x) : ∀ i, i < acm a + 1 → R (psh a sn x i) := by
  intro i hi
  unfold psh
  by_cases z : i = acm a
  · rw [if_pos z]
    exact hx
  · rw [if_neg z]
    unfold acm at hi z
    unfold acs
    by_cases d : a < 12
    · rw [if_pos d] at hi z ⊢
      exact hR i (by omega)
    · rw [if_neg d] at hi z ⊢
      exact hR (i + 1) (by omega)
theorem GS.act (Z : GS h n b C w a sn) (c : CAB h C' w') : GS h n b C' w' (acm a + 1) (psh a sn (C, w, h 1)) :=
  ⟨Z.1, c, by have := acm_lt a; omega, psh_ok (R := fun s => CAB h s.1 s.2.1 ∧ ∀ p, 1 ≤ s.2.2 p ∧ s.2.2 p ≤ 999) Z.2.2.2.1 Z.2.2.1 ⟨Z.2.1, Z.1.seats⟩, Z.2.2.2.2.1, Z.2.2.2.2.2⟩
/-- the model's act -/
theorem m_acts (hF : pm_fix pt_me pt_Sg (pt_R L0 xs) F) (W : WF h) (Y : K2 h n b fa pl C w a sn I) : ∃ I', (F 1240 0 [some (.ref 49), none] [] (81, pt_G, I, L)) = some (none, (81, pt_G, I', L)) ∧ LO I I' ∧ K2 h n b fa pl C w (acm a + 1) (psh a sn (C, w, h 1)) I' := by
  obtain ⟨A, a1, a2, a3⟩ := m_act (L := L) hF W Y.2.2.2.2.2 Y.SR
  exact ⟨A, a1, fun r k hr => a2 r k (by omega) (by omega), Y.cab (fun r k p1 p2 p3 p4 => a2 r k p3 (fun z => (p1 z).1)) (Y.2.2.2.2.1.of (fun k _ => a2 64 k (by omega) (by omega)) W) a3⟩
theorem s_leave (hF : pm_fix pt_me pt_Sg (pt_R L0 xs) F) (Z : GS h n b C w a sn) (X : K1 q h n b fa pl C w a sn I L) (Y : K2 h n b fa pl C w a sn I) (x : Int32) : NXT q (F 139 0 [some (.ref 0), some (.int x)] [] (81, pt_G, I, L)) (fun I L => (F 1321 0 [some (.ref 49), some (.int x)] [] (81, pt_G, I, L))) := by
  have W := Z.1
  have hP := W.P
  have hE := ev_lt W
  have hc := Z.2.1
  have hc1 := hc.1
  have H := X.H
  have M := Y.H
  have k0 := X.2
  have nm := Y.2.2.2.2.1
  cases hv : vP (h 0 0) x with
  | false =>
    refine NXT.same Z X Y (x := -1) ?_ ?_
    · rw [e139_0 hF, e203_0 hF, c_hasParty hF W H]
      simp (disch := omega) only [pm_k_i, Option.toList_some, Option.toList_none, List.cons_append, List.nil_append, cond_true, cond_false, ↓reduceIte, reduceCtorEq, z_1, nI_add, z_cl, z_ib, z_lt, z_le, z_eq, z_eq0, z_le0, z_lt0, z_b0, z_b1, z_m1, z_and7, Int32.add_zero, hv, e203_8 hF, e139_8 hF]
    · try dsimp only
      rw [e1321_0 hF, m_isParty hF W M]
      simp (disch := omega) only [pm_k_i, Option.toList_some, Option.toList_none, List.cons_append, List.nil_append, cond_true, cond_false, ↓reduceIte, reduceCtorEq, z_1, nI_add, z_cl, z_ib, z_lt, z_le, z_eq, z_eq0, z_le0, z_lt0, z_b0, z_b1, z_m1, z_and7, Int32.add_zero, hv, e1321_5 hF]
  | true =>
    obtain ⟨p, pl', rfl⟩ := vP_of (by omega) hv
    cases hb : C.testBit p with
    | false =>
      refine NXT.same Z X Y (x := -1) ?_ ?_
      · rw [e139_0 hF, e203_0 hF, c_hasParty hF W H]
        simp (disch := omega) only [pm_k_i, Option.toList_some, Option.toList_none, List.cons_append, List.nil_append, cond_true, cond_false, ↓reduceIte, reduceCtorEq, z_1, nI_add, z_cl, z_ib, z_lt, z_le, z_eq, z_eq0, z_le0, z_lt0, z_b0, z_b1, z_m1, z_and7, Int32.add_zero, hv, e203_8 hF, k0.2.2.2.2.1, c_isIn hF, hb, e203_19 hF, e139_8 hF]
      · try dsimp only
        rw [e1321_0 hF, m_isParty hF W M]
        simp (disch := omega) only [pm_k_i, Option.toList_some, Option.toList_none, List.cons_append, List.nil_append, cond_true, cond_false, ↓reduceIte, reduceCtorEq, z_1, nI_add, z_cl, z_ib, z_lt, z_le, z_eq, z_eq0, z_le0, z_lt0, z_b0, z_b1, z_m1, z_and7, Int32.add_zero, hv, e1321_5 hF, ib16, cl0, nm.1, m_holds hF, hb, e1321_18 hF]
    | true =>
      have c0 := bit_pos hb
      obtain ⟨A, a1, a2, a3⟩ := c_remember (L := L) (x := -1) (T := h 1) hF W H k0.2.2.2.2.1 k0.2.2.2.2.2.1 k0.2.2.2.2.2.2 (Or.inl ⟨rfl, rfl⟩)
      have HA : CH h A := H.of (fun k _ => a2 3 k (by omega) (by omega)) (fun r p q k => a2 r k (by omega) (by omega))
      obtain ⟨B, b1, b2, b3, b4⟩ := c_letGo (L := L) hF W HA (by rw [a2 44 5 (by omega) (by omega)]; exact k0.2.2.2.2.1) (by rw [a2 44 6 (by omega) (by omega)]; exact k0.2.2.2.2.2.1 c0) hc hb
      have XB : K1 q h n b fa pl (rm C p) (lgw h C w p) _ _ B L := X.cab (fun r k hr => by rw [b2 r k (by omega), a2 r k (by omega) (by omega)]) b3 b4 (a3.of (b2 44 7 (by omega)) (fun r j p q => b2 r j (by omega)))
      have YB := Y.hi W (I' := B) (fun r k hr => by rw [b2 r k (by omega), a2 r k (by omega) (by omega)])
      obtain ⟨D, d1, d2, YD⟩ := m_acts (L := L) hF W YB
      obtain ⟨E, e1, e2, e3⟩ := m_goesOut (L := L) hF W YD.H hc YD.2.2.2.2.1 hb
      have YE := YD.cab (fun r k p1 p2 p3 p4 => e2 r k p2 (by omega)) e3 (YD.2.2.2.2.2.of (e2 49 45 (by omega) (by omega)) (fun j => e2 65 j (by omega) (by omega)))
      have lo : LO B E := fun r k hr => (e2 r k (by omega) (by omega)).trans (d2 r k hr)
      refine NXT.mk (x := nI (pc (fro h w p))) (I1 := B) (L1 := L) ?_ ?_ (Z.act (lgw_ok W hc hb)) (XB.lo lo (fun _ _ _ => rfl)) YE
      · rw [e139_0 hF, e203_0 hF, c_hasParty hF W H]
        simp (disch := omega) only [pm_k_i, Option.toList_some, Option.toList_none, List.cons_append, List.nil_append, cond_true, cond_false, ↓reduceIte, reduceCtorEq, z_1, nI_add, z_cl, z_ib, z_lt, z_le, z_eq, z_eq0, z_le0, z_lt0, z_b0, z_b1, z_m1, z_and7, Int32.add_zero, hv, e203_8 hF, k0.2.2.2.2.1, c_isIn hF, hb, e203_19 hF, e139_8 hF, a1, e139_21 hF, b1, e139_29 hF]
        rw [if_neg (by decide)]
      · try dsimp only
        rw [e1321_0 hF, m_isParty hF W YB.H]
        simp (disch := omega) only [pm_k_i, Option.toList_some, Option.toList_none, List.cons_append, List.nil_append, cond_true, cond_false, ↓reduceIte, reduceCtorEq, z_1, nI_add, z_cl, z_ib, z_lt, z_le, z_eq, z_eq0, z_le0, z_lt0, z_b0, z_b1, z_m1, z_and7, Int32.add_zero, hv, e1321_5 hF, ib16, cl0, YB.2.2.2.2.1.1, m_holds hF, hb, e1321_18 hF, d1, e1321_27 hF, e1, e1321_32 hF]
theorem s_crisis (hF : pm_fix pt_me pt_Sg (pt_R L0 xs) F) (Z : GS h n b C w a sn) (X : K1 q h n b fa pl C w a sn I L) (Y : K2 h n b fa pl C w a sn I) : NXT q (F 141 0 [some (.ref 0)] [] (81, pt_G, I, L)) (fun I L => (F 1325 0 [some (.ref 49), none, none] [] (81, pt_G, I, L))) := by
  have W := Z.1
  have hP := W.P
  have hE := ev_lt W
  have hc := Z.2.1
  have H := X.H
  have M := Y.H
  have k0 := X.2
  obtain ⟨A, a1, a2, a3, a4, a5⟩ := c_crisis (L := L) hF W H k0.2.2.2.2.1 k0.2.2.2.2.2.1 hc k0.2.2.2.2.2.2
  obtain ⟨g1, g2, g3⟩ := ff_some (cgo_some W hc)
  have YA := Y.hi W (I' := A) (fun r k hr => a2 r k (by omega) (by omega))
  have mdl : ∃ B, (F 1325 0 [some (.ref 49), none, none] [] (81, pt_G, A, L)) = some (some (.int (nI (cgo h C w))), (81, pt_G, B, L)) ∧ LO A B ∧ (if cgo h C w = 0 then K2 h n b fa pl (crn h C w (cgo h C w)).1 (crn h C w (cgo h C w)).2 a sn B else K2 h n b fa pl (crn h C w (cgo h C w)).1 (crn h C w (cgo h C w)).2 (acm a + 1) (psh a sn (C, w, h 1)) B) := by
    rw [e1325_0 hF, m_goer hF W YA.H hc YA.2.2.2.2.1]
    simp (disch := omega) only [pm_k_i, Option.toList_some, Option.toList_none, List.cons_append, List.nil_append, cond_true, cond_false, ↓reduceIte, reduceCtorEq, z_1, nI_add, z_cl, z_ib, z_lt, z_le, z_eq, z_eq0, z_le0, z_lt0, z_b0, z_b1, z_m1, z_and7, Int32.add_zero, e1325_6 hF]
    refine wl (α := Nat → Nat → Int32) (G := fun k J => (F 1325 7 [some (.ref 49), some (.int (nI k)), some (.int (oI (fup h (crn h C w k).1 (crn h C w k).2)))] [] (81, pt_G, J, L))) (P := fun k J => LO A J ∧ (if k = 0 then K2 h n b fa pl (crn h C w k).1 (crn h C w k).2 a sn J else K2 h n b fa pl (crn h C w k).1 (crn h C w k).2 (acm a + 1) (psh a sn (C, w, h 1)) J)) (Q := fun r => ∃ B, r = some (some (.int (nI (cgo h C w))), (81, pt_G, B, L)) ∧ LO A B ∧ (if cgo h C w = 0 then K2 h n b fa pl (crn h C w (cgo h C w)).1 (crn h C w (cgo h C w)).2 a sn B else K2 h n b fa pl (crn h C w (cgo h C w)).1 (crn h C w (cgo h C w)).2 (acm a + 1) (psh a sn (C, w, h 1)) B)) (n := cgo h C w) (fun k J hk hJ nx => ?_) (fun J hJ => ?_) 0 A (Nat.zero_le _) ⟨fun _ _ _ => rfl, by rw [if_pos rfl]; exact YA⟩
    · try dsimp only
      have ck := crn_ok W hc k
      have nn := g3 k hk
      cases fu : fup h (crn h C w k).1 (crn h C w k).2 with
      | none => rw [fu] at nn; cases nn
      | some p =>
        have fi := fup_in fu
        have st : crn h C w (k + 1) = (rm (crn h C w k).1 p, lgw h (crn h C w k).1 (crn h C w k).2 p) := by
          show crs1 h (crn h C w k) = _
          unfold crs1
          rw [fu]
        -- one goes
        have go : ∀ (a' : Nat) (sn' : Nat → SN) (J' : Nat → Nat → Int32), LO A J' → K2 h n b fa pl (crn h C w k).1 (crn h C w k).2 a' sn' J' → (a' = acm a + 1 ∧ sn' = psh a sn (C, w, h 1)) → ∃ B, (F 1325 20 [some (.ref 49), some (.int (nI k)), some (.int (nI p))] [] (81, pt_G, J', L)) = some (some (.int (nI (cgo h C w))), (81, pt_G, B, L)) ∧ LO A B ∧ (if cgo h C w = 0 then K2 h n b fa pl (crn h C w (cgo h C w)).1 (crn h C w (cgo h C w)).2 a sn B else K2 h n b fa pl (crn h C w (cgo h C w)).1 (crn h C w (cgo h C w)).2 (acm a + 1) (psh a sn (C, w, h 1)) B) := by
          intro a' sn' J' lo YJ ⟨r1, r2⟩
          obtain ⟨E, e1, e2, e3⟩ := m_goesOut (L := L) hF W YJ.H ck YJ.2.2.2.2.1 fi.2
          have YE := YJ.cab (fun r k p1 p2 p3 p4 => e2 r k p2 (by omega)) e3 (YJ.2.2.2.2.2.of (e2 49 45 (by omega) (by omega)) (fun j => e2 65 j (by omega) (by omega)))
          subst r1 r2
          have c2 := crn_ok W hc (k + 1)
          have ge := m_goer (L := L) hF W YE.H (lgw_ok W ck fi.2) YE.2.2.2.2.1
          rw [e1325_20 hF, e1]
          simp (disch := omega) only [pm_k_i, Option.toList_some, Option.toList_none, List.cons_append, List.nil_append, cond_true, cond_false, ↓reduceIte, reduceCtorEq, z_1, nI_add, z_cl, z_ib, z_lt, z_le, z_eq, z_eq0, z_le0, z_lt0, z_b0, z_b1, z_m1, z_and7, Int32.add_zero, e1325_25 hF, ge, e1325_33 hF]
          have := nx E ⟨fun r k hr => (e2 r k (by omega) (by omega)).trans (lo r k hr), by rw [if_neg (by omega), st]; exact YE⟩
          try dsimp only at this
          rw [st] at this
          exact this
        rw [e1325_7 hF]
        have pb : p < 2147483648 := by have := fi.1; omega
        show ∃ B, (if nI p = -1 then _ else _) = _ ∧ _
        simp (disch := omega) only [pm_k_i, Option.toList_some, Option.toList_none, List.cons_append, List.nil_append, cond_true, cond_false, ↓reduceIte, reduceCtorEq, z_1, nI_add, z_cl, z_ib, z_lt, z_le, z_eq, z_eq0, z_le0, z_lt0, z_b0, z_b1, z_m1, z_and7, Int32.add_zero]
        by_cases z : k = 0
        · subst z
          rw [if_pos rfl] at hJ
          obtain ⟨D, d1, d2, YD⟩ := m_acts (L := L) hF W hJ.2
          rw [if_pos rfl, d1]
          exact go _ _ D (fun r k hr => (d2 r k hr).trans (hJ.1 r k hr)) YD ⟨rfl, rfl⟩
        · rw [if_neg z] at hJ ⊢
          exact go _ _ J hJ.1 hJ.2 ⟨rfl, rfl⟩
    · try dsimp only
      cases fu : fup h (crn h C w (cgo h C w)).1 (crn h C w (cgo h C w)).2 with
      | some p => rw [fu] at g2; cases g2
      | none =>
        refine ⟨J, ?_, hJ.1, hJ.2⟩
        rw [e1325_7 hF]
        exact if_pos rfl
  obtain ⟨B, b1, lo, b3⟩ := mdl
  have cls : (F 141 0 [some (.ref 0)] [] (81, pt_G, I, L)) = some (some (.int (nI (cgo h C w))), (81, pt_G, A, L)) := by
    rw [e141_0 hF, a1]
    simp (disch := omega) only [pm_k_i, Option.toList_some, Option.toList_none, List.cons_append, List.nil_append, cond_true, cond_false, ↓reduceIte, reduceCtorEq, z_1, nI_add, z_cl, z_ib, z_lt, z_le, z_eq, z_eq0, z_le0, z_lt0, z_b0, z_b1, z_m1, z_and7, Int32.add_zero, e141_7 hF]
  have fr : ∀ r k, r < 44 → A r k = I r k := fun r k hr => a2 r k (by omega) (by omega)
  have cr := crn_ok W hc (cgo h C w)
  by_cases z : cgo h C w = 0
  · rw [if_pos z] at a5 b3
    refine NXT.mk cls (I2 := B) (L2 := L) ?_ (h := h) (n := n) (b := b) (a := a) (sn := sn) (C := (crn h C w (cgo h C w)).1) (w := (crn h C w (cgo h C w)).2) ⟨Z.1, cr, Z.2.2⟩ ((X.cab fr a3 a4 a5).lo lo (fun _ _ _ => rfl)) b3
    exact b1
  · rw [if_neg z] at a5 b3
    refine NXT.mk cls (I2 := B) (L2 := L) ?_ (Z.act cr) ((X.cab fr a3 a4 a5).lo lo (fun _ _ _ => rfl)) b3
    exact b1
end
