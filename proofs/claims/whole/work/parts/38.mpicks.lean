/-! ===== picks of the model; one office instead ===== -/
section
variable {h : Nat → Nat → Nat}
/-- the turns, who gets what foreseen, who gets what by the three ways -/
def du (h : Nat → Nat → Nat) (C : Nat) : Nat → Nat := tq h (h 0 2) (h 0 3) C
def fs (h : Nat → Nat → Nat) (C : Nat) : Nat → Nat := pks h (du h C) (cF h (du h C))
def pw (h : Nat → Nat → Nat) (C y : Nat) : Nat → Nat := match y with
  | 0 => pks h (du h C) (cS h (du h C))
  | 1 => fs h C
  | _ => stl h (fs h C)
theorem du_ok (W : WF h) {C : Nat} (h0 : 0 < C) (hC : C ≤ ev h) : K8 (du h C) ∧ (∀ i, i < h 0 1 → du h C i < h 0 0 ∧ C.testBit (du h C i) = true) ∧ ∀ i, i < h 0 1 → du h C i = tw h (h 0 2) (h 0 3) C i := by
  have hO := W.O
  obtain ⟨p, hp1, hp2⟩ := mem_ex W h0 hC
  have e : ∀ i, i < h 0 1 → du h C i = tw h (h 0 2) (h 0 3) C i := fun i hi => by
    unfold du tq
    rw [show Nat.blt i (h 0 1) = true from Nat.ble_eq_true_of_le hi]
    rfl
  exact ⟨tq_K8 W hp1 hp2 hO, fun i hi => by rw [e i hi]; exact ⟨(tw_lt hp1 hp2 i).1, tw_in hp1 hp2 i⟩, e⟩
theorem fs_ok (W : WF h) {C : Nat} (h0 : 0 < C) (hC : C ≤ ev h) : WK h (fs h C) := pks_ok W (fun i hi => ((du_ok W h0 hC).2.1 i hi).1) (PK_F W _)
theorem pw_ok (W : WF h) {C : Nat} (h0 : 0 < C) (hC : C ≤ ev h) (y : Nat) : WK h (pw h C y) := by
  unfold pw
  split
  · exact pks_ok W (fun i hi => ((du_ok W h0 hC).2.1 i hi).1) (PK_S W _)
  · exact fs_ok W h0 hC
  · exact (fs_ok W h0 hC).it W _
/-- all that hold are of the coalition -/
theorem up_all {A : Nat → Prop} {w : Nat → Nat} {n a v : Nat} (hw : ∀ o, o < n → A (w o)) (hv : A v) : ∀ o, o < n → A (up w a v o) := by
  intro o ho
  unfold up
  split
  · exact hv
  · exact hw o ho
theorem sw1_all (W : WF h) {A : Nat → Prop} {w : Nat → Nat} (hw : ∀ o, o < h 0 1 → A (w o)) : ∀ o, o < h 0 1 → A (sw1 h w o) := by
  unfold sw1
  cases e : fsw h w with
  | none => exact hw
  | some m =>
    obtain ⟨a, b, rfl, h1, h2, h3, h4, h5⟩ := fsw_some W e
    dsimp only
    rw [h4, h5]
    exact up_all (up_all hw (hw b h2)) (hw a (by omega))
theorem pw_all (W : WF h) {C : Nat} (h0 : 0 < C) (hC : C ≤ ev h) (y : Nat) : ∀ o, o < h 0 1 → C.testBit (pw h C y o) = true := by
  have d := du_ok W h0 hC
  have f : ∀ o, o < h 0 1 → C.testBit (fs h C o) = true := pks_all W (fun i hi => (d.2.1 i hi).1) (PK_F W _) (A := fun x => C.testBit x = true) (fun i hi => (d.2.1 i hi).2)
  unfold pw
  split
  · exact pks_all W (fun i hi => (d.2.1 i hi).1) (PK_S W _) (A := fun x => C.testBit x = true) (fun i hi => (d.2.1 i hi).2)
  · exact f
  · have : ∀ n o, o < h 0 1 → C.testBit (itw h (fs h C) n o) = true := by
      intro n
      induction n with
      | zero => exact f
      | succ n ih => exact sw1_all W (A := fun x => C.testBit x = true) ih
    exact this _
variable {F : pm_F} {L0 : Nat} {xs : Nat → Int32} {I : Nat → Nat → Int32} {L : Nat → Nat → Int64}
theorem m_picks (hF : pm_fix pt_me pt_Sg (pt_R L0 xs) F) (W : WF h) (H : MH h I) {C y : Nat} (h0 : 0 < C) (hC : C ≤ ev h) (hy : y ≤ 2) : ∃ I', (F 1266 0 [some (.ref 49), some (.int (nI C)), some (.int (nI y)), none, none, none] [] (81, pt_G, I, L)) = some (none, (81, pt_G, I', L)) ∧ (∀ r k, (r = 49 → k ≠ 51) → r ≠ 66 → r ≠ 67 → r ≠ 68 → r ≠ 69 → r ≠ 70 → I' r k = I r k) ∧ OW h (pw h C y) I' ∧ (y = 2 → I' 49 51 = nI (stn h (fs h C))) := by
  have hP := W.P
  have hO := W.O
  have h2 := o256 W
  obtain ⟨d1, d2, d3⟩ := du_ok W h0 hC
  obtain ⟨I1, a1, a2, a3, a4⟩ := m_laysTurns (L := L) hF W H h0 hC
  have a5 : ∀ i, i < h 0 1 → I1 66 i = nI (du h C i) ∧ du h C i < h 0 0 := fun i hi => ⟨by rw [a3 i hi, d3 i hi], (d2 i hi).1⟩
  rw [e1266_0 hF, a1, pm_k_i, show Option.toList (none : Option Value) ++ [] = [] from rfl, e1266_5 hF]
  -- ahead of the loop
  have key : ∀ J : Nat → Nat → Int32, (∀ r k, (r = 49 → k ≠ 51) → r ≠ 66 → r ≠ 67 → r ≠ 68 → r ≠ 69 → J r k = I r k) → (∀ i, i < h 0 1 → J 66 i = nI (du h C i)) → J 49 51 = 0 → (∀ l, 0 < l → l < 2 ^ h 0 1 → 0 < y → J 69 l = nI (fch h (du h C) l)) → ∃ I', (F 1266 18 [some (.ref 49), some (.int (nI C)), some (.int (nI y)), none, none, none] [] (81, pt_G, J, L)) = some (none, (81, pt_G, I', L)) ∧ (∀ r k, (r = 49 → k ≠ 51) → r ≠ 66 → r ≠ 67 → r ≠ 68 → r ≠ 69 → r ≠ 70 → I' r k = I r k) ∧ OW h (pw h C y) I' ∧ (y = 2 → I' 49 51 = nI (stn h (fs h C))) := by
    intro J j1 j2 j3 j4
    have HJ : MH h J := H.of (fun k a b => j1 49 k (fun _ => by omega) (by omega) (by omega) (by omega) (by omega)) (fun r a b k => j1 r k (fun e => by omega) (by omega) (by omega) (by omega) (by omega)) (fun k a => j1 64 k (fun e => by omega) (by omega) (by omega) (by omega) (by omega))
    rw [e1266_18 hF, m_all hF W HJ, pm_k_i, show Option.toList (some (Value.int (nI (2 ^ h 0 1 - 1)))) ++ [] = [Value.int (nI (2 ^ h 0 1 - 1))] from rfl, e1266_22 hF]
    -- the loop, whichever way offices are picked
    have loop : ∀ c : Nat → Nat → Nat, PK h c → (∀ k M, k < h 0 1 → (∀ r k, r ≠ 70 → M r k = J r k) → (F 1266 26 [some (.ref 49), some (.int (nI C)), some (.int (nI y)), some (.int (nI (pkS h (du h C) c k).1)), some (.int (nI k)), none] [] (81, pt_G, M, L)) = (F 1266 60 [some (.ref 49), some (.int (nI C)), some (.int (nI y)), some (.int (nI (pkS h (du h C) c k).1)), some (.int (nI k)), none] [.int (nI (c k (pkS h (du h C) c k).1))] (81, pt_G, M, L))) → (∀ M, (∀ r k, r ≠ 70 → M r k = J r k) → OW h (pks h (du h C) c) M → ∃ I', (F 1266 91 [some (.ref 49), some (.int (nI C)), some (.int (nI y)), some (.int (nI (pkS h (du h C) c (h 0 1)).1)), some (.int (nI (h 0 1))), none] [] (81, pt_G, M, L)) = some (none, (81, pt_G, I', L)) ∧ (∀ r k, (r = 49 → k ≠ 51) → r ≠ 66 → r ≠ 67 → r ≠ 68 → r ≠ 69 → r ≠ 70 → I' r k = I r k) ∧ OW h (pw h C y) I' ∧ (y = 2 → I' 49 51 = nI (stn h (fs h C)))) → ∃ I', (F 1266 26 [some (.ref 49), some (.int (nI C)), some (.int (nI y)), some (.int (nI (2 ^ h 0 1 - 1))), some (.int 0), none] [] (81, pt_G, J, L)) = some (none, (81, pt_G, I', L)) ∧ (∀ r k, (r = 49 → k ≠ 51) → r ≠ 66 → r ≠ 67 → r ≠ 68 → r ≠ 69 → r ≠ 70 → I' r k = I r k) ∧ OW h (pw h C y) I' ∧ (y = 2 → I' 49 51 = nI (stn h (fs h C))) := by
      intro c hc hst hend
      refine wl (Q := fun r => ∃ I', r = some (none, (81, pt_G, I', L)) ∧ (∀ r k, (r = 49 → k ≠ 51) → r ≠ 66 → r ≠ 67 → r ≠ 68 → r ≠ 69 → r ≠ 70 → I' r k = I r k) ∧ OW h (pw h C y) I' ∧ (y = 2 → I' 49 51 = nI (stn h (fs h C)))) (G := fun k M => (F 1266 26 [some (.ref 49), some (.int (nI C)), some (.int (nI y)), some (.int (nI (pkS h (du h C) c k).1)), some (.int (nI k)), none] [] (81, pt_G, M, L))) (P := fun k M => (∀ r k, r ≠ 70 → M r k = J r k) ∧ ∀ o, o < h 0 1 → (pkS h (du h C) c k).1.testBit o = false → M 70 o = nI ((pkS h (du h C) c k).2 o)) (n := h 0 1) (fun k M hk hM go => ?_) (fun M hM => ?_) 0 J (Nat.zero_le _) ⟨fun _ _ _ => rfl, fun o ho hb => ?_⟩
      · obtain ⟨m1, m2⟩ := hM
        obtain ⟨i1, i2, i3, i4⟩ := pkS_inv W (fun i hi => (d2 i hi).1) hc (n := k) (by omega)
        have i5 := pkS_pos W (fun i hi => (d2 i hi).1) hc (n := k) hk
        obtain ⟨c1, c2⟩ := hc k _ hk i5 i1
        have m3 : M 66 k = nI (du h C k) := by rw [m1 66 k (by omega)]; exact j2 k hk
        try dsimp only
        rw [hst k M hk m1, e1266_60 hF]
        simp (disch := omega) only [pm_k_i, Option.toList_some, Option.toList_none, List.cons_append, List.nil_append, cond_true, cond_false, ↓reduceIte, reduceCtorEq, z_1, nI_add, z_cl, z_ib, z_lt, z_le, z_eq, z_eq0, z_le0, z_lt0, z_b0, z_b1, z_m1, z_and7, Int32.add_zero, z_rm, m3]
        refine go _ ⟨fun r j hr => by rw [z_ur hr]; exact m1 r j hr, fun o ho hb => ?_⟩
        have hb : (rm (pkS h (du h C) c k).1 (c k (pkS h (du h C) c k).1)).testBit o = false := hb
        rw [z_rmb _ (by omega) _ (by omega) _ (by omega)] at hb
        show _ = nI (up (pkS h (du h C) c k).2 (c k (pkS h (du h C) c k).1) (du h C k) o)
        unfold up
        by_cases e : o = c k (pkS h (du h C) c k).1
        · rw [if_pos e, e, z_ue]
        · rw [if_neg e, z_uk e]
          rw [beq_f e, Bool.not_false, Bool.and_true] at hb
          exact m2 o ho hb
      · obtain ⟨m1, m2⟩ := hM
        have HM : M 49 31 = nI (h 0 1) := by rw [m1 49 31 (by omega)]; exact HJ.O
        obtain ⟨i1, i2, i3, i4⟩ := pkS_inv W (fun i hi => (d2 i hi).1) hc (n := h 0 1) (Nat.le_refl _)
        have i5 := pc_0 _ (show (pkS h (du h C) c (h 0 1)).1 < 256 by omega) (by omega)
        try dsimp only
        rw [e1266_26 hF]
        simp (disch := omega) only [pm_k_i, Option.toList_some, Option.toList_none, List.cons_append, List.nil_append, cond_true, cond_false, ↓reduceIte, reduceCtorEq, z_1, nI_add, z_cl, z_ib, z_lt, z_le, z_eq, z_eq0, z_le0, z_lt0, z_b0, z_b1, z_m1, z_and7, Int32.add_zero, HM, Nat.lt_irrefl]
        refine hend M m1 (fun o ho => ⟨m2 o ho ?_, (pks_ok W (fun i hi => (d2 i hi).1) hc).2 o ho⟩)
        rw [i5]
        exact Nat.zero_testBit o
      · have hb : (2 ^ h 0 1 - 1).testBit o = false := hb
        rw [all_tb (h 0 1) (by omega) o (by omega), decide_eq_true ho] at hb
        cases hb
    have fram : ∀ M : Nat → Nat → Int32, (∀ r k, r ≠ 70 → M r k = J r k) → ∀ r k, (r = 49 → k ≠ 51) → r ≠ 66 → r ≠ 67 → r ≠ 68 → r ≠ 69 → r ≠ 70 → M r k = I r k := fun M m1 r k b1 b2 b3 b4 b5 b6 => by rw [m1 r k b6]; exact j1 r k b1 b2 b3 b4 b5
    have HMof : ∀ M : Nat → Nat → Int32, (∀ r k, r ≠ 70 → M r k = J r k) → MH h M := fun M m1 => HJ.of (fun k a b => m1 49 k (by omega)) (fun r a b k => m1 r k (by omega)) (fun k a => m1 64 k (by omega))
    rcases Nat.lt_or_ge 0 y with hy0 | hy0
    · -- foreseen
      refine loop (cF h (du h C)) (PK_F W _) (fun k M hk m1 => ?_) (fun M m1 m2 => ?_)
      · obtain ⟨i1, i2, i3, i4⟩ := pkS_inv W (fun i hi => (d2 i hi).1) (PK_F W (du h C)) (n := k) (by omega)
        have i5 := pkS_pos W (fun i hi => (d2 i hi).1) (PK_F W (du h C)) (n := k) hk
        have m3 : M 69 (pkS h (du h C) (cF h (du h C)) k).1 = nI (fch h (du h C) (pkS h (du h C) (cF h (du h C)) k).1) := by rw [m1 69 _ (by omega)]; exact j4 _ i5 i1 hy0
        have HM := HMof M m1
        rw [e1266_26 hF]
        simp (disch := omega) only [pm_k_i, Option.toList_some, Option.toList_none, List.cons_append, List.nil_append, cond_true, cond_false, ↓reduceIte, reduceCtorEq, z_1, nI_add, z_cl, z_ib, z_lt, z_le, z_eq, z_eq0, z_le0, z_lt0, z_b0, z_b1, z_m1, z_and7, Int32.add_zero, HM.O, hk, show (y = 0) = False from propext ⟨fun e => by omega, False.elim⟩, m3]
        rfl
      · rcases Nat.lt_or_ge y 2 with hy2 | hy2
        · have e : y = 1 := by omega
          subst e
          rw [e1266_91 hF, if_neg (by decide)]
          exact ⟨M, rfl, fram M m1, m2, fun e => by omega⟩
        · have e : y = 2 := by omega
          subst e
          refine wl (Q := fun r => ∃ I', r = some (none, (81, pt_G, I', L)) ∧ (∀ r k, (r = 49 → k ≠ 51) → r ≠ 66 → r ≠ 67 → r ≠ 68 → r ≠ 69 → r ≠ 70 → I' r k = I r k) ∧ OW h (pw h C 2) I' ∧ (2 = 2 → I' 49 51 = nI (stn h (fs h C)))) (G := fun n N => (F 1266 91 [some (.ref 49), some (.int (nI C)), some (.int (nI 2)), some (.int (nI (pkS h (du h C) (cF h (du h C)) (h 0 1)).1)), some (.int (nI (h 0 1))), none] [] (81, pt_G, N, L))) (P := fun n N => (∀ r k, (r = 49 → k ≠ 51) → r ≠ 70 → N r k = J r k) ∧ OW h (itw h (fs h C) n) N ∧ N 49 51 = nI n) (n := stn h (fs h C)) (fun n N hn hN go => ?_) (fun N hN => ?_) 0 M (Nat.zero_le _) ⟨fun r k a b => m1 r k b, m2, by rw [m1 49 51 (by omega)]; exact j3⟩
          · obtain ⟨n1, n2, n3⟩ := hN
            have HN : MH h N := HJ.of (fun k a b => n1 49 k (fun _ => by omega) (by omega)) (fun r a b k => n1 r k (fun _ => by omega) (by omega)) (fun k a => n1 64 k (fun _ => by omega) (by omega))
            obtain ⟨N', q1, q2, q3⟩ := m_swapsOne (L := L) hF W HN n2
            have hs := (ff_some (stn_some W (fs h C))).2.2 n hn
            have hs2 : (fsw h (itw h (fs h C) n)).isSome = true := by
              cases e : fsw h (itw h (fs h C) n) with
              | none => rw [e] at hs; cases hs
              | some m => rfl
            try dsimp only
            rw [e1266_91 hF, if_pos (by rfl), q1, pm_k_i, show Option.toList (some (Value.int (nI (fsw h (itw h (fs h C) n)).isSome.toNat))) ++ [] = [Value.int (nI (fsw h (itw h (fs h C) n)).isSome.toNat)] from rfl, e1266_100 hF, hs2, if_neg (by decide), q2 49 51 (by omega), n3, z_1]
            refine go _ ⟨fun r k a b => ?_, fun o ho => ?_, z_ue⟩
            · have : pm_ui N' 49 51 (nI (n + 1)) r k = N' r k := by
                by_cases e : r = 49
                · rw [e, z_uk (a e)]
                · rw [z_ur e]
              rw [this, q2 r k b]
              exact n1 r k a b
            · rw [z_ur (by omega)]
              exact q3 o ho
          · obtain ⟨n1, n2, n3⟩ := hN
            have HN : MH h N := HJ.of (fun k a b => n1 49 k (fun _ => by omega) (by omega)) (fun r a b k => n1 r k (fun _ => by omega) (by omega)) (fun k a => n1 64 k (fun _ => by omega) (by omega))
            obtain ⟨N', q1, q2, q3⟩ := m_swapsOne (L := L) hF W HN n2
            have hs := (ff_some (stn_some W (fs h C))).2.1
            have hs2 : fsw h (itw h (fs h C) (stn h (fs h C))) = none := Option.isNone_iff_eq_none.mp hs
            try dsimp only
            rw [e1266_91 hF, if_pos (by rfl), q1, pm_k_i, hs2, show Option.toList (some (Value.int (nI (none : Option Nat).isSome.toNat))) ++ [] = [Value.int 0] from rfl, e1266_100 hF, if_pos rfl]
            refine ⟨N', rfl, fun r k b1 b2 b3 b4 b5 b6 => by rw [q2 r k b6, n1 r k b1 b6]; exact j1 r k b1 b2 b3 b4 b5, ?_, fun _ => by rw [q2 49 51 (by omega)]; exact n3⟩
            have e : sw1 h (itw h (fs h C) (stn h (fs h C))) = itw h (fs h C) (stn h (fs h C)) := by unfold sw1; rw [hs2]
            rw [e] at q3
            exact q3
    · -- by what is worth most itself
      have e : y = 0 := by omega
      subst e
      refine loop (cS h (du h C)) (PK_S W _) (fun k M hk m1 => ?_) (fun M m1 m2 => ?_)
      · obtain ⟨i1, i2, i3, i4⟩ := pkS_inv W (fun i hi => (d2 i hi).1) (PK_S W (du h C)) (n := k) (by omega)
        have i5 := pkS_pos W (fun i hi => (d2 i hi).1) (PK_S W (du h C)) (n := k) hk
        have m3 : M 66 k = nI (du h C k) := by rw [m1 66 k (by omega)]; exact j2 k hk
        have m4 := (d2 k hk).1
        have m5 := dst_cS W (du h C) k i5 i1
        have HM := HMof M m1
        rw [e1266_26 hF]
        simp (disch := omega) only [pm_k_i, Option.toList_some, Option.toList_none, List.cons_append, List.nil_append, cond_true, cond_false, ↓reduceIte, reduceCtorEq, z_1, nI_add, z_cl, z_ib, z_lt, z_le, z_eq, z_eq0, z_le0, z_lt0, z_b0, z_b1, z_m1, z_and7, Int32.add_zero, HM.O, hk, m3, m_bestLeft hF W HM, m5, oI]
      · rw [e1266_91 hF, if_neg (by decide)]
        exact ⟨M, rfl, fram M m1, m2, fun e => by omega⟩
  rcases Nat.lt_or_ge 0 y with hy0 | hy0
  · simp (disch := omega) only [pm_k_i, Option.toList_some, Option.toList_none, List.cons_append, List.nil_append, cond_true, cond_false, ↓reduceIte, reduceCtorEq, z_1, nI_add, z_cl, z_ib, z_lt, z_le, z_eq, z_eq0, z_le0, z_lt0, z_b0, z_b1, z_m1, z_and7, Int32.add_zero, show (y = 0) = False from propext ⟨fun e => by omega, False.elim⟩]
    have H1 : MH h (pm_ui I1 49 51 0) := H.of (fun k a b => by rw [z_uk (by omega)]; exact a2 49 k (by omega) (by omega)) (fun r a b k => by rw [z_ur (by omega)]; exact a2 r k (by omega) (by omega)) (fun k a => by rw [z_ur (by omega)]; exact a2 64 k (by omega) (by omega))
    obtain ⟨I2, b1, b2, b3, b4⟩ := m_foresees (L := L) hF W H1 (t := du h C) (fun i hi => by rw [z_ur (by omega)]; exact a5 i hi)
    rw [b1]
    simp (disch := omega) only [pm_k_i, Option.toList_some, Option.toList_none, List.cons_append, List.nil_append, cond_true, cond_false, ↓reduceIte, reduceCtorEq, z_1, nI_add, z_cl, z_ib, z_lt, z_le, z_eq, z_eq0, z_le0, z_lt0, z_b0, z_b1, z_m1, z_and7, Int32.add_zero]
    refine key I2 (fun r k c1 c2 c3 c4 c5 => ?_) (fun i hi => ?_) ?_ (fun l l1 l2 _ => b3 l l1 l2)
    · rw [b2 r k c4 c5]
      by_cases e : r = 49
      · rw [e, z_uk (c1 e)]; exact a2 49 k (by omega) (by omega)
      · rw [z_ur e]; exact a2 r k c2 c3
    · rw [b2 66 i (by omega) (by omega), z_ur (by omega)]
      exact (a5 i hi).1
    · rw [b2 49 51 (by omega) (by omega), z_ue]
  · have e : y = 0 := by omega
    subst e
    rw [if_pos (by decide)]
    refine key (pm_ui I1 49 51 0) (fun r k c1 c2 c3 c4 c5 => ?_) (fun i hi => ?_) z_ue (fun l l1 l2 l3 => by omega)
    · by_cases e : r = 49
      · rw [e, z_uk (c1 e)]; exact a2 49 k (by omega) (by omega)
      · rw [z_ur e]; exact a2 r k c2 c3
    · rw [z_ur (by omega)]
      exact (a5 i hi).1
end
