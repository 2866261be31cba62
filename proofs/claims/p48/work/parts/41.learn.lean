/-! ===== coalitions: freshened, learnt ===== -/
section
variable {h : Nat → Nat → Nat}
/-- the class' caches are right -/
def CX (h : Nat → Nat → Nat) (e v : Nat) (I : Nat → Nat → Int32) (L : Nat → Nat → Int64) : Prop := CH h I ∧ I 3 8 = nI e ∧ I 3 9 = nI v ∧ e < 1073741824 ∧ v < 1073741824 ∧ (∃ m, m ≤ e ∧ I 23 6 = nI m) ∧ PC h I L ∧ OLD (I 30 13) e ∧ (I 30 13 = nI e → CE h I) ∧ OLD (I 30 14) v ∧ (I 30 14 = nI v → I 30 13 = nI e ∧ CT h I)
variable {I I' : Nat → Nat → Int32} {L L' : Nat → Nat → Int64} {e v : Nat}
theorem CX.H (X : CX h e v I L) : CH h I := X.1
theorem CX.e8 (X : CX h e v I L) : I 3 8 = nI e := X.2.1
theorem CX.v9 (X : CX h e v I L) : I 3 9 = nI v := X.2.2.1
theorem CX.el (X : CX h e v I L) : e < 1073741824 := X.2.2.2.1
theorem CX.vl (X : CX h e v I L) : v < 1073741824 := X.2.2.2.2.1
theorem CX.m6 (X : CX h e v I L) : ∃ m, m ≤ e ∧ I 23 6 = nI m := X.2.2.2.2.2.1
theorem CX.pc (X : CX h e v I L) : PC h I L := X.2.2.2.2.2.2.1
theorem CX.o13 (X : CX h e v I L) : OLD (I 30 13) e := X.2.2.2.2.2.2.2.1
theorem CX.ce (X : CX h e v I L) : I 30 13 = nI e → CE h I := X.2.2.2.2.2.2.2.2.1
theorem CX.o14 (X : CX h e v I L) : OLD (I 30 14) v := X.2.2.2.2.2.2.2.2.2.1
theorem CX.ct (X : CX h e v I L) : I 30 14 = nI v → I 30 13 = nI e ∧ CT h I := X.2.2.2.2.2.2.2.2.2.2
theorem PC.of (X : PC h I L) (f23 : I' 23 4 = I 23 4 ∧ I' 23 5 = I 23 5 ∧ I' 23 6 = I 23 6) (f38 : I' 3 8 = I 3 8) (f24 : ∀ k, I' 24 k = I 24 k) (f26 : ∀ k, I' 26 k = I 26 k) (f25 : ∀ k, L' 25 k = L 25 k) : PC h I' L' := by
  intro t a b c d
  have := X t a b (by rw [← f23.2.1]; exact c) (by rw [← f23.2.2, ← f38]; exact d)
  exact ⟨fun l b1 b2 => by rw [f24]; exact this.1 l b1 b2, fun l i b1 b2 => by rw [f25, f23.1, f26]; exact this.2 l i b1 b2⟩
theorem CE.of (X : CE h I) (f34 : ∀ k, I' 34 k = I 34 k) (f35 : ∀ k, I' 35 k = I 35 k) : CE h I' := by
  intro c hc
  rw [f34, f35]
  exact X c hc
variable {F : pm_F} {L0 : Nat} {xs : Nat → Int32}
theorem c_freshen (hF : pm_fix pt_me pt_Sg (pt_R L0 xs) F) (W : WF h) (X : CX h e v I L) : ∃ I', (F 302 0 [some (.ref 30), none, none, none] [] (49, pt_G, I, L)) = some (none, (49, pt_G, I', L)) ∧ FX I I' L L ∧ CX h e v I' L ∧ I' 30 14 = nI v ∧ (I 30 14 = nI v → I' = I) := by
  have hP := W.P
  have hv := ev_lt W
  have el := X.el
  have vl := X.vl
  have nd := need_le W
  rw [e302_0 hF]
  by_cases c1 : I 30 14 = I 3 9
  · rw [if_pos c1]
    exact ⟨I, rfl, FX.rf, X, by rw [c1, X.v9], fun _ => rfl⟩
  · rw [if_neg c1]
    have nf : I 30 14 ≠ nI v := fun hh => c1 (by rw [hh, X.v9])
    -- with the edition's picks
    have key : ∀ J : Nat → Nat → Int32, (∀ r k, r ≠ 34 → J r k = I r k) → CE h J → ∃ I', (F 302 33 [some (.ref 30), none, none, none] [] (49, pt_G, J, L)) = some (none, (49, pt_G, I', L)) ∧ FX I I' L L ∧ CX h e v I' L ∧ I' 30 14 = nI v ∧ (I 30 14 = nI v → I' = I) := by
      intro J jf jE
      have H0 : CH h (pm_ui (pm_ui J 30 14 (J 3 9)) 30 13 (J 3 8)) := X.H.of (fun k _ => by rw [z_ur (by omega), z_ur (by omega)]; exact jf 3 k (by omega)) (fun r a b k => by rw [z_ur (by omega), z_ur (by omega)]; exact jf r k (by omega))
      have j39 : J 3 9 = nI v := by rw [jf 3 9 (by omega)]; exact X.v9
      have j38 : J 3 8 = nI e := by rw [jf 3 8 (by omega)]; exact X.e8
      rw [e302_33 hF]
      simp (disch := omega) only [pm_k_i, Option.toList_some, Option.toList_none, List.cons_append, List.nil_append, cond_true, cond_false, ↓reduceIte, reduceCtorEq, z_1, nI_add, z_cl, z_ib, z_lt, z_le, z_eq, z_eq0, z_le0, z_lt0, z_b0, z_b1, z_m1, z_and7, Int32.add_zero, c_needNow hF W H0, e302_63 hF]
      rw [show pm_ib 0 128 = true from z_ib (k := 0) (by omega) (by omega), cond_true, cond_true, show Int32.toNatClampNeg 0 = 0 from rfl, j39, j38, vb1]
      refine wl (Q := fun r => ∃ I', r = some (none, (49, pt_G, I', L)) ∧ FX I I' L L ∧ CX h e v I' L ∧ I' 30 14 = nI v ∧ (I 30 14 = nI v → I' = I)) (G := fun k M => (F 302 82 [some (.ref 30), some (.int (nI (k + 1))), none, none] [] (49, pt_G, M, L))) (P := fun k M => (∀ r j, (r = 30 → j < 12 ∨ 14 < j) → r ≠ 31 → r ≠ 32 → r ≠ 33 → r ≠ 38 → r ≠ 39 → M r j = J r j) ∧ M 30 12 = nI (need h) ∧ M 30 13 = nI e ∧ M 30 14 = nI v ∧ (∀ c, c ≤ k → M 31 c = nI (sIn h c) ∧ M 32 c = nI (fre h c).toNat) ∧ ∀ c, 0 < c → c ≤ k → M 33 c = 0 ∧ M 38 c = -1 ∧ M 39 c = 0) (n := ev h) (fun k M hk hM go => ?_) (fun M hM => ?_) 0 _ (Nat.zero_le _) ?_
      · obtain ⟨m1, m2, m3, m4, m5, m6⟩ := hM
        have HM : CH h M := X.H.of (fun j _ => by rw [m1 3 j (by omega) (by omega) (by omega) (by omega) (by omega) (by omega)]; exact jf 3 j (by omega)) (fun r a b j => by rw [m1 r j (by omega) (by omega) (by omega) (by omega) (by omega) (by omega)]; exact jf r j (by omega))
        obtain ⟨t1, t2⟩ := tz_lt2 W (C := k + 1) (by omega) (by omega)
        have r1 := rm_lt (k + 1) (by omega) (tz (k + 1)) (by omega)
        have r2 := r1.2.2 t2
        have r3 := nI_rmz (k + 1) (by omega) (by omega)
        obtain ⟨p1, p2⟩ := m5 (rm (k + 1) (tz (k + 1))) (by omega)
        have s1 := sIn_rm W (C := k + 1) (by omega) t1 t2
        have f1 := fre_step W (C := k + 1) (by omega) (by omega)
        have bl := W.bars (tz (k + 1))
        have fin : ∀ (b : Bool), fre h (k + 1) = b → (∀ r j, (r = 30 → j < 12 ∨ 14 < j) → r ≠ 31 → r ≠ 32 → r ≠ 33 → r ≠ 38 → r ≠ 39 → pm_ui (pm_ui (pm_ui (pm_ui (pm_ui M 31 (k + 1) (nI (sIn h (k + 1)))) 32 (k + 1) (nI b.toNat)) 33 (k + 1) 0) 38 (k + 1) (-1)) 39 (k + 1) 0 r j = J r j) ∧ pm_ui (pm_ui (pm_ui (pm_ui (pm_ui M 31 (k + 1) (nI (sIn h (k + 1)))) 32 (k + 1) (nI b.toNat)) 33 (k + 1) 0) 38 (k + 1) (-1)) 39 (k + 1) 0 30 12 = nI (need h) ∧ pm_ui (pm_ui (pm_ui (pm_ui (pm_ui M 31 (k + 1) (nI (sIn h (k + 1)))) 32 (k + 1) (nI b.toNat)) 33 (k + 1) 0) 38 (k + 1) (-1)) 39 (k + 1) 0 30 13 = nI e ∧ pm_ui (pm_ui (pm_ui (pm_ui (pm_ui M 31 (k + 1) (nI (sIn h (k + 1)))) 32 (k + 1) (nI b.toNat)) 33 (k + 1) 0) 38 (k + 1) (-1)) 39 (k + 1) 0 30 14 = nI v ∧ (∀ c, c ≤ k + 1 → pm_ui (pm_ui (pm_ui (pm_ui (pm_ui M 31 (k + 1) (nI (sIn h (k + 1)))) 32 (k + 1) (nI b.toNat)) 33 (k + 1) 0) 38 (k + 1) (-1)) 39 (k + 1) 0 31 c = nI (sIn h c) ∧ pm_ui (pm_ui (pm_ui (pm_ui (pm_ui M 31 (k + 1) (nI (sIn h (k + 1)))) 32 (k + 1) (nI b.toNat)) 33 (k + 1) 0) 38 (k + 1) (-1)) 39 (k + 1) 0 32 c = nI (fre h c).toNat) ∧ ∀ c, 0 < c → c ≤ k + 1 → pm_ui (pm_ui (pm_ui (pm_ui (pm_ui M 31 (k + 1) (nI (sIn h (k + 1)))) 32 (k + 1) (nI b.toNat)) 33 (k + 1) 0) 38 (k + 1) (-1)) 39 (k + 1) 0 33 c = 0 ∧ pm_ui (pm_ui (pm_ui (pm_ui (pm_ui M 31 (k + 1) (nI (sIn h (k + 1)))) 32 (k + 1) (nI b.toNat)) 33 (k + 1) 0) 38 (k + 1) (-1)) 39 (k + 1) 0 38 c = -1 ∧ pm_ui (pm_ui (pm_ui (pm_ui (pm_ui M 31 (k + 1) (nI (sIn h (k + 1)))) 32 (k + 1) (nI b.toNat)) 33 (k + 1) 0) 38 (k + 1) (-1)) 39 (k + 1) 0 39 c = 0 := by
          intro b hb
          refine ⟨fun r j a1 a2 a3 a4 a5 a6 => by rw [z_ur a6, z_ur a5, z_ur a4, z_ur a3, z_ur a2]; exact m1 r j a1 a2 a3 a4 a5 a6, by simp (disch := omega) only [z_ur]; exact m2, by simp (disch := omega) only [z_ur]; exact m3, by simp (disch := omega) only [z_ur]; exact m4, fun c hc => ?_, fun c hc0 hc => ?_⟩
          · by_cases ee : c = k + 1
            · subst ee
              simp (disch := omega) only [z_ur, z_ue, hb]
              exact ⟨trivial, trivial⟩
            · simp (disch := omega) only [z_ur, z_uk]
              exact m5 c (by omega)
          · by_cases ee : c = k + 1
            · subst ee
              simp (disch := omega) only [z_ur, z_ue]
              exact ⟨trivial, trivial, trivial⟩
            · simp (disch := omega) only [z_ur, z_uk]
              exact m6 c hc0 (by omega)
        try dsimp only
        rw [e302_82 hF]
        simp (disch := omega) only [pm_k_i, Option.toList_some, Option.toList_none, List.cons_append, List.nil_append, cond_true, cond_false, ↓reduceIte, reduceCtorEq, z_1, nI_add, z_cl, z_ib, z_lt, z_le, z_eq, z_eq0, z_le0, z_lt0, z_b0, z_b1, z_m1, z_and7, Int32.add_zero, c_everyone hF W HM, e302_90 hF, show (k + 1 ≤ ev h) = True from propext ⟨fun _ => trivial, fun _ => by omega⟩]
        rw [show (128 : Int32) = nI 128 from rfl]
        simp (disch := omega) only [pm_k_i, Option.toList_some, Option.toList_none, List.cons_append, List.nil_append, cond_true, cond_false, ↓reduceIte, reduceCtorEq, z_1, nI_add, z_cl, z_ib, z_lt, z_le, z_eq, z_eq0, z_le0, z_lt0, z_b0, z_b1, z_m1, z_and7, Int32.add_zero, show (k + 1 < 128) = True from propext ⟨fun _ => trivial, fun _ => by omega⟩, c_ntz hF, e302_110 hF, r3, c_seatsOf hF W HM, e302_130 hF, p1, p2]
        cases g : fre h (rm (k + 1) (tz (k + 1))) with
        | false =>
          rw [g, Bool.false_and] at f1
          simp (disch := omega) only [pm_k_i, Option.toList_some, Option.toList_none, List.cons_append, List.nil_append, cond_true, cond_false, ↓reduceIte, reduceCtorEq, z_1, nI_add, z_cl, z_ib, z_lt, z_le, z_eq, z_eq0, z_le0, z_lt0, z_b0, z_b1, z_m1, z_and7, Int32.add_zero, vb0]
          rw [← s1]
          exact go _ (fin false f1)
        | true =>
          rw [g, Bool.true_and] at f1
          have HM2 : CH h (pm_ui M 31 (k + 1) (nI (sIn h (rm (k + 1) (tz (k + 1))) + h 1 (tz (k + 1))))) := HM.of (fun j _ => z_ur (by omega)) (fun r a b j => z_ur (by omega))
          simp (disch := omega) only [pm_k_i, Option.toList_some, Option.toList_none, List.cons_append, List.nil_append, cond_true, cond_false, ↓reduceIte, reduceCtorEq, z_1, nI_add, z_cl, z_ib, z_lt, z_le, z_eq, z_eq0, z_le0, z_lt0, z_b0, z_b1, z_m1, z_and7, Int32.add_zero, c_barredFrom hF W HM2, e302_154 hF, nx_and, vb1, vb0]
          rw [← s1]
          have al : h 4 (tz (k + 1)) &&& (k + 1) ≤ h 4 (tz (k + 1)) := Nat.and_le_left
          simp (disch := omega) only [pm_k_i, Option.toList_some, Option.toList_none, List.cons_append, List.nil_append, cond_true, cond_false, ↓reduceIte, reduceCtorEq, z_1, nI_add, z_cl, z_ib, z_lt, z_le, z_eq, z_eq0, z_le0, z_lt0, z_b0, z_b1, z_m1, z_and7, Int32.add_zero]
          by_cases c2 : h 4 (tz (k + 1)) &&& (k + 1) = 0
          · rw [if_pos c2]
            rw [c2] at f1
            exact go _ (fin true f1)
          · rw [if_neg c2]
            rw [beq_f c2] at f1
            exact go _ (fin false f1)
      · obtain ⟨m1, m2, m3, m4, m5, m6⟩ := hM
        have mJ : ∀ r j, (r = 30 → j < 12 ∨ 14 < j) → r ≠ 31 → r ≠ 32 → r ≠ 33 → r ≠ 34 → r ≠ 38 → r ≠ 39 → M r j = I r j := fun r j a1 a2 a3 a4 a5 a6 a7 => by rw [m1 r j a1 a2 a3 a4 a6 a7]; exact jf r j a5
        have HM : CH h M := X.H.of (fun j _ => mJ 3 j (by omega) (by omega) (by omega) (by omega) (by omega) (by omega) (by omega)) (fun r a b j => mJ r j (by omega) (by omega) (by omega) (by omega) (by omega) (by omega) (by omega))
        try dsimp only
        rw [e302_82 hF]
        simp (disch := omega) only [pm_k_i, Option.toList_some, Option.toList_none, List.cons_append, List.nil_append, cond_true, cond_false, ↓reduceIte, reduceCtorEq, z_1, nI_add, z_cl, z_ib, z_lt, z_le, z_eq, z_eq0, z_le0, z_lt0, z_b0, z_b1, z_m1, z_and7, Int32.add_zero, c_everyone hF W HM, e302_90 hF, show (ev h + 1 ≤ ev h) = False from propext ⟨fun hh => by omega, False.elim⟩]
        obtain ⟨q, q1, q2⟩ := X.m6
        refine ⟨M, rfl, ⟨fun r j hx => mJ r j (fun a => by unfold xc at hx; omega) (by unfold xc at hx; omega) (by unfold xc at hx; omega) (by unfold xc at hx; omega) (by unfold xc at hx; omega) (by unfold xc at hx; omega) (by unfold xc at hx; omega), fun _ _ _ => rfl⟩, ⟨HM, ?_, ?_, el, vl, ⟨q, q1, ?_⟩, ?_, Or.inr ⟨e, Nat.le_refl _, m3⟩, fun _ => ?_, Or.inr ⟨v, Nat.le_refl _, m4⟩, fun _ => ⟨m3, m2, m5, fun c c0 c1 => ?_⟩⟩, m4, fun hh => absurd hh nf⟩
        · rw [mJ 3 8 (by omega) (by omega) (by omega) (by omega) (by omega) (by omega) (by omega)]; exact X.e8
        · rw [mJ 3 9 (by omega) (by omega) (by omega) (by omega) (by omega) (by omega) (by omega)]; exact X.v9
        · rw [mJ 23 6 (by omega) (by omega) (by omega) (by omega) (by omega) (by omega) (by omega)]; exact q2
        · exact X.pc.of ⟨mJ 23 4 (by omega) (by omega) (by omega) (by omega) (by omega) (by omega) (by omega), mJ 23 5 (by omega) (by omega) (by omega) (by omega) (by omega) (by omega) (by omega), mJ 23 6 (by omega) (by omega) (by omega) (by omega) (by omega) (by omega) (by omega)⟩ (mJ 3 8 (by omega) (by omega) (by omega) (by omega) (by omega) (by omega) (by omega)) (fun k => mJ 24 k (by omega) (by omega) (by omega) (by omega) (by omega) (by omega) (by omega)) (fun k => mJ 26 k (by omega) (by omega) (by omega) (by omega) (by omega) (by omega) (by omega)) (fun _ => rfl)
        · exact jE.of (fun k => m1 34 k (by omega) (by omega) (by omega) (by omega) (by omega) (by omega)) (fun k => m1 35 k (by omega) (by omega) (by omega) (by omega) (by omega) (by omega))
        · obtain ⟨z1, z2, z3⟩ := m6 c c0 c1
          exact ⟨Or.inl z1, Or.inl z2, Or.inl z3⟩
      · refine ⟨fun r j a1 a2 a3 a4 a5 a6 => ?_, ?_, ?_, ?_, fun c hc => ?_, fun c a b => by omega⟩
        · rw [z_ur a2, z_ur a3]
          by_cases ee : r = 30
          · have := a1 ee
            rw [z_uk (by omega), z_uk (by omega), z_uk (by omega)]
          · rw [z_ur ee, z_ur ee, z_ur ee]
        · simp (disch := omega) only [z_ur, z_ue]
        · simp (disch := omega) only [z_ur, z_uk, z_ue]
        · simp (disch := omega) only [z_ur, z_uk, z_ue]
        · have : c = 0 := by omega
          subst this
          simp (disch := omega) only [z_ur, z_ue]
          have s0 : sIn h 0 = 0 := by
            unfold sIn
            refine lpP (P := fun _ a => a = 0) rfl (fun k a _ ha => ?_)
            rw [Nat.zero_testBit]
            exact ha
          have f0 : fre h 0 = true := by
            unfold fre
            rw [ff_of_none (fun p _ => by rw [Nat.zero_testBit]; rfl)]
            rfl
          rw [s0, f0]
          exact ⟨rfl, rfl⟩
    by_cases c2 : I 30 13 = I 3 8
    · rw [if_pos c2]
      exact key I (fun _ _ _ => rfl) (X.ce (by rw [c2]; exact X.e8))
    · rw [if_neg c2]
      obtain ⟨J, q1, q2, q3⟩ := c_forgetPicks (I := I) (L := L) hF
      rw [q1]
      simp (disch := omega) only [pm_k_i, Option.toList_some, Option.toList_none, List.cons_append, List.nil_append, cond_true, cond_false, ↓reduceIte, reduceCtorEq, z_1, nI_add, z_cl, z_ib, z_lt, z_le, z_eq, z_eq0, z_le0, z_lt0, z_b0, z_b1, z_m1, z_and7, Int32.add_zero]
      exact key J q2 (fun c hc => Or.inl (q3 c hc))
end
