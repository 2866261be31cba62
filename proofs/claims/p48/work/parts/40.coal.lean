/-! ===== coalitions: what the class keeps ===== -/
section
variable {h : Nat → Nat → Nat}
def pyc (h : Nat → Nat → Nat) (C p : Nat) : Int32 := pyv h (bif C.testBit p then own h (fs h C) p p else 0) p (mid h C)
def fre (h : Nat → Nat → Nat) (C : Nat) : Bool := (ff (fun p => C.testBit p && !Nat.beq (h 4 p &&& C) 0) (h 0 0)).isNone
def led (h : Nat → Nat → Nat) (C : Nat) : Bool := decide (need h ≤ sIn h C)
def can (h : Nat → Nat → Nat) (C : Nat) : Bool := led h C && fre h C
/-- each of r gets more by r than by C -/
def mor (h : Nat → Nat → Nat) (r C : Nat) : Bool := (ff (fun p => r.testBit p && decide (pyc h r p ≤ pyc h C p)) (h 0 0)).isNone
/-- the first rival of C, 0: none; k and 1 is the coalition -/
def rvl (h : Nat → Nat → Nat) (C : Nat) : Nat := match ff (fun k => !Nat.beq (k + 1) C && (can h (k + 1) && mor h (k + 1) C)) (ev h) with
  | some k => k + 1
  | none => 0
def bet (h : Nat → Nat → Nat) (a b : Nat) : Bool := decide (need h ≤ lp (fun p n => bif decide (grf h (fs h a) p < grf h (fs h b) p) then n + h 1 p else n) (h 0 0) 0)
def unb (h : Nat → Nat → Nat) (C : Nat) : Bool := can h C && (ff (fun k => can h (k + 1) && bet h (k + 1) C) (ev h)).isNone
theorem sm_bif (P : Nat → Bool) (f : Nat → Nat) (n : Nat) : lp (fun p a => bif P p then a + f p else a) n 0 = sm (fun p => bif P p then f p else 0) n := by
  refine lp_congr (fun k a _ => ?_) 0
  show (bif P k then a + f k else a) = a + (bif P k then f k else 0)
  cases P k <;> rfl
theorem sIn_sm (C : Nat) : sIn h C = sm (fun p => bif C.testBit p then h 1 p else 0) (h 0 0) := sm_bif _ _ _
theorem tz_lt2 (W : WF h) {C : Nat} (h0 : 0 < C) (hC : C ≤ ev h) : tz C < h 0 0 ∧ C.testBit (tz C) = true := by
  have hE := ev_lt W
  obtain ⟨a, b⟩ := tz_lt C (by omega) h0
  refine ⟨?_, b⟩
  by_cases c : tz C < h 0 0
  · exact c
  · rw [z_tbig (n := h 0 0) (by unfold ev at hC; have := Nat.one_le_two_pow (n := h 0 0); omega) (by omega)] at b
    cases b
theorem sIn_rm (W : WF h) {C k : Nat} (hC : C < 256) (hk : k < h 0 0) (hb : C.testBit k = true) : sIn h C = sIn h (rm C k) + h 1 k := by
  have hP := W.P
  rw [sIn_sm, sIn_sm]
  have e : sm (fun p => bif C.testBit p then h 1 p else 0) (h 0 0) = sm (up (fun p => bif (rm C k).testBit p then h 1 p else 0) k (h 1 k)) (h 0 0) := by
    refine sm_congr (fun p hp => ?_)
    unfold up
    by_cases e : p = k
    · rw [if_pos e, e, hb]; rfl
    · rw [if_neg e]
      show (bif C.testBit p then h 1 p else 0) = bif (rm C k).testBit p then h 1 p else 0
      rw [z_rmb C hC k (by omega) p (by omega), beq_f e, Bool.not_false, Bool.and_true]
  have h1 := sm_up (f := fun p => bif (rm C k).testBit p then h 1 p else 0) (v := h 1 k) hk
  have h2 : (bif (rm C k).testBit k then h 1 k else 0) = 0 := by
    rw [z_rmb C hC k (by omega) k (by omega), Nat.beq_refl, Bool.not_true, Bool.and_false]; rfl
  try dsimp only at h1
  rw [h2] at h1
  rw [e]
  omega
theorem nI_rmz : ∀ C, C < 128 → 0 < C → nI C &&& (nI C - 1) = nI (rm C (tz C)) := by decide +kernel
theorem and0 (a b : Nat) : (a &&& b = 0) ↔ ∀ q, (a.testBit q && b.testBit q) = false := by
  constructor
  · intro e q
    rw [← Nat.testBit_and, e, Nat.zero_testBit]
  · intro hh
    apply Nat.eq_of_testBit_eq
    intro q
    rw [Nat.testBit_and, hh q, Nat.zero_testBit]
theorem fre_iff (W : WF h) {C : Nat} (hC : C ≤ ev h) : fre h C = true ↔ ∀ p q, C.testBit p = true → C.testBit q = true → (h 4 p).testBit q = false := by
  have hE := ev_lt W
  have inP : ∀ p, C.testBit p = true → p < h 0 0 := by
    intro p hp
    by_cases c : p < h 0 0
    · exact c
    · rw [z_tbig (n := h 0 0) (by unfold ev at hC; have := Nat.one_le_two_pow (n := h 0 0); omega) (by omega)] at hp
      cases hp
  unfold fre
  constructor
  · intro e p q hp hq
    have e2 := ff_none (Option.isNone_iff_eq_none.mp e) p (inP p hp)
    try dsimp only at e2
    rw [hp, Bool.true_and] at e2
    have e3 : h 4 p &&& C = 0 := by
      by_cases c : h 4 p &&& C = 0
      · exact c
      · rw [beq_f c] at e2; cases e2
    have e4 := (and0 _ _).mp e3 q
    rw [hq, Bool.and_true] at e4
    exact e4
  · intro hh
    refine Option.isNone_iff_eq_none.mpr (ff_of_none (fun p hp => ?_))
    cases hb : C.testBit p with
    | false => rfl
    | true =>
      have e : h 4 p &&& C = 0 := (and0 _ _).mpr (fun q => by
        cases hq : C.testBit q with
        | false => rw [Bool.and_false]
        | true => rw [hh p q hb hq]; rfl)
      rw [e]
      rfl
theorem fre_step (W : WF h) {C : Nat} (h0 : 0 < C) (hC : C ≤ ev h) : fre h C = (fre h (rm C (tz C)) && Nat.beq (h 4 (tz C) &&& C) 0) := by
  have hE := ev_lt W
  have hP := W.P
  obtain ⟨t1, t2⟩ := tz_lt2 W h0 hC
  have r1 := rm_lt C (by omega) (tz C) (by omega)
  have hb := z_rmb C (by omega) (tz C) (by omega)
  have big : ∀ p, C.testBit p = true → p < 8 := by
    intro p hp
    by_cases c : p < 8
    · exact c
    · rw [z_tbig (n := 8) (by omega) (by omega)] at hp
      cases hp
  have key : fre h C = true ↔ (fre h (rm C (tz C)) && Nat.beq (h 4 (tz C) &&& C) 0) = true := by
    rw [Bool.and_eq_true, fre_iff W hC, fre_iff W (by omega)]
    constructor
    · intro hh
      refine ⟨fun p q hp hq => ?_, ?_⟩
      · have bp : C.testBit p = true := by
          have : p < 8 := by
            by_cases c : p < 8
            · exact c
            · rw [z_tbig (n := 8) (show rm C (tz C) < 2 ^ 8 by omega) (by omega)] at hp
              cases hp
          rw [hb p this, Bool.and_eq_true] at hp
          exact hp.1
        have bq : C.testBit q = true := by
          have : q < 8 := by
            by_cases c : q < 8
            · exact c
            · rw [z_tbig (n := 8) (show rm C (tz C) < 2 ^ 8 by omega) (by omega)] at hq
              cases hq
          rw [hb q this, Bool.and_eq_true] at hq
          exact hq.1
        exact hh p q bp bq
      · have e : h 4 (tz C) &&& C = 0 := (and0 _ _).mpr (fun q => by
          cases hq : C.testBit q with
          | false => rw [Bool.and_false]
          | true => rw [hh _ q t2 hq]; rfl)
        rw [e]
        rfl
    · rintro ⟨g1, g2⟩ p q hp hq
      have e := (and0 _ _).mp (Nat.eq_of_beq_eq_true g2)
      by_cases cp : p = tz C
      · have := e q
        rw [hq, Bool.and_true] at this
        rw [cp]; exact this
      · by_cases cq : q = tz C
        · have := e p
          rw [hp, Bool.and_true] at this
          rw [W.sym, cq]; exact this
        · refine g1 p q ?_ ?_
          · rw [hb p (big p hp), hp, beq_f cp]; rfl
          · rw [hb q (big q hq), hq, beq_f cq]; rfl
  cases e1 : fre h C <;> cases e2 : (fre h (rm C (tz C)) && Nat.beq (h 4 (tz C) &&& C) 0) <;> rw [e1, e2] at key <;> first | rfl | (have := key.mp rfl; cases this) | (have := key.mpr rfl; cases this)
/-- what the class may write when it is asked -/
def xc (r k : Nat) : Prop := (r = 23 ∧ 4 ≤ k) ∨ r = 24 ∨ r = 26 ∨ (r = 30 ∧ 12 ≤ k) ∨ (31 ≤ r ∧ r ≤ 40)
def FX (I I' : Nat → Nat → Int32) (L L' : Nat → Nat → Int64) : Prop := (∀ r k, ¬ xc r k → I' r k = I r k) ∧ ∀ r k, r ≠ 25 → L' r k = L r k
theorem FX.rf {I : Nat → Nat → Int32} {L : Nat → Nat → Int64} : FX I I L L := ⟨fun _ _ _ => rfl, fun _ _ _ => rfl⟩
theorem FX.tr {I1 I2 I3 : Nat → Nat → Int32} {L1 L2 L3 : Nat → Nat → Int64} (a : FX I1 I2 L1 L2) (b : FX I2 I3 L2 L3) : FX I1 I3 L1 L3 := ⟨fun r k hh => (b.1 r k hh).trans (a.1 r k hh), fun r k hh => (b.2 r k hh).trans (a.2 r k hh)⟩
theorem FX.H {I I' : Nat → Nat → Int32} {L L' : Nat → Nat → Int64} (a : FX I I' L L') (H : CH h I) : CH h I' := H.of (fun k hk => a.1 3 k (by unfold xc; omega)) (fun r b c k => a.1 r k (by unfold xc; omega))
/-- what was picked by turns is right -/
def CE (h : Nat → Nat → Nat) (I : Nat → Nat → Int32) : Prop := ∀ c, c < 128 → I 34 c = -1 ∨ ∃ t, K8 t ∧ (∀ i, i < h 0 1 → t i < h 0 0) ∧ I 34 c = nI (hp t) ∧ I 35 c = nI (hp (pks h t (cF h t)))
def LR (h : Nat → Nat → Nat) (I : Nat → Nat → Int32) (c : Nat) : Prop := I 34 c = nI (hp (du h c)) ∧ I 35 c = nI (hp (fs h c)) ∧ ∀ p, p < h 0 0 → I 36 (8 * c + p) = pyc h c p ∧ I 37 (8 * c + p) = nI (grf h (fs h c) p)
def CT (h : Nat → Nat → Nat) (I : Nat → Nat → Int32) : Prop := I 30 12 = nI (need h) ∧ (∀ c, c ≤ ev h → I 31 c = nI (sIn h c) ∧ I 32 c = nI (fre h c).toNat) ∧ ∀ c, 0 < c → c ≤ ev h → (I 33 c = 0 ∨ (I 33 c = 1 ∧ LR h I c)) ∧ (I 38 c = -1 ∨ I 38 c = nI (rvl h c)) ∧ (I 39 c = 0 ∨ I 39 c = bif unb h c then 2 else 1)
/-- editions and versions: an old one is less -/
def OLD (x : Int32) (n : Nat) : Prop := x = -1 ∨ ∃ m, m ≤ n ∧ x = nI m
/-- what was looked ahead -/
def PC (h : Nat → Nat → Nat) (I : Nat → Nat → Int32) (L : Nat → Nat → Int64) : Prop := ∀ t, K8 t → (∀ i, i < h 0 1 → t i < h 0 0) → I 23 5 = nI (hp t) → I 23 6 = I 3 8 → AH h t I L
variable {F : pm_F} {L0 : Nat} {xs : Nat → Int32} {I : Nat → Nat → Int32} {L : Nat → Nat → Int64}
theorem vb1 : vp_nar .boolean 1 = 1 := by decide +kernel
theorem vb0 : vp_nar .boolean 0 = 0 := by decide +kernel
theorem c_dueOf (hF : pm_fix pt_me pt_Sg (pt_R L0 xs) F) (W : WF h) (H : CH h I) {C : Nat} (h0 : 0 < C) (hC : C ≤ ev h) : (F 602 0 [some (.ref 23), some (.int (nI C)), some (.int (nI (h 0 2))), some (.int (nI (h 0 3))), none, none, none, none] [] (49, pt_G, I, L)) = some (some (.int (nI (hp (du h C)))), (49, pt_G, I, L)) := c_turnsOf hF W H h0 hC W.f.2 W.s.2
theorem c_forgetPicks (hF : pm_fix pt_me pt_Sg (pt_R L0 xs) F) : ∃ I', (F 303 0 [some (.ref 30), none] [] (49, pt_G, I, L)) = some (none, (49, pt_G, I', L)) ∧ (∀ r k, r ≠ 34 → I' r k = I r k) ∧ ∀ c, c < 128 → I' 34 c = -1 := by
  rw [e303_0 hF]
  refine wl (Q := fun r => ∃ I', r = some (none, (49, pt_G, I', L)) ∧ (∀ r k, r ≠ 34 → I' r k = I r k) ∧ ∀ c, c < 128 → I' 34 c = -1) (G := fun k J => (F 303 2 [some (.ref 30), some (.int (nI k))] [] (49, pt_G, J, L))) (P := fun k J => (∀ r k, r ≠ 34 → J r k = I r k) ∧ ∀ c, c < k → J 34 c = -1) (n := 128) (fun k J hk hJ go => ?_) (fun J hJ => ?_) 0 I (Nat.zero_le _) ⟨fun _ _ _ => rfl, fun c hc => by omega⟩
  · rw [e303_2 hF, show (128 : Int32) = nI 128 from rfl]
    simp (disch := omega) only [pm_k_i, Option.toList_some, Option.toList_none, List.cons_append, List.nil_append, cond_true, cond_false, ↓reduceIte, reduceCtorEq, z_1, nI_add, z_cl, z_ib, z_lt, z_le, z_eq, z_eq0, z_le0, z_lt0, z_b0, z_b1, z_m1, z_and7, Int32.add_zero, hk]
    refine go _ ⟨fun r j a => by rw [z_ur a]; exact hJ.1 r j a, fun c hc => ?_⟩
    by_cases e : c = k
    · subst e; rw [z_ue]
    · rw [z_uk e]; exact hJ.2 c (by omega)
  · rw [e303_2 hF, if_neg (by decide)]
    exact ⟨J, rfl, hJ⟩
theorem c_foreseePicks (hF : pm_fix pt_me pt_Sg (pt_R L0 xs) F) (W : WF h) (H : CH h I) (hE : CE h I) (hPC : PC h I L) {c : Nat} (h0 : 0 < c) (hc : c ≤ ev h) : ∃ I' L', (F 306 0 [some (.ref 30), some (.int (nI c)), none, none, none] [] (49, pt_G, I, L)) = some (none, (49, pt_G, I', L')) ∧ (∀ r k, (r = 23 → k < 4 ∨ 6 < k) → r ≠ 24 → r ≠ 26 → (r = 34 → k ≠ c) → (r = 35 → k ≠ c) → I' r k = I r k) ∧ (∀ r k, r ≠ 25 → L' r k = L r k) ∧ CE h I' ∧ PC h I' L' ∧ (I' 23 6 = I 23 6 ∨ I' 23 6 = I 3 8) ∧ I' 34 c = nI (hp (du h c)) ∧ I' 35 c = nI (hp (fs h c)) := by
  have hP := W.P
  have hO := W.O
  have hv := ev_lt W
  have hf := W.f
  have hs := W.s
  obtain ⟨d1, d2, d3⟩ := du_ok W h0 hc
  have d4 := fun i hi => (d2 i hi).1
  have dlt := hp_lt d1
  have c127 := z_and127 c (by omega)
  rw [e306_0 hF, H.f, H.s, c_dueOf hF W H h0 hc]
  simp (disch := omega) only [pm_k_i, Option.toList_some, Option.toList_none, List.cons_append, List.nil_append, cond_true, cond_false, ↓reduceIte, reduceCtorEq, z_1, nI_add, z_cl, z_ib, z_lt, z_le, z_eq, z_eq0, z_le0, z_lt0, z_b0, z_b1, z_m1, z_and7, Int32.add_zero, e306_22 hF, c127]
  show ∃ I' L', (if I 34 c = nI (hp (du h c)) then _ else _) = _ ∧ _
  by_cases c1 : I 34 c = nI (hp (du h c))
  · rw [if_pos c1]
    refine ⟨I, L, rfl, fun _ _ _ _ _ _ _ => rfl, fun _ _ _ => rfl, hE, hPC, Or.inl rfl, c1, ?_⟩
    rcases hE c (by omega) with e | ⟨t, t1, t2, t3, t4⟩
    · rw [c1] at e
      rw [z_m1 (by omega)] at e
      exact e.elim
    · rw [c1, z_eq (by omega) (by have := hp_lt t1; omega)] at t3
      rw [t4, ← hp_inj d1 t1 t3]
      rfl
  · rw [if_neg c1]
    -- is there another one with these turns?
    have key := frE (G := fun k => (F 306 42 [some (.ref 30), some (.int (nI c)), some (.int (nI (hp (du h c)))), some (.int (-1)), some (.int (nI k))] [] (49, pt_G, I, L))) (X := fun k => (F 306 42 [some (.ref 30), some (.int (nI c)), some (.int (nI (hp (du h c)))), some (.int (nI k)), some (.int (nI (k + 1)))] [] (49, pt_G, I, L))) (p := fun k => decide (I 34 k = nI (hp (du h c)))) (n := 128) (fun k hk => by
      try dsimp only
      rw [e306_42 hF, show (128 : Int32) = nI 128 from rfl]
      simp (disch := omega) only [pm_k_i, Option.toList_some, Option.toList_none, List.cons_append, List.nil_append, cond_true, cond_false, ↓reduceIte, reduceCtorEq, z_1, nI_add, z_cl, z_ib, z_lt, z_le, z_eq, z_eq0, z_le0, z_lt0, z_b0, z_b1, z_m1, z_and7, Int32.add_zero, hk, eq_self]
      by_cases e : I 34 k = nI (hp (du h c))
      · rw [if_pos e, decide_eq_true e]; rfl
      · rw [if_neg e, decide_eq_false e]; rfl) 127 1 (by omega)
    have k0 : (F 306 42 [some (.ref 30), some (.int (nI c)), some (.int (nI (hp (du h c)))), some (.int (-1)), some (.int 1)] [] (49, pt_G, I, L)) = _ := key
    rw [k0]
    cases e : fr (fun k => decide (I 34 k = nI (hp (du h c)))) 1 127 with
    | some j =>
      obtain ⟨j1, j2, j3, _⟩ := fr_some e
      have j3 := of_decide_eq_true j3
      have j127 := z_and127 j (by omega)
      obtain ⟨t, t1, t2, t3, t4⟩ : ∃ t, K8 t ∧ (∀ i, i < h 0 1 → t i < h 0 0) ∧ I 34 j = nI (hp t) ∧ I 35 j = nI (hp (pks h t (cF h t))) := by
        rcases hE j (by omega) with e | e
        · rw [j3] at e
          rw [z_m1 (by omega)] at e
          exact e.elim
        · exact e
      rw [j3, z_eq (by omega) (by have := hp_lt t1; omega)] at t3
      rw [← hp_inj d1 t1 t3] at t4
      have t5 : I 35 j = nI (hp (fs h c)) := t4
      dsimp only
      have fin : (F 306 42 [some (.ref 30), some (.int (nI c)), some (.int (nI (hp (du h c)))), some (.int (nI j)), some (.int (nI (j + 1)))] [] (49, pt_G, I, L)) = some (none, (49, pt_G, pm_ui (pm_ui I 34 c (nI (hp (du h c)))) 35 c (nI (hp (fs h c))), L)) := by
        rw [e306_42 hF]
        simp (disch := omega) only [pm_k_i, Option.toList_some, Option.toList_none, List.cons_append, List.nil_append, cond_true, cond_false, ↓reduceIte, reduceCtorEq, z_1, nI_add, z_cl, z_ib, z_lt, z_le, z_eq, z_eq0, z_le0, z_lt0, z_b0, z_b1, z_m1, z_and7, Int32.add_zero, j127, c127, t5]
        split <;> rfl
      rw [fin]
      refine ⟨_, L, rfl, fun r k a1 a2 a3 a4 a5 => ?_, fun _ _ _ => rfl, fun x hx => ?_, fun t a1 a2 a3 a4 => ?_, Or.inl (by rw [z_ur (by omega), z_ur (by omega)]), by rw [z_ur (by omega), z_ue], z_ue⟩
      · have e1 : pm_ui (pm_ui I 34 c (nI (hp (du h c)))) 35 c (nI (hp (fs h c))) r k = pm_ui I 34 c (nI (hp (du h c))) r k := by
          by_cases e : r = 35
          · rw [e, z_uk (a5 e)]
          · rw [z_ur e]
        rw [e1]
        by_cases e : r = 34
        · rw [e, z_uk (a4 e)]
        · rw [z_ur e]
      · by_cases e : x = c
        · subst e
          exact Or.inr ⟨du h x, d1, d4, by rw [z_ur (by omega), z_ue], z_ue⟩
        · rw [z_ur (by omega), z_uk e, z_uk e, z_ur (by omega)]
          exact hE x hx
      · have := hPC t a1 a2 (by rw [← a3, z_ur (by omega), z_ur (by omega)]) (by rw [z_ur (by omega), z_ur (by omega), z_ur (by omega), z_ur (by omega)] at a4; exact a4)
        refine ⟨fun l b1 b2 => by rw [z_ur (by omega), z_ur (by omega)]; exact this.1 l b1 b2, fun l i b1 b2 => ?_⟩
        rw [z_ur (by omega), z_ur (by omega), z_ur (by omega), z_ur (by omega)]
        exact this.2 l i b1 b2
    | none =>
      dsimp only
      have H1 : CH h (pm_ui I 34 c (nI (hp (du h c)))) := H.of (fun k _ => z_ur (by omega)) (fun r a b k => z_ur (by omega))
      have f1 : (F 306 42 [some (.ref 30), some (.int (nI c)), some (.int (nI (hp (du h c)))), some (.int (-1)), some (.int (nI 128))] [] (49, pt_G, I, L)) = pm_k (F 607 0 [some (.ref 23), some (.int (nI (hp (du h c)))), none] [] (49, pt_G, (pm_ui I 34 c (nI (hp (du h c)))), L)) (fun v S => F 306 117 [some (.ref 30), some (.int (nI c)), some (.int (nI (hp (du h c)))), some (.int (-1)), some (.int (nI 128))] (v.toList ++ []) S) := by
        rw [e306_42 hF, if_neg (by decide)]
        simp (disch := omega) only [pm_k_i, Option.toList_some, Option.toList_none, List.cons_append, List.nil_append, cond_true, cond_false, ↓reduceIte, reduceCtorEq, z_1, nI_add, z_cl, z_ib, z_lt, z_le, z_eq, z_eq0, z_le0, z_lt0, z_b0, z_b1, z_m1, z_and7, Int32.add_zero, c127, eq_self]
      rw [f1]
      obtain ⟨I2, L2, q1, q2, q3, q4, q5, q6⟩ := c_lookAhead (I := pm_ui I 34 c (nI (hp (du h c)))) (L := L) hF W H1 d1 d4 (fun a b => by
        rw [z_ur (by omega)] at a
        rw [z_ur (by omega), z_ur (by omega)] at b
        have := hPC _ d1 d4 a b
        exact ⟨fun l b1 b2 => by rw [z_ur (by omega)]; exact this.1 l b1 b2, fun l i b1 b2 => by rw [z_ur (by omega), z_ur (by omega)]; exact this.2 l i b1 b2⟩)
      have H2 : CH h I2 := H1.of (fun k _ => q2 3 k (fun e => by omega) (by omega) (by omega)) (fun r a b k => q2 r k (fun e => by omega) (by omega) (by omega))
      rw [q1]
      simp (disch := omega) only [pm_k_i, Option.toList_some, Option.toList_none, List.cons_append, List.nil_append, cond_true, cond_false, ↓reduceIte, reduceCtorEq, z_1, nI_add, z_cl, z_ib, z_lt, z_le, z_eq, z_eq0, z_le0, z_lt0, z_b0, z_b1, z_m1, z_and7, Int32.add_zero, e306_117 hF, c_pickForeseen hF W H2 d1 d4 q4.1, e306_133 hF, c127]
      have e38 : I2 3 8 = I 3 8 := by rw [q2 3 8 (fun e => by omega) (by omega) (by omega), z_ur (by omega)]
      refine ⟨_, L2, rfl, fun r k a1 a2 a3 a4 a5 => ?_, q3, fun x hx => ?_, fun t a1 a2 a3 a4 => ?_, Or.inr ?_, ?_, z_ue⟩
      · have e1 : pm_ui I2 35 c (nI (hp (pks h (du h c) (cF h (du h c))))) r k = I2 r k := by
          by_cases e : r = 35
          · rw [e, z_uk (a5 e)]
          · rw [z_ur e]
        rw [e1, q2 r k a1 a2 a3]
        by_cases e : r = 34
        · rw [e, z_uk (a4 e)]
        · rw [z_ur e]
      · by_cases e : x = c
        · subst e
          exact Or.inr ⟨du h x, d1, d4, by rw [z_ur (by omega), q2 34 x (fun e => by omega) (by omega) (by omega), z_ue], z_ue⟩
        · rw [z_ur (by omega), z_uk e, q2 34 x (fun e => by omega) (by omega) (by omega), q2 35 x (fun e => by omega) (by omega) (by omega), z_uk e, z_ur (by omega)]
          exact hE x hx
      · rw [z_ur (by omega), q5, z_eq (by omega) (by have := hp_lt a1; omega)] at a3
        rw [← hp_inj d1 a1 a3]
        exact ⟨fun l b1 b2 => by rw [z_ur (by omega)]; exact q4.1 l b1 b2, fun l i b1 b2 => by rw [z_ur (by omega), z_ur (by omega)]; exact q4.2 l i b1 b2⟩
      · rw [z_ur (by omega), q6, z_ur (by omega)]
      · rw [z_ur (by omega), q2 34 c (fun e => by omega) (by omega) (by omega), z_ue]
end
