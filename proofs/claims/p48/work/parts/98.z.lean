/-! ===== coalitions: how many, which; who is needed ===== -/
section
variable {h : Nat → Nat → Nat} {I I' : Nat → Nat → Int32} {L L' : Nat → Nat → Int64} {e v : Nat}
variable {F : pm_F} {L0 : Nat} {xs : Nat → Int32}
/-- how many coalitions have a property; the k-th, counted from 0, as k and 1 -/
def cntP (h : Nat → Nat → Nat) (p : Nat → Bool) : Nat := lp (fun k a => bif p (k + 1) then a + 1 else a) (ev h) 0
def fnd (p : Nat → Bool) : Nat → Nat → Nat → Option Nat
  | _, 0, _ => none
  | s, m + 1, k => bif p s then (match k with
    | 0 => some s
    | k + 1 => fnd p (s + 1) m k) else fnd p (s + 1) m k
def nthP (h : Nat → Nat → Nat) (p : Nat → Bool) (k : Nat) : Option Nat := fnd p 1 (ev h) k
theorem cntP_le (p : Nat → Bool) : cntP h p ≤ ev h := by
  have := lp_le (f := fun k a => bif p (k + 1) then a + 1 else a) (n := ev h) (c := 1) (fun k a _ => by
    cases p (k + 1)
    · exact Nat.le_succ _
    · exact Nat.le_refl _) 0
  show lp _ _ _ ≤ _
  omega
theorem kin_lt (c : Nat) : kin h c < 32 := by
  unfold kin
  cases led h c <;> cases fre h c <;> cases mnl h c <;> cases cnn h c <;> cases (can h c && Nat.beq (rvl h c) 0) <;> decide
theorem c_countOf (hF : pm_fix pt_me pt_Sg (pt_R L0 xs) F) (W : WF h) (X : FR h e v I L) (A : AL h I) {K : Nat} (hK : K < 32) : ∃ I', (F 314 0 [some (.ref 30), some (.int (nI K)), none, none] [] (49, pt_G, I, L)) = some (some (.int (nI (cntP h (kp h K)))), (49, pt_G, I', L)) ∧ (∀ r k, r ≠ 38 → I' r k = I r k) ∧ FR h e v I' L := by
  have hE := ev_lt W
  rw [e314_0 hF]
  refine wl (α := Nat × (Nat → Nat → Int32)) (Q := fun r => ∃ I', r = some (some (.int (nI (cntP h (kp h K)))), (49, pt_G, I', L)) ∧ (∀ r k, r ≠ 38 → I' r k = I r k) ∧ FR h e v I' L) (G := fun k a => (F 314 4 [some (.ref 30), some (.int (nI K)), some (.int (nI a.1)), some (.int (nI (k + 1)))] [] (49, pt_G, a.2, L))) (P := fun k a => a.1 = lp (fun k a => bif kp h K (k + 1) then a + 1 else a) k 0 ∧ (∀ r k, r ≠ 38 → a.2 r k = I r k) ∧ FR h e v a.2 L) (n := ev h) (fun k a hk ha go => ?_) (fun a ha => ?_) 0 (0, I) (Nat.zero_le _) ⟨rfl, fun _ _ _ => rfl, X⟩
  · obtain ⟨n, J⟩ := a
    obtain ⟨a1, a2, a3⟩ := ha
    try dsimp only at a1 a2 a3
    obtain ⟨M, m1, m2, m3⟩ := c_kindOf hF W a3 (A.of (fun k => a2 33 k (by omega))) (c := k + 1) (by omega) (by omega)
    have kl := kin_lt (h := h) (k + 1)
    have al : kin h (k + 1) &&& K ≤ K := Nat.and_le_right
    try dsimp only
    rw [e314_4 hF]
    simp (disch := omega) only [pm_k_i, Option.toList_some, Option.toList_none, List.cons_append, List.nil_append, cond_true, cond_false, ↓reduceIte, reduceCtorEq, z_1, nI_add, z_cl, z_ib, z_lt, z_le, z_eq, z_eq0, z_le0, z_lt0, z_b0, z_b1, z_m1, z_and7, Int32.add_zero, c_everyone hF W a3.1.H, e314_12 hF, show (k + 1 ≤ ev h) = True from propext ⟨fun _ => trivial, fun _ => by omega⟩, m1, e314_20 hF, nx_and]
    have nx : lp (fun k a => bif kp h K (k + 1) then a + 1 else a) (k + 1) 0 = bif kp h K (k + 1) then n + 1 else n := by rw [a1]; rfl
    by_cases q : kin h (k + 1) &&& K = K
    · rw [if_pos q]
      refine go (n + 1, M) ⟨?_, fun r j hr => (m2 r j hr).trans (a2 r j hr), m3⟩
      rw [nx]
      unfold kp
      rw [q, Nat.beq_refl]
      rfl
    · rw [if_neg q]
      refine go (n, M) ⟨?_, fun r j hr => (m2 r j hr).trans (a2 r j hr), m3⟩
      rw [nx]
      unfold kp
      rw [beq_f q]
      rfl
  · obtain ⟨n, J⟩ := a
    obtain ⟨a1, a2, a3⟩ := ha
    try dsimp only at a1 a2 a3
    try dsimp only
    rw [e314_4 hF]
    simp (disch := omega) only [pm_k_i, Option.toList_some, Option.toList_none, List.cons_append, List.nil_append, cond_true, cond_false, ↓reduceIte, reduceCtorEq, z_1, nI_add, z_cl, z_ib, z_lt, z_le, z_eq, z_eq0, z_le0, z_lt0, z_b0, z_b1, z_m1, z_and7, Int32.add_zero, c_everyone hF W a3.1.H, e314_12 hF, show (ev h + 1 ≤ ev h) = False from propext ⟨fun hh => by omega, False.elim⟩]
    exact ⟨J, by rw [a1]; rfl, a2, a3⟩
/-! drift -/
def drS (h : Nat → Nat → Nat) (c : Nat) : Nat → Nat × (Nat → Bool)
  | 0 => (c, fun x => Nat.beq x c)
  | n + 1 => (rvl h (drS h c n).1, fun x => Nat.beq x (rvl h (drS h c n).1) || (drS h c n).2 x)
def drE (h : Nat → Nat → Nat) (c n : Nat) : Bool := Nat.beq (rvl h (drS h c n).1) 0 || (drS h c n).2 (rvl h (drS h c n).1)
def drN (h : Nat → Nat → Nat) (c : Nat) : Nat := (ff (drE h c) 128).getD 0
theorem drS_ok (W : WF h) {c : Nat} (h0 : 0 < c) (hc : c ≤ ev h) {n : Nat} (hn : ∀ i, i < n → drE h c i = false) : 0 < (drS h c n).1 ∧ (drS h c n).1 ≤ ev h ∧ (0 < n → can h (drS h c n).1 = true) := by
  induction n with
  | zero => exact ⟨h0, hc, fun q => by omega⟩
  | succ n ih =>
    have h1 := hn n (by omega)
    unfold drE at h1
    rw [Bool.or_eq_false_iff] at h1
    have r1 := rvl_le W (drS h c n).1
    have r2 : 0 < rvl h (drS h c n).1 := by
      rcases Nat.eq_zero_or_pos (rvl h (drS h c n).1) with q | q
      · rw [q] at h1; exact absurd h1.1 (by decide)
      · exact q
    exact ⟨r2, r1.1, fun _ => r1.2 r2⟩
/-- how many are not visited -/
theorem drS_sm (W : WF h) {c : Nat} (h0 : 0 < c) (hc : c ≤ ev h) {n : Nat} (hn : ∀ i, i < n → drE h c i = false) : sm (fun x => bif (drS h c n).2 x then 0 else 1) 128 + n + 1 = 128 := by
  have hE := ev_lt W
  have one : ∀ m, sm (fun _ => 1) m = m := by
    intro m
    induction m with
    | zero => rfl
    | succ m ih => show sm (fun _ => 1) m + 1 = _; rw [ih]
  induction n with
  | zero =>
    have h1 := sm_up (f := fun _ => 1) (v := 0) (show c < 128 by omega)
    have e : sm (fun x => bif (drS h c 0).2 x then 0 else 1) 128 = sm (up (fun _ => 1) c 0) 128 := by
      refine sm_congr (fun x _ => ?_)
      show (bif Nat.beq x c then 0 else 1) = if x = c then 0 else 1
      by_cases q : x = c
      · rw [if_pos q, q, Nat.beq_refl]; rfl
      · rw [if_neg q, beq_f q]; rfl
    rw [one] at h1
    rw [e]
    omega
  | succ n ih =>
    have i1 := ih (fun i hi => hn i (by omega))
    have h2 := hn n (by omega)
    obtain ⟨k0, k1, _⟩ := drS_ok W h0 hc (n := n + 1) hn
    have k1 : rvl h (drS h c n).1 ≤ ev h := k1
    unfold drE at h2
    rw [Bool.or_eq_false_iff] at h2
    have h1 := sm_up (f := fun x => bif (drS h c n).2 x then 0 else 1) (v := 0) (show rvl h (drS h c n).1 < 128 by omega)
    have h3 : (bif (drS h c n).2 (rvl h (drS h c n).1) then 0 else 1) = 1 := by rw [h2.2]; rfl
    have e : sm (fun x => bif (drS h c (n + 1)).2 x then 0 else 1) 128 = sm (up (fun x => bif (drS h c n).2 x then 0 else 1) (rvl h (drS h c n).1) 0) 128 := by
      refine sm_congr (fun x _ => ?_)
      show (bif Nat.beq x (rvl h (drS h c n).1) || (drS h c n).2 x then 0 else 1) = if x = rvl h (drS h c n).1 then 0 else (bif (drS h c n).2 x then 0 else 1)
      by_cases q : x = rvl h (drS h c n).1
      · rw [if_pos q, q, Nat.beq_refl]; rfl
      · rw [if_neg q, beq_f q]; rfl
    try dsimp only at h1
    rw [h3] at h1
    rw [e]
    omega
theorem drN_some (W : WF h) {c : Nat} (h0 : 0 < c) (hc : c ≤ ev h) : ff (drE h c) 128 = some (drN h c) := by
  unfold drN
  cases q : ff (drE h c) 128 with
  | some n => rfl
  | none =>
    have := drS_sm W h0 hc (n := 128) (fun i hi => ff_none q i hi)
    omega
theorem c_driftFrom (hF : pm_fix pt_me pt_Sg (pt_R L0 xs) F) (W : WF h) (X : FR h e v I L) (A : AL h I) {c : Nat} (h0 : 0 < c) (hc : c ≤ ev h) (h1 : I 33 c = 1) (b : Bool) : ∃ I', (F 319 0 [some (.ref 30), some (.int (nI c)), some (.int (nI b.toNat)), none, none, none] [] (49, pt_G, I, L)) = some (some (.int (bif b then (bif Nat.beq (rvl h (drS h c (drN h c)).1) 0 then nI (drS h c (drN h c)).1 else 0) else nI (drN h c))), (49, pt_G, I', L)) ∧ (∀ r k, r ≠ 38 → r ≠ 40 → I' r k = I r k) ∧ FR h e v I' L := by
  have hE := ev_lt W
  have c127 := z_and127 c (by omega)
  rw [e319_0 hF]
  refine wl (Q := fun r => ∃ I', r = some (some (.int (bif b then (bif Nat.beq (rvl h (drS h c (drN h c)).1) 0 then nI (drS h c (drN h c)).1 else 0) else nI (drN h c))), (49, pt_G, I', L)) ∧ (∀ r k, r ≠ 38 → r ≠ 40 → I' r k = I r k) ∧ FR h e v I' L) (G := fun k J => (F 319 2 [some (.ref 30), some (.int (nI c)), some (.int (nI b.toNat)), some (.int (nI k)), none, none] [] (49, pt_G, J, L))) (P := fun k J => (∀ r j, r ≠ 40 → J r j = I r j) ∧ ∀ x, x < k → J 40 x = 0) (n := 128) (fun k J hk hJ go => ?_) (fun J hJ => ?_) 0 I (Nat.zero_le _) ⟨fun _ _ _ => rfl, fun x hx => by omega⟩
  · rw [e319_2 hF, show (128 : Int32) = nI 128 from rfl]
    simp (disch := omega) only [pm_k_i, Option.toList_some, Option.toList_none, List.cons_append, List.nil_append, cond_true, cond_false, ↓reduceIte, reduceCtorEq, z_1, nI_add, z_cl, z_ib, z_lt, z_le, z_eq, z_eq0, z_le0, z_lt0, z_b0, z_b1, z_m1, z_and7, Int32.add_zero, hk, vb0]
    refine go _ ⟨fun r j hr => by rw [z_ur hr]; exact hJ.1 r j hr, fun x hx => ?_⟩
    by_cases q : x = k
    · subst q; rw [z_ue]
    · rw [z_uk q]; exact hJ.2 x (by omega)
  · obtain ⟨j1, j2⟩ := hJ
    have XJ : FR h e v J L := X.of (fun r k a b c => j1 r k c) (fun c a b => Or.inl (j1 38 c (by omega))) (fun c a b => Or.inl (j1 39 c (by omega)))
    obtain ⟨M, m1, m2, m3⟩ := c_rivalOf hF W XJ (A.of (fun k => j1 33 k (by omega))) h0 hc (by rw [j1 33 c (by omega)]; exact h1)
    rw [e319_2 hF, if_neg (by decide)]
    simp (disch := omega) only [pm_k_i, Option.toList_some, Option.toList_none, List.cons_append, List.nil_append, cond_true, cond_false, ↓reduceIte, reduceCtorEq, z_1, nI_add, z_cl, z_ib, z_lt, z_le, z_eq, z_eq0, z_le0, z_lt0, z_b0, z_b1, z_m1, z_and7, Int32.add_zero, c127, m1, e319_32 hF, vb1]
    refine wl (Q := fun r => ∃ I', r = some (some (.int (bif b then (bif Nat.beq (rvl h (drS h c (drN h c)).1) 0 then nI (drS h c (drN h c)).1 else 0) else nI (drN h c))), (49, pt_G, I', L)) ∧ (∀ r k, r ≠ 38 → r ≠ 40 → I' r k = I r k) ∧ FR h e v I' L) (G := fun n N => (F 319 44 [some (.ref 30), some (.int (nI c)), some (.int (nI b.toNat)), some (.int (nI (drS h c n).1)), some (.int (nI (rvl h (drS h c n).1))), some (.int (nI n))] [] (49, pt_G, N, L))) (P := fun n N => (∀ r k, r ≠ 38 → r ≠ 40 → N r k = I r k) ∧ FR h e v N L ∧ ∀ x, x < 128 → N 40 x = nI ((drS h c n).2 x).toNat) (n := drN h c) (fun n N hn hN go => ?_) (fun N hN => ?_) 0 (pm_ui M 40 c 1) (Nat.zero_le _) ⟨fun r k a b => by rw [z_ur b, m2 r k a]; exact j1 r k b, m3.of (fun r k a b c => z_ur c) (fun c a b => Or.inl (z_ur (by omega))) (fun c a b => Or.inl (z_ur (by omega))), fun x hx => ?_⟩
    · obtain ⟨n1, n2, n3⟩ := hN
      obtain ⟨d1, d2, d3⟩ := ff_some (drN_some W h0 hc)
      have q1 := d3 n hn
      obtain ⟨k0, k1, k2⟩ := drS_ok W h0 hc (n := n + 1) (fun i hi => d3 i (by omega))
      have q2 := q1
      unfold drE at q2
      rw [Bool.or_eq_false_iff] at q2
      have r0 : 0 < rvl h (drS h c n).1 := k0
      have r1 : rvl h (drS h c n).1 ≤ ev h := k1
      have r2 : can h (rvl h (drS h c n).1) = true := k2 (by omega)
      have r127 := z_and127 (rvl h (drS h c n).1) (by omega)
      have n4 := n3 (rvl h (drS h c n).1) (by omega)
      rw [q2.2] at n4
      have NX : FR h e v (pm_ui N 40 (rvl h (drS h c n).1) 1) L := n2.of (fun r k a b c => z_ur c) (fun c a b => Or.inl (z_ur (by omega))) (fun c a b => Or.inl (z_ur (by omega)))
      obtain ⟨N', w1, w2, w3⟩ := c_rivalOf hF W NX (fun r a b c => by rw [z_ur (by omega), n1 33 r (by omega) (by omega)]; exact A r a b c) r0 r1 (by rw [z_ur (by omega), n1 33 _ (by omega) (by omega)]; exact A _ r0 r1 r2)
      try dsimp only
      rw [e319_44 hF]
      simp (disch := omega) only [pm_k_i, Option.toList_some, Option.toList_none, List.cons_append, List.nil_append, cond_true, cond_false, ↓reduceIte, reduceCtorEq, z_1, nI_add, z_cl, z_ib, z_lt, z_le, z_eq, z_eq0, z_le0, z_lt0, z_b0, z_b1, z_m1, z_and7, Int32.add_zero, show (rvl h (drS h c n).1 = 0) = False from propext ⟨fun hh => by omega, False.elim⟩, r127, n4, show nI false.toNat = 0 from rfl, eq_self]
      rw [show (128 : Int32) = nI 128 from rfl]
      simp (disch := omega) only [pm_k_i, Option.toList_some, Option.toList_none, List.cons_append, List.nil_append, cond_true, cond_false, ↓reduceIte, reduceCtorEq, z_1, nI_add, z_cl, z_ib, z_lt, z_le, z_eq, z_eq0, z_le0, z_lt0, z_b0, z_b1, z_m1, z_and7, Int32.add_zero, show (n < 128) = True from propext ⟨fun _ => trivial, fun _ => by omega⟩, vb1, w1, e319_88 hF]
      refine go N' ⟨fun r k a b => by rw [w2 r k a, z_ur b]; exact n1 r k a b, w3, fun x hx => ?_⟩
      rw [w2 40 x (by omega)]
      show _ = nI (Nat.beq x (rvl h (drS h c n).1) || (drS h c n).2 x).toNat
      by_cases q : x = rvl h (drS h c n).1
      · rw [q, z_ue, Nat.beq_refl]; rfl
      · rw [z_uk q, beq_f q, Bool.false_or]; exact n3 x hx
    · obtain ⟨n1, n2, n3⟩ := hN
      obtain ⟨d1, d2, d3⟩ := ff_some (drN_some W h0 hc)
      obtain ⟨k0, k1, k2⟩ := drS_ok W h0 hc (n := drN h c) (fun i hi => d3 i (by omega))
      have r1 := (rvl_le W (drS h c (drN h c)).1).1
      unfold drE at d2
      try dsimp only
      rw [e319_44 hF]
      by_cases z : rvl h (drS h c (drN h c)).1 = 0
      · rw [z]
        simp (disch := omega) only [pm_k_i, Option.toList_some, Option.toList_none, List.cons_append, List.nil_append, cond_true, cond_false, ↓reduceIte, reduceCtorEq, z_1, nI_add, z_cl, z_ib, z_lt, z_le, z_eq, z_eq0, z_le0, z_lt0, z_b0, z_b1, z_m1, z_and7, Int32.add_zero, eq_self, show nI 0 = 0 from rfl]
        refine ⟨N, ?_, n1, n2⟩
        cases b <;> rfl
      · rw [beq_f z, Bool.false_or] at d2
        have r127 := z_and127 (rvl h (drS h c (drN h c)).1) (by omega)
        have n4 := n3 (rvl h (drS h c (drN h c)).1) (by omega)
        rw [d2] at n4
        simp (disch := omega) only [pm_k_i, Option.toList_some, Option.toList_none, List.cons_append, List.nil_append, cond_true, cond_false, ↓reduceIte, reduceCtorEq, z_1, nI_add, z_cl, z_ib, z_lt, z_le, z_eq, z_eq0, z_le0, z_lt0, z_b0, z_b1, z_m1, z_and7, Int32.add_zero, z, r127, n4, show nI true.toNat = 1 from rfl]
        rw [beq_f z]
        refine ⟨N, ?_, n1, n2⟩
        cases b <;> rfl
    · show pm_ui M 40 c 1 40 x = nI (Nat.beq x c).toNat
      by_cases q : x = c
      · rw [q, z_ue, Nat.beq_refl]; rfl
      · rw [z_uk q, beq_f q, m2 40 x (by omega)]; exact j2 x hx
/-! dream -/
def dr1 (h : Nat → Nat → Nat) (p : Nat) (k b : Nat) : Nat := bif can h (k + 1) && (Nat.beq b 0 || decide (pyc h b p < pyc h (k + 1) p)) then k + 1 else b
def drm (h : Nat → Nat → Nat) (p : Nat) : Nat := lp (dr1 h p) (ev h) 0
/-! better, beaten -/
end

section
variable {h : Nat → Nat → Nat}
/-- all that hold are of the coalition -/
theorem up_all {A : Nat → Prop} {w : Nat → Nat} {n a v : Nat} (hw : ∀ o, o < n → A (w o)) (hv : A v) : ∀ o, o < n → A (up w a v o) := by
  intro o ho
  unfold up
  split
  · exact hv
  · exact hw o ho
theorem sw1_all (W : WF h) {A : Nat → Prop} {w : Nat → Nat} (hw : ∀ o, o < h 0 1 → A (w o)) : ∀ o, o < h 0 1 → A (sw1 h w o) := by
  unfold sw1
  cases e : fsw h w with
  | none => exact hw
  | some m =>
    obtain ⟨a, b, rfl, h1, h2, h3, h4, h5⟩ := fsw_some W e
    dsimp only
    rw [h4, h5]
    exact up_all (up_all hw (hw b h2)) (hw a (by omega))
theorem pw_ok (W : WF h) {C : Nat} (h0 : 0 < C) (hC : C ≤ ev h) (y : Nat) : WK h (pw h C y) := by
  unfold pw
  split
  · exact pks_ok W (fun i hi => ((du_ok W h0 hC).2.1 i hi).1) (PK_S W _)
  · exact fs_ok W h0 hC
  · exact (fs_ok W h0 hC).it W _
theorem pw_all (W : WF h) {C : Nat} (h0 : 0 < C) (hC : C ≤ ev h) (y : Nat) : ∀ o, o < h 0 1 → C.testBit (pw h C y o) = true := by
  have d := du_ok W h0 hC
  have f : ∀ o, o < h 0 1 → C.testBit (fs h C o) = true := pks_all W (fun i hi => (d.2.1 i hi).1) (PK_F W _) (A := fun x => C.testBit x = true) (fun i hi => (d.2.1 i hi).2)
  unfold pw
  split
  · exact pks_all W (fun i hi => (d.2.1 i hi).1) (PK_S W _) (A := fun x => C.testBit x = true) (fun i hi => (d.2.1 i hi).2)
  · exact f
  · have : ∀ n o, o < h 0 1 → C.testBit (itw h (fs h C) n o) = true := by
      intro n
      induction n with
      | zero => exact f
      | succ n ih => exact sw1_all W (A := fun x => C.testBit x = true) ih
    exact this _
end
