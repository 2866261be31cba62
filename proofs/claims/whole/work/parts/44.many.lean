/-! ===== coalitions: how many, which; who is needed ===== -/
section
variable {h : Nat → Nat → Nat} {I I' : Nat → Nat → Int32} {L L' : Nat → Nat → Int64} {e v : Nat}
variable {F : pm_F} {L0 : Nat} {xs : Nat → Int32}
/-- how many coalitions have a property; the k-th, counted from 0, as k and 1 -/
def cntP (h : Nat → Nat → Nat) (p : Nat → Bool) : Nat := lp (fun k a => bif p (k + 1) then a + 1 else a) (ev h) 0
def fnd (p : Nat → Bool) : Nat → Nat → Nat → Option Nat
  | _, 0, _ => none
  | s, m + 1, k => bif p s then (match k with
    | 0 => some s
    | k + 1 => fnd p (s + 1) m k) else fnd p (s + 1) m k
def nthP (h : Nat → Nat → Nat) (p : Nat → Bool) (k : Nat) : Option Nat := fnd p 1 (ev h) k
theorem cntP_le (p : Nat → Bool) : cntP h p ≤ ev h := by
  have := lp_le (f := fun k a => bif p (k + 1) then a + 1 else a) (n := ev h) (c := 1) (fun k a _ => by
    cases p (k + 1)
    · exact Nat.le_succ _
    · exact Nat.le_refl _) 0
  show lp _ _ _ ≤ _
  omega
def kp (h : Nat → Nat → Nat) (K : Nat) (c : Nat) : Bool := Nat.beq (kin h c &&& K) K
theorem kin_lt (c : Nat) : kin h c < 32 := by
  unfold kin
  cases led h c <;> cases fre h c <;> cases mnl h c <;> cases cnn h c <;> cases (can h c && Nat.beq (rvl h c) 0) <;> decide
theorem AL.of (A : AL h I) (f : ∀ k, I' 33 k = I 33 k) : AL h I' := fun r a b c => by rw [f]; exact A r a b c
theorem c_countOf (hF : pm_fix pt_me pt_Sg (pt_R L0 xs) F) (W : WF h) (X : FR h e v I L) (A : AL h I) {K : Nat} (hK : K < 32) : ∃ I', (F 314 0 [some (.ref 30), some (.int (nI K)), none, none] [] (81, pt_G, I, L)) = some (some (.int (nI (cntP h (kp h K)))), (81, pt_G, I', L)) ∧ (∀ r k, r ≠ 38 → I' r k = I r k) ∧ FR h e v I' L := by
  have hE := ev_lt W
  rw [e314_0 hF]
  refine wl (α := Nat × (Nat → Nat → Int32)) (Q := fun r => ∃ I', r = some (some (.int (nI (cntP h (kp h K)))), (81, pt_G, I', L)) ∧ (∀ r k, r ≠ 38 → I' r k = I r k) ∧ FR h e v I' L) (G := fun k a => (F 314 4 [some (.ref 30), some (.int (nI K)), some (.int (nI a.1)), some (.int (nI (k + 1)))] [] (81, pt_G, a.2, L))) (P := fun k a => a.1 = lp (fun k a => bif kp h K (k + 1) then a + 1 else a) k 0 ∧ (∀ r k, r ≠ 38 → a.2 r k = I r k) ∧ FR h e v a.2 L) (n := ev h) (fun k a hk ha go => ?_) (fun a ha => ?_) 0 (0, I) (Nat.zero_le _) ⟨rfl, fun _ _ _ => rfl, X⟩
  · obtain ⟨n, J⟩ := a
    obtain ⟨a1, a2, a3⟩ := ha
    try dsimp only at a1 a2 a3
    obtain ⟨M, m1, m2, m3⟩ := c_kindOf hF W a3 (A.of (fun k => a2 33 k (by omega))) (c := k + 1) (by omega) (by omega)
    have kl := kin_lt (h := h) (k + 1)
    have al : kin h (k + 1) &&& K ≤ K := Nat.and_le_right
    try dsimp only
    rw [e314_4 hF]
    simp (disch := omega) only [pm_k_i, Option.toList_some, Option.toList_none, List.cons_append, List.nil_append, cond_true, cond_false, ↓reduceIte, reduceCtorEq, z_1, nI_add, z_cl, z_ib, z_lt, z_le, z_eq, z_eq0, z_le0, z_lt0, z_b0, z_b1, z_m1, z_and7, Int32.add_zero, c_everyone hF W a3.1.H, e314_12 hF, show (k + 1 ≤ ev h) = True from propext ⟨fun _ => trivial, fun _ => by omega⟩, m1, e314_20 hF, nx_and]
    have nx : lp (fun k a => bif kp h K (k + 1) then a + 1 else a) (k + 1) 0 = bif kp h K (k + 1) then n + 1 else n := by rw [a1]; rfl
    by_cases q : kin h (k + 1) &&& K = K
    · rw [if_pos q]
      refine go (n + 1, M) ⟨?_, fun r j hr => (m2 r j hr).trans (a2 r j hr), m3⟩
      rw [nx]
      unfold kp
      rw [q, Nat.beq_refl]
      rfl
    · rw [if_neg q]
      refine go (n, M) ⟨?_, fun r j hr => (m2 r j hr).trans (a2 r j hr), m3⟩
      rw [nx]
      unfold kp
      rw [beq_f q]
      rfl
  · obtain ⟨n, J⟩ := a
    obtain ⟨a1, a2, a3⟩ := ha
    try dsimp only at a1 a2 a3
    try dsimp only
    rw [e314_4 hF]
    simp (disch := omega) only [pm_k_i, Option.toList_some, Option.toList_none, List.cons_append, List.nil_append, cond_true, cond_false, ↓reduceIte, reduceCtorEq, z_1, nI_add, z_cl, z_ib, z_lt, z_le, z_eq, z_eq0, z_le0, z_lt0, z_b0, z_b1, z_m1, z_and7, Int32.add_zero, c_everyone hF W a3.1.H, e314_12 hF, show (ev h + 1 ≤ ev h) = False from propext ⟨fun hh => by omega, False.elim⟩]
    exact ⟨J, by rw [a1]; rfl, a2, a3⟩
theorem c_findOf (hF : pm_fix pt_me pt_Sg (pt_R L0 xs) F) (W : WF h) (X : FR h e v I L) (A : AL h I) {K n : Nat} (hK : K < 32) (hn : n < 2147483648) : ∃ I', (F 315 0 [some (.ref 30), some (.int (nI K)), some (.int (nI n)), none, none] [] (81, pt_G, I, L)) = some (some (.int (oI (nthP h (kp h K) n))), (81, pt_G, I', L)) ∧ (∀ r k, r ≠ 38 → I' r k = I r k) ∧ FR h e v I' L := by
  have hE := ev_lt W
  rw [e315_0 hF]
  have key : ∀ m k a J, k + m = ev h → a ≤ n → a ≤ k → (∀ r k, r ≠ 38 → J r k = I r k) → FR h e v J L → ∃ I', (F 315 5 [some (.ref 30), some (.int (nI K)), some (.int (nI n)), some (.int (nI a)), some (.int (nI (k + 1)))] [] (81, pt_G, J, L)) = some (some (.int (oI (fnd (kp h K) (k + 1) m (n - a)))), (81, pt_G, I', L)) ∧ (∀ r k, r ≠ 38 → I' r k = I r k) ∧ FR h e v I' L := by
    intro m
    induction m with
    | zero =>
      intro k a J hk ha hak j1 j2
      have : k = ev h := by omega
      subst this
      rw [e315_5 hF]
      simp (disch := omega) only [pm_k_i, Option.toList_some, Option.toList_none, List.cons_append, List.nil_append, cond_true, cond_false, ↓reduceIte, reduceCtorEq, z_1, nI_add, z_cl, z_ib, z_lt, z_le, z_eq, z_eq0, z_le0, z_lt0, z_b0, z_b1, z_m1, z_and7, Int32.add_zero, c_everyone hF W j2.1.H, e315_14 hF, show (ev h + 1 ≤ ev h) = False from propext ⟨fun hh => by omega, False.elim⟩]
      exact ⟨J, rfl, j1, j2⟩
    | succ m ih =>
      intro k a J hk ha hak j1 j2
      obtain ⟨M, m1, m2, m3⟩ := c_kindOf hF W j2 (A.of (fun k => j1 33 k (by omega))) (c := k + 1) (by omega) (by omega)
      have kl := kin_lt (h := h) (k + 1)
      have al : kin h (k + 1) &&& K ≤ K := Nat.and_le_right
      have mI : ∀ r k, r ≠ 38 → M r k = I r k := fun r j hr => by rw [m2 r j hr]; exact j1 r j hr
      rw [e315_5 hF]
      simp (disch := omega) only [pm_k_i, Option.toList_some, Option.toList_none, List.cons_append, List.nil_append, cond_true, cond_false, ↓reduceIte, reduceCtorEq, z_1, nI_add, z_cl, z_ib, z_lt, z_le, z_eq, z_eq0, z_le0, z_lt0, z_b0, z_b1, z_m1, z_and7, Int32.add_zero, c_everyone hF W j2.1.H, e315_14 hF, show (k + 1 ≤ ev h) = True from propext ⟨fun _ => trivial, fun _ => by omega⟩, m1, e315_23 hF, nx_and]
      unfold fnd
      by_cases q : kin h (k + 1) &&& K = K
      · have q2 : kp h K (k + 1) = true := by unfold kp; rw [q, Nat.beq_refl]
        rw [if_pos q, q2, cond_true]
        by_cases d : a = n
        · subst d
          rw [if_pos rfl, Nat.sub_self]
          exact ⟨M, rfl, mI, m3⟩
        · rw [if_neg d]
          obtain ⟨x, hx⟩ : ∃ x, n - a = x + 1 := ⟨n - a - 1, by omega⟩
          rw [hx]
          have := ih (k + 1) (a + 1) M (by omega) (by omega) (by omega) mI m3
          rw [show n - (a + 1) = x by omega] at this
          exact this
      · have q2 : kp h K (k + 1) = false := by unfold kp; rw [beq_f q]
        rw [if_neg q, q2, cond_false]
        exact ih (k + 1) a M (by omega) ha (by omega) mI m3
  exact key (ev h) 0 0 I (by omega) (Nat.zero_le _) (Nat.le_refl _) (fun _ _ _ => rfl) X
/-! drift -/
def drS (h : Nat → Nat → Nat) (c : Nat) : Nat → Nat × (Nat → Bool)
  | 0 => (c, fun x => Nat.beq x c)
  | n + 1 => (rvl h (drS h c n).1, fun x => Nat.beq x (rvl h (drS h c n).1) || (drS h c n).2 x)
def drE (h : Nat → Nat → Nat) (c n : Nat) : Bool := Nat.beq (rvl h (drS h c n).1) 0 || (drS h c n).2 (rvl h (drS h c n).1)
def drN (h : Nat → Nat → Nat) (c : Nat) : Nat := (ff (drE h c) 128).getD 0
theorem drS_ok (W : WF h) {c : Nat} (h0 : 0 < c) (hc : c ≤ ev h) {n : Nat} (hn : ∀ i, i < n → drE h c i = false) : 0 < (drS h c n).1 ∧ (drS h c n).1 ≤ ev h ∧ (0 < n → can h (drS h c n).1 = true) := by
  induction n with
  | zero => exact ⟨h0, hc, fun q => by omega⟩
  | succ n ih =>
    have h1 := hn n (by omega)
    unfold drE at h1
    rw [Bool.or_eq_false_iff] at h1
    have r1 := rvl_le W (drS h c n).1
    have r2 : 0 < rvl h (drS h c n).1 := by
      rcases Nat.eq_zero_or_pos (rvl h (drS h c n).1) with q | q
      · rw [q] at h1; exact absurd h1.1 (by decide)
      · exact q
    exact ⟨r2, r1.1, fun _ => r1.2 r2⟩
/-- how many are not visited -/
theorem drS_sm (W : WF h) {c : Nat} (h0 : 0 < c) (hc : c ≤ ev h) {n : Nat} (hn : ∀ i, i < n → drE h c i = false) : sm (fun x => bif (drS h c n).2 x then 0 else 1) 128 + n + 1 = 128 := by
  have hE := ev_lt W
  have one : ∀ m, sm (fun _ => 1) m = m := by
    intro m
    induction m with
    | zero => rfl
    | succ m ih => show sm (fun _ => 1) m + 1 = _; rw [ih]
  induction n with
  | zero =>
    have h1 := sm_up (f := fun _ => 1) (v := 0) (show c < 128 by omega)
    have e : sm (fun x => bif (drS h c 0).2 x then 0 else 1) 128 = sm (up (fun _ => 1) c 0) 128 := by
      refine sm_congr (fun x _ => ?_)
      show (bif Nat.beq x c then 0 else 1) = if x = c then 0 else 1
      by_cases q : x = c
      · rw [if_pos q, q, Nat.beq_refl]; rfl
      · rw [if_neg q, beq_f q]; rfl
    rw [one] at h1
    rw [e]
    omega
  | succ n ih =>
    have i1 := ih (fun i hi => hn i (by omega))
    have h2 := hn n (by omega)
    obtain ⟨k0, k1, _⟩ := drS_ok W h0 hc (n := n + 1) hn
    have k1 : rvl h (drS h c n).1 ≤ ev h := k1
    unfold drE at h2
    rw [Bool.or_eq_false_iff] at h2
    have h1 := sm_up (f := fun x => bif (drS h c n).2 x then 0 else 1) (v := 0) (show rvl h (drS h c n).1 < 128 by omega)
    have h3 : (bif (drS h c n).2 (rvl h (drS h c n).1) then 0 else 1) = 1 := by rw [h2.2]; rfl
    have e : sm (fun x => bif (drS h c (n + 1)).2 x then 0 else 1) 128 = sm (up (fun x => bif (drS h c n).2 x then 0 else 1) (rvl h (drS h c n).1) 0) 128 := by
      refine sm_congr (fun x _ => ?_)
      show (bif Nat.beq x (rvl h (drS h c n).1) || (drS h c n).2 x then 0 else 1) = if x = rvl h (drS h c n).1 then 0 else (bif (drS h c n).2 x then 0 else 1)
      by_cases q : x = rvl h (drS h c n).1
      · rw [if_pos q, q, Nat.beq_refl]; rfl
      · rw [if_neg q, beq_f q]; rfl
    try dsimp only at h1
    rw [h3] at h1
    rw [e]
    omega
theorem drN_some (W : WF h) {c : Nat} (h0 : 0 < c) (hc : c ≤ ev h) : ff (drE h c) 128 = some (drN h c) := by
  unfold drN
  cases q : ff (drE h c) 128 with
  | some n => rfl
  | none =>
    have := drS_sm W h0 hc (n := 128) (fun i hi => ff_none q i hi)
    omega
theorem c_driftFrom (hF : pm_fix pt_me pt_Sg (pt_R L0 xs) F) (W : WF h) (X : FR h e v I L) (A : AL h I) {c : Nat} (h0 : 0 < c) (hc : c ≤ ev h) (h1 : I 33 c = 1) (b : Bool) : ∃ I', (F 319 0 [some (.ref 30), some (.int (nI c)), some (.int (nI b.toNat)), none, none, none] [] (81, pt_G, I, L)) = some (some (.int (bif b then (bif Nat.beq (rvl h (drS h c (drN h c)).1) 0 then nI (drS h c (drN h c)).1 else 0) else nI (drN h c))), (81, pt_G, I', L)) ∧ (∀ r k, r ≠ 38 → r ≠ 40 → I' r k = I r k) ∧ FR h e v I' L := by
  have hE := ev_lt W
  have c127 := z_and127 c (by omega)
  rw [e319_0 hF]
  refine wl (Q := fun r => ∃ I', r = some (some (.int (bif b then (bif Nat.beq (rvl h (drS h c (drN h c)).1) 0 then nI (drS h c (drN h c)).1 else 0) else nI (drN h c))), (81, pt_G, I', L)) ∧ (∀ r k, r ≠ 38 → r ≠ 40 → I' r k = I r k) ∧ FR h e v I' L) (G := fun k J => (F 319 2 [some (.ref 30), some (.int (nI c)), some (.int (nI b.toNat)), some (.int (nI k)), none, none] [] (81, pt_G, J, L))) (P := fun k J => (∀ r j, r ≠ 40 → J r j = I r j) ∧ ∀ x, x < k → J 40 x = 0) (n := 128) (fun k J hk hJ go => ?_) (fun J hJ => ?_) 0 I (Nat.zero_le _) ⟨fun _ _ _ => rfl, fun x hx => by omega⟩
  · rw [e319_2 hF, show (128 : Int32) = nI 128 from rfl]
    simp (disch := omega) only [pm_k_i, Option.toList_some, Option.toList_none, List.cons_append, List.nil_append, cond_true, cond_false, ↓reduceIte, reduceCtorEq, z_1, nI_add, z_cl, z_ib, z_lt, z_le, z_eq, z_eq0, z_le0, z_lt0, z_b0, z_b1, z_m1, z_and7, Int32.add_zero, hk, vb0]
    refine go _ ⟨fun r j hr => by rw [z_ur hr]; exact hJ.1 r j hr, fun x hx => ?_⟩
    by_cases q : x = k
    · subst q; rw [z_ue]
    · rw [z_uk q]; exact hJ.2 x (by omega)
  · obtain ⟨j1, j2⟩ := hJ
    have XJ : FR h e v J L := X.of (fun r k a b c => j1 r k c) (fun c a b => Or.inl (j1 38 c (by omega))) (fun c a b => Or.inl (j1 39 c (by omega)))
    obtain ⟨M, m1, m2, m3⟩ := c_rivalOf hF W XJ (A.of (fun k => j1 33 k (by omega))) h0 hc (by rw [j1 33 c (by omega)]; exact h1)
    rw [e319_2 hF, if_neg (by decide)]
    simp (disch := omega) only [pm_k_i, Option.toList_some, Option.toList_none, List.cons_append, List.nil_append, cond_true, cond_false, ↓reduceIte, reduceCtorEq, z_1, nI_add, z_cl, z_ib, z_lt, z_le, z_eq, z_eq0, z_le0, z_lt0, z_b0, z_b1, z_m1, z_and7, Int32.add_zero, c127, m1, e319_32 hF, vb1]
    refine wl (Q := fun r => ∃ I', r = some (some (.int (bif b then (bif Nat.beq (rvl h (drS h c (drN h c)).1) 0 then nI (drS h c (drN h c)).1 else 0) else nI (drN h c))), (81, pt_G, I', L)) ∧ (∀ r k, r ≠ 38 → r ≠ 40 → I' r k = I r k) ∧ FR h e v I' L) (G := fun n N => (F 319 44 [some (.ref 30), some (.int (nI c)), some (.int (nI b.toNat)), some (.int (nI (drS h c n).1)), some (.int (nI (rvl h (drS h c n).1))), some (.int (nI n))] [] (81, pt_G, N, L))) (P := fun n N => (∀ r k, r ≠ 38 → r ≠ 40 → N r k = I r k) ∧ FR h e v N L ∧ ∀ x, x < 128 → N 40 x = nI ((drS h c n).2 x).toNat) (n := drN h c) (fun n N hn hN go => ?_) (fun N hN => ?_) 0 (pm_ui M 40 c 1) (Nat.zero_le _) ⟨fun r k a b => by rw [z_ur b, m2 r k a]; exact j1 r k b, m3.of (fun r k a b c => z_ur c) (fun c a b => Or.inl (z_ur (by omega))) (fun c a b => Or.inl (z_ur (by omega))), fun x hx => ?_⟩
    · obtain ⟨n1, n2, n3⟩ := hN
      obtain ⟨d1, d2, d3⟩ := ff_some (drN_some W h0 hc)
      have q1 := d3 n hn
      obtain ⟨k0, k1, k2⟩ := drS_ok W h0 hc (n := n + 1) (fun i hi => d3 i (by omega))
      have q2 := q1
      unfold drE at q2
      rw [Bool.or_eq_false_iff] at q2
      have r0 : 0 < rvl h (drS h c n).1 := k0
      have r1 : rvl h (drS h c n).1 ≤ ev h := k1
      have r2 : can h (rvl h (drS h c n).1) = true := k2 (by omega)
      have r127 := z_and127 (rvl h (drS h c n).1) (by omega)
      have n4 := n3 (rvl h (drS h c n).1) (by omega)
      rw [q2.2] at n4
      have NX : FR h e v (pm_ui N 40 (rvl h (drS h c n).1) 1) L := n2.of (fun r k a b c => z_ur c) (fun c a b => Or.inl (z_ur (by omega))) (fun c a b => Or.inl (z_ur (by omega)))
      obtain ⟨N', w1, w2, w3⟩ := c_rivalOf hF W NX (fun r a b c => by rw [z_ur (by omega), n1 33 r (by omega) (by omega)]; exact A r a b c) r0 r1 (by rw [z_ur (by omega), n1 33 _ (by omega) (by omega)]; exact A _ r0 r1 r2)
      try dsimp only
      rw [e319_44 hF]
      simp (disch := omega) only [pm_k_i, Option.toList_some, Option.toList_none, List.cons_append, List.nil_append, cond_true, cond_false, ↓reduceIte, reduceCtorEq, z_1, nI_add, z_cl, z_ib, z_lt, z_le, z_eq, z_eq0, z_le0, z_lt0, z_b0, z_b1, z_m1, z_and7, Int32.add_zero, show (rvl h (drS h c n).1 = 0) = False from propext ⟨fun hh => by omega, False.elim⟩, r127, n4, show nI false.toNat = 0 from rfl, eq_self]
      rw [show (128 : Int32) = nI 128 from rfl]
      simp (disch := omega) only [pm_k_i, Option.toList_some, Option.toList_none, List.cons_append, List.nil_append, cond_true, cond_false, ↓reduceIte, reduceCtorEq, z_1, nI_add, z_cl, z_ib, z_lt, z_le, z_eq, z_eq0, z_le0, z_lt0, z_b0, z_b1, z_m1, z_and7, Int32.add_zero, show (n < 128) = True from propext ⟨fun _ => trivial, fun _ => by omega⟩, vb1, w1, e319_88 hF]
      refine go N' ⟨fun r k a b => by rw [w2 r k a, z_ur b]; exact n1 r k a b, w3, fun x hx => ?_⟩
      rw [w2 40 x (by omega)]
      show _ = nI (Nat.beq x (rvl h (drS h c n).1) || (drS h c n).2 x).toNat
      by_cases q : x = rvl h (drS h c n).1
      · rw [q, z_ue, Nat.beq_refl]; rfl
      · rw [z_uk q, beq_f q, Bool.false_or]; exact n3 x hx
    · obtain ⟨n1, n2, n3⟩ := hN
      obtain ⟨d1, d2, d3⟩ := ff_some (drN_some W h0 hc)
      obtain ⟨k0, k1, k2⟩ := drS_ok W h0 hc (n := drN h c) (fun i hi => d3 i (by omega))
      have r1 := (rvl_le W (drS h c (drN h c)).1).1
      unfold drE at d2
      try dsimp only
      rw [e319_44 hF]
      by_cases z : rvl h (drS h c (drN h c)).1 = 0
      · rw [z]
        simp (disch := omega) only [pm_k_i, Option.toList_some, Option.toList_none, List.cons_append, List.nil_append, cond_true, cond_false, ↓reduceIte, reduceCtorEq, z_1, nI_add, z_cl, z_ib, z_lt, z_le, z_eq, z_eq0, z_le0, z_lt0, z_b0, z_b1, z_m1, z_and7, Int32.add_zero, eq_self, show nI 0 = 0 from rfl]
        refine ⟨N, ?_, n1, n2⟩
        cases b <;> rfl
      · rw [beq_f z, Bool.false_or] at d2
        have r127 := z_and127 (rvl h (drS h c (drN h c)).1) (by omega)
        have n4 := n3 (rvl h (drS h c (drN h c)).1) (by omega)
        rw [d2] at n4
        simp (disch := omega) only [pm_k_i, Option.toList_some, Option.toList_none, List.cons_append, List.nil_append, cond_true, cond_false, ↓reduceIte, reduceCtorEq, z_1, nI_add, z_cl, z_ib, z_lt, z_le, z_eq, z_eq0, z_le0, z_lt0, z_b0, z_b1, z_m1, z_and7, Int32.add_zero, z, r127, n4, show nI true.toNat = 1 from rfl]
        rw [beq_f z]
        refine ⟨N, ?_, n1, n2⟩
        cases b <;> rfl
    · show pm_ui M 40 c 1 40 x = nI (Nat.beq x c).toNat
      by_cases q : x = c
      · rw [q, z_ue, Nat.beq_refl]; rfl
      · rw [z_uk q, beq_f q, m2 40 x (by omega)]; exact j2 x hx
/-! dream -/
def dr1 (h : Nat → Nat → Nat) (p : Nat) (k b : Nat) : Nat := bif can h (k + 1) && (Nat.beq b 0 || decide (pyc h b p < pyc h (k + 1) p)) then k + 1 else b
def drm (h : Nat → Nat → Nat) (p : Nat) : Nat := lp (dr1 h p) (ev h) 0
theorem c_bestPaying (hF : pm_fix pt_me pt_Sg (pt_R L0 xs) F) (W : WF h) (X : FR h e v I L) (A : AL h I) {p : Nat} (hp : p < h 0 0) : (F 320 0 [some (.ref 30), some (.int (nI p)), none, none] [] (81, pt_G, I, L)) = some (some (.int (nI (drm h p))), (81, pt_G, I, L)) := by
  have hE := ev_lt W
  rw [e320_0 hF]
  refine ((lpI (G := fun k b => (F 320 4 [some (.ref 30), some (.int (nI p)), some (.int (nI b)), some (.int (nI (k + 1)))] [] (81, pt_G, I, L))) (f := dr1 h p) (P := fun k b => b ≤ k ∧ (0 < b → I 33 b = 1)) (n := ev h) (a := 0) ⟨Nat.le_refl _, fun q => by omega⟩ (fun k b hk hb => ⟨?_, ?_⟩)).1).trans ?_
  · obtain ⟨b1, b2⟩ := hb
    try dsimp only
    rw [e320_4 hF]
    simp (disch := omega) only [pm_k_i, Option.toList_some, Option.toList_none, List.cons_append, List.nil_append, cond_true, cond_false, ↓reduceIte, reduceCtorEq, z_1, nI_add, z_cl, z_ib, z_lt, z_le, z_eq, z_eq0, z_le0, z_lt0, z_b0, z_b1, z_m1, z_and7, Int32.add_zero, c_everyone hF W X.1.H, e320_12 hF, show (k + 1 ≤ ev h) = True from propext ⟨fun _ => trivial, fun _ => by omega⟩, c_canBe hF W X.ct (show k + 1 ≤ ev h by omega), e320_20 hF]
    unfold dr1
    cases g : can h (k + 1) with
    | false => simp (disch := omega) only [pm_k_i, Option.toList_some, Option.toList_none, List.cons_append, List.nil_append, cond_true, cond_false, ↓reduceIte, reduceCtorEq, z_1, nI_add, z_cl, z_ib, z_lt, z_le, z_eq, z_eq0, z_le0, z_lt0, z_b0, z_b1, z_m1, z_and7, Int32.add_zero, Bool.false_and]
    | true =>
      simp (disch := omega) only [pm_k_i, Option.toList_some, Option.toList_none, List.cons_append, List.nil_append, cond_true, cond_false, ↓reduceIte, reduceCtorEq, z_1, nI_add, z_cl, z_ib, z_lt, z_le, z_eq, z_eq0, z_le0, z_lt0, z_b0, z_b1, z_m1, z_and7, Int32.add_zero, Bool.true_and]
      by_cases z : b = 0
      · rw [if_pos z, z]; rfl
      · rw [if_neg z, beq_f z, Bool.false_or]
        simp (disch := omega) only [pm_k_i, Option.toList_some, Option.toList_none, List.cons_append, List.nil_append, cond_true, cond_false, ↓reduceIte, reduceCtorEq, z_1, nI_add, z_cl, z_ib, z_lt, z_le, z_eq, z_eq0, z_le0, z_lt0, z_b0, z_b1, z_m1, z_and7, Int32.add_zero, c_payOf hF W X (show 0 < k + 1 by omega) (show k + 1 ≤ ev h by omega) (A (k + 1) (by omega) (by omega) g) hp, e320_33 hF, c_payOf hF W X (show 0 < b by omega) (show b ≤ ev h by omega) (b2 (by omega)) hp, e320_39 hF]
        by_cases q : pyc h (k + 1) p ≤ pyc h b p
        · rw [if_pos q, decide_eq_false (Int32.not_lt.mpr q)]; rfl
        · rw [if_neg q, decide_eq_true (Int32.not_le.mp q)]; rfl
  · obtain ⟨b1, b2⟩ := hb
    unfold dr1
    cases g : can h (k + 1) with
    | false => exact ⟨by rw [Bool.false_and]; show b ≤ _; omega, b2⟩
    | true =>
      rw [Bool.true_and]
      cases (Nat.beq b 0 || decide (pyc h b p < pyc h (k + 1) p))
      · exact ⟨by show b ≤ _; omega, b2⟩
      · exact ⟨Nat.le_refl _, fun _ => A (k + 1) (by omega) (by omega) g⟩
  · try dsimp only
    rw [e320_4 hF]
    simp (disch := omega) only [pm_k_i, Option.toList_some, Option.toList_none, List.cons_append, List.nil_append, cond_true, cond_false, ↓reduceIte, reduceCtorEq, z_1, nI_add, z_cl, z_ib, z_lt, z_le, z_eq, z_eq0, z_le0, z_lt0, z_b0, z_b1, z_m1, z_and7, Int32.add_zero, c_everyone hF W X.1.H, e320_12 hF, show (ev h + 1 ≤ ev h) = False from propext ⟨fun hh => by omega, False.elim⟩]
    rfl
/-! better, beaten -/
theorem c_isBetter (hF : pm_fix pt_me pt_Sg (pt_R L0 xs) F) (W : WF h) (X : FR h e v I L) {a b : Nat} (a0 : 0 < a) (ha : a ≤ ev h) (a1 : I 33 a = 1) (b0 : 0 < b) (hb : b ≤ ev h) (b1 : I 33 b = 1) : (F 321 0 [some (.ref 30), some (.int (nI a)), some (.int (nI b)), none, none] [] (81, pt_G, I, L)) = some (some (.int (nI (bet h a b).toNat)), (81, pt_G, I, L)) := by
  have hE := ev_lt W
  have hP := W.P
  have a127 := z_and127 a (by omega)
  have b127 := z_and127 b (by omega)
  have grle : ∀ w p, grf h w p ≤ 8 * 891 := fun w p => by
    have h1 := lp_le (f := fun o a => a + dis (h 6 (8 * p + o)) (h 6 (8 * w o + o)) * h 5 (8 * p + o)) (n := h 0 1) (c := 891) (fun k a _ => by
      have s1 := W.stance (8 * p + k)
      have s2 := W.stance (8 * w k + k)
      have s3 := W.worth (8 * p + k)
      have s4 : dis (h 6 (8 * p + k)) (h 6 (8 * w k + k)) ≤ 9 := by unfold dis; split <;> omega
      have := mulB s4 s3
      show a + _ ≤ _
      omega) 0
    have hO := W.O
    have h3 : h 0 1 * 891 ≤ 8 * 891 := Nat.mul_le_mul_right _ hO
    show lp _ _ _ ≤ _
    omega
  have sle : ∀ n, n ≤ 7 → lp (fun p n => bif decide (grf h (fs h a) p < grf h (fs h b) p) then n + h 1 p else n) n 0 ≤ 999 * n := fun n _ => by
    have h1 := lp_le (f := fun p n => bif decide (grf h (fs h a) p < grf h (fs h b) p) then n + h 1 p else n) (n := n) (c := 999) (fun k a' _ => by
      have := W.seats k
      cases decide (grf h (fs h a) k < grf h (fs h b) k) <;> (try simp only [cond_true, cond_false]) <;> omega) 0
    omega
  rw [e321_0 hF]
  refine (lpE (G := fun k n => (F 321 5 [some (.ref 30), some (.int (nI a)), some (.int (nI b)), some (.int (nI n)), some (.int (nI k))] [] (81, pt_G, I, L))) (f := fun p n => bif decide (grf h (fs h a) p < grf h (fs h b) p) then n + h 1 p else n) (n := h 0 0) (fun k n hk => ?_) 0).trans ?_
  · try dsimp only
    have la := ((X.lr a0 ha a1).2.2 k hk).2
    have lb := ((X.lr b0 hb b1).2.2 k hk).2
    have ga := grle (fs h a) k
    have gb := grle (fs h b) k
    rw [e321_5 hF, show (8 : Int32) = nI 8 from rfl]
    simp (disch := omega) only [pm_k_i, Option.toList_some, Option.toList_none, List.cons_append, List.nil_append, cond_true, cond_false, ↓reduceIte, reduceCtorEq, z_1, nI_add, z_cl, z_ib, z_lt, z_le, z_eq, z_eq0, z_le0, z_lt0, z_b0, z_b1, z_m1, z_and7, Int32.add_zero, X.1.H.P, hk, show (k < 8) = True from propext ⟨fun _ => trivial, fun _ => by omega⟩, a127, b127, pk_mul, la, lb]
    by_cases q : grf h (fs h a) k < grf h (fs h b) k
    · rw [if_pos q, decide_eq_true q]
      simp (disch := omega) only [pm_k_i, Option.toList_some, Option.toList_none, List.cons_append, List.nil_append, cond_true, cond_false, ↓reduceIte, reduceCtorEq, z_1, nI_add, z_cl, z_ib, z_lt, z_le, z_eq, z_eq0, z_le0, z_lt0, z_b0, z_b1, z_m1, z_and7, Int32.add_zero, c_seatsOf hF W X.1.H, e321_67 hF]
    · rw [if_neg q, decide_eq_false q]
      rfl
  · have s1 := sle (h 0 0) hP
    have n1 := need_le W
    try dsimp only
    rw [e321_5 hF]
    simp (disch := omega) only [pm_k_i, Option.toList_some, Option.toList_none, List.cons_append, List.nil_append, cond_true, cond_false, ↓reduceIte, reduceCtorEq, z_1, nI_add, z_cl, z_ib, z_lt, z_le, z_eq, z_eq0, z_le0, z_lt0, z_b0, z_b1, z_m1, z_and7, Int32.add_zero, X.1.H.P, Nat.lt_irrefl, X.ct.1]
    unfold bet
    by_cases q : lp (fun p n => bif decide (grf h (fs h a) p < grf h (fs h b) p) then n + h 1 p else n) (h 0 0) 0 < need h
    · rw [if_pos q, decide_eq_false (by omega)]; rfl
    · rw [if_neg q, decide_eq_true (by omega)]; rfl
theorem c_isBeaten (hF : pm_fix pt_me pt_Sg (pt_R L0 xs) F) (W : WF h) (X : FR h e v I L) (A : AL h I) {c : Nat} (h0 : 0 < c) (hc : c ≤ ev h) (h1 : I 33 c = 1) : (F 323 0 [some (.ref 30), some (.int (nI c)), none] [] (81, pt_G, I, L)) = some (some (.int (nI (ff (fun k => can h (k + 1) && bet h (k + 1) c) (ev h)).isSome.toNat)), (81, pt_G, I, L)) := by
  have hE := ev_lt W
  rw [e323_0 hF]
  refine (ffE (G := fun k => (F 323 2 [some (.ref 30), some (.int (nI c)), some (.int (nI (k + 1)))] [] (81, pt_G, I, L))) (X := fun _ => (some (some (.int 1), (81, pt_G, I, L)) : pm_R)) (p := fun k => can h (k + 1) && bet h (k + 1) c) (n := ev h) (fun k hk => ?_)).trans ?_
  · try dsimp only
    rw [e323_2 hF]
    simp (disch := omega) only [pm_k_i, Option.toList_some, Option.toList_none, List.cons_append, List.nil_append, cond_true, cond_false, ↓reduceIte, reduceCtorEq, z_1, nI_add, z_cl, z_ib, z_lt, z_le, z_eq, z_eq0, z_le0, z_lt0, z_b0, z_b1, z_m1, z_and7, Int32.add_zero, c_everyone hF W X.1.H, e323_10 hF, show (k + 1 ≤ ev h) = True from propext ⟨fun _ => trivial, fun _ => by omega⟩, c_canBe hF W X.ct (show k + 1 ≤ ev h by omega), e323_18 hF]
    cases g : can h (k + 1) with
    | false => simp (disch := omega) only [pm_k_i, Option.toList_some, Option.toList_none, List.cons_append, List.nil_append, cond_true, cond_false, ↓reduceIte, reduceCtorEq, z_1, nI_add, z_cl, z_ib, z_lt, z_le, z_eq, z_eq0, z_le0, z_lt0, z_b0, z_b1, z_m1, z_and7, Int32.add_zero, Bool.false_and]
    | true =>
      simp (disch := omega) only [pm_k_i, Option.toList_some, Option.toList_none, List.cons_append, List.nil_append, cond_true, cond_false, ↓reduceIte, reduceCtorEq, z_1, nI_add, z_cl, z_ib, z_lt, z_le, z_eq, z_eq0, z_le0, z_lt0, z_b0, z_b1, z_m1, z_and7, Int32.add_zero, c_isBetter hF W X (show 0 < k + 1 by omega) (show k + 1 ≤ ev h by omega) (A (k + 1) (by omega) (by omega) g) h0 hc h1, e323_27 hF, Bool.true_and]
      cases bet h (k + 1) c <;> rfl
  · cases ff (fun k => can h (k + 1) && bet h (k + 1) c) (ev h) with
    | some k => rfl
    | none =>
      dsimp only
      rw [e323_2 hF]
      simp (disch := omega) only [pm_k_i, Option.toList_some, Option.toList_none, List.cons_append, List.nil_append, cond_true, cond_false, ↓reduceIte, reduceCtorEq, z_1, nI_add, z_cl, z_ib, z_lt, z_le, z_eq, z_eq0, z_le0, z_lt0, z_b0, z_b1, z_m1, z_and7, Int32.add_zero, c_everyone hF W X.1.H, e323_10 hF, show (ev h + 1 ≤ ev h) = False from propext ⟨fun hh => by omega, False.elim⟩]
      rfl
theorem c_isUnbeaten (hF : pm_fix pt_me pt_Sg (pt_R L0 xs) F) (W : WF h) (X : FR h e v I L) (A : AL h I) {c : Nat} (h0 : 0 < c) (hc : c ≤ ev h) : ∃ I', (F 322 0 [some (.ref 30), some (.int (nI c)), none] [] (81, pt_G, I, L)) = some (some (.int (nI (unb h c).toNat)), (81, pt_G, I', L)) ∧ (∀ r k, r ≠ 39 → I' r k = I r k) ∧ FR h e v I' L := by
  have hE := ev_lt W
  have c127 := z_and127 c (by omega)
  have mk : ∀ x : Int32, x = (bif unb h c then 2 else 1) → (∀ r k, r ≠ 39 → pm_ui I 39 c x r k = I r k) ∧ FR h e v (pm_ui I 39 c x) L := fun x hx => ⟨fun r k hr => z_ur hr, X.of (fun r k a b c => z_ur b) (fun x a b => Or.inl (z_ur (by omega))) (fun y a b => by
    by_cases ee : y = c
    · subst ee; right; rw [z_ue]; exact hx
    · left; rw [z_uk ee])⟩
  rw [e322_0 hF]
  simp (disch := omega) only [pm_k_i, Option.toList_some, Option.toList_none, List.cons_append, List.nil_append, cond_true, cond_false, ↓reduceIte, reduceCtorEq, z_1, nI_add, z_cl, z_ib, z_lt, z_le, z_eq, z_eq0, z_le0, z_lt0, z_b0, z_b1, z_m1, z_and7, Int32.add_zero, c127]
  rcases (X.ct.2.2 c h0 hc).2.2 with q | q
  · rw [if_pos q]
    simp (disch := omega) only [pm_k_i, Option.toList_some, Option.toList_none, List.cons_append, List.nil_append, cond_true, cond_false, ↓reduceIte, reduceCtorEq, z_1, nI_add, z_cl, z_ib, z_lt, z_le, z_eq, z_eq0, z_le0, z_lt0, z_b0, z_b1, z_m1, z_and7, Int32.add_zero, c_canBe hF W X.ct hc, e322_24 hF]
    cases g : can h c with
    | false =>
      have u : unb h c = false := by unfold unb; rw [g]; rfl
      simp (disch := omega) only [pm_k_i, Option.toList_some, Option.toList_none, List.cons_append, List.nil_append, cond_true, cond_false, ↓reduceIte, reduceCtorEq, z_1, nI_add, z_cl, z_ib, z_lt, z_le, z_eq, z_eq0, z_le0, z_lt0, z_b0, z_b1, z_m1, z_and7, Int32.add_zero, z_ue]
      rw [if_neg (by decide), u]
      exact ⟨_, rfl, mk 1 (by rw [u]; rfl)⟩
    | true =>
      simp (disch := omega) only [pm_k_i, Option.toList_some, Option.toList_none, List.cons_append, List.nil_append, cond_true, cond_false, ↓reduceIte, reduceCtorEq, z_1, nI_add, z_cl, z_ib, z_lt, z_le, z_eq, z_eq0, z_le0, z_lt0, z_b0, z_b1, z_m1, z_and7, Int32.add_zero, c_isBeaten hF W X A h0 hc (A c h0 hc g), e322_32 hF]
      cases z : ff (fun k => can h (k + 1) && bet h (k + 1) c) (ev h) with
      | none =>
        have u : unb h c = true := by unfold unb; rw [g, z]; rfl
        simp (disch := omega) only [pm_k_i, Option.toList_some, Option.toList_none, List.cons_append, List.nil_append, cond_true, cond_false, ↓reduceIte, reduceCtorEq, z_1, nI_add, z_cl, z_ib, z_lt, z_le, z_eq, z_eq0, z_le0, z_lt0, z_b0, z_b1, z_m1, z_and7, Int32.add_zero, show (none : Option Nat).isSome = false from rfl, z_ue, eq_self]
        rw [u]
        exact ⟨_, rfl, mk 2 (by rw [u]; rfl)⟩
      | some k =>
        have u : unb h c = false := by unfold unb; rw [g, z]; rfl
        simp (disch := omega) only [pm_k_i, Option.toList_some, Option.toList_none, List.cons_append, List.nil_append, cond_true, cond_false, ↓reduceIte, reduceCtorEq, z_1, nI_add, z_cl, z_ib, z_lt, z_le, z_eq, z_eq0, z_le0, z_lt0, z_b0, z_b1, z_m1, z_and7, Int32.add_zero, show (some k : Option Nat).isSome = true from rfl, z_ue]
        rw [if_neg (by decide), u]
        exact ⟨_, rfl, mk 1 (by rw [u]; rfl)⟩
  · rw [q]
    cases unb h c with
    | false =>
      rw [cond_false, if_neg (by decide), if_neg (by decide)]
      exact ⟨I, rfl, fun _ _ _ => rfl, X⟩
    | true =>
      rw [cond_true, if_neg (by decide), if_pos rfl]
      exact ⟨I, rfl, fun _ _ _ => rfl, X⟩
theorem c_countUnbeaten (hF : pm_fix pt_me pt_Sg (pt_R L0 xs) F) (W : WF h) (X : FR h e v I L) (A : AL h I) : ∃ I', (F 324 0 [some (.ref 30), none, none] [] (81, pt_G, I, L)) = some (some (.int (nI (cntP h (unb h)))), (81, pt_G, I', L)) ∧ (∀ r k, r ≠ 39 → I' r k = I r k) ∧ FR h e v I' L := by
  have hE := ev_lt W
  rw [e324_0 hF]
  refine wl (α := Nat × (Nat → Nat → Int32)) (Q := fun r => ∃ I', r = some (some (.int (nI (cntP h (unb h)))), (81, pt_G, I', L)) ∧ (∀ r k, r ≠ 39 → I' r k = I r k) ∧ FR h e v I' L) (G := fun k a => (F 324 4 [some (.ref 30), some (.int (nI a.1)), some (.int (nI (k + 1)))] [] (81, pt_G, a.2, L))) (P := fun k a => a.1 = lp (fun k a => bif unb h (k + 1) then a + 1 else a) k 0 ∧ (∀ r k, r ≠ 39 → a.2 r k = I r k) ∧ FR h e v a.2 L) (n := ev h) (fun k a hk ha go => ?_) (fun a ha => ?_) 0 (0, I) (Nat.zero_le _) ⟨rfl, fun _ _ _ => rfl, X⟩
  · obtain ⟨n, J⟩ := a
    obtain ⟨a1, a2, a3⟩ := ha
    try dsimp only at a1 a2 a3
    obtain ⟨M, m1, m2, m3⟩ := c_isUnbeaten hF W a3 (A.of (fun k => a2 33 k (by omega))) (c := k + 1) (by omega) (by omega)
    try dsimp only
    rw [e324_4 hF]
    simp (disch := omega) only [pm_k_i, Option.toList_some, Option.toList_none, List.cons_append, List.nil_append, cond_true, cond_false, ↓reduceIte, reduceCtorEq, z_1, nI_add, z_cl, z_ib, z_lt, z_le, z_eq, z_eq0, z_le0, z_lt0, z_b0, z_b1, z_m1, z_and7, Int32.add_zero, c_everyone hF W a3.1.H, e324_12 hF, show (k + 1 ≤ ev h) = True from propext ⟨fun _ => trivial, fun _ => by omega⟩, m1, e324_20 hF]
    have nx : lp (fun k a => bif unb h (k + 1) then a + 1 else a) (k + 1) 0 = bif unb h (k + 1) then n + 1 else n := by rw [a1]; rfl
    cases q : unb h (k + 1) with
    | true =>
      rw [q] at nx
      simp (disch := omega) only [pm_k_i, Option.toList_some, Option.toList_none, List.cons_append, List.nil_append, cond_true, cond_false, ↓reduceIte, reduceCtorEq, z_1, nI_add, z_cl, z_ib, z_lt, z_le, z_eq, z_eq0, z_le0, z_lt0, z_b0, z_b1, z_m1, z_and7, Int32.add_zero]
      exact go (n + 1, M) ⟨by rw [nx]; rfl, fun r j hr => (m2 r j hr).trans (a2 r j hr), m3⟩
    | false =>
      rw [q] at nx
      simp (disch := omega) only [pm_k_i, Option.toList_some, Option.toList_none, List.cons_append, List.nil_append, cond_true, cond_false, ↓reduceIte, reduceCtorEq, z_1, nI_add, z_cl, z_ib, z_lt, z_le, z_eq, z_eq0, z_le0, z_lt0, z_b0, z_b1, z_m1, z_and7, Int32.add_zero]
      exact go (n, M) ⟨by rw [nx]; rfl, fun r j hr => (m2 r j hr).trans (a2 r j hr), m3⟩
  · obtain ⟨n, J⟩ := a
    obtain ⟨a1, a2, a3⟩ := ha
    try dsimp only at a1 a2 a3
    try dsimp only
    rw [e324_4 hF]
    simp (disch := omega) only [pm_k_i, Option.toList_some, Option.toList_none, List.cons_append, List.nil_append, cond_true, cond_false, ↓reduceIte, reduceCtorEq, z_1, nI_add, z_cl, z_ib, z_lt, z_le, z_eq, z_eq0, z_le0, z_lt0, z_b0, z_b1, z_m1, z_and7, Int32.add_zero, c_everyone hF W a3.1.H, e324_12 hF, show (ev h + 1 ≤ ev h) = False from propext ⟨fun hh => by omega, False.elim⟩]
    exact ⟨J, by rw [a1]; rfl, a2, a3⟩
theorem c_findUnbeaten (hF : pm_fix pt_me pt_Sg (pt_R L0 xs) F) (W : WF h) (X : FR h e v I L) (A : AL h I) {n : Nat} (hn : n < 2147483648) : ∃ I', (F 325 0 [some (.ref 30), some (.int (nI n)), none, none] [] (81, pt_G, I, L)) = some (some (.int (oI (nthP h (unb h) n))), (81, pt_G, I', L)) ∧ (∀ r k, r ≠ 39 → I' r k = I r k) ∧ FR h e v I' L := by
  have hE := ev_lt W
  rw [e325_0 hF]
  have key : ∀ m k a J, k + m = ev h → a ≤ n → a ≤ k → (∀ r k, r ≠ 39 → J r k = I r k) → FR h e v J L → ∃ I', (F 325 4 [some (.ref 30), some (.int (nI n)), some (.int (nI a)), some (.int (nI (k + 1)))] [] (81, pt_G, J, L)) = some (some (.int (oI (fnd (unb h) (k + 1) m (n - a)))), (81, pt_G, I', L)) ∧ (∀ r k, r ≠ 39 → I' r k = I r k) ∧ FR h e v I' L := by
    intro m
    induction m with
    | zero =>
      intro k a J hk ha hak j1 j2
      have : k = ev h := by omega
      subst this
      rw [e325_4 hF]
      simp (disch := omega) only [pm_k_i, Option.toList_some, Option.toList_none, List.cons_append, List.nil_append, cond_true, cond_false, ↓reduceIte, reduceCtorEq, z_1, nI_add, z_cl, z_ib, z_lt, z_le, z_eq, z_eq0, z_le0, z_lt0, z_b0, z_b1, z_m1, z_and7, Int32.add_zero, c_everyone hF W j2.1.H, e325_12 hF, show (ev h + 1 ≤ ev h) = False from propext ⟨fun hh => by omega, False.elim⟩]
      exact ⟨J, rfl, j1, j2⟩
    | succ m ih =>
      intro k a J hk ha hak j1 j2
      obtain ⟨M, m1, m2, m3⟩ := c_isUnbeaten hF W j2 (A.of (fun k => j1 33 k (by omega))) (c := k + 1) (by omega) (by omega)
      have mI : ∀ r k, r ≠ 39 → M r k = I r k := fun r j hr => by rw [m2 r j hr]; exact j1 r j hr
      rw [e325_4 hF]
      simp (disch := omega) only [pm_k_i, Option.toList_some, Option.toList_none, List.cons_append, List.nil_append, cond_true, cond_false, ↓reduceIte, reduceCtorEq, z_1, nI_add, z_cl, z_ib, z_lt, z_le, z_eq, z_eq0, z_le0, z_lt0, z_b0, z_b1, z_m1, z_and7, Int32.add_zero, c_everyone hF W j2.1.H, e325_12 hF, show (k + 1 ≤ ev h) = True from propext ⟨fun _ => trivial, fun _ => by omega⟩, m1, e325_20 hF]
      unfold fnd
      cases q : unb h (k + 1) with
      | true =>
        simp (disch := omega) only [pm_k_i, Option.toList_some, Option.toList_none, List.cons_append, List.nil_append, cond_true, cond_false, ↓reduceIte, reduceCtorEq, z_1, nI_add, z_cl, z_ib, z_lt, z_le, z_eq, z_eq0, z_le0, z_lt0, z_b0, z_b1, z_m1, z_and7, Int32.add_zero]
        by_cases d : a = n
        · subst d
          rw [if_pos rfl, Nat.sub_self]
          exact ⟨M, rfl, mI, m3⟩
        · rw [if_neg d]
          obtain ⟨x, hx⟩ : ∃ x, n - a = x + 1 := ⟨n - a - 1, by omega⟩
          rw [hx]
          have := ih (k + 1) (a + 1) M (by omega) (by omega) (by omega) mI m3
          rw [show n - (a + 1) = x by omega] at this
          exact this
      | false =>
        simp (disch := omega) only [pm_k_i, Option.toList_some, Option.toList_none, List.cons_append, List.nil_append, cond_true, cond_false, ↓reduceIte, reduceCtorEq, z_1, nI_add, z_cl, z_ib, z_lt, z_le, z_eq, z_eq0, z_le0, z_lt0, z_b0, z_b1, z_m1, z_and7, Int32.add_zero]
        exact ih (k + 1) a M (by omega) ha (by omega) mI m3
  exact key (ev h) 0 0 I (by omega) (Nat.zero_le _) (Nat.le_refl _) (fun _ _ _ => rfl) X
end
