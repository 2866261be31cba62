/-! ===== kept: the whole of it ===== -/
section
variable {h : Nat → Nat → Nat} {I I' : Nat → Nat → Int32} {L L' : Nat → Nat → Int64} {e v : Nat}
variable {F : pm_F} {L0 : Nat} {xs : Nat → Int32}
theorem Rch_le (W : WF h) {c : Nat → Nat} {b : Bool} {i : Nat} : ∀ k T v, Rch h c b i k T v → v ≤ i + 792 * k := by
  intro k
  induction k with
  | zero =>
    intro T v r
    rw [r.2]
    cases b
    · exact Nat.zero_le _
    · show i ≤ _; omega
  | succ k ih =>
    intro T v r
    rcases r with ⟨_, r⟩ | ⟨_, s, o, u, g1, g2, g3, g4⟩
    · have := ih T v r; omega
    · have := ih s u g3
      have := wa_le W k o
      rw [g4]
      cases b
      · show u + _ ≤ _; omega
      · show min u _ ≤ _; omega
def keI (x : Int32) : Option Nat := if x = -1 then none else some x.toNatClampNeg
theorem keI_oI {b : Option Nat} (hb : ∀ q, b = some q → q < 2147483648) : keI (oI b) = b := by
  cases b with
  | none => exact if_pos rfl
  | some q =>
    have := hb q rfl
    show (if nI q = -1 then none else some (nI q).toNatClampNeg) = _
    rw [z_cl this, if_neg (by rw [z_m1 this]; exact id)]
theorem c_greatest (hF : pm_fix pt_me pt_Sg (pt_R L0 xs) F) (W : WF h) (H : CH h I) {c : Nat → Nat} {b : Bool} (hc : ∀ p, c p < 16) (hs : sm c (h 0 0) = h 0 1) (hO1 : 0 < h 0 1) : ∃ I' m, (F 802 0 [some (.ref 27), some (.int (nI (pkc c))), some (.int (nI b.toNat)), none, none, none, none, none] [] (81, pt_G, I, L)) = some (some (.int (nI m)), (81, pt_G, I', L)) ∧ (∀ r k, r ≠ 28 → r ≠ 29 → I' r k = I r k) ∧ LV h c b 1000000 (h 0 0) (2 ^ h 0 1 - 1) (some m) := by
  have hP := W.P
  have hO := W.O
  have h2 := o256 W
  have start : (F 802 0 [some (.ref 27), some (.int (nI (pkc c))), some (.int (nI b.toNat)), none, none, none, none, none] [] (81, pt_G, I, L)) = (F 802 46 [some (.ref 27), some (.int (nI (pkc c))), some (.int (nI b.toNat)), some (.int (nI (2 ^ h 0 1 - 1))), some (.int 0), some (.int 0), none, none] [] (81, pt_G, (pm_ui I 28 0 (nI (ini b 1000000))), L)) := by
    rw [e802_0 hF, H.O]
    simp (disch := omega) only [pm_k_i, Option.toList_some, Option.toList_none, List.cons_append, List.nil_append, cond_true, cond_false, ↓reduceIte, reduceCtorEq, z_1, nI_add, z_cl, z_ib, z_lt, z_le, z_eq, z_eq0, z_le0, z_lt0, z_b0, z_b1, z_m1, z_and7, Int32.add_zero, show (h 0 1 = 0) = False from propext ⟨fun hh => by omega, False.elim⟩, z_sh1]
    rw [show pm_ib 0 256 = true from z_ib (k := 0) (by omega) (by omega), show Int32.toNatClampNeg 0 = 0 from rfl, z_s1 (by omega)]
    cases b <;> rfl
  rw [start]
  have bnd : ∀ k S m, k ≤ h 0 0 → LV h c b 1000000 k S (some m) → m ≤ 2000000 := fun k S m hk l => by
    have := Rch_le W k S m l.1
    omega
  refine wl (Q := fun r => ∃ I' m, r = some (some (.int (nI m)), (81, pt_G, I', L)) ∧ (∀ r k, r ≠ 28 → r ≠ 29 → I' r k = I r k) ∧ LV h c b 1000000 (h 0 0) (2 ^ h 0 1 - 1) (some m)) (G := fun k J => (F 802 46 [some (.ref 27), some (.int (nI (pkc c))), some (.int (nI b.toNat)), some (.int (nI (2 ^ h 0 1 - 1))), some (.int (nI (sm c k))), some (.int (nI k)), none, none] [] (81, pt_G, J, L))) (P := fun k J => (∀ r j, r ≠ 28 → r ≠ 29 → J r j = I r j) ∧ ∀ S, S < 2 ^ h 0 1 → pc S = sm c k → ∃ m, J 28 S = nI m ∧ LV h c b 1000000 k S (some m)) (n := h 0 0) (fun k J hk hJ go => ?_) (fun J hJ => ?_) 0 _ (Nat.zero_le _) ⟨fun r j a _ => z_ur a, fun S hS hp => ?_⟩
  · obtain ⟨j1, j2⟩ := hJ
    have HJ : CH h J := H.of (fun k _ => j1 3 k (by omega) (by omega)) (fun r a b k => j1 r k (by omega) (by omega))
    have ck := hc k
    have sk : sm c k + c k ≤ h 0 1 := by
      have : ∀ n, k < n → n ≤ h 0 0 → sm c k + c k ≤ sm c n := by
        intro n
        induction n with
        | zero => intro a; omega
        | succ n ih =>
          intro a b
          show _ ≤ sm c n + c n
          by_cases q : k = n
          · subst q; omega
          · have := ih (by omega) (by omega); omega
      have := this (h 0 0) hk (Nat.le_refl _)
      omega
    try dsimp only
    rw [e802_46 hF]
    simp (disch := omega) only [pm_k_i, Option.toList_some, Option.toList_none, List.cons_append, List.nil_append, cond_true, cond_false, ↓reduceIte, reduceCtorEq, z_1, nI_add, z_cl, z_ib, z_lt, z_le, z_eq, z_eq0, z_le0, z_lt0, z_b0, z_b1, z_m1, z_and7, Int32.add_zero, HJ.P, hk, c_count hF hc (show k < 7 by omega), e802_64 hF]
    by_cases q : c k = 0
    · rw [if_pos q]
      have e1 : sm c (k + 1) = sm c k := by show sm c k + c k = _; omega
      rw [← e1]
      refine go J ⟨j1, fun S hS hp => ?_⟩
      obtain ⟨m, m1, m2⟩ := j2 S hS (by rw [← e1]; exact hp)
      exact ⟨m, m1, LV_skip q m2⟩
    · rw [if_neg q]
      obtain ⟨M, w1, w2, w3⟩ := c_sumWorths (L := L) hF W HJ (p := k) hk
      rw [w1]
      simp (disch := omega) only [pm_k_i, Option.toList_some, Option.toList_none, List.cons_append, List.nil_append, cond_true, cond_false, ↓reduceIte, reduceCtorEq, z_1, nI_add, z_cl, z_ib, z_lt, z_le, z_eq, z_eq0, z_le0, z_lt0, z_b0, z_b1, z_m1, z_and7, Int32.add_zero, e802_81 hF]
      have sk1 : sm c k + c k = sm c (k + 1) := rfl
      rw [sk1]
      refine wl (Q := fun r => ∃ I' m, r = some (some (.int (nI m)), (81, pt_G, I', L)) ∧ (∀ r k, r ≠ 28 → r ≠ 29 → I' r k = I r k) ∧ LV h c b 1000000 (h 0 0) (2 ^ h 0 1 - 1) (some m)) (G := fun j N => (F 802 91 [some (.ref 27), some (.int (nI (pkc c))), some (.int (nI b.toNat)), some (.int (nI (2 ^ h 0 1 - 1))), some (.int (nI (sm c (k + 1)))), some (.int (nI k)), some (.int (nI (c k))), some (.int (nI (j + 1)))] [] (81, pt_G, N, L))) (P := fun j N => (∀ r i, r ≠ 28 → N r i = M r i) ∧ (∀ S, S < 2 ^ h 0 1 → pc S ≠ sm c (k + 1) → N 28 S = M 28 S) ∧ ∀ S, 0 < S → S ≤ j → pc S = sm c (k + 1) → ∃ m, N 28 S = nI m ∧ LV h c b 1000000 (k + 1) S (some m)) (n := 2 ^ h 0 1 - 1) (fun j N hj hN go2 => ?_) (fun N hN => ?_) 0 M (Nat.zero_le _) ⟨fun _ _ _ => rfl, fun _ _ _ => rfl, fun S a b => by omega⟩
      · obtain ⟨n1, n2, n3⟩ := hN
        have pj := pc_le8 (show j + 1 < 256 by omega)
        try dsimp only
        rw [e802_91 hF]
        simp (disch := omega) only [pm_k_i, Option.toList_some, Option.toList_none, List.cons_append, List.nil_append, cond_true, cond_false, ↓reduceIte, reduceCtorEq, z_1, nI_add, z_cl, z_ib, z_lt, z_le, z_eq, z_eq0, z_le0, z_lt0, z_b0, z_b1, z_m1, z_and7, Int32.add_zero, show (j + 1 ≤ 2 ^ h 0 1 - 1) = True from propext ⟨fun _ => trivial, fun _ => by omega⟩]
        rw [show (256 : Int32) = nI 256 from rfl]
        simp (disch := omega) only [pm_k_i, Option.toList_some, Option.toList_none, List.cons_append, List.nil_append, cond_true, cond_false, ↓reduceIte, reduceCtorEq, z_1, nI_add, z_cl, z_ib, z_lt, z_le, z_eq, z_eq0, z_le0, z_lt0, z_b0, z_b1, z_m1, z_and7, Int32.add_zero, show (j + 1 < 256) = True from propext ⟨fun _ => trivial, fun _ => by omega⟩, c_bitCount hF, e802_110 hF]
        by_cases z : pc (j + 1) = sm c (k + 1)
        · rw [if_pos z]
          obtain ⟨m, x1, x2, x3⟩ := c_bestWith (I := N) (L := L) hF W (c := c) (b := b) (k := k) (T := j + 1) (by omega) z (by omega) (fun S => (N 28 S).toNatClampNeg) (fun S hS hp => by
            obtain ⟨m, m1, m2⟩ := j2 S hS hp
            have e1 : N 28 S = nI m := by rw [n2 S hS (by show pc S ≠ sm c k + c k; omega), w2 28 S (by omega)]; exact m1
            have e2 := bnd k S m (by omega) m2
            have e3 : (N 28 S).toNatClampNeg = m := by rw [e1, z_cl (by omega)]
            show N 28 S = nI (N 28 S).toNatClampNeg ∧ (N 28 S).toNatClampNeg ≤ 2000000 ∧ LV h c b 1000000 k S (some (N 28 S).toNatClampNeg)
            rw [e3]
            exact ⟨e1, e2, m2⟩) (fun A hA => by rw [n1 29 A (by omega)]; exact w3 A hA)
          rw [x1]
          simp (disch := omega) only [pm_k_i, Option.toList_some, Option.toList_none, List.cons_append, List.nil_append, cond_true, cond_false, ↓reduceIte, reduceCtorEq, z_1, nI_add, z_cl, z_ib, z_lt, z_le, z_eq, z_eq0, z_le0, z_lt0, z_b0, z_b1, z_m1, z_and7, Int32.add_zero, e802_130 hF]
          refine go2 _ ⟨fun r i a => by rw [z_ur a]; exact n1 r i a, fun S hS hp => ?_, fun S s0 s1 hp => ?_⟩
          · by_cases y : S = j + 1
            · rw [y] at hp; exact absurd z hp
            · rw [z_uk y]; exact n2 S hS hp
          · by_cases y : S = j + 1
            · subst y; exact ⟨m, z_ue, x2⟩
            · rw [z_uk y]; exact n3 S s0 (by omega) hp
        · rw [if_neg z]
          refine go2 N ⟨n1, n2, fun S s0 s1 hp => ?_⟩
          by_cases y : S = j + 1
          · rw [y] at hp; exact absurd hp z
          · exact n3 S s0 (by omega) hp
      · obtain ⟨n1, n2, n3⟩ := hN
        try dsimp only
        rw [e802_91 hF]
        simp (disch := omega) only [pm_k_i, Option.toList_some, Option.toList_none, List.cons_append, List.nil_append, cond_true, cond_false, ↓reduceIte, reduceCtorEq, z_1, nI_add, z_cl, z_ib, z_lt, z_le, z_eq, z_eq0, z_le0, z_lt0, z_b0, z_b1, z_m1, z_and7, Int32.add_zero, show (2 ^ h 0 1 - 1 + 1 ≤ 2 ^ h 0 1 - 1) = False from propext ⟨fun hh => by omega, False.elim⟩]
        refine go N ⟨fun r i a b => by rw [n1 r i a, w2 r i b]; exact j1 r i a b, fun S hS hp => ?_⟩
        have s0 : 0 < S := by
          rcases Nat.eq_zero_or_pos S with y | y
          · rw [y, show pc 0 = 0 from by decide +kernel] at hp
            have : sm c (k + 1) = sm c k + c k := rfl
            omega
          · exact y
        exact n3 S s0 (by omega) hp
  · obtain ⟨j1, j2⟩ := hJ
    have HJP : J 3 0 = nI (h 0 0) := by rw [j1 3 0 (by omega) (by omega)]; exact H.P
    obtain ⟨m, m1, m2⟩ := j2 (2 ^ h 0 1 - 1) (by omega) (by rw [pc_all (h 0 1) (by omega), hs])
    try dsimp only
    rw [e802_46 hF]
    simp (disch := omega) only [pm_k_i, Option.toList_some, Option.toList_none, List.cons_append, List.nil_append, cond_true, cond_false, ↓reduceIte, reduceCtorEq, z_1, nI_add, z_cl, z_ib, z_lt, z_le, z_eq, z_eq0, z_le0, z_lt0, z_b0, z_b1, z_m1, z_and7, Int32.add_zero, HJP, Nat.lt_irrefl, z_and255, m1]
    exact ⟨J, m, rfl, j1, m2⟩
  · have : S = 0 := pc_0 S (by omega) hp
    subst this
    refine ⟨ini b 1000000, z_ue, ?_⟩
    have := LV_zero (h := h) c b 1000000 0
    rw [if_pos rfl] at this
    exact this
theorem m_worthAll (hF : pm_fix pt_me pt_Sg (pt_R L0 xs) F) (W : WF h) (H : MH h I) {p A : Nat} (hp : p < h 0 0) (hA : A < 65536) : (F 1275 0 [some (.ref 49), some (.int (nI p)), some (.int (nI A)), none, none] [] (81, pt_G, I, L)) = some (some (.int (nI (wa h p A))), (81, pt_G, I, L)) := by
  have hP := W.P
  have hO := W.O
  rw [e1275_0 hF]
  refine (lpE (G := fun k a => (F 1275 5 [some (.ref 49), some (.int (nI p)), some (.int (nI A)), some (.int (nI a)), some (.int (nI k))] [] (81, pt_G, I, L))) (f := fun o a => bif A.testBit o then a + h 5 (8 * p + o) else a) (n := h 0 1) (fun k a hk => ?_) 0).trans ?_
  · try dsimp only
    rw [e1275_5 hF]
    simp (disch := omega) only [pm_k_i, Option.toList_some, Option.toList_none, List.cons_append, List.nil_append, cond_true, cond_false, ↓reduceIte, reduceCtorEq, z_1, nI_add, z_cl, z_ib, z_lt, z_le, z_eq, z_eq0, z_le0, z_lt0, z_b0, z_b1, z_m1, z_and7, Int32.add_zero, H.O, hk, m_holds hF, e1275_21 hF]
    cases A.testBit k
    · simp (disch := omega) only [pm_k_i, Option.toList_some, Option.toList_none, List.cons_append, List.nil_append, cond_true, cond_false, ↓reduceIte, reduceCtorEq, z_1, nI_add, z_cl, z_ib, z_lt, z_le, z_eq, z_eq0, z_le0, z_lt0, z_b0, z_b1, z_m1, z_and7, Int32.add_zero]
    · simp (disch := omega) only [pm_k_i, Option.toList_some, Option.toList_none, List.cons_append, List.nil_append, cond_true, cond_false, ↓reduceIte, reduceCtorEq, z_1, nI_add, z_cl, z_ib, z_lt, z_le, z_eq, z_eq0, z_le0, z_lt0, z_b0, z_b1, z_m1, z_and7, Int32.add_zero, m_worthOf hF W H, e1275_31 hF]
  · try dsimp only
    rw [e1275_5 hF]
    simp (disch := omega) only [pm_k_i, Option.toList_some, Option.toList_none, List.cons_append, List.nil_append, cond_true, cond_false, ↓reduceIte, reduceCtorEq, z_1, nI_add, z_cl, z_ib, z_lt, z_le, z_eq, z_eq0, z_le0, z_lt0, z_b0, z_b1, z_m1, z_and7, Int32.add_zero, H.O, Nat.lt_irrefl]
    rfl
theorem PM_no {Q Q' : Nat → Nat → Prop} {gv : Nat → Option Nat} {c : Nat → Nat} {b : Bool} {k T : Nat} {x : Option Nat} (hx : PM Q gv h c b k T x) (h1 : ∀ s o, Q s o → Q' s o) (h2 : ∀ s o u, Q' s o → ¬ Q s o → spl s o T → pc o = c k → gv s ≠ some u) : PM Q' gv h c b k T x := by
  cases x with
  | none =>
    intro s o u q a d
    by_cases z : Q s o
    · exact hx s o u z a d
    · exact h2 s o u q z a d
  | some m =>
    obtain ⟨⟨s, o, u, g1, g2⟩, g3⟩ := hx
    refine ⟨⟨s, o, u, h1 s o g1, g2⟩, fun s o u q a d g => ?_⟩
    by_cases z : Q s o
    · exact g3 s o u z a d g
    · exact absurd g (h2 s o u q z a d)
theorem PM_add {Q Q' : Nat → Nat → Prop} {gv : Nat → Option Nat} {c : Nat → Nat} {b : Bool} {k T s0 o0 u0 : Nat} {x : Option Nat} (hx : PM Q gv h c b k T x) (h1 : ∀ s o, Q s o → Q' s o) (h2 : ∀ s o, Q' s o → ¬ Q s o → s = s0 ∧ o = o0) (q0 : Q' s0 o0) (a0 : spl s0 o0 T) (d0 : pc o0 = c k) (g0 : gv s0 = some u0) : PM Q' gv h c b k T (some (gp1 x (opv b u0 (wa h k o0)))) := by
  have new : ∀ m, opv b u0 (wa h k o0) ≤ m → (∀ s o u, Q s o → spl s o T → pc o = c k → gv s = some u → opv b u (wa h k o) ≤ m) → ∀ s o u, Q' s o → spl s o T → pc o = c k → gv s = some u → opv b u (wa h k o) ≤ m := by
    intro m k1 k2 s o u q a d g
    by_cases z : Q s o
    · exact k2 s o u z a d g
    · obtain ⟨e1, e2⟩ := h2 s o q z
      subst e1
      subst e2
      rw [g0] at g
      cases g
      exact k1
  cases x with
  | none => exact ⟨⟨s0, o0, u0, q0, a0, d0, g0, rfl⟩, new _ (Nat.le_refl _) (fun s o u q a d g => absurd g (hx s o u q a d))⟩
  | some m =>
    obtain ⟨⟨s, o, u, g1, g2, g3, g4, g5⟩, g6⟩ := hx
    show PM Q' gv h c b k T (some (max m (opv b u0 (wa h k o0))))
    refine ⟨?_, new _ (Nat.le_max_right _ _) (fun s o u q a d g => Nat.le_trans (g6 s o u q a d g) (Nat.le_max_left _ _))⟩
    rcases Nat.le_total m (opv b u0 (wa h k o0)) with y | y
    · rw [Nat.max_eq_right y]; exact ⟨s0, o0, u0, q0, a0, d0, g0, rfl⟩
    · rw [Nat.max_eq_left y]; exact ⟨s, o, u, h1 s o g1, g2, g3, g4, g5⟩
theorem m_greater2 (hF : pm_fix pt_me pt_Sg (pt_R L0 xs) F) {b : Option Nat} {x : Nat} (hb : ∀ q, b = some q → q < 2147483648) (hx : x < 2147483648) : (F 1204 0 [some (.int (oI b)), some (.int (nI x))] [] (81, pt_G, I, L)) = some (some (.int (nI (gp1 b x))), (81, pt_G, I, L)) := by
  cases b with
  | none =>
    show (F 1204 0 [some (.int (-1)), some (.int (nI x))] [] (81, pt_G, I, L)) = _
    rw [e1204_0 hF, if_pos (Int32.le_of_lt (by rw [z_mlt (by omega)]; trivial))]
    rfl
  | some q =>
    have := hb q rfl
    exact m_greater hF this hx
theorem m_gives (hF : pm_fix pt_me pt_Sg (pt_R L0 xs) F) (W : WF h) (H : MH h I) {c : Nat → Nat} {b : Bool} {k : Nat} (hk : k < h 0 0) (hck : 0 < c k) (hc8 : c k ≤ 8) (h67 : I 67 k = nI (c k)) (gv : Nat → Option Nat) (hg : ∀ s, s < 2 ^ h 0 1 → I 71 s = oI (gv s) ∧ LV h c b 999 k s (gv s)) : ∃ I', (F 1276 0 [some (.ref 49), some (.int (nI k)), some (.int (nI b.toNat)), none, none, none, none] [] (81, pt_G, I, L)) = some (none, (81, pt_G, I', L)) ∧ (∀ r j, r ≠ 71 → r ≠ 72 → I' r j = I r j) ∧ ∀ s, s < 2 ^ h 0 1 → ∃ x, I' 71 s = oI x ∧ LV h c b 999 (k + 1) s x := by
  have hP := W.P
  have hO := W.O
  have h2 := o256 W
  have gb : ∀ s u, s < 2 ^ h 0 1 → gv s = some u → u ≤ 10000 := fun s u hs hu => by
    have := (hg s hs).2
    rw [hu] at this
    have := Rch_le W k s u this.1
    omega
  rw [e1276_0 hF]
  refine wl (Q := fun r => ∃ I', r = some (none, (81, pt_G, I', L)) ∧ (∀ r j, r ≠ 71 → r ≠ 72 → I' r j = I r j) ∧ ∀ s, s < 2 ^ h 0 1 → ∃ x, I' 71 s = oI x ∧ LV h c b 999 (k + 1) s x) (G := fun j J => (F 1276 2 [some (.ref 49), some (.int (nI k)), some (.int (nI b.toNat)), some (.int (nI j)), none, none, none] [] (81, pt_G, J, L))) (P := fun j J => (∀ r i, r ≠ 72 → J r i = I r i) ∧ ∀ s, s < j → J 72 s = -1) (n := 2 ^ h 0 1) (fun j J hj hJ go => ?_) (fun J hJ => ?_) 0 I (Nat.zero_le _) ⟨fun _ _ _ => rfl, fun s hs => by omega⟩
  · obtain ⟨j1, j2⟩ := hJ
    have HO : J 49 31 = nI (h 0 1) := by rw [j1 49 31 (by omega)]; exact H.O
    try dsimp only
    rw [e1276_2 hF, HO]
    simp (disch := omega) only [pm_k_i, Option.toList_some, Option.toList_none, List.cons_append, List.nil_append, cond_true, cond_false, ↓reduceIte, reduceCtorEq, z_1, nI_add, z_cl, z_ib, z_lt, z_le, z_eq, z_eq0, z_le0, z_lt0, z_b0, z_b1, z_m1, z_and7, Int32.add_zero, z_sh1, hj]
    refine go _ ⟨fun r i a => by rw [z_ur a]; exact j1 r i a, fun s hs => ?_⟩
    by_cases q : s = j
    · subst q; rw [z_ue]
    · rw [z_uk q]; exact j2 s (by omega)
  · obtain ⟨j1, j2⟩ := hJ
    have HO : J 49 31 = nI (h 0 1) := by rw [j1 49 31 (by omega)]; exact H.O
    try dsimp only
    rw [e1276_2 hF, HO]
    simp (disch := omega) only [pm_k_i, Option.toList_some, Option.toList_none, List.cons_append, List.nil_append, cond_true, cond_false, ↓reduceIte, reduceCtorEq, z_1, nI_add, z_cl, z_ib, z_lt, z_le, z_eq, z_eq0, z_le0, z_lt0, z_b0, z_b1, z_m1, z_and7, Int32.add_zero, z_sh1, Nat.lt_irrefl]
    refine wl (Q := fun r => ∃ I', r = some (none, (81, pt_G, I', L)) ∧ (∀ r j, r ≠ 71 → r ≠ 72 → I' r j = I r j) ∧ ∀ s, s < 2 ^ h 0 1 → ∃ x, I' 71 s = oI x ∧ LV h c b 999 (k + 1) s x) (G := fun s M => (F 1276 27 [some (.ref 49), some (.int (nI k)), some (.int (nI b.toNat)), some (.int (nI s)), none, none, none] [] (81, pt_G, M, L))) (P := fun s M => (∀ r i, r ≠ 72 → M r i = I r i) ∧ ∀ T, T < 2 ^ h 0 1 → ∃ x, M 72 T = oI x ∧ PM (fun s' _ => s' < s) gv h c b k T x) (n := 2 ^ h 0 1) (fun s M hs hM go => ?_) (fun M hM => ?_) 0 J (Nat.zero_le _) ⟨j1, fun T hT => ⟨none, j2 T hT, fun s o u q => by omega⟩⟩
    · obtain ⟨m1, m2⟩ := hM
      have HM : MH h M := H.of (fun k a b => m1 49 k (by omega)) (fun r a b k => m1 r k (by omega)) (fun k a => m1 64 k (by omega))
      obtain ⟨gs1, gs2⟩ := hg s hs
      have M71 : M 71 s = oI (gv s) := by rw [m1 71 s (by omega)]; exact gs1
      have skip : gv s = none → ∀ T x, PM (fun s' _ => s' < s) gv h c b k T x → PM (fun s' _ => s' < s + 1) gv h c b k T x := fun e T x hx => PM_no hx (fun s' o q => by omega) (fun s' o u q z _ _ => by
        have : s' = s := by omega
        rw [this, e]; intro hh; cases hh)
      try dsimp only
      rw [e1276_27 hF, HM.O]
      simp (disch := omega) only [pm_k_i, Option.toList_some, Option.toList_none, List.cons_append, List.nil_append, cond_true, cond_false, ↓reduceIte, reduceCtorEq, z_1, nI_add, z_cl, z_ib, z_lt, z_le, z_eq, z_eq0, z_le0, z_lt0, z_b0, z_b1, z_m1, z_and7, Int32.add_zero, z_sh1, hs, M71]
      cases hgs : gv s with
      | none =>
        simp (disch := omega) only [pm_k_i, Option.toList_some, Option.toList_none, List.cons_append, List.nil_append, cond_true, cond_false, ↓reduceIte, reduceCtorEq, z_1, nI_add, z_cl, z_ib, z_lt, z_le, z_eq, z_eq0, z_le0, z_lt0, z_b0, z_b1, z_m1, z_and7, Int32.add_zero, oI, eq_self]
        refine go M ⟨m1, fun T hT => ?_⟩
        obtain ⟨x, x1, x2⟩ := m2 T hT
        exact ⟨x, x1, skip hgs T x x2⟩
      | some u =>
        have ub := gb s u hs hgs
        rw [hgs] at M71
        have M71 : M 71 s = nI u := M71
        simp (disch := omega) only [pm_k_i, Option.toList_some, Option.toList_none, List.cons_append, List.nil_append, cond_true, cond_false, ↓reduceIte, reduceCtorEq, z_1, nI_add, z_cl, z_ib, z_lt, z_le, z_eq, z_eq0, z_le0, z_lt0, z_b0, z_b1, z_m1, z_and7, Int32.add_zero, oI]
        refine wl (Q := fun r => ∃ I', r = some (none, (81, pt_G, I', L)) ∧ (∀ r j, r ≠ 71 → r ≠ 72 → I' r j = I r j) ∧ ∀ s, s < 2 ^ h 0 1 → ∃ x, I' 71 s = oI x ∧ LV h c b 999 (k + 1) s x) (G := fun o N => (F 1276 53 [some (.ref 49), some (.int (nI k)), some (.int (nI b.toNat)), some (.int (nI s)), some (.int (nI o)), none, none] [] (81, pt_G, N, L))) (P := fun o N => (∀ r i, r ≠ 72 → N r i = I r i) ∧ ∀ T, T < 2 ^ h 0 1 → ∃ x, N 72 T = oI x ∧ PM (fun s' o' => s' < s ∨ (s' = s ∧ o' < o)) gv h c b k T x) (n := 2 ^ h 0 1) (fun o N ho hN go2 => ?_) (fun N hN => ?_) 0 M (Nat.zero_le _) ⟨m1, fun T hT => ?_⟩
        · obtain ⟨n1, n2⟩ := hN
          have HN : MH h N := H.of (fun k a b => n1 49 k (by omega)) (fun r a b k => n1 r k (by omega)) (fun k a => n1 64 k (by omega))
          have N71 : N 71 s = nI u := by rw [n1 71 s (by omega), ← m1 71 s (by omega)]; exact M71
          have N67 : N 67 k = nI (c k) := by rw [n1 67 k (by omega)]; exact h67
          have po := pc_le8 (show o < 256 by omega)
          have w1 := wa_le W k o
          have al : o &&& s ≤ s := Nat.and_le_right
          have nopair : (o &&& s ≠ 0 ∨ pc o ≠ c k) → ∀ T, T < 2 ^ h 0 1 → ∃ x, N 72 T = oI x ∧ PM (fun s' o' => s' < s ∨ (s' = s ∧ o' < o + 1)) gv h c b k T x := by
            intro hne T hT
            obtain ⟨x, x1, x2⟩ := n2 T hT
            refine ⟨x, x1, PM_no x2 (fun s' o' q => by omega) (fun s' o' u' q z a d => ?_)⟩
            have e1 : s' = s := by omega
            have e2 : o' = o := by omega
            subst e1
            subst e2
            rcases hne with hne | hne
            · rw [Nat.and_comm] at hne; exact absurd a.1 hne
            · exact absurd d hne
          try dsimp only
          rw [e1276_53 hF, HN.O]
          simp (disch := omega) only [pm_k_i, Option.toList_some, Option.toList_none, List.cons_append, List.nil_append, cond_true, cond_false, ↓reduceIte, reduceCtorEq, z_1, nI_add, z_cl, z_ib, z_lt, z_le, z_eq, z_eq0, z_le0, z_lt0, z_b0, z_b1, z_m1, z_and7, Int32.add_zero, z_sh1, ho, nx_and]
          by_cases q1 : o &&& s = 0
          · rw [if_pos q1]
            simp (disch := omega) only [pm_k_i, Option.toList_some, Option.toList_none, List.cons_append, List.nil_append, cond_true, cond_false, ↓reduceIte, reduceCtorEq, z_1, nI_add, z_cl, z_ib, z_lt, z_le, z_eq, z_eq0, z_le0, z_lt0, z_b0, z_b1, z_m1, z_and7, Int32.add_zero, m_ones hF, e1276_76 hF, N67]
            by_cases q2 : pc o = c k
            · rw [if_pos q2]
              have sT : s ||| o < 2 ^ h 0 1 := Nat.or_lt_two_pow hs ho
              obtain ⟨x, x1, x2⟩ := n2 (s ||| o) sT
              have xb : ∀ q, x = some q → q < 2147483648 := fun q hq => by
                rw [hq] at x2
                obtain ⟨⟨s', o', u', y1, y2, y3, y4, y5⟩, _⟩ := x2
                have := gb s' u' (spl_lt y2 sT).1 y4
                have := wa_le W k o'
                rw [← y5]
                cases b
                · show u' + _ < _; omega
                · show min u' _ < _; omega
              have vb : opv b u (wa h k o) < 2147483648 := by
                cases b
                · show u + _ < _; omega
                · show min u _ < _; omega
              have fin : ∀ T, T < 2 ^ h 0 1 → ∃ y, pm_ui N 72 (s ||| o) (nI (gp1 x (opv b u (wa h k o)))) 72 T = oI y ∧ PM (fun s' o' => s' < s ∨ (s' = s ∧ o' < o + 1)) gv h c b k T y := by
                intro T hT
                by_cases z : T = s ||| o
                · subst z
                  refine ⟨some (gp1 x (opv b u (wa h k o))), z_ue, PM_add x2 (fun s' o' q => by omega) (fun s' o' q z => by omega) (by omega) ⟨by rw [Nat.and_comm]; exact q1, rfl⟩ q2 hgs⟩
                · obtain ⟨y, y1, y2⟩ := n2 T hT
                  refine ⟨y, by rw [z_uk z]; exact y1, PM_no y2 (fun s' o' q => by omega) (fun s' o' u' q z2 a d => ?_)⟩
                  have e1 : s' = s := by omega
                  have e2 : o' = o := by omega
                  subst e1
                  subst e2
                  exact absurd a.2.symm z
              have so : s ||| o < 256 := by omega
              simp (disch := omega) only [pm_k_i, Option.toList_some, Option.toList_none, List.cons_append, List.nil_append, cond_true, cond_false, ↓reduceIte, reduceCtorEq, z_1, nI_add, z_cl, z_ib, z_lt, z_le, z_eq, z_eq0, z_le0, z_lt0, z_b0, z_b1, z_m1, z_and7, Int32.add_zero, m_worthAll hF W HN, e1276_95 hF, N71, nx_or, x1]
              cases b with
              | false =>
                rw [if_pos rfl]
                simp (disch := omega) only [pm_k_i, Option.toList_some, Option.toList_none, List.cons_append, List.nil_append, cond_true, cond_false, ↓reduceIte, reduceCtorEq, z_1, nI_add, z_cl, z_ib, z_lt, z_le, z_eq, z_eq0, z_le0, z_lt0, z_b0, z_b1, z_m1, z_and7, Int32.add_zero, m_greater2 hF xb (show u + wa h k o < 2147483648 from vb), e1276_159 hF]
                exact go2 _ ⟨fun r i a => by rw [z_ur a]; exact n1 r i a, fin⟩
              | true =>
                rw [if_neg (by decide)]
                by_cases q3 : wa h k o < u
                · rw [if_pos q3]
                  have e3 : opv true u (wa h k o) = wa h k o := by show min u _ = _; omega
                  rw [e3] at fin
                  simp (disch := omega) only [pm_k_i, Option.toList_some, Option.toList_none, List.cons_append, List.nil_append, cond_true, cond_false, ↓reduceIte, reduceCtorEq, z_1, nI_add, z_cl, z_ib, z_lt, z_le, z_eq, z_eq0, z_le0, z_lt0, z_b0, z_b1, z_m1, z_and7, Int32.add_zero, m_greater2 hF xb, e1276_159 hF]
                  exact go2 _ ⟨fun r i a => by rw [z_ur a]; exact n1 r i a, fin⟩
                · rw [if_neg q3]
                  have e3 : opv true u (wa h k o) = u := by show min u _ = _; omega
                  rw [e3] at fin
                  simp (disch := omega) only [pm_k_i, Option.toList_some, Option.toList_none, List.cons_append, List.nil_append, cond_true, cond_false, ↓reduceIte, reduceCtorEq, z_1, nI_add, z_cl, z_ib, z_lt, z_le, z_eq, z_eq0, z_le0, z_lt0, z_b0, z_b1, z_m1, z_and7, Int32.add_zero, m_greater2 hF xb, e1276_159 hF]
                  exact go2 _ ⟨fun r i a => by rw [z_ur a]; exact n1 r i a, fin⟩
            · rw [if_neg q2]
              exact go2 N ⟨n1, nopair (Or.inr q2)⟩
          · rw [if_neg q1]
            exact go2 N ⟨n1, nopair (Or.inl q1)⟩
        · obtain ⟨n1, n2⟩ := hN
          have HNO : N 49 31 = nI (h 0 1) := by rw [n1 49 31 (by omega)]; exact H.O
          try dsimp only
          rw [e1276_53 hF, HNO]
          simp (disch := omega) only [pm_k_i, Option.toList_some, Option.toList_none, List.cons_append, List.nil_append, cond_true, cond_false, ↓reduceIte, reduceCtorEq, z_1, nI_add, z_cl, z_ib, z_lt, z_le, z_eq, z_eq0, z_le0, z_lt0, z_b0, z_b1, z_m1, z_and7, Int32.add_zero, z_sh1, Nat.lt_irrefl]
          refine go N ⟨n1, fun T hT => ?_⟩
          obtain ⟨x, x1, x2⟩ := n2 T hT
          refine ⟨x, x1, PM_no x2 (fun s' o' q => by omega) (fun s' o' u' q z a d => ?_)⟩
          have l := (spl_lt a hT).2
          omega
        · obtain ⟨x, x1, x2⟩ := m2 T hT
          exact ⟨x, x1, PM_no x2 (fun s' o' q => by omega) (fun s' o' u' q z => by omega)⟩
    · obtain ⟨m1, m2⟩ := hM
      have HMO : M 49 31 = nI (h 0 1) := by rw [m1 49 31 (by omega)]; exact H.O
      have m3 : ∀ T, T < 2 ^ h 0 1 → ∃ x, M 72 T = oI x ∧ LV h c b 999 (k + 1) T x := fun T hT => by
        obtain ⟨x, x1, x2⟩ := m2 T hT
        exact ⟨x, x1, PM_LV hT (fun s hs => (hg s hs).2) hck (fun s o hs _ => hs) x2⟩
      try dsimp only
      rw [e1276_27 hF, HMO]
      simp (disch := omega) only [pm_k_i, Option.toList_some, Option.toList_none, List.cons_append, List.nil_append, cond_true, cond_false, ↓reduceIte, reduceCtorEq, z_1, nI_add, z_cl, z_ib, z_lt, z_le, z_eq, z_eq0, z_le0, z_lt0, z_b0, z_b1, z_m1, z_and7, Int32.add_zero, z_sh1, Nat.lt_irrefl]
      refine wl (Q := fun r => ∃ I', r = some (none, (81, pt_G, I', L)) ∧ (∀ r j, r ≠ 71 → r ≠ 72 → I' r j = I r j) ∧ ∀ s, s < 2 ^ h 0 1 → ∃ x, I' 71 s = oI x ∧ LV h c b 999 (k + 1) s x) (G := fun s N => (F 1276 174 [some (.ref 49), some (.int (nI k)), some (.int (nI b.toNat)), some (.int (nI s)), none, none, none] [] (81, pt_G, N, L))) (P := fun s N => (∀ r i, r ≠ 71 → N r i = M r i) ∧ ∀ T, T < s → N 71 T = M 72 T) (n := 2 ^ h 0 1) (fun s N hs hN go => ?_) (fun N hN => ?_) 0 M (Nat.zero_le _) ⟨fun _ _ _ => rfl, fun T hT => by omega⟩
      · obtain ⟨n1, n2⟩ := hN
        have HNO : N 49 31 = nI (h 0 1) := by rw [n1 49 31 (by omega)]; exact HMO
        try dsimp only
        rw [e1276_174 hF, HNO]
        simp (disch := omega) only [pm_k_i, Option.toList_some, Option.toList_none, List.cons_append, List.nil_append, cond_true, cond_false, ↓reduceIte, reduceCtorEq, z_1, nI_add, z_cl, z_ib, z_lt, z_le, z_eq, z_eq0, z_le0, z_lt0, z_b0, z_b1, z_m1, z_and7, Int32.add_zero, z_sh1, hs]
        refine go _ ⟨fun r i a => by rw [z_ur a]; exact n1 r i a, fun T hT => ?_⟩
        by_cases q : T = s
        · subst q; rw [z_ue]; exact n1 72 T (by omega)
        · rw [z_uk q]; exact n2 T (by omega)
      · obtain ⟨n1, n2⟩ := hN
        have HNO : N 49 31 = nI (h 0 1) := by rw [n1 49 31 (by omega)]; exact HMO
        try dsimp only
        rw [e1276_174 hF, HNO]
        simp (disch := omega) only [pm_k_i, Option.toList_some, Option.toList_none, List.cons_append, List.nil_append, cond_true, cond_false, ↓reduceIte, reduceCtorEq, z_1, nI_add, z_cl, z_ib, z_lt, z_le, z_eq, z_eq0, z_le0, z_lt0, z_b0, z_b1, z_m1, z_and7, Int32.add_zero, z_sh1, Nat.lt_irrefl]
        refine ⟨N, rfl, fun r i a d => by rw [n1 r i a]; exact m1 r i d, fun s hs => ?_⟩
        rw [n2 s hs]
        exact m3 s hs
end
