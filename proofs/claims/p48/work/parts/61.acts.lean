/-! ===== acts that are kept, of the class ===== -/
section
variable {h : Nat → Nat → Nat} {I I' : Nat → Nat → Int32} {L L' : Nat → Nat → Int64}
/-- a coalition, who holds what, seats -/
abbrev SN : Type := Nat × (Nat → Nat) × (Nat → Nat)
/-- one more is kept: where it comes, what stands ahead of it, all -/
def acm (a : Nat) : Nat := if a < 12 then a else 11
def acs (a : Nat) (sn : Nat → SN) : Nat → SN := if a < 12 then sn else fun i => sn (i + 1)
def psh (a : Nat) (sn : Nat → SN) (x : SN) : Nat → SN := fun i => if i = acm a then x else acs a sn i
/-- seats behind an act -/
def nxS (a : Nat) (sn : Nat → SN) (S : Nat → Nat) (i : Nat) : Nat → Nat := if i + 1 < a then (sn (i + 1)).2.2 else S
def ACr (P : Nat) (x : SN) (T : Nat → Nat) (i : Nat) (I : Nat → Nat → Int32) : Prop := I 45 i = nI x.1 ∧ (x.1 ≠ 0 → I 46 i = nI (hp x.2.1)) ∧ ((I 47 i = -1 ∧ x.2.2 = T) ∨ ∃ q v, q < P ∧ I 47 i = nI q ∧ I 48 i = nI v ∧ x.2.2 = up T q v)
def ACC (P a : Nat) (sn : Nat → SN) (S : Nat → Nat) (I : Nat → Nat → Int32) : Prop := I 44 7 = nI a ∧ a ≤ 12 ∧ ∀ i, i < a → ACr P (sn i) (nxS a sn S i) i I
theorem ACr.of {P : Nat} {x : SN} {T : Nat → Nat} {i j : Nat} (X : ACr P x T i I) (f : ∀ r, 45 ≤ r → r ≤ 48 → I' r j = I r i) : ACr P x T j I' := by
  unfold ACr
  rw [f 45 (by omega) (by omega), f 46 (by omega) (by omega), f 47 (by omega) (by omega), f 48 (by omega) (by omega)]
  exact X
theorem ACC.of {P a : Nat} {sn : Nat → SN} {S : Nat → Nat} (X : ACC P a sn S I) (f7 : I' 44 7 = I 44 7) (f : ∀ r j, 45 ≤ r → r ≤ 48 → I' r j = I r j) : ACC P a sn S I' :=
  ⟨by rw [f7]; exact X.1, X.2.1, fun i hi => (X.2.2 i hi).of (fun r a b => f r i a b)⟩
theorem up_up (f : Nat → Nat) (q v : Nat) : f = up (up f q v) q (f q) := by
  funext x
  unfold up
  by_cases e : x = q
  · rw [if_pos e, e]
  · rw [if_neg e, if_neg e]
theorem acm_lt (a : Nat) : acm a < 12 := by unfold acm; split <;> omega
variable {F : pm_F} {L0 : Nat} {xs : Nat → Int32}
theorem c_dropOldest (hF : pm_fix pt_me pt_Sg (pt_R L0 xs) F) : ∃ I', (F 215 0 [some (.ref 44), none] [] (49, pt_G, I, L)) = some (none, (49, pt_G, I', L)) ∧ (∀ r j, r < 45 ∨ 48 < r → (r = 44 → j ≠ 7) → I' r j = I r j) ∧ I' 44 7 = 11 ∧ ∀ r i, 45 ≤ r → r ≤ 48 → i < 11 → I' r i = I r (i + 1) := by
  rw [e215_0 hF]
  refine wl (Q := fun x => ∃ I', x = some (none, (49, pt_G, I', L)) ∧ (∀ r j, r < 45 ∨ 48 < r → (r = 44 → j ≠ 7) → I' r j = I r j) ∧ I' 44 7 = 11 ∧ ∀ r i, 45 ≤ r → r ≤ 48 → i < 11 → I' r i = I r (i + 1)) (G := fun k J => (F 215 2 [some (.ref 44), some (.int (nI (k + 1)))] [] (49, pt_G, J, L))) (P := fun k J => (∀ r j, r < 45 ∨ 48 < r → J r j = I r j) ∧ (∀ r i, 45 ≤ r → r ≤ 48 → i < k → J r i = I r (i + 1)) ∧ ∀ r i, 45 ≤ r → r ≤ 48 → k ≤ i → J r i = I r i) (n := 11) (fun k J hk hJ go => ?_) (fun J hJ => ?_) 0 I (Nat.zero_le _) ⟨fun _ _ _ => rfl, fun r i _ _ q => by omega, fun _ _ _ _ _ => rfl⟩
  · obtain ⟨j1, j2, j3⟩ := hJ
    have e0 : nI (k + 1) - 1 = nI k := z_p1 k
    try dsimp only
    rw [e215_2 hF, e0, show (12 : Int32) = nI 12 from rfl]
    simp (disch := omega) only [pm_k_i, Option.toList_some, Option.toList_none, List.cons_append, List.nil_append, cond_true, cond_false, ↓reduceIte, reduceCtorEq, z_1, nI_add, z_cl, z_ib, z_lt, z_le, z_eq, z_eq0, z_le0, z_lt0, z_b0, z_b1, z_m1, z_and7, Int32.add_zero, show (k + 1 < 12) = True from propext ⟨fun _ => trivial, fun _ => by omega⟩]
    refine go _ ⟨fun r j a => ?_, fun r i a b hi => ?_, fun r i a b hi => ?_⟩
    · rw [z_ur (by omega), z_ur (by omega), z_ur (by omega), z_ur (by omega)]; exact j1 r j a
    · have hr : r = 45 ∨ r = 46 ∨ r = 47 ∨ r = 48 := by omega
      by_cases q : i = k
      · rw [q]
        have := j3 r (k + 1) a b (by omega)
        rcases hr with y | y | y | y <;> (rw [y] at this ⊢; simp (disch := omega) only [z_ur, z_ue]; exact this)
      · have := j2 r i a b (by omega)
        rcases hr with y | y | y | y <;> (rw [y] at this ⊢; simp (disch := omega) only [z_ur, z_uk]; exact this)
    · have hr : r = 45 ∨ r = 46 ∨ r = 47 ∨ r = 48 := by omega
      have := j3 r i a b (by omega)
      rcases hr with y | y | y | y <;> (rw [y] at this ⊢; simp (disch := omega) only [z_ur, z_uk]; exact this)
  · obtain ⟨j1, j2, j3⟩ := hJ
    try dsimp only
    rw [e215_2 hF, if_neg (by decide)]
    refine ⟨_, rfl, fun r j a b => ?_, by rw [z_ue], fun r i a b c => by rw [z_ur (by omega)]; exact j2 r i a b c⟩
    by_cases y : r = 44
    · rw [y, z_uk (b y)]; exact j1 44 j (by omega)
    · rw [z_ur y]; exact j1 r j a
theorem c_remember (hF : pm_fix pt_me pt_Sg (pt_R L0 xs) F) (W : WF h) (H : CH h I) {C a : Nat} {w : Nat → Nat} {sn : Nat → SN} (h45 : I 44 5 = nI C) (h46 : C ≠ 0 → I 44 6 = nI (hp w)) (A : ACC (h 0 0) a sn (h 1) I) {x : Int32} {T : Nat → Nat} (hx : (x = -1 ∧ T = h 1) ∨ ∃ q v, q < h 0 0 ∧ x = nI q ∧ T = up (h 1) q v) : ∃ I', (F 214 0 [some (.ref 44), some (.int x), none] [] (49, pt_G, I, L)) = some (none, (49, pt_G, I', L)) ∧ (∀ r j, r < 45 ∨ 48 < r → (r = 44 → j ≠ 7) → I' r j = I r j) ∧ ACC (h 0 0) (acm a + 1) (psh a sn (C, w, h 1)) T I' := by
  have hP := W.P
  obtain ⟨a1, a2, a3⟩ := A
  -- first: there is room
  have key : ∀ J, (∀ r j, r < 45 ∨ 48 < r → (r = 44 → j ≠ 7) → J r j = I r j) → ACC (h 0 0) (acm a) (acs a sn) (h 1) J → ∃ I', (F 214 13 [some (.ref 44), some (.int x), none] [] (49, pt_G, J, L)) = some (none, (49, pt_G, I', L)) ∧ (∀ r j, r < 45 ∨ 48 < r → (r = 44 → j ≠ 7) → I' r j = I r j) ∧ ACC (h 0 0) (acm a + 1) (psh a sn (C, w, h 1)) T I' := by
    intro J f B
    obtain ⟨b1, b2, b3⟩ := B
    have m := acm_lt a
    have HJ : CH h J := H.of (fun k _ => f 3 k (by omega) (by omega)) (fun r a b k => f r k (by omega) (by omega))
    -- behind it all rows stand
    have fin : ∀ u : Int32, (x = -1 ∨ ∃ q, q < h 0 0 ∧ x = nI q ∧ u = nI (h 1 q)) → ∃ I', (some (none, (49, pt_G, pm_ui (pm_ui (pm_ui (pm_ui (pm_ui J 45 (acm a) (J 44 5)) 46 (acm a) (J 44 6)) 47 (acm a) x) 48 (acm a) u) 44 7 (nI (acm a + 1)), L)) : pm_R) = some (none, (49, pt_G, I', L)) ∧ (∀ r j, r < 45 ∨ 48 < r → (r = 44 → j ≠ 7) → I' r j = I r j) ∧ ACC (h 0 0) (acm a + 1) (psh a sn (C, w, h 1)) T I' := by
      intro u hu
      have f5 := f 44 5 (by omega) (by omega)
      have f6 := f 44 6 (by omega) (by omega)
      refine ⟨_, rfl, fun r j p q => ?_, by rw [z_ue], by omega, fun i hi => ?_⟩
      · by_cases y : r = 44
        · rw [y, z_uk (q y), z_ur (by omega), z_ur (by omega), z_ur (by omega), z_ur (by omega)]; exact f 44 j (by omega) (fun _ => q y)
        · rw [z_ur y, z_ur (by omega), z_ur (by omega), z_ur (by omega), z_ur (by omega)]; exact f r j p q
      · by_cases e : i = acm a
        · subst e
          have e1 : psh a sn (C, w, h 1) (acm a) = (C, w, h 1) := if_pos rfl
          have e2 : nxS (acm a + 1) (psh a sn (C, w, h 1)) T (acm a) = T := if_neg (by omega)
          rw [e1, e2]
          unfold ACr
          simp (disch := omega) only [z_ur, z_ue]
          refine ⟨by rw [f5]; exact h45, fun z => by rw [f6]; exact h46 z, ?_⟩
          rcases hx with ⟨x1, x2⟩ | ⟨q, v, x1, x2, x3⟩
          · exact Or.inl ⟨x1, x2.symm⟩
          · refine Or.inr ⟨q, h 1 q, x1, x2, ?_, by rw [x3]; exact up_up _ _ _⟩
            rcases hu with u1 | ⟨q', u1, u2, u3⟩
            · rw [x2, z_m1 (by omega)] at u1
              exact False.elim u1
            · rw [x2, z_eq (by omega) (by omega)] at u2
              rw [u3, u2]
        · have e1 : psh a sn (C, w, h 1) i = acs a sn i := if_neg e
          have e2 : nxS (acm a + 1) (psh a sn (C, w, h 1)) T i = nxS (acm a) (acs a sn) (h 1) i := by
            unfold nxS
            rw [if_pos (by omega)]
            by_cases d : i + 1 = acm a
            · rw [d, if_neg (Nat.lt_irrefl _), show psh a sn (C, w, h 1) (acm a) = (C, w, h 1) from if_pos rfl]
            · rw [if_pos (by omega), show psh a sn (C, w, h 1) (i + 1) = acs a sn (i + 1) from if_neg d]
          rw [e1, e2]
          refine (b3 i (by omega)).of (fun r p q => ?_)
          rw [z_ur (by omega), z_uk e, z_uk e, z_uk e, z_uk e]
    rw [e214_13 hF, b1, show (12 : Int32) = nI 12 from rfl]
    rcases hx with ⟨x1, x2⟩ | ⟨q, v, x1, x2, x3⟩
    · simp (disch := omega) only [pm_k_i, Option.toList_some, Option.toList_none, List.cons_append, List.nil_append, cond_true, cond_false, ↓reduceIte, reduceCtorEq, z_1, nI_add, z_cl, z_ib, z_lt, z_le, z_eq, z_eq0, z_le0, z_lt0, z_b0, z_b1, z_m1, z_and7, Int32.add_zero, m, x1, e214_78 hF, z_ur, b1]
      rw [x1] at fin
      exact fin 0 (Or.inl rfl)
    · have HJ2 : CH h (pm_ui (pm_ui (pm_ui J 45 (acm a) (J 44 5)) 46 (acm a) (J 44 6)) 47 (acm a) (nI q)) := HJ.of (fun k _ => by rw [z_ur (by omega), z_ur (by omega), z_ur (by omega)]) (fun r a b k => by rw [z_ur (by omega), z_ur (by omega), z_ur (by omega)])
      simp (disch := omega) only [pm_k_i, Option.toList_some, Option.toList_none, List.cons_append, List.nil_append, cond_true, cond_false, ↓reduceIte, reduceCtorEq, z_1, nI_add, z_cl, z_ib, z_lt, z_le, z_eq, z_eq0, z_le0, z_lt0, z_b0, z_b1, z_m1, z_and7, Int32.add_zero, m, x2, c_seatsOf hF W HJ2, e214_78 hF, z_ur, b1]
      rw [x2] at fin
      exact fin (nI (h 1 q)) (Or.inr ⟨q, x1, rfl, rfl⟩)
  rw [e214_0 hF, a1, show (12 : Int32) = nI 12 from rfl]
  by_cases d : a < 12
  · simp (disch := omega) only [pm_k_i, Option.toList_some, Option.toList_none, List.cons_append, List.nil_append, cond_true, cond_false, ↓reduceIte, reduceCtorEq, z_1, nI_add, z_cl, z_ib, z_lt, z_le, z_eq, z_eq0, z_le0, z_lt0, z_b0, z_b1, z_m1, z_and7, Int32.add_zero, d]
    refine key I (fun _ _ _ _ => rfl) ?_
    unfold acm acs
    rw [if_pos d, if_pos d]
    exact ⟨a1, a2, a3⟩
  · simp (disch := omega) only [pm_k_i, Option.toList_some, Option.toList_none, List.cons_append, List.nil_append, cond_true, cond_false, ↓reduceIte, reduceCtorEq, z_1, nI_add, z_cl, z_ib, z_lt, z_le, z_eq, z_eq0, z_le0, z_lt0, z_b0, z_b1, z_m1, z_and7, Int32.add_zero, d]
    obtain ⟨J, d1, d2, d3, d4⟩ := c_dropOldest (I := I) (L := L) hF
    rw [d1]
    simp (disch := omega) only [pm_k_i, Option.toList_some, Option.toList_none, List.cons_append, List.nil_append, cond_true, cond_false, ↓reduceIte, reduceCtorEq, z_1, nI_add, z_cl, z_ib, z_lt, z_le, z_eq, z_eq0, z_le0, z_lt0, z_b0, z_b1, z_m1, z_and7, Int32.add_zero]
    refine key J d2 ?_
    unfold acm acs
    rw [if_neg d, if_neg d]
    have a12 : a = 12 := by omega
    refine ⟨d3, by omega, fun i hi => ?_⟩
    have e2 : nxS 11 (fun i => sn (i + 1)) (h 1) i = nxS a sn (h 1) (i + 1) := by
      unfold nxS
      by_cases g : i + 1 < 11
      · rw [if_pos g, if_pos (by omega)]
      · rw [if_neg g, if_neg (by omega)]
    rw [e2]
    exact (a3 (i + 1) (by omega)).of (fun r p q => d4 r i p q hi)
/-- the house with other seats -/
def sS (h : Nat → Nat → Nat) (S : Nat → Nat) : Nat → Nat → Nat := fun a b => match a with
  | 0 => h 0 b
  | 1 => S b
  | a + 2 => h (a + 2) b
theorem sS_same : sS h (h 1) = h := by
  funext a b
  match a with
  | 0 => rfl
  | 1 => rfl
  | a + 2 => rfl
theorem c_takeBack (hF : pm_fix pt_me pt_Sg (pt_R L0 xs) F) (W : WF h) {a : Nat} {sn : Nat → SN} (A : ACC (h 0 0) (a + 1) sn (h 1) I) : ∃ I', (F 216 0 [some (.ref 44), none] [] (49, pt_G, I, L)) = some (some (.int (nI a)), (49, pt_G, I', L)) ∧ I' 44 5 = nI (sn a).1 ∧ ((sn a).1 ≠ 0 → I' 44 6 = nI (hp (sn a).2.1)) ∧ ACC (h 0 0) a sn (sn a).2.2 I' ∧ ((sn a).2.2 = h 1 ∧ (∀ r j, (r = 44 → j < 5) → I' r j = I r j) ∨ ∃ q v, q < h 0 0 ∧ (sn a).2.2 = up (h 1) q v ∧ I' 4 q = nI v ∧ I' 3 9 = I 3 9 + 1 ∧ (∀ r j, (r = 44 → j < 5) → (r = 4 → j ≠ q) → (r = 3 → j ≠ 9) → I' r j = I r j)) := by
  have hP := W.P
  obtain ⟨a1, a2, a3⟩ := A
  obtain ⟨r1, r2, r3⟩ := a3 a (by omega)
  have e0 : nxS (a + 1) sn (h 1) a = h 1 := if_neg (by omega)
  rw [e0] at r3
  have p1 : nI (a + 1) - 1 = nI a := z_p1 a
  have rows : ∀ J : Nat → Nat → Int32, J 44 7 = nI a → (∀ r j, 45 ≤ r → r ≤ 48 → J r j = I r j) → ACC (h 0 0) a sn (sn a).2.2 J := by
    intro J j7 f
    refine ⟨j7, by omega, fun i hi => ?_⟩
    have e2 : nxS a sn (sn a).2.2 i = nxS (a + 1) sn (h 1) i := by
      unfold nxS
      rw [if_pos (show i + 1 < a + 1 by omega)]
      by_cases g : i + 1 < a
      · rw [if_pos g]
      · rw [if_neg g, show i + 1 = a by omega]
    rw [e2]
    exact (a3 i (by omega)).of (fun r p q => f r i p q)
  rw [e216_0 hF, a1, p1, show (12 : Int32) = nI 12 from rfl]
  rcases r3 with ⟨q1, q2⟩ | ⟨q, v, q1, q2, q3, q4⟩
  · simp (disch := omega) only [pm_k_i, Option.toList_some, Option.toList_none, List.cons_append, List.nil_append, cond_true, cond_false, ↓reduceIte, reduceCtorEq, z_1, nI_add, z_cl, z_ib, z_lt, z_le, z_eq, z_eq0, z_le0, z_lt0, z_b0, z_b1, z_m1, z_and7, Int32.add_zero, show (a < 12) = True from propext ⟨fun _ => trivial, fun _ => by omega⟩, z_ur, q1, e216_73 hF, z_uk, z_ue]
    refine ⟨_, rfl, ?_, fun z => ?_, rows _ ?_ (fun r j x y => ?_), Or.inl ⟨q2, fun r j x => ?_⟩⟩
    · simp (disch := omega) only [z_uk, z_ue]; exact r1
    · simp (disch := omega) only [z_ue]; exact r2 z
    · simp (disch := omega) only [z_uk, z_ue]
    · simp (disch := omega) only [z_ur]
    · by_cases y : r = 44
      · have := x y
        subst y
        simp (disch := omega) only [z_uk]
      · simp (disch := omega) only [z_ur]
  · simp (disch := omega) only [pm_k_i, Option.toList_some, Option.toList_none, List.cons_append, List.nil_append, cond_true, cond_false, ↓reduceIte, reduceCtorEq, z_1, nI_add, z_cl, z_ib, z_lt, z_le, z_eq, z_eq0, z_le0, z_lt0, z_b0, z_b1, z_m1, z_and7, Int32.add_zero, show (a < 12) = True from propext ⟨fun _ => trivial, fun _ => by omega⟩, z_ur, q2, q3, e514_0 hF, e216_73 hF, z_uk, z_ue]
    refine ⟨_, rfl, ?_, fun z => ?_, rows _ ?_ (fun r j x y => ?_), Or.inr ⟨q, v, q1, q4, ?_, ?_, fun r j x y z => ?_⟩⟩
    · simp (disch := omega) only [z_ur, z_uk, z_ue]; exact r1
    · simp (disch := omega) only [z_ur, z_ue]; exact r2 z
    · simp (disch := omega) only [z_ur, z_uk, z_ue]
    · simp (disch := omega) only [z_ur]
    · simp (disch := omega) only [z_ur, z_ue]
    · simp (disch := omega) only [z_ur, z_ue]
    · by_cases y1 : r = 44
      · have := x y1
        subst y1
        simp (disch := omega) only [z_uk, z_ur]
      · by_cases y2 : r = 4
        · have := y y2
          subst y2
          simp (disch := omega) only [z_uk, z_ur]
        · by_cases y3 : r = 3
          · have := z y3
            subst y3
            simp (disch := omega) only [z_uk, z_ur]
          · simp (disch := omega) only [z_ur]
end
