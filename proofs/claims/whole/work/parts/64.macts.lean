/-! ===== the model: acts that are kept ===== -/
section
variable {h : Nat → Nat → Nat} {I I' : Nat → Nat → Int32} {L L' : Nat → Nat → Int64}
def ACM (h : Nat → Nat → Nat) (a : Nat) (sn : Nat → SN) (I : Nat → Nat → Int32) : Prop := I 49 45 = nI a ∧ a ≤ 12 ∧ ∀ i, i < a → SR h (sn i) (fun k => I 65 (16 * i + k))
theorem SR.of {x : SN} {f g : Nat → Int32} (W : WF h) (X : SR h x f) (e : ∀ k, k < 16 → g k = f k) : SR h x g := by
  have hP := W.P
  have hO := W.O
  exact ⟨by rw [e 0 (by omega)]; exact X.1, fun o ho => by rw [e _ (by omega)]; exact X.2.1 o ho, fun p p0 => by rw [e _ (by omega)]; exact X.2.2 p p0⟩
theorem z_16m (a : Nat) : (16 : Int32) * nI a = nI (16 * a) := pk_mul 16 a
theorem ACM.of {a : Nat} {sn : Nat → SN} (X : ACM h a sn I) (f45 : I' 49 45 = I 49 45) (f : ∀ j, I' 65 j = I 65 j) : ACM h a sn I' := by
  unfold ACM
  rw [f45]
  refine ⟨X.1, X.2.1, fun i hi => ?_⟩
  have e : (fun k => I' 65 (16 * i + k)) = fun k => I 65 (16 * i + k) := funext (fun k => f _)
  rw [e]
  exact X.2.2 i hi
variable {F : pm_F} {L0 : Nat} {xs : Nat → Int32}
theorem m_act (hF : pm_fix pt_me pt_Sg (pt_R L0 xs) F) (W : WF h) {a : Nat} {sn : Nat → SN} {x : SN} (A : ACM h a sn I) (X : SR h x (fun k => I 64 k)) : ∃ I', (F 1240 0 [some (.ref 49), none] [] (81, pt_G, I, L)) = some (none, (81, pt_G, I', L)) ∧ (∀ r j, r ≠ 65 → (r = 49 → j ≠ 45) → I' r j = I r j) ∧ ACM h (acm a + 1) (psh a sn x) I' := by
  obtain ⟨a1, a2, a3⟩ := A
  have m := acm_lt a
  have key : ∀ J, (∀ r j, r ≠ 65 → (r = 49 → j ≠ 45) → J r j = I r j) → ACM h (acm a) (acs a sn) J → ∃ I', (F 1240 52 [some (.ref 49), some (.int 0)] [] (81, pt_G, J, L)) = some (none, (81, pt_G, I', L)) ∧ (∀ r j, r ≠ 65 → (r = 49 → j ≠ 45) → I' r j = I r j) ∧ ACM h (acm a + 1) (psh a sn x) I' := by
    intro J f B
    obtain ⟨b1, b2, b3⟩ := B
    refine wl (Q := fun y => ∃ I', y = some (none, (81, pt_G, I', L)) ∧ (∀ r j, r ≠ 65 → (r = 49 → j ≠ 45) → I' r j = I r j) ∧ ACM h (acm a + 1) (psh a sn x) I') (G := fun k N => (F 1240 52 [some (.ref 49), some (.int (nI k))] [] (81, pt_G, N, L))) (P := fun k N => (∀ r j, r ≠ 65 → N r j = J r j) ∧ (∀ i, i < k → N 65 (16 * acm a + i) = J 64 i) ∧ ∀ j, j < 16 * acm a → N 65 j = J 65 j) (n := 16) (fun k N hk hN go => ?_) (fun N hN => ?_) 0 J (Nat.zero_le _) ⟨fun _ _ _ => rfl, fun i hi => by omega, fun _ _ => rfl⟩
    · obtain ⟨n1, n2, n3⟩ := hN
      have n45 : N 49 45 = nI (acm a) := by rw [n1 49 45 (by omega)]; exact b1
      try dsimp only
      rw [e1240_52 hF, n45, z_16m, show (16 : Int32) = nI 16 from rfl]
      simp (disch := omega) only [pm_k_i, Option.toList_some, Option.toList_none, List.cons_append, List.nil_append, cond_true, cond_false, ↓reduceIte, reduceCtorEq, z_1, nI_add, z_cl, z_ib, z_lt, z_le, z_eq, z_eq0, z_le0, z_lt0, z_b0, z_b1, z_m1, z_and7, Int32.add_zero, hk]
      refine go _ ⟨fun r j y => by rw [z_ur y]; exact n1 r j y, fun i hi => ?_, fun j hj => by rw [z_uk (by omega)]; exact n3 j hj⟩
      by_cases q : i = k
      · rw [q, z_ue]; exact n1 64 k (by omega)
      · rw [z_uk (by omega)]; exact n2 i (by omega)
    · obtain ⟨n1, n2, n3⟩ := hN
      have n45 : N 49 45 = nI (acm a) := by rw [n1 49 45 (by omega)]; exact b1
      try dsimp only
      rw [e1240_52 hF, if_neg (by decide), n45, z_1]
      refine ⟨_, rfl, fun r j y z => ?_, by rw [z_ue], by omega, fun i hi => ?_⟩
      · by_cases u : r = 49
        · rw [u, z_uk (z u), n1 49 j (by omega)]; exact f 49 j (by omega) (fun _ => z u)
        · rw [z_ur u, n1 r j y]; exact f r j y z
      · by_cases q : i = acm a
        · have e1 : psh a sn x i = x := if_pos q
          rw [e1, q]
          refine X.of W (fun k hk => ?_)
          show pm_ui N 49 45 _ 65 _ = I 64 k
          rw [z_ur (by omega), n2 k hk]
          exact f 64 k (by omega) (by omega)
        · have e1 : psh a sn x i = acs a sn i := if_neg q
          rw [e1]
          refine (b3 i (by omega)).of W (fun k hk => ?_)
          show pm_ui N 49 45 _ 65 _ = J 65 _
          rw [z_ur (by omega)]
          exact n3 _ (by omega)
  rw [e1240_0 hF, a1, show (12 : Int32) = nI 12 from rfl]
  by_cases d : a = 12
  · simp (disch := omega) only [pm_k_i, Option.toList_some, Option.toList_none, List.cons_append, List.nil_append, cond_true, cond_false, ↓reduceIte, reduceCtorEq, z_1, nI_add, z_cl, z_ib, z_lt, z_le, z_eq, z_eq0, z_le0, z_lt0, z_b0, z_b1, z_m1, z_and7, Int32.add_zero]
    rw [if_pos d]
    refine wl (Q := fun y => ∃ I', y = some (none, (81, pt_G, I', L)) ∧ (∀ r j, r ≠ 65 → (r = 49 → j ≠ 45) → I' r j = I r j) ∧ ACM h (acm a + 1) (psh a sn x) I') (G := fun k N => (F 1240 12 [some (.ref 49), some (.int (nI (16 + k)))] [] (81, pt_G, N, L))) (P := fun k N => (∀ r j, r ≠ 65 → N r j = I r j) ∧ (∀ j, j < k → N 65 j = I 65 (16 + j)) ∧ ∀ j, k ≤ j → N 65 j = I 65 j) (n := 176) (fun k N hk hN go => ?_) (fun N hN => ?_) 0 I (Nat.zero_le _) ⟨fun _ _ _ => rfl, fun i hi => by omega, fun _ _ => rfl⟩
    · obtain ⟨n1, n2, n3⟩ := hN
      have e0 : nI (16 + k) - 16 = nI k := by rw [show (16 : Int32) = nI 16 from rfl, pk_sub (by omega), Nat.add_sub_cancel_left]
      try dsimp only
      rw [e1240_12 hF, e0, show (192 : Int32) = nI 192 from rfl]
      simp (disch := omega) only [pm_k_i, Option.toList_some, Option.toList_none, List.cons_append, List.nil_append, cond_true, cond_false, ↓reduceIte, reduceCtorEq, z_1, nI_add, z_cl, z_ib, z_lt, z_le, z_eq, z_eq0, z_le0, z_lt0, z_b0, z_b1, z_m1, z_and7, Int32.add_zero, show (16 + k < 192) = True from propext ⟨fun _ => trivial, fun _ => by omega⟩]
      refine go _ ⟨fun r j y => by rw [z_ur y]; exact n1 r j y, fun j hj => ?_, fun j hj => by rw [z_uk (by omega)]; exact n3 j (by omega)⟩
      by_cases q : j = k
      · rw [q, z_ue]; exact n3 _ (by omega)
      · rw [z_uk q]; exact n2 j (by omega)
    · obtain ⟨n1, n2, n3⟩ := hN
      have n45 : N 49 45 = nI 12 := by rw [n1 49 45 (by omega), a1, d]
      try dsimp only
      rw [e1240_12 hF, if_neg (by decide), n45, show nI 12 - 1 = nI 11 from by decide]
      refine key _ (fun r j y z => ?_) ?_
      · by_cases u : r = 49
        · rw [u, z_uk (z u)]; exact n1 49 j (by omega)
        · rw [z_ur u]; exact n1 r j y
      · unfold acm acs
        rw [if_neg (by omega), if_neg (by omega)]
        refine ⟨by rw [z_ue], by omega, fun i hi => ?_⟩
        refine (a3 (i + 1) (by omega)).of W (fun k hk => ?_)
        show pm_ui N 49 45 _ 65 _ = I 65 _
        rw [z_ur (by omega), n2 _ (by omega)]
        congr 1
        omega
  · simp (disch := omega) only [pm_k_i, Option.toList_some, Option.toList_none, List.cons_append, List.nil_append, cond_true, cond_false, ↓reduceIte, reduceCtorEq, z_1, nI_add, z_cl, z_ib, z_lt, z_le, z_eq, z_eq0, z_le0, z_lt0, z_b0, z_b1, z_m1, z_and7, Int32.add_zero, d]
    refine key I (fun _ _ _ _ => rfl) ?_
    unfold acm acs
    rw [if_pos (by omega), if_pos (by omega)]
    exact ⟨a1, a2, a3⟩
theorem m_takeBack (hF : pm_fix pt_me pt_Sg (pt_R L0 xs) F) (W : WF h) {a : Nat} {sn : Nat → SN} (A : ACM h (a + 1) sn I) : ∃ I', (F 1241 0 [some (.ref 49), none] [] (81, pt_G, I, L)) = some (some (.int (nI a)), (81, pt_G, I', L)) ∧ (∀ r j, r ≠ 64 → (r = 49 → j ≠ 45 ∧ j ≠ 57) → I' r j = I r j) ∧ SR h (sn a) (fun k => I' 64 k) ∧ ACM h a sn I' ∧ I' 49 57 = 0 := by
  obtain ⟨a1, a2, a3⟩ := A
  have p1 : nI (a + 1) - 1 = nI a := z_p1 a
  rw [e1241_0 hF, a1, p1]
  simp (disch := omega) only [pm_k_i, Option.toList_some, Option.toList_none, List.cons_append, List.nil_append, cond_true, cond_false, ↓reduceIte, reduceCtorEq, z_1, nI_add, z_cl, z_ib, z_lt, z_le, z_eq, z_eq0, z_le0, z_lt0, z_b0, z_b1, z_m1, z_and7, Int32.add_zero, show (a + 1 = 0) = False from propext ⟨fun q => by omega, False.elim⟩]
  refine wl (Q := fun y => ∃ I', y = some (some (.int (nI a)), (81, pt_G, I', L)) ∧ (∀ r j, r ≠ 64 → (r = 49 → j ≠ 45 ∧ j ≠ 57) → I' r j = I r j) ∧ SR h (sn a) (fun k => I' 64 k) ∧ ACM h a sn I' ∧ I' 49 57 = 0) (G := fun k N => (F 1241 21 [some (.ref 49), some (.int (nI k))] [] (81, pt_G, N, L))) (P := fun k N => (∀ r j, r ≠ 64 → N r j = pm_ui I 49 45 (nI a) r j) ∧ ∀ i, i < k → N 64 i = I 65 (16 * a + i)) (n := 16) (fun k N hk hN go => ?_) (fun N hN => ?_) 0 _ (Nat.zero_le _) ⟨fun _ _ _ => rfl, fun i hi => by omega⟩
  · obtain ⟨n1, n2⟩ := hN
    have n45 : N 49 45 = nI a := by rw [n1 49 45 (by omega), z_ue]
    try dsimp only
    rw [e1241_21 hF, n45, z_16m, show (16 : Int32) = nI 16 from rfl]
    simp (disch := omega) only [pm_k_i, Option.toList_some, Option.toList_none, List.cons_append, List.nil_append, cond_true, cond_false, ↓reduceIte, reduceCtorEq, z_1, nI_add, z_cl, z_ib, z_lt, z_le, z_eq, z_eq0, z_le0, z_lt0, z_b0, z_b1, z_m1, z_and7, Int32.add_zero, hk]
    refine go _ ⟨fun r j y => by rw [z_ur y]; exact n1 r j y, fun i hi => ?_⟩
    by_cases q : i = k
    · rw [q, z_ue, n1 65 _ (by omega), z_ur (by omega)]
    · rw [z_uk q]; exact n2 i (by omega)
  · obtain ⟨n1, n2⟩ := hN
    have n45 : N 49 45 = nI a := by rw [n1 49 45 (by omega), z_ue]
    try dsimp only
    rw [e1241_21 hF, if_neg (by decide), n45]
    refine ⟨_, rfl, fun r j y z => ?_, ?_, ⟨?_, by omega, fun i hi => ?_⟩, by rw [z_ue]⟩
    · by_cases u : r = 49
      · have := z u
        rw [u, z_uk this.2, n1 49 j (by omega), z_uk this.1]
      · rw [z_ur u, n1 r j y, z_ur u]
    · refine (a3 a (by omega)).of W (fun k hk => ?_)
      show pm_ui N 49 57 _ 64 k = I 65 _
      rw [z_ur (by omega)]
      exact n2 k hk
    · rw [z_uk (by omega)]; exact n45
    · refine (a3 i (by omega)).of W (fun k hk => ?_)
      show pm_ui N 49 57 _ 65 _ = I 65 _
      rw [z_ur (by omega), n1 65 _ (by omega), z_ur (by omega)]
end
