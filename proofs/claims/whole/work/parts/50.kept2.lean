/-! ===== kept: the class and the model ===== -/
section
variable {h : Nat → Nat → Nat} {I I' : Nat → Nat → Int32} {L L' : Nat → Nat → Int64} {e v : Nat}
variable {F : pm_F} {L0 : Nat} {xs : Nat → Int32}
theorem nI_rmz2 : ∀ C, C < 256 → 0 < C → nI C &&& (nI C - 1) = nI (rm C (tz C)) := by decide +kernel
theorem rm_subset : ∀ C, C < 256 → ∀ k, k < 8 → rm C k &&& C = rm C k := by decide +kernel
theorem sub_ex : ∀ (m T n : Nat), T < 256 → pc T = n + m → ∃ o, o &&& T = o ∧ pc o = n := by
  intro m
  induction m with
  | zero => intro T n hT hp; exact ⟨T, Nat.and_self T, hp⟩
  | succ m ih =>
    intro T n hT hp
    have h0 : 0 < T := by
      rcases Nat.eq_zero_or_pos T with q | q
      · rw [q, show pc 0 = 0 from by decide +kernel] at hp; omega
      · exact q
    obtain ⟨t1, t2⟩ := tz_lt T hT h0
    have r1 := rm_lt T hT (tz T) t1
    have r2 := pc_rm T hT (tz T) t1 t2
    have r3 := rm_subset T hT (tz T) t1
    obtain ⟨o, o1, o2⟩ := ih (rm T (tz T)) n r1.1 (by omega)
    refine ⟨o, ?_, o2⟩
    rw [← o1, Nat.and_assoc, r3]
theorem tz_lt3 (W : WF h) {l : Nat} (h0 : 0 < l) (hl : l < 2 ^ h 0 1) : tz l < h 0 1 ∧ l.testBit (tz l) = true := by
  have h2 := o256 W
  have hO := W.O
  obtain ⟨a, b⟩ := tz_lt l (by omega) h0
  refine ⟨?_, b⟩
  by_cases c : tz l < h 0 1
  · exact c
  · rw [z_tbig (n := h 0 1) hl (by omega)] at b
    cases b
theorem c_sumWorths (hF : pm_fix pt_me pt_Sg (pt_R L0 xs) F) (W : WF h) (H : CH h I) {p : Nat} (hp : p < h 0 0) : ∃ I', (F 803 0 [some (.ref 27), some (.int (nI p)), some (.int (nI (2 ^ h 0 1 - 1))), none, none] [] (81, pt_G, I, L)) = some (none, (81, pt_G, I', L)) ∧ (∀ r k, r ≠ 29 → I' r k = I r k) ∧ ∀ A, A < 2 ^ h 0 1 → I' 29 A = nI (wa h p A) := by
  have hP := W.P
  have hO := W.O
  have h2 := o256 W
  rw [e803_0 hF, show pm_ib 0 256 = true from z_ib (k := 0) (by omega) (by omega), cond_true, show Int32.toNatClampNeg 0 = 0 from rfl]
  refine wl (Q := fun r => ∃ I', r = some (none, (81, pt_G, I', L)) ∧ (∀ r k, r ≠ 29 → I' r k = I r k) ∧ ∀ A, A < 2 ^ h 0 1 → I' 29 A = nI (wa h p A)) (G := fun k J => (F 803 9 [some (.ref 27), some (.int (nI p)), some (.int (nI (2 ^ h 0 1 - 1))), some (.int (nI (k + 1))), none] [] (81, pt_G, J, L))) (P := fun k J => (∀ r k, r ≠ 29 → J r k = I r k) ∧ ∀ A, A ≤ k → J 29 A = nI (wa h p A)) (n := 2 ^ h 0 1 - 1) (fun k J hk hJ go => ?_) (fun J hJ => ?_) 0 (pm_ui I 29 0 0) (Nat.zero_le _) ⟨fun r k a => z_ur a, fun A hA => ?_⟩
  · obtain ⟨j1, j2⟩ := hJ
    have HJ : CH h J := H.of (fun k _ => j1 3 k (by omega)) (fun r a b k => j1 r k (by omega))
    obtain ⟨t1, t2⟩ := tz_lt3 W (l := k + 1) (by omega) (by omega)
    have r1 := rm_lt (k + 1) (by omega) (tz (k + 1)) (by omega)
    have r2 := r1.2.2 t2
    have r3 := nI_rmz2 (k + 1) (by omega) (by omega)
    have r4 := j2 (rm (k + 1) (tz (k + 1))) (by omega)
    have r5 := wa_rm W (p := p) (C := k + 1) (by omega) t1 t2
    try dsimp only
    rw [e803_9 hF]
    simp (disch := omega) only [pm_k_i, Option.toList_some, Option.toList_none, List.cons_append, List.nil_append, cond_true, cond_false, ↓reduceIte, reduceCtorEq, z_1, nI_add, z_cl, z_ib, z_lt, z_le, z_eq, z_eq0, z_le0, z_lt0, z_b0, z_b1, z_m1, z_and7, Int32.add_zero, show (k + 1 ≤ 2 ^ h 0 1 - 1) = True from propext ⟨fun _ => trivial, fun _ => by omega⟩]
    rw [show (256 : Int32) = nI 256 from rfl]
    simp (disch := omega) only [pm_k_i, Option.toList_some, Option.toList_none, List.cons_append, List.nil_append, cond_true, cond_false, ↓reduceIte, reduceCtorEq, z_1, nI_add, z_cl, z_ib, z_lt, z_le, z_eq, z_eq0, z_le0, z_lt0, z_b0, z_b1, z_m1, z_and7, Int32.add_zero, show (k + 1 < 256) = True from propext ⟨fun _ => trivial, fun _ => by omega⟩, c_ntz hF, e803_25 hF, r3, r4, c_worthTo hF W HJ, e803_52 hF]
    rw [← r5]
    refine go _ ⟨fun r j a => by rw [z_ur a]; exact j1 r j a, fun A hA => ?_⟩
    by_cases q : A = k + 1
    · subst q; rw [z_ue]
    · rw [z_uk q]; exact j2 A (by omega)
  · obtain ⟨j1, j2⟩ := hJ
    try dsimp only
    rw [e803_9 hF]
    simp (disch := omega) only [pm_k_i, Option.toList_some, Option.toList_none, List.cons_append, List.nil_append, cond_true, cond_false, ↓reduceIte, reduceCtorEq, z_1, nI_add, z_cl, z_ib, z_lt, z_le, z_eq, z_eq0, z_le0, z_lt0, z_b0, z_b1, z_m1, z_and7, Int32.add_zero, show (2 ^ h 0 1 - 1 + 1 ≤ 2 ^ h 0 1 - 1) = False from propext ⟨fun hh => by omega, False.elim⟩]
    exact ⟨J, rfl, j1, fun A hA => j2 A (by omega)⟩
  · have : A = 0 := by omega
    subst this
    rw [z_ue]
    have : wa h p 0 = 0 := by
      unfold wa
      refine lpP (P := fun _ a => a = 0) rfl (fun k a _ ha => ?_)
      rw [Nat.zero_testBit]
      exact ha
    rw [this]
    rfl
theorem z_cmp : ∀ T, T < 256 → ∀ o, o < 256 → o &&& T = o → T &&& (T ^^^ o) ≤ T := fun T _ o _ _ => Nat.and_le_left
theorem nx_cmp (T : Nat) {o : Nat} (ho : o &&& T = o) (hT : T < 256) : nI T &&& (nI o ^^^ (-1)) = nI (T &&& (T ^^^ o)) := by
  rw [show (-1 : Int32) = nI 4294967295 from by decide +kernel, nx_xor, nx_and]
  congr 1
  apply Nat.eq_of_testBit_eq
  intro i
  rw [Nat.testBit_and, Nat.testBit_and, Nat.testBit_xor, Nat.testBit_xor, sl_32]
  by_cases q : i < 32
  · rw [decide_eq_true q]
    cases T.testBit i <;> cases o.testBit i <;> rfl
  · rw [z_tbig (n := 8) hT (by omega), Bool.false_and, Bool.false_and]
/-- the best with one more, of a set -/
theorem c_bestWith (hF : pm_fix pt_me pt_Sg (pt_R L0 xs) F) (W : WF h) {c : Nat → Nat} {b : Bool} {k T : Nat} (hT : T < 2 ^ h 0 1) (hpc : pc T = sm c k + c k) (hck : 0 < c k) (gv : Nat → Nat) (hg : ∀ S, S < 2 ^ h 0 1 → pc S = sm c k → I 28 S = nI (gv S) ∧ gv S ≤ 2000000 ∧ LV h c b 1000000 k S (some (gv S))) (h29 : ∀ A, A < 2 ^ h 0 1 → I 29 A = nI (wa h k A)) : ∃ m, (F 804 0 [some (.ref 27), some (.int (nI T)), some (.int (nI (c k))), some (.int (nI b.toNat)), none, none, none, none, none] [] (81, pt_G, I, L)) = some (some (.int (nI m)), (81, pt_G, I, L)) ∧ LV h c b 1000000 (k + 1) T (some m) ∧ m ≤ 3000000 := by
  have h2 := o256 W
  have hO := W.O
  have hcb : c k ≤ 8 := by have := pc_le8 (show T < 256 by omega); omega
  rw [e804_0 hF]
  refine wl (α := Nat × Nat) (Q := fun r => ∃ m, r = some (some (.int (nI m)), (81, pt_G, I, L)) ∧ LV h c b 1000000 (k + 1) T (some m) ∧ m ≤ 3000000) (G := fun n a => (F 804 9 [some (.ref 27), some (.int (nI T)), some (.int (nI (c k))), some (.int (nI b.toNat)), some (.int (nI a.1)), some (.int (nI a.2)), some (.int (nI n)), none, none] [] (81, pt_G, I, L))) (P := fun n a => a.1 ≤ 3000000 ∧ a.2 &&& T = a.2 ∧ a.2 + n ≤ T ∧ (a.1 = 0 ∨ Rch h c b 1000000 (k + 1) T a.1) ∧ ∀ o, o &&& T = o → a.2 < o → pc o = c k → opv b (gv (T &&& (T ^^^ o))) (wa h k o) ≤ a.1) (n := 256) (fun n a hn ha go => ?_) (fun a ha => ?_) 0 (0, T) (Nat.zero_le _) ⟨Nat.zero_le _, Nat.and_self T, Nat.le_refl _, Or.inl rfl, fun o ho hl _ => by
    have : o ≤ T := by rw [← ho]; exact Nat.and_le_right
    have hl : T < o := hl
    omega⟩
  · obtain ⟨m, p⟩ := a
    obtain ⟨a1, a2, a3, a4, a5⟩ := ha
    try dsimp only at a1 a2 a3 a4 a5
    have ple : p ≤ T := by rw [← a2]; exact Nat.and_le_right
    try dsimp only
    rw [e804_9 hF, show (256 : Int32) = nI 256 from rfl]
    simp (disch := omega) only [pm_k_i, Option.toList_some, Option.toList_none, List.cons_append, List.nil_append, cond_true, cond_false, ↓reduceIte, reduceCtorEq, z_1, nI_add, z_cl, z_ib, z_lt, z_le, z_eq, z_eq0, z_le0, z_lt0, z_b0, z_b1, z_m1, z_and7, Int32.add_zero, hn]
    by_cases q : p = 0
    · rw [if_pos q]
      refine ⟨m, rfl, ?_, a1⟩
      subst q
      -- one there is
      obtain ⟨o, o1, o2⟩ := sub_ex (sm c k) T (c k) (by omega) (by omega)
      have up : ∀ v, Rch h c b 1000000 (k + 1) T v → v ≤ m := by
        intro v r
        rcases r with ⟨w, _⟩ | ⟨_, s, o, u, g1, g2, g3, g4⟩
        · omega
        · obtain ⟨e1, e2⟩ := spl_sub g1
          obtain ⟨l1, l2⟩ := spl_lt g1 hT
          have o0 : 0 < o := by
            rcases Nat.eq_zero_or_pos o with z | z
            · rw [z, show pc 0 = 0 from by decide +kernel] at g2; omega
            · exact z
          have ps : pc s = sm c k := Rch_pc k s u (by omega) g3
          have w1 := (hg s l1 ps).2.2.2 u g3
          have w2 := a5 o e1 o0 g2
          rw [← e2] at w2
          have w3 := opv_mono b (w := wa h k o) w1
          omega
      refine ⟨?_, up⟩
      rcases a4 with z | z
      · -- nothing is more than 0, and one is reached
        have sp := sub_spl o1
        obtain ⟨l1, l2⟩ := spl_lt sp hT
        have ps : pc (T &&& (T ^^^ o)) = sm c k := by
          have := pc_or sp.1
          rw [sp.2] at this
          omega
        have r : Rch h c b 1000000 (k + 1) T (opv b (gv (T &&& (T ^^^ o))) (wa h k o)) := Or.inr ⟨hck, _, o, _, sp, o2, (hg _ l1 ps).2.2.1, rfl⟩
        have := up _ r
        rw [show m = opv b (gv (T &&& (T ^^^ o))) (wa h k o) by omega]
        exact r
      · exact z
    · rw [if_neg q]
      have pm : nI p - 1 = nI (p - 1) := z_s1 (by omega)
      have nxt : (nI p - 1) &&& nI T = nI ((p - 1) &&& T) := by rw [pm, nx_and]
      have pl := sub_le p T
      have keep : ∀ m', m' ≤ 3000000 → m ≤ m' → (m' = 0 ∨ Rch h c b 1000000 (k + 1) T m') → (pc p = c k → opv b (gv (T &&& (T ^^^ p))) (wa h k p) ≤ m') → (m' ≤ 3000000 ∧ ((p - 1) &&& T) &&& T = (p - 1) &&& T ∧ ((p - 1) &&& T) + (n + 1) ≤ T ∧ (m' = 0 ∨ Rch h c b 1000000 (k + 1) T m') ∧ ∀ o, o &&& T = o → ((p - 1) &&& T) < o → pc o = c k → opv b (gv (T &&& (T ^^^ o))) (wa h k o) ≤ m') := by
        intro m' k1 k2 k3 k4
        refine ⟨k1, by rw [Nat.and_assoc, Nat.and_self], ?_, k3, fun o ho hl hpo => ?_⟩
        · omega
        · by_cases z : o = p
          · rw [z] at hpo ⊢; exact k4 hpo
          · by_cases w : p < o
            · have := a5 o ho w hpo; omega
            · have := sub_pred 8 T p o (by omega) a2 ho (by omega)
              omega
      have pp := pc_le8 (show p < 256 by omega)
      simp (disch := omega) only [pm_k_i, Option.toList_some, Option.toList_none, List.cons_append, List.nil_append, cond_true, cond_false, ↓reduceIte, reduceCtorEq, z_1, nI_add, z_cl, z_ib, z_lt, z_le, z_eq, z_eq0, z_le0, z_lt0, z_b0, z_b1, z_m1, z_and7, Int32.add_zero, c_bitCount hF, e804_27 hF]
      by_cases z : pc p = c k
      · have sp := sub_spl a2
        obtain ⟨l1, l2⟩ := spl_lt sp hT
        have ps : pc (T &&& (T ^^^ p)) = sm c k := by
          have := pc_or sp.1
          rw [sp.2] at this
          omega
        obtain ⟨g1, g2, g3⟩ := hg _ l1 ps
        have w1 := wa_le W k p
        have w2 := h29 p l2
        have r : Rch h c b 1000000 (k + 1) T (opv b (gv (T &&& (T ^^^ p))) (wa h k p)) := Or.inr ⟨hck, _, p, _, sp, z, g3.1, rfl⟩
        have cm := nx_cmp T a2 (by omega)
        have c255 := z_and255 (T &&& (T ^^^ p)) (by omega)
        have p255 := z_and255 p (by omega)
        have mx : max m (opv b (gv (T &&& (T ^^^ p))) (wa h k p)) ≤ 3000000 := by
          have : opv b (gv (T &&& (T ^^^ p))) (wa h k p) ≤ 2000792 := by
            cases b
            · show _ + _ ≤ _; omega
            · show min _ _ ≤ _; omega
          omega
        have fin := keep (max m (opv b (gv (T &&& (T ^^^ p))) (wa h k p))) mx (Nat.le_max_left _ _) (by
          rcases Nat.le_total m (opv b (gv (T &&& (T ^^^ p))) (wa h k p)) with y | y
          · rw [Nat.max_eq_right y]; exact Or.inr r
          · rw [Nat.max_eq_left y]; exact a4) (fun _ => Nat.le_max_right _ _)
        rw [if_pos z, cm, c255, p255]
        simp (disch := omega) only [pm_k_i, Option.toList_some, Option.toList_none, List.cons_append, List.nil_append, cond_true, cond_false, ↓reduceIte, reduceCtorEq, z_1, nI_add, z_cl, z_ib, z_lt, z_le, z_eq, z_eq0, z_le0, z_lt0, z_b0, z_b1, z_m1, z_and7, Int32.add_zero, g1, w2]
        cases b with
        | false =>
          rw [if_pos rfl]
          simp (disch := omega) only [pm_k_i, Option.toList_some, Option.toList_none, List.cons_append, List.nil_append, cond_true, cond_false, ↓reduceIte, reduceCtorEq, z_1, nI_add, z_cl, z_ib, z_lt, z_le, z_eq, z_eq0, z_le0, z_lt0, z_b0, z_b1, z_m1, z_and7, Int32.add_zero, c_max hF, e804_85 hF, nxt]
          exact go (max m (gv (T &&& (T ^^^ p)) + wa h k p), (p - 1) &&& T) fin
        | true =>
          rw [if_neg (by decide)]
          simp (disch := omega) only [pm_k_i, Option.toList_some, Option.toList_none, List.cons_append, List.nil_append, cond_true, cond_false, ↓reduceIte, reduceCtorEq, z_1, nI_add, z_cl, z_ib, z_lt, z_le, z_eq, z_eq0, z_le0, z_lt0, z_b0, z_b1, z_m1, z_and7, Int32.add_zero, c_min hF, e804_74 hF]
          have mb : min (gv (T &&& (T ^^^ p))) (wa h k p) ≤ 792 := by omega
          simp (disch := omega) only [pm_k_i, Option.toList_some, Option.toList_none, List.cons_append, List.nil_append, cond_true, cond_false, ↓reduceIte, reduceCtorEq, z_1, nI_add, z_cl, z_ib, z_lt, z_le, z_eq, z_eq0, z_le0, z_lt0, z_b0, z_b1, z_m1, z_and7, Int32.add_zero, c_max hF, e804_85 hF, nxt]
          exact go (max m (min (gv (T &&& (T ^^^ p))) (wa h k p)), (p - 1) &&& T) fin
      · rw [if_neg z, nxt]
        exact go (m, (p - 1) &&& T) (keep m a1 (Nat.le_refl _) a4 (fun y => absurd y z))
  · obtain ⟨m, p⟩ := a
    obtain ⟨a1, a2, a3, a4, a5⟩ := ha
    try dsimp only at a1 a2 a3 a4 a5
    omega
end
