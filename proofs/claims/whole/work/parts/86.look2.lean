/-! ===== one call: picks ===== -/
section
variable {h : Nat → Nat → Nat} {I I' : Nat → Nat → Int32} {L L' : Nat → Nat → Int64}
variable {q n C a : Nat} {b w : Nat → Nat} {fa pl : Int32} {sn : Nat → SN} {e v : Nat}
variable {F : pm_F} {L0 : Nat} {xs : Nat → Int32}
theorem g_vP {n : Nat} (hn : n < 2147483648) (x : Int32) (A B : pm_R) : (if x < 0 then A else if x < nI n then B else A) = bif vP n x then B else A := by
  simp only [z_lti, i0, nI_toInt hn]
  unfold vP
  by_cases c : x.toInt < 0
  · rw [if_pos c, decide_eq_false (by omega)]; rfl
  · rw [if_neg c]
    by_cases d : x.toInt < (n : Int)
    · rw [if_pos d, decide_eq_true (by omega)]; rfl
    · rw [if_neg d, decide_eq_false (by omega)]; rfl
theorem g_2 (x : Int32) (A B : pm_R) : (if x < 0 then A else if x ≤ 1 then B else A) = bif vP 2 x then B else A := by
  simp only [z_lti, z_lei, i0, i1']
  unfold vP
  by_cases c : x.toInt < 0
  · rw [if_pos c, decide_eq_false (by omega)]; rfl
  · rw [if_neg c]
    by_cases d : x.toInt ≤ 1
    · rw [if_pos d, decide_eq_true (by omega)]; rfl
    · rw [if_neg d, decide_eq_false (by omega)]; rfl
theorem g_4 (x : Int32) (A B : pm_R) : (if x < 0 then A else if x ≤ 3 then B else A) = bif vP 4 x then B else A := by
  simp only [z_lti, z_lei, i0, i3']
  unfold vP
  by_cases c : x.toInt < 0
  · rw [if_pos c, decide_eq_false (by omega)]; rfl
  · rw [if_neg c]
    by_cases d : x.toInt ≤ 3
    · rw [if_pos d, decide_eq_true (by omega)]; rfl
    · rw [if_neg d, decide_eq_false (by omega)]; rfl
theorem g_32 (x : Int32) (A B : pm_R) : (if x < 0 then A else if x ≤ 31 then B else A) = bif vP 32 x then B else A := by
  simp only [z_lti, z_lei, i0, i31]
  unfold vP
  by_cases c : x.toInt < 0
  · rw [if_pos c, decide_eq_false (by omega)]; rfl
  · rw [if_neg c]
    by_cases d : x.toInt ≤ 31
    · rw [if_pos d, decide_eq_true (by omega)]; rfl
    · rw [if_neg d, decide_eq_false (by omega)]; rfl
/-- both picked -/
theorem pk_both (hF : pm_fix pt_me pt_Sg (pt_R L0 xs) F) (W : WF h) (X : K1 q h n b fa pl C w a sn I L) (Y : K2 h n b fa pl C w a sn I) {c y : Nat} (c0 : 0 < c) (cl : c ≤ ev h) (hy : y ≤ 2) : ∃ A K B, (F 307 0 [some (.ref 30), some (.int (nI c)), some (.int (nI y)), none] [] (81, pt_G, I, L)) = some (some (.int (nI (hp (pw h c y)))), (81, pt_G, A, K)) ∧ (F 1266 0 [some (.ref 49), some (.int (nI c)), some (.int (nI y)), none, none, none] [] (81, pt_G, A, K)) = some (none, (81, pt_G, B, K)) ∧ CH h A ∧ MH h A ∧ MH h B ∧ OW h (pw h c y) B ∧ (y = 2 → B 49 51 = nI (stn h (fs h c))) ∧ K1 q h n b fa pl C w a sn B K ∧ K2 h n b fa pl C w a sn B := by
  obtain ⟨⟨e, v, e1, v1, cx, fo⟩, k0⟩ := X
  obtain ⟨A, K, a1, a2, a3⟩ := c_picked hF W cx c0 cl hy
  have YA := Y.hi W a2.hi
  obtain ⟨B, b1, b2, b3, b4⟩ := m_picks (L := K) hF W YA.H c0 cl hy
  have XA : K1 q h n b fa pl C w a sn A K := K1.fx e1 v1 a3 fo k0 a2
  have YB := YA.pk W (fun r k c1 c2 c3 c4 c5 c6 _ _ => b2 r k c1 c2 c3 c4 c5 c6)
  exact ⟨A, K, B, a1, b1, a3.1, YA.H, YB.H, b3, b4, XA.lo (fun r k hr => b2 r k (by omega) (by omega) (by omega) (by omega) (by omega) (by omega)) (fun _ _ _ => rfl), YB⟩
theorem s_gets (hF : pm_fix pt_me pt_Sg (pt_R L0 xs) F) (Z : GS h n b C w a sn) (X : K1 q h n b fa pl C w a sn I L) (Y : K2 h n b fa pl C w a sn I) (x y z : Int32) : NXT q (F 111 0 [some (.ref 0), some (.int x), some (.int y), some (.int z)] [] (81, pt_G, I, L)) (fun I L => (F 1268 0 [some (.ref 49), some (.int x), some (.int y), some (.int z)] [] (81, pt_G, I, L))) := by
  have W := Z.1
  have hP := W.P
  have hO := W.O
  have hE := ev_lt W
  have H := X.H
  have M := Y.H
  have n1 : (vC h x && (vP 3 y && vP (h 0 1) z)) = false → NXT q (F 111 0 [some (.ref 0), some (.int x), some (.int y), some (.int z)] [] (81, pt_G, I, L)) (fun I L => (F 1268 0 [some (.ref 49), some (.int x), some (.int y), some (.int z)] [] (81, pt_G, I, L))) := by
    intro hn
    refine NXT.same Z X Y (x := -1) ?_ ?_
    · rw [e111_0 hF, c_hasCoalition hF W H]
      simp (disch := omega) only [pm_k_i, Option.toList_some, Option.toList_none, List.cons_append, List.nil_append, cond_true, cond_false, ↓reduceIte, reduceCtorEq, z_1, nI_add, z_cl, z_ib, z_lt, z_le, z_eq, z_eq0, z_le0, z_lt0, z_b0, z_b1, z_m1, z_and7, Int32.add_zero, e111_8 hF, c_isWay hF, e111_15 hF, c_hasOffice hF W H, e111_26 hF]
      cases hv : vC h x
      · rfl
      · cases hu : vP 3 y
        · rfl
        · rw [hv, hu] at hn
          rw [show vP (h 0 1) z = false from hn]
          rfl
    · try dsimp only
      rw [e1268_0 hF, m_isCoalition hF W M]
      simp (disch := omega) only [pm_k_i, Option.toList_some, Option.toList_none, List.cons_append, List.nil_append, cond_true, cond_false, ↓reduceIte, reduceCtorEq, z_1, nI_add, z_cl, z_ib, z_lt, z_le, z_eq, z_eq0, z_le0, z_lt0, z_b0, z_b1, z_m1, z_and7, Int32.add_zero, e1268_5 hF, m_isWay hF, e1268_17 hF, m_isOffice hF W M, e1268_25 hF]
      cases hv : vC h x
      · rfl
      · cases hu : vP 3 y
        · rfl
        · rw [hv, hu] at hn
          rw [show vP (h 0 1) z = false from hn]
          rfl
  cases hv : vC h x with
  | false => exact n1 (by rw [hv]; rfl)
  | true =>
    cases hu : vP 3 y with
    | false => exact n1 (by rw [hv, hu]; rfl)
    | true =>
      cases ht : vP (h 0 1) z with
      | false => exact n1 (by rw [hv, hu, ht]; rfl)
      | true =>
        obtain ⟨c, c0, cl, rfl⟩ := vC_of W hv
        obtain ⟨y, yl, rfl⟩ := vP_of (by omega) hu
        obtain ⟨k, kl, rfl⟩ := vP_of (by omega) ht
        obtain ⟨A, K, B, a1, b1, HA, MA, MB, ow, sw, XB, YB⟩ := pk_both hF W X Y c0 cl (show y ≤ 2 by omega)
        have wk := pw_ok W c0 cl y
        have g := hp_lt wk.1
        refine NXT.mk (x := nI (pw h c y k)) (I1 := A) (L1 := K) ?_ ?_ Z XB YB
        · rw [e111_0 hF, c_hasCoalition hF W H]
          simp (disch := omega) only [pm_k_i, Option.toList_some, Option.toList_none, List.cons_append, List.nil_append, cond_true, cond_false, ↓reduceIte, reduceCtorEq, z_1, nI_add, z_cl, z_ib, z_lt, z_le, z_eq, z_eq0, z_le0, z_lt0, z_b0, z_b1, z_m1, z_and7, Int32.add_zero, hv, hu, ht, e111_8 hF, c_isWay hF, e111_15 hF, c_hasOffice hF W H, e111_26 hF, Bool.toNat_true]
          try rw [if_neg (show ¬ nI 1 = 0 from by decide)]
          rw [a1]
          simp (disch := omega) only [pm_k_i, Option.toList_some, Option.toList_none, List.cons_append, List.nil_append, cond_true, cond_false, ↓reduceIte, reduceCtorEq, z_1, nI_add, z_cl, z_ib, z_lt, z_le, z_eq, z_eq0, z_le0, z_lt0, z_b0, z_b1, z_m1, z_and7, Int32.add_zero, e111_40 hF, c_get hF, gs_hp wk.1, e111_44 hF]
        · try dsimp only
          rw [e1268_0 hF, m_isCoalition hF W MA]
          simp (disch := omega) only [pm_k_i, Option.toList_some, Option.toList_none, List.cons_append, List.nil_append, cond_true, cond_false, ↓reduceIte, reduceCtorEq, z_1, nI_add, z_cl, z_ib, z_lt, z_le, z_eq, z_eq0, z_le0, z_lt0, z_b0, z_b1, z_m1, z_and7, Int32.add_zero, hv, hu, ht, e1268_5 hF, m_isWay hF, e1268_17 hF, m_isOffice hF W MA, e1268_25 hF, Bool.toNat_true]
          try rw [if_neg (show ¬ nI 1 = 0 from by decide)]
          rw [b1]
          simp (disch := omega) only [pm_k_i, Option.toList_some, Option.toList_none, List.cons_append, List.nil_append, cond_true, cond_false, ↓reduceIte, reduceCtorEq, z_1, nI_add, z_cl, z_ib, z_lt, z_le, z_eq, z_eq0, z_le0, z_lt0, z_b0, z_b1, z_m1, z_and7, Int32.add_zero, e1268_36 hF, (ow k kl).1]
theorem s_policy (hF : pm_fix pt_me pt_Sg (pt_R L0 xs) F) (Z : GS h n b C w a sn) (X : K1 q h n b fa pl C w a sn I L) (Y : K2 h n b fa pl C w a sn I) (x y z : Int32) : NXT q (F 117 0 [some (.ref 0), some (.int x), some (.int y), some (.int z), none] [] (81, pt_G, I, L)) (fun I L => (F 1270 0 [some (.ref 49), some (.int x), some (.int y), some (.int z)] [] (81, pt_G, I, L))) := by
  have W := Z.1
  have hP := W.P
  have hO := W.O
  have hE := ev_lt W
  have H := X.H
  have M := Y.H
  have n1 : (vC h x && (vP 3 y && vP (h 0 1) z)) = false → NXT q (F 117 0 [some (.ref 0), some (.int x), some (.int y), some (.int z), none] [] (81, pt_G, I, L)) (fun I L => (F 1270 0 [some (.ref 49), some (.int x), some (.int y), some (.int z)] [] (81, pt_G, I, L))) := by
    intro hn
    refine NXT.same Z X Y (x := -1) ?_ ?_
    · rw [e117_0 hF, c_hasCoalition hF W H]
      simp (disch := omega) only [pm_k_i, Option.toList_some, Option.toList_none, List.cons_append, List.nil_append, cond_true, cond_false, ↓reduceIte, reduceCtorEq, z_1, nI_add, z_cl, z_ib, z_lt, z_le, z_eq, z_eq0, z_le0, z_lt0, z_b0, z_b1, z_m1, z_and7, Int32.add_zero, e117_8 hF, c_isWay hF, e117_15 hF, c_hasOffice hF W H, e117_26 hF]
      cases hv : vC h x
      · rfl
      · cases hu : vP 3 y
        · rfl
        · rw [hv, hu] at hn
          rw [show vP (h 0 1) z = false from hn]
          rfl
    · try dsimp only
      rw [e1270_0 hF, m_isCoalition hF W M]
      simp (disch := omega) only [pm_k_i, Option.toList_some, Option.toList_none, List.cons_append, List.nil_append, cond_true, cond_false, ↓reduceIte, reduceCtorEq, z_1, nI_add, z_cl, z_ib, z_lt, z_le, z_eq, z_eq0, z_le0, z_lt0, z_b0, z_b1, z_m1, z_and7, Int32.add_zero, e1270_5 hF, m_isWay hF, e1270_17 hF, m_isOffice hF W M, e1270_25 hF]
      cases hv : vC h x
      · rfl
      · cases hu : vP 3 y
        · rfl
        · rw [hv, hu] at hn
          rw [show vP (h 0 1) z = false from hn]
          rfl
  cases hv : vC h x with
  | false => exact n1 (by rw [hv]; rfl)
  | true =>
    cases hu : vP 3 y with
    | false => exact n1 (by rw [hv, hu]; rfl)
    | true =>
      cases ht : vP (h 0 1) z with
      | false => exact n1 (by rw [hv, hu, ht]; rfl)
      | true =>
        obtain ⟨c, c0, cl, rfl⟩ := vC_of W hv
        obtain ⟨y, yl, rfl⟩ := vP_of (by omega) hu
        obtain ⟨k, kl, rfl⟩ := vP_of (by omega) ht
        obtain ⟨A, K, B, a1, b1, HA, MA, MB, ow, sw, XB, YB⟩ := pk_both hF W X Y c0 cl (show y ≤ 2 by omega)
        have wk := pw_ok W c0 cl y
        have g := hp_lt wk.1
        have wl := wk.2 k kl
        refine NXT.mk (x := nI (h 6 (8 * pw h c y k + k))) (I1 := A) (L1 := K) ?_ ?_ Z XB YB
        · rw [e117_0 hF, c_hasCoalition hF W H]
          simp (disch := omega) only [pm_k_i, Option.toList_some, Option.toList_none, List.cons_append, List.nil_append, cond_true, cond_false, ↓reduceIte, reduceCtorEq, z_1, nI_add, z_cl, z_ib, z_lt, z_le, z_eq, z_eq0, z_le0, z_lt0, z_b0, z_b1, z_m1, z_and7, Int32.add_zero, hv, hu, ht, e117_8 hF, c_isWay hF, e117_15 hF, c_hasOffice hF W H, e117_26 hF, Bool.toNat_true]
          try rw [if_neg (show ¬ nI 1 = 0 from by decide)]
          rw [a1]
          simp (disch := omega) only [pm_k_i, Option.toList_some, Option.toList_none, List.cons_append, List.nil_append, cond_true, cond_false, ↓reduceIte, reduceCtorEq, z_1, nI_add, z_cl, z_ib, z_lt, z_le, z_eq, z_eq0, z_le0, z_lt0, z_b0, z_b1, z_m1, z_and7, Int32.add_zero, e117_40 hF, c_get hF, gs_hp wk.1, e117_44 hF, c_stanceOf hF W HA, e117_56 hF]
        · try dsimp only
          rw [e1270_0 hF, m_isCoalition hF W MA]
          simp (disch := omega) only [pm_k_i, Option.toList_some, Option.toList_none, List.cons_append, List.nil_append, cond_true, cond_false, ↓reduceIte, reduceCtorEq, z_1, nI_add, z_cl, z_ib, z_lt, z_le, z_eq, z_eq0, z_le0, z_lt0, z_b0, z_b1, z_m1, z_and7, Int32.add_zero, hv, hu, ht, e1270_5 hF, m_isWay hF, e1270_17 hF, m_isOffice hF W MA, e1270_25 hF, Bool.toNat_true]
          try rw [if_neg (show ¬ nI 1 = 0 from by decide)]
          rw [b1]
          simp (disch := omega) only [pm_k_i, Option.toList_some, Option.toList_none, List.cons_append, List.nil_append, cond_true, cond_false, ↓reduceIte, reduceCtorEq, z_1, nI_add, z_cl, z_ib, z_lt, z_le, z_eq, z_eq0, z_le0, z_lt0, z_b0, z_b1, z_m1, z_and7, Int32.add_zero, e1270_36 hF, (ow k kl).1, z_8m, MB.stance]
theorem s_grief (hF : pm_fix pt_me pt_Sg (pt_R L0 xs) F) (Z : GS h n b C w a sn) (X : K1 q h n b fa pl C w a sn I L) (Y : K2 h n b fa pl C w a sn I) (x y z : Int32) : NXT q (F 118 0 [some (.ref 0), some (.int x), some (.int y), some (.int z)] [] (81, pt_G, I, L)) (fun I L => (F 1272 0 [some (.ref 49), some (.int x), some (.int y), some (.int z)] [] (81, pt_G, I, L))) := by
  have W := Z.1
  have hP := W.P
  have hO := W.O
  have hE := ev_lt W
  have H := X.H
  have M := Y.H
  have n1 : (vC h x && (vP 3 y && vP (h 0 0) z)) = false → NXT q (F 118 0 [some (.ref 0), some (.int x), some (.int y), some (.int z)] [] (81, pt_G, I, L)) (fun I L => (F 1272 0 [some (.ref 49), some (.int x), some (.int y), some (.int z)] [] (81, pt_G, I, L))) := by
    intro hn
    refine NXT.same Z X Y (x := -1) ?_ ?_
    · rw [e118_0 hF, c_hasCoalition hF W H]
      simp (disch := omega) only [pm_k_i, Option.toList_some, Option.toList_none, List.cons_append, List.nil_append, cond_true, cond_false, ↓reduceIte, reduceCtorEq, z_1, nI_add, z_cl, z_ib, z_lt, z_le, z_eq, z_eq0, z_le0, z_lt0, z_b0, z_b1, z_m1, z_and7, Int32.add_zero, e118_8 hF, c_isWay hF, e118_15 hF, c_hasParty hF W H, e118_26 hF]
      cases hv : vC h x
      · rfl
      · cases hu : vP 3 y
        · rfl
        · rw [hv, hu] at hn
          rw [show vP (h 0 0) z = false from hn]
          rfl
    · try dsimp only
      rw [e1272_0 hF, m_isCoalition hF W M]
      simp (disch := omega) only [pm_k_i, Option.toList_some, Option.toList_none, List.cons_append, List.nil_append, cond_true, cond_false, ↓reduceIte, reduceCtorEq, z_1, nI_add, z_cl, z_ib, z_lt, z_le, z_eq, z_eq0, z_le0, z_lt0, z_b0, z_b1, z_m1, z_and7, Int32.add_zero, e1272_5 hF, m_isWay hF, e1272_17 hF, m_isParty hF W M, e1272_25 hF]
      cases hv : vC h x
      · rfl
      · cases hu : vP 3 y
        · rfl
        · rw [hv, hu] at hn
          rw [show vP (h 0 0) z = false from hn]
          rfl
  cases hv : vC h x with
  | false => exact n1 (by rw [hv]; rfl)
  | true =>
    cases hu : vP 3 y with
    | false => exact n1 (by rw [hv, hu]; rfl)
    | true =>
      cases ht : vP (h 0 0) z with
      | false => exact n1 (by rw [hv, hu, ht]; rfl)
      | true =>
        obtain ⟨c, c0, cl, rfl⟩ := vC_of W hv
        obtain ⟨y, yl, rfl⟩ := vP_of (by omega) hu
        obtain ⟨k, kl, rfl⟩ := vP_of (by omega) ht
        obtain ⟨A, K, B, a1, b1, HA, MA, MB, ow, sw, XB, YB⟩ := pk_both hF W X Y c0 cl (show y ≤ 2 by omega)
        have wk := pw_ok W c0 cl y
        have g := hp_lt wk.1
        have gr := c_griefBy (I := A) (L := K) hF W HA g (by rw [gs_hp wk.1]; exact wk.2) kl
        rw [gs_hp wk.1] at gr
        refine NXT.mk (x := nI (grf h (pw h c y) k)) (I1 := A) (L1 := K) ?_ ?_ Z XB YB
        · rw [e118_0 hF, c_hasCoalition hF W H]
          simp (disch := omega) only [pm_k_i, Option.toList_some, Option.toList_none, List.cons_append, List.nil_append, cond_true, cond_false, ↓reduceIte, reduceCtorEq, z_1, nI_add, z_cl, z_ib, z_lt, z_le, z_eq, z_eq0, z_le0, z_lt0, z_b0, z_b1, z_m1, z_and7, Int32.add_zero, hv, hu, ht, e118_8 hF, c_isWay hF, e118_15 hF, c_hasParty hF W H, e118_26 hF, Bool.toNat_true]
          try rw [if_neg (show ¬ nI 1 = 0 from by decide)]
          rw [a1]
          simp (disch := omega) only [pm_k_i, Option.toList_some, Option.toList_none, List.cons_append, List.nil_append, cond_true, cond_false, ↓reduceIte, reduceCtorEq, z_1, nI_add, z_cl, z_ib, z_lt, z_le, z_eq, z_eq0, z_le0, z_lt0, z_b0, z_b1, z_m1, z_and7, Int32.add_zero, e118_45 hF, gr, e118_48 hF]
        · try dsimp only
          rw [e1272_0 hF, m_isCoalition hF W MA]
          simp (disch := omega) only [pm_k_i, Option.toList_some, Option.toList_none, List.cons_append, List.nil_append, cond_true, cond_false, ↓reduceIte, reduceCtorEq, z_1, nI_add, z_cl, z_ib, z_lt, z_le, z_eq, z_eq0, z_le0, z_lt0, z_b0, z_b1, z_m1, z_and7, Int32.add_zero, hv, hu, ht, e1272_5 hF, m_isWay hF, e1272_17 hF, m_isParty hF W MA, e1272_25 hF, Bool.toNat_true]
          try rw [if_neg (show ¬ nI 1 = 0 from by decide)]
          rw [b1]
          simp (disch := omega) only [pm_k_i, Option.toList_some, Option.toList_none, List.cons_append, List.nil_append, cond_true, cond_false, ↓reduceIte, reduceCtorEq, z_1, nI_add, z_cl, z_ib, z_lt, z_le, z_eq, z_eq0, z_le0, z_lt0, z_b0, z_b1, z_m1, z_and7, Int32.add_zero, e1272_36 hF, m_griefOf hF W MB ow kl, e1272_41 hF]
theorem s_has (hF : pm_fix pt_me pt_Sg (pt_R L0 xs) F) (Z : GS h n b C w a sn) (X : K1 q h n b fa pl C w a sn I L) (Y : K2 h n b fa pl C w a sn I) (x y z : Int32) : NXT q (F 112 0 [some (.ref 0), some (.int x), some (.int y), some (.int z)] [] (81, pt_G, I, L)) (fun I L => (F 1269 0 [some (.ref 49), some (.int x), some (.int y), some (.int z)] [] (81, pt_G, I, L))) := by
  have W := Z.1
  have hP := W.P
  have hO := W.O
  have hE := ev_lt W
  have H := X.H
  have M := Y.H
  have n1 : (vC h x && (vP 3 y && vP (h 0 0) z)) = false → NXT q (F 112 0 [some (.ref 0), some (.int x), some (.int y), some (.int z)] [] (81, pt_G, I, L)) (fun I L => (F 1269 0 [some (.ref 49), some (.int x), some (.int y), some (.int z)] [] (81, pt_G, I, L))) := by
    intro hn
    refine NXT.same Z X Y (x := -1) ?_ ?_
    · rw [e112_0 hF, c_hasCoalition hF W H]
      simp (disch := omega) only [pm_k_i, Option.toList_some, Option.toList_none, List.cons_append, List.nil_append, cond_true, cond_false, ↓reduceIte, reduceCtorEq, z_1, nI_add, z_cl, z_ib, z_lt, z_le, z_eq, z_eq0, z_le0, z_lt0, z_b0, z_b1, z_m1, z_and7, Int32.add_zero, e112_8 hF, c_isWay hF, e112_15 hF, c_hasParty hF W H, e112_26 hF]
      cases hv : vC h x
      · rfl
      · cases hu : vP 3 y
        · rfl
        · rw [hv, hu] at hn
          rw [show vP (h 0 0) z = false from hn]
          rfl
    · try dsimp only
      rw [e1269_0 hF, m_isCoalition hF W M]
      simp (disch := omega) only [pm_k_i, Option.toList_some, Option.toList_none, List.cons_append, List.nil_append, cond_true, cond_false, ↓reduceIte, reduceCtorEq, z_1, nI_add, z_cl, z_ib, z_lt, z_le, z_eq, z_eq0, z_le0, z_lt0, z_b0, z_b1, z_m1, z_and7, Int32.add_zero, e1269_5 hF, m_isWay hF, e1269_17 hF, m_isParty hF W M, e1269_25 hF]
      cases hv : vC h x
      · rfl
      · cases hu : vP 3 y
        · rfl
        · rw [hv, hu] at hn
          rw [show vP (h 0 0) z = false from hn]
          rfl
  cases hv : vC h x with
  | false => exact n1 (by rw [hv]; rfl)
  | true =>
    cases hu : vP 3 y with
    | false => exact n1 (by rw [hv, hu]; rfl)
    | true =>
      cases ht : vP (h 0 0) z with
      | false => exact n1 (by rw [hv, hu, ht]; rfl)
      | true =>
        obtain ⟨c, c0, cl, rfl⟩ := vC_of W hv
        obtain ⟨y, yl, rfl⟩ := vP_of (by omega) hu
        obtain ⟨k, kl, rfl⟩ := vP_of (by omega) ht
        obtain ⟨A, K, B, a1, b1, HA, MA, MB, ow, sw, XB, YB⟩ := pk_both hF W X Y c0 cl (show y ≤ 2 by omega)
        have wk := pw_ok W c0 cl y
        have g := hp_lt wk.1
        have own1 := c_worthOfHeld (I := A) (L := K) hF W HA (show k < 8 by omega) g kl
        rw [gs_hp wk.1] at own1
        cases hb : c.testBit k with
        | true =>
          refine NXT.mk (x := nI (own h (pw h c y) k k)) (I1 := A) (L1 := K) ?_ ?_ Z XB YB
          · rw [e112_0 hF, c_hasCoalition hF W H]
            simp (disch := omega) only [pm_k_i, Option.toList_some, Option.toList_none, List.cons_append, List.nil_append, cond_true, cond_false, ↓reduceIte, reduceCtorEq, z_1, nI_add, z_cl, z_ib, z_lt, z_le, z_eq, z_eq0, z_le0, z_lt0, z_b0, z_b1, z_m1, z_and7, Int32.add_zero, hv, hu, ht, e112_8 hF, c_isWay hF, e112_15 hF, c_hasParty hF W H, e112_26 hF, Bool.toNat_true]
            try rw [if_neg (show ¬ nI 1 = 0 from by decide)]
            simp (disch := omega) only [pm_k_i, Option.toList_some, Option.toList_none, List.cons_append, List.nil_append, cond_true, cond_false, ↓reduceIte, reduceCtorEq, z_1, nI_add, z_cl, z_ib, z_lt, z_le, z_eq, z_eq0, z_le0, z_lt0, z_b0, z_b1, z_m1, z_and7, Int32.add_zero, c_isIn hF, e112_36 hF, hb, Bool.toNat_true]
            try rw [if_neg (show ¬ nI 1 = 0 from by decide)]
            rw [a1]
            simp (disch := omega) only [pm_k_i, Option.toList_some, Option.toList_none, List.cons_append, List.nil_append, cond_true, cond_false, ↓reduceIte, reduceCtorEq, z_1, nI_add, z_cl, z_ib, z_lt, z_le, z_eq, z_eq0, z_le0, z_lt0, z_b0, z_b1, z_m1, z_and7, Int32.add_zero, e112_55 hF, own1, e112_59 hF]
          · try dsimp only
            rw [e1269_0 hF, m_isCoalition hF W MA]
            simp (disch := omega) only [pm_k_i, Option.toList_some, Option.toList_none, List.cons_append, List.nil_append, cond_true, cond_false, ↓reduceIte, reduceCtorEq, z_1, nI_add, z_cl, z_ib, z_lt, z_le, z_eq, z_eq0, z_le0, z_lt0, z_b0, z_b1, z_m1, z_and7, Int32.add_zero, hv, hu, ht, e1269_5 hF, m_isWay hF, e1269_17 hF, m_isParty hF W MA, e1269_25 hF, Bool.toNat_true]
            try rw [if_neg (show ¬ nI 1 = 0 from by decide)]
            rw [b1]
            simp (disch := omega) only [pm_k_i, Option.toList_some, Option.toList_none, List.cons_append, List.nil_append, cond_true, cond_false, ↓reduceIte, reduceCtorEq, z_1, nI_add, z_cl, z_ib, z_lt, z_le, z_eq, z_eq0, z_le0, z_lt0, z_b0, z_b1, z_m1, z_and7, Int32.add_zero, e1269_36 hF, m_ownedBy hF W MB ow kl, e1269_41 hF]
        | false =>
          -- who is not in it has none; the class doesn't even pick
          have o0 : own h (pw h c y) k k = 0 := own_0 (fun o ho hh => by have := pw_all W c0 cl y o ho; rw [hh, hb] at this; cases this) k
          obtain ⟨B, b1, b2, b3, b4⟩ := m_picks (L := L) hF W M c0 cl (show y ≤ 2 by omega)
          have YB := Y.pk W (fun r k c1 c2 c3 c4 c5 c6 _ _ => b2 r k c1 c2 c3 c4 c5 c6)
          refine NXT.mk (x := 0) (I1 := I) (L1 := L) ?_ ?_ Z (X.lo (fun r k hr => b2 r k (by omega) (by omega) (by omega) (by omega) (by omega) (by omega)) (fun _ _ _ => rfl)) YB
          · rw [e112_0 hF, c_hasCoalition hF W H]
            simp (disch := omega) only [pm_k_i, Option.toList_some, Option.toList_none, List.cons_append, List.nil_append, cond_true, cond_false, ↓reduceIte, reduceCtorEq, z_1, nI_add, z_cl, z_ib, z_lt, z_le, z_eq, z_eq0, z_le0, z_lt0, z_b0, z_b1, z_m1, z_and7, Int32.add_zero, hv, hu, ht, e112_8 hF, c_isWay hF, e112_15 hF, c_hasParty hF W H, e112_26 hF, Bool.toNat_true]
            try rw [if_neg (show ¬ nI 1 = 0 from by decide)]
            simp (disch := omega) only [pm_k_i, Option.toList_some, Option.toList_none, List.cons_append, List.nil_append, cond_true, cond_false, ↓reduceIte, reduceCtorEq, z_1, nI_add, z_cl, z_ib, z_lt, z_le, z_eq, z_eq0, z_le0, z_lt0, z_b0, z_b1, z_m1, z_and7, Int32.add_zero, c_isIn hF, e112_36 hF, hb, Bool.toNat_false]
            try rw [if_pos (show nI 0 = 0 from rfl)]
          · try dsimp only
            rw [e1269_0 hF, m_isCoalition hF W M]
            simp (disch := omega) only [pm_k_i, Option.toList_some, Option.toList_none, List.cons_append, List.nil_append, cond_true, cond_false, ↓reduceIte, reduceCtorEq, z_1, nI_add, z_cl, z_ib, z_lt, z_le, z_eq, z_eq0, z_le0, z_lt0, z_b0, z_b1, z_m1, z_and7, Int32.add_zero, hv, hu, ht, e1269_5 hF, m_isWay hF, e1269_17 hF, m_isParty hF W M, e1269_25 hF, Bool.toNat_true]
            try rw [if_neg (show ¬ nI 1 = 0 from by decide)]
            rw [b1]
            simp (disch := omega) only [pm_k_i, Option.toList_some, Option.toList_none, List.cons_append, List.nil_append, cond_true, cond_false, ↓reduceIte, reduceCtorEq, z_1, nI_add, z_cl, z_ib, z_lt, z_le, z_eq, z_eq0, z_le0, z_lt0, z_b0, z_b1, z_m1, z_and7, Int32.add_zero, e1269_36 hF, m_ownedBy hF W YB.H b3 kl, e1269_41 hF, o0]
            rfl
theorem s_swaps (hF : pm_fix pt_me pt_Sg (pt_R L0 xs) F) (Z : GS h n b C w a sn) (X : K1 q h n b fa pl C w a sn I L) (Y : K2 h n b fa pl C w a sn I) (x : Int32) : NXT q (F 113 0 [some (.ref 0), some (.int x)] [] (81, pt_G, I, L)) (fun I L => (F 1278 0 [some (.ref 49), some (.int x)] [] (81, pt_G, I, L))) := by
  have W := Z.1
  have hP := W.P
  have hO := W.O
  have hE := ev_lt W
  have H := X.H
  have M := Y.H
  cases hv : vC h x with
  | false =>
    exact NXT.same Z X Y (x := -1) (by
      rw [e113_0 hF, c_hasCoalition hF W H]
      simp (disch := omega) only [pm_k_i, Option.toList_some, Option.toList_none, List.cons_append, List.nil_append, cond_true, cond_false, ↓reduceIte, reduceCtorEq, z_1, nI_add, z_cl, z_ib, z_lt, z_le, z_eq, z_eq0, z_le0, z_lt0, z_b0, z_b1, z_m1, z_and7, Int32.add_zero, hv, e113_8 hF]) (by
      try dsimp only
      rw [e1278_0 hF, m_isCoalition hF W M]
      simp (disch := omega) only [pm_k_i, Option.toList_some, Option.toList_none, List.cons_append, List.nil_append, cond_true, cond_false, ↓reduceIte, reduceCtorEq, z_1, nI_add, z_cl, z_ib, z_lt, z_le, z_eq, z_eq0, z_le0, z_lt0, z_b0, z_b1, z_m1, z_and7, Int32.add_zero, hv, e1278_5 hF])
  | true =>
    obtain ⟨c, c0, cl, rfl⟩ := vC_of W hv
    obtain ⟨⟨e, v, e1, v1, cx, fo⟩, k0⟩ := X
    obtain ⟨A, K, a1, a2, a3⟩ := c_picked hF W cx c0 cl (y := 1) (by omega)
    have a1 : (F 307 0 [some (.ref 30), some (.int (nI c)), some (.int 1), none] [] (81, pt_G, I, L)) = _ := a1
    have YA := Y.hi W a2.hi
    obtain ⟨B, b1, b2, b3, b4⟩ := m_picks (L := K) hF W YA.H c0 cl (y := 2) (by omega)
    have b1 : (F 1266 0 [some (.ref 49), some (.int (nI c)), some (.int 2), none, none, none] [] (81, pt_G, A, K)) = _ := b1
    have XA : K1 q h n b fa pl C w a sn A K := K1.fx e1 v1 a3 fo k0 a2
    have YB := YA.pk W (fun r k c1 c2 c3 c4 c5 c6 _ _ => b2 r k c1 c2 c3 c4 c5 c6)
    have MA := YA.H
    refine NXT.mk (x := nI (stn h (fs h c))) (I1 := A) (L1 := K) ?_ ?_ Z (XA.lo (fun r k hr => b2 r k (by omega) (by omega) (by omega) (by omega) (by omega) (by omega)) (fun _ _ _ => rfl)) YB
    · rw [e113_0 hF, c_hasCoalition hF W H]
      simp (disch := omega) only [pm_k_i, Option.toList_some, Option.toList_none, List.cons_append, List.nil_append, cond_true, cond_false, ↓reduceIte, reduceCtorEq, z_1, nI_add, z_cl, z_ib, z_lt, z_le, z_eq, z_eq0, z_le0, z_lt0, z_b0, z_b1, z_m1, z_and7, Int32.add_zero, hv, e113_8 hF, a1, e113_26 hF]
      have cs := c_countSwaps (I := A) (L := K) hF W a3.1 (fs_ok W c0 cl)
      have cs : (F 612 0 [some (.ref 23), some (.int (nI (hp (pw h c 1)))), none, none, none] [] (81, pt_G, A, K)) = _ := cs
      rw [cs]
      simp (disch := omega) only [pm_k_i, Option.toList_some, Option.toList_none, List.cons_append, List.nil_append, cond_true, cond_false, ↓reduceIte, reduceCtorEq, z_1, nI_add, z_cl, z_ib, z_lt, z_le, z_eq, z_eq0, z_le0, z_lt0, z_b0, z_b1, z_m1, z_and7, Int32.add_zero, e113_29 hF]
    · try dsimp only
      rw [e1278_0 hF, m_isCoalition hF W MA]
      simp (disch := omega) only [pm_k_i, Option.toList_some, Option.toList_none, List.cons_append, List.nil_append, cond_true, cond_false, ↓reduceIte, reduceCtorEq, z_1, nI_add, z_cl, z_ib, z_lt, z_le, z_eq, z_eq0, z_le0, z_lt0, z_b0, z_b1, z_m1, z_and7, Int32.add_zero, hv, e1278_5 hF, b1, e1278_16 hF, b4 rfl]
theorem s_envy (hF : pm_fix pt_me pt_Sg (pt_R L0 xs) F) (Z : GS h n b C w a sn) (X : K1 q h n b fa pl C w a sn I L) (Y : K2 h n b fa pl C w a sn I) (x y : Int32) : NXT q (F 119 0 [some (.ref 0), some (.int x), some (.int y)] [] (81, pt_G, I, L)) (fun I L => (F 1274 0 [some (.ref 49), some (.int x), some (.int y), none, none, none] [] (81, pt_G, I, L))) := by
  have W := Z.1
  have hP := W.P
  have hE := ev_lt W
  have H := X.H
  have M := Y.H
  have n1 : (vC h x && vP 3 y) = false → NXT q (F 119 0 [some (.ref 0), some (.int x), some (.int y)] [] (81, pt_G, I, L)) (fun I L => (F 1274 0 [some (.ref 49), some (.int x), some (.int y), none, none, none] [] (81, pt_G, I, L))) := by
    intro hn
    refine NXT.same Z X Y (x := -1) ?_ ?_
    · rw [e119_0 hF, c_hasCoalition hF W H]
      simp (disch := omega) only [pm_k_i, Option.toList_some, Option.toList_none, List.cons_append, List.nil_append, cond_true, cond_false, ↓reduceIte, reduceCtorEq, z_1, nI_add, z_cl, z_ib, z_lt, z_le, z_eq, z_eq0, z_le0, z_lt0, z_b0, z_b1, z_m1, z_and7, Int32.add_zero, e119_8 hF, c_isWay hF, e119_15 hF]
      cases hv : vC h x
      · rfl
      · rw [hv] at hn
        rw [show vP 3 y = false from hn]
        rfl
    · try dsimp only
      rw [e1274_0 hF, m_isCoalition hF W M]
      simp (disch := omega) only [pm_k_i, Option.toList_some, Option.toList_none, List.cons_append, List.nil_append, cond_true, cond_false, ↓reduceIte, reduceCtorEq, z_1, nI_add, z_cl, z_ib, z_lt, z_le, z_eq, z_eq0, z_le0, z_lt0, z_b0, z_b1, z_m1, z_and7, Int32.add_zero, e1274_5 hF, m_isWay hF, e1274_17 hF]
      cases hv : vC h x
      · rfl
      · rw [hv] at hn
        rw [show vP 3 y = false from hn]
        rfl
  cases hv : vC h x with
  | false => exact n1 (by rw [hv]; rfl)
  | true =>
    cases hu : vP 3 y with
    | false => exact n1 (by rw [hv, hu]; rfl)
    | true =>
      obtain ⟨c, c0, cl, rfl⟩ := vC_of W hv
      obtain ⟨y, yl, rfl⟩ := vP_of (by omega) hu
      obtain ⟨A, K, B, a1, b1, HA, MA, MB, ow, sw, XB, YB⟩ := pk_both hF W X Y c0 cl (show y ≤ 2 by omega)
      have wk := pw_ok W c0 cl y
      have g := hp_lt wk.1
      have en := c_countEnvy (I := A) (L := K) hF W HA (show c < 128 by omega) g
      rw [gs_hp wk.1] at en
      refine NXT.mk (x := nI (env h c (pw h c y))) (I1 := A) (L1 := K) ?_ ?_ Z XB YB
      · rw [e119_0 hF, c_hasCoalition hF W H]
        simp (disch := omega) only [pm_k_i, Option.toList_some, Option.toList_none, List.cons_append, List.nil_append, cond_true, cond_false, ↓reduceIte, reduceCtorEq, z_1, nI_add, z_cl, z_ib, z_lt, z_le, z_eq, z_eq0, z_le0, z_lt0, z_b0, z_b1, z_m1, z_and7, Int32.add_zero, hv, hu, e119_8 hF, c_isWay hF, e119_15 hF, a1, e119_34 hF, en, e119_37 hF]
      · try dsimp only
        rw [e1274_0 hF, m_isCoalition hF W MA]
        simp (disch := omega) only [pm_k_i, Option.toList_some, Option.toList_none, List.cons_append, List.nil_append, cond_true, cond_false, ↓reduceIte, reduceCtorEq, z_1, nI_add, z_cl, z_ib, z_lt, z_le, z_eq, z_eq0, z_le0, z_lt0, z_b0, z_b1, z_m1, z_and7, Int32.add_zero, hv, hu, e1274_5 hF, m_isWay hF, e1274_17 hF, b1]
        exact m_envy_run hF W MB ow (by omega) (pw_all W c0 cl y)
end
