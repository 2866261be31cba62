/-! ===== the class asked: what it answers, what it is then ===== -/
section
variable {h : Nat → Nat → Nat} {I I' : Nat → Nat → Int32} {L L' : Nat → Nat → Int64}
variable {q n C a c : Nat} {b w : Nat → Nat} {fa pl : Int32} {sn : Nat → SN} {e v : Nat}
variable {F : pm_F} {L0 : Nat} {xs : Nat → Int32} {S : pm_S}
/-- the class between calls -/
def KS (q : Nat) (h : Nat → Nat → Nat) (n : Nat) (b : Nat → Nat) (C : Nat) (w : Nat → Nat) (a : Nat) (sn : Nat → SN) (S : pm_S) : Prop := ∃ fa pl I L, S = (49, pt_G, I, L) ∧ GS h n b C w a sn ∧ K1 q h n b fa pl C w a sn I L
/-- it answers that, and is so -/
def RS (r : pm_R) (x : Int32) (P : pm_S → Prop) : Prop := ∃ S', r = some (some (.int x), S') ∧ P S'
theorem KS.mk (Z : GS h n b C w a sn) (X : K1 q h n b fa pl C w a sn I L) : KS q h n b C w a sn (49, pt_G, I, L) := ⟨fa, pl, I, L, rfl, Z, X⟩
theorem KS.W (X : KS q h n b C w a sn S) : WF h := by obtain ⟨fa, pl, I, L, rfl, Z, X⟩ := X; exact Z.1
theorem KS.CAB (X : KS q h n b C w a sn S) : CAB h C w := by obtain ⟨fa, pl, I, L, rfl, Z, X⟩ := X; exact Z.2.1
theorem KS.n9 (X : KS q h n b C w a sn S) : n ≤ 900 := by obtain ⟨fa, pl, I, L, rfl, Z, X⟩ := X; exact Z.2.2.2.2.1
theorem KS.b256 (X : KS q h n b C w a sn S) : ∀ i, b i < 256 := by obtain ⟨fa, pl, I, L, rfl, Z, X⟩ := X; exact Z.2.2.2.2.2
theorem KS.one (X : KS q h n b C w a sn S) : S.1 = 49 ∧ S.2.1 = pt_G := by obtain ⟨fa, pl, I, L, rfl, Z, X⟩ := X; exact ⟨rfl, rfl⟩
theorem RS.same {r : pm_R} {x : Int32} (Z : GS h n b C w a sn) (X : K1 q h n b fa pl C w a sn I L) (hr : r = some (some (.int x), (49, pt_G, I, L))) : RS r x (KS q h n b C w a sn) := ⟨_, hr, KS.mk Z X⟩
theorem vC_nI (W : WF h) (c0 : 0 < c) (cl : c ≤ ev h) : vC h (nI c) = true := by
  have hE := ev_lt W
  unfold vC
  rw [nI_toInt (by omega)]
  exact decide_eq_true (by omega)
theorem vP_t {m k : Nat} (hk : k < m) (hm : m < 2147483648) : vP m (nI k) = true := by
  rw [vP_nI (by omega)]
  exact decide_eq_true hk
theorem ca_kind (hF : pm_fix pt_me pt_Sg (pt_R L0 xs) F) (X : KS q h n b C w a sn S) (c0 : 0 < c) (cl : c ≤ ev h) : RS (F 121 0 [some (.ref 0), some (.int (nI c))] [] S) (nI (kin h c)) (KS q h n b C w a sn) := by
  obtain ⟨fa, pl, I, L, rfl, Z, X⟩ := X
  have W := Z.1
  have hE := ev_lt W
  have H := X.H
  have hv := vC_nI W c0 cl
  obtain ⟨⟨e, v, e1, v1, cx, fo⟩, k0⟩ := X
  obtain ⟨A, K, a1, a2, a3, a4, a5⟩ := c_learnAll hF W cx
  obtain ⟨A', d1, d2, d3⟩ := c_kindOf hF W a3 a4 c0 cl
  have fx := a2.tr (FX.s (L := K) (fun r k z _ _ => d2 r k z))
  have XA : K1 q h n b fa pl C w a sn A' K := K1.fx e1 v1 d3.1 fo k0 fx
  refine RS.same Z XA ?_
  rw [e121_0 hF, c_hasCoalition hF W H]
  simp (disch := omega) only [pm_k_i, Option.toList_some, Option.toList_none, List.cons_append, List.nil_append, cond_true, cond_false, ↓reduceIte, reduceCtorEq, z_1, nI_add, z_cl, z_ib, z_lt, z_le, z_eq, z_eq0, z_le0, z_lt0, z_b0, z_b1, z_m1, z_and7, Int32.add_zero, hv, e121_8 hF, a1, e121_20 hF, d1, e121_28 hF]
theorem ca_kind0 (hF : pm_fix pt_me pt_Sg (pt_R L0 xs) F) (X : KS q h n b C w a sn S) {x : Int32} (hv : vC h x = false) : RS (F 121 0 [some (.ref 0), some (.int x)] [] S) (-1) (KS q h n b C w a sn) := by
  obtain ⟨fa, pl, I, L, rfl, Z, X⟩ := X
  have W := Z.1
  have H := X.H
  refine RS.same Z X ?_
  rw [e121_0 hF, c_hasCoalition hF W H]
  simp (disch := omega) only [pm_k_i, Option.toList_some, Option.toList_none, List.cons_append, List.nil_append, cond_true, cond_false, ↓reduceIte, reduceCtorEq, z_1, nI_add, z_cl, z_ib, z_lt, z_le, z_eq, z_eq0, z_le0, z_lt0, z_b0, z_b1, z_m1, z_and7, Int32.add_zero, hv, e121_8 hF]
theorem ca_rival (hF : pm_fix pt_me pt_Sg (pt_R L0 xs) F) (X : KS q h n b C w a sn S) (c0 : 0 < c) (cl : c ≤ ev h) : RS (F 124 0 [some (.ref 0), some (.int (nI c))] [] S) (nI (rvl h c)) (KS q h n b C w a sn) := by
  obtain ⟨fa, pl, I, L, rfl, Z, X⟩ := X
  have W := Z.1
  have hE := ev_lt W
  have H := X.H
  have hv := vC_nI W c0 cl
  obtain ⟨⟨e, v, e1, v1, cx, fo⟩, k0⟩ := X
  obtain ⟨A0, K0', l1, l2, l3, l4, l5⟩ := c_learn hF W cx c0 cl
  obtain ⟨A, K, a1, a2, a3, a4, a5⟩ := c_learnAll hF W l3.1
  have c33 := a5 l3.2 c c0 cl l4
  obtain ⟨A', d1, d2, d3⟩ := c_rivalOf hF W a3 a4 c0 cl c33
  have fx := (l2.tr a2).tr (FX.s (L := K) (fun r k z _ _ => d2 r k z))
  have XA : K1 q h n b fa pl C w a sn A' K := K1.fx e1 v1 d3.1 fo k0 fx
  refine RS.same Z XA ?_
  rw [e124_0 hF, c_hasCoalition hF W H]
  simp (disch := omega) only [pm_k_i, Option.toList_some, Option.toList_none, List.cons_append, List.nil_append, cond_true, cond_false, ↓reduceIte, reduceCtorEq, z_1, nI_add, z_cl, z_ib, z_lt, z_le, z_eq, z_eq0, z_le0, z_lt0, z_b0, z_b1, z_m1, z_and7, Int32.add_zero, hv, e124_8 hF, l1, e124_21 hF, a1, e124_28 hF, d1, e124_36 hF]
theorem ca_joins (hF : pm_fix pt_me pt_Sg (pt_R L0 xs) F) (X : KS q h n b C w a sn S) (c0 : 0 < c) (cl : c ≤ ev h) : RS (F 132 0 [some (.ref 0), some (.int (nI c))] [] S) (bif can h c then 0 else oI (joi h c)) (KS q h n b C w a sn) := by
  obtain ⟨fa, pl, I, L, rfl, Z, X⟩ := X
  have W := Z.1
  have hE := ev_lt W
  have H := X.H
  have hv := vC_nI W c0 cl
  obtain ⟨⟨e, v, e1, v1, cx, fo⟩, k0⟩ := X
  obtain ⟨A, a1, a2, a3, a4, a5⟩ := c_freshen hF W cx
  have XA : K1 q h n b fa pl C w a sn A L := K1.fx e1 v1 a3 fo k0 a2
  refine RS.same Z XA ?_
  rw [e132_0 hF, c_hasCoalition hF W H]
  simp (disch := omega) only [pm_k_i, Option.toList_some, Option.toList_none, List.cons_append, List.nil_append, cond_true, cond_false, ↓reduceIte, reduceCtorEq, z_1, nI_add, z_cl, z_ib, z_lt, z_le, z_eq, z_eq0, z_le0, z_lt0, z_b0, z_b1, z_m1, z_and7, Int32.add_zero, hv, e132_8 hF, a1, e132_20 hF, c_fewestToJoin hF W a3.1 (a3.ct a4).2 cl, e132_28 hF]
theorem ca_pivot (hF : pm_fix pt_me pt_Sg (pt_R L0 xs) F) (X : KS q h n b C w a sn S) {p : Nat} (pP : p < h 0 0) : RS (F 131 0 [some (.ref 0), some (.int (nI p))] [] S) (nI (pvC h p)) (KS q h n b C w a sn) := by
  obtain ⟨fa, pl, I, L, rfl, Z, X⟩ := X
  have W := Z.1
  have hP := W.P
  have H := X.H
  have hv := vP_t (m := h 0 0) pP (by omega)
  obtain ⟨⟨e, v, e1, v1, cx, fo⟩, k0⟩ := X
  obtain ⟨A, a1, a2, a3, a4, a5⟩ := c_freshen hF W cx
  have XA : K1 q h n b fa pl C w a sn A L := K1.fx e1 v1 a3 fo k0 a2
  refine RS.same Z XA ?_
  rw [e131_0 hF, c_hasParty hF W H]
  simp (disch := omega) only [pm_k_i, Option.toList_some, Option.toList_none, List.cons_append, List.nil_append, cond_true, cond_false, ↓reduceIte, reduceCtorEq, z_1, nI_add, z_cl, z_ib, z_lt, z_le, z_eq, z_eq0, z_le0, z_lt0, z_b0, z_b1, z_m1, z_and7, Int32.add_zero, hv, e131_8 hF, a1, e131_20 hF, c_countPivots hF W a3.1 (a3.ct a4).2 pP, e131_28 hF]
theorem ca_pay (hF : pm_fix pt_me pt_Sg (pt_R L0 xs) F) (X : KS q h n b C w a sn S) (c0 : 0 < c) (cl : c ≤ ev h) {p : Nat} (pP : p < h 0 0) : RS (F 116 0 [some (.ref 0), some (.int (nI c)), some (.int (nI p))] [] S) (pyc h c p) (KS q h n b C w a sn) := by
  obtain ⟨fa, pl, I, L, rfl, Z, X⟩ := X
  have W := Z.1
  have hP := W.P
  have hE := ev_lt W
  have H := X.H
  have hv := vC_nI W c0 cl
  have hu := vP_t (m := h 0 0) pP (by omega)
  obtain ⟨⟨e, v, e1, v1, cx, fo⟩, k0⟩ := X
  obtain ⟨A, K, a1, a2, a3, a4, a5⟩ := c_learn hF W cx c0 cl
  have XA : K1 q h n b fa pl C w a sn A K := K1.fx e1 v1 a3.1 fo k0 a2
  refine RS.same Z XA ?_
  rw [e116_0 hF, c_hasCoalition hF W H]
  simp (disch := omega) only [pm_k_i, Option.toList_some, Option.toList_none, List.cons_append, List.nil_append, cond_true, cond_false, ↓reduceIte, reduceCtorEq, z_1, nI_add, z_cl, z_ib, z_lt, z_le, z_eq, z_eq0, z_le0, z_lt0, z_b0, z_b1, z_m1, z_and7, Int32.add_zero, hv, hu, e116_8 hF, c_hasParty hF W H, e116_19 hF, a1, e116_33 hF, c_payOf hF W a3 c0 cl a4 pP, e116_42 hF]
theorem ca_many (hF : pm_fix pt_me pt_Sg (pt_R L0 xs) F) (X : KS q h n b C w a sn S) : RS (F 122 0 [some (.ref 0), some (.int 0)] [] S) (nI (cntP h (kp h 0))) (KS q h n b C w a sn) := by
  obtain ⟨fa, pl, I, L, rfl, Z, X⟩ := X
  have W := Z.1
  obtain ⟨⟨e, v, e1, v1, cx, fo⟩, k0⟩ := X
  obtain ⟨A, K, a1, a2, a3, a4, a5⟩ := c_learnAll hF W cx
  obtain ⟨A', d1, d2, d3⟩ := c_countOf hF W a3 a4 (K := 0) (by omega)
  have fx := a2.tr (FX.s (L := K) (fun r k z _ _ => d2 r k z))
  have XA : K1 q h n b fa pl C w a sn A' K := K1.fx e1 v1 d3.1 fo k0 fx
  refine RS.same Z XA ?_
  rw [e122_0 hF, g_32, show vP 32 0 = true by decide, show (0 : Int32) = nI 0 from rfl]
  simp (disch := omega) only [pm_k_i, Option.toList_some, Option.toList_none, List.cons_append, List.nil_append, cond_true, cond_false, ↓reduceIte, reduceCtorEq, z_1, nI_add, z_cl, z_ib, z_lt, z_le, z_eq, z_eq0, z_le0, z_lt0, z_b0, z_b1, z_m1, z_and7, Int32.add_zero, a1, e122_19 hF, d1, e122_27 hF]
theorem ca_drift (hF : pm_fix pt_me pt_Sg (pt_R L0 xs) F) (X : KS q h n b C w a sn S) (c0 : 0 < c) (cl : c ≤ ev h) : RS (F 134 0 [some (.ref 0), some (.int (nI c)), some (.int 1)] [] S) (bif Nat.beq (rvl h (drS h c (drN h c)).1) 0 then nI (drS h c (drN h c)).1 else 0) (KS q h n b C w a sn) := by
  obtain ⟨fa, pl, I, L, rfl, Z, X⟩ := X
  have W := Z.1
  have hE := ev_lt W
  have H := X.H
  have hv := vC_nI W c0 cl
  obtain ⟨⟨e, v, e1, v1, cx, fo⟩, k0⟩ := X
  obtain ⟨A0, K0', l1, l2, l3, l4, l5⟩ := c_learn hF W cx c0 cl
  obtain ⟨A, K, a1, a2, a3, a4, a5⟩ := c_learnAll hF W l3.1
  have c33 := a5 l3.2 c c0 cl l4
  obtain ⟨A', d1, d2, d3⟩ := c_driftFrom hF W a3 a4 c0 cl c33 true
  have fx := (l2.tr a2).tr (FX.s (L := K) (fun r k z _ z2 => d2 r k z z2))
  have XA : K1 q h n b fa pl C w a sn A' K := K1.fx e1 v1 d3.1 fo k0 fx
  refine RS.same Z XA ?_
  rw [e134_0 hF, c_hasCoalition hF W H]
  simp (disch := omega) only [pm_k_i, Option.toList_some, Option.toList_none, List.cons_append, List.nil_append, cond_true, cond_false, ↓reduceIte, reduceCtorEq, z_1, nI_add, z_cl, z_ib, z_lt, z_le, z_eq, z_eq0, z_le0, z_lt0, z_b0, z_b1, z_m1, z_and7, Int32.add_zero, hv, e134_8 hF, g_2, show vP 2 1 = true by decide, l1, e134_30 hF, a1, e134_37 hF]
  have d1 : (F 319 0 [some (.ref 30), some (.int (nI c)), some (.int 1), none, none, none] [] (49, pt_G, A, K)) = _ := d1
  try rw [if_pos (show (1 : Int32) ≤ 1 by decide)]
  try rw [if_pos (show true = true from rfl)]
  rw [d1]
  simp (disch := omega) only [pm_k_i, Option.toList_some, Option.toList_none, List.cons_append, List.nil_append, cond_true, cond_false, ↓reduceIte, reduceCtorEq, z_1, nI_add, z_cl, z_ib, z_lt, z_le, z_eq, z_eq0, z_le0, z_lt0, z_b0, z_b1, z_m1, z_and7, Int32.add_zero, e134_55 hF]
theorem ca_turn (hF : pm_fix pt_me pt_Sg (pt_R L0 xs) F) (X : KS q h n b C w a sn S) (c0 : 0 < c) (cl : c ≤ ev h) {i : Nat} (hi : i < h 0 1) : RS (F 109 0 [some (.ref 0), some (.int (nI c)), some (.int (nI i))] [] S) (nI (du h c i)) (KS q h n b C w a sn) := by
  obtain ⟨fa, pl, I, L, rfl, Z, X⟩ := X
  have W := Z.1
  have hP := W.P
  have hO := W.O
  have hE := ev_lt W
  have H := X.H
  have ct := c_turnBy (L := L) hF W H (x := nI c) (i := nI i) (f := nI (h 0 2)) (s := nI (h 0 3)) rfl rfl W.f.1 W.f.2 W.s.1 W.s.2
  refine RS.same Z X ?_
  rw [e109_0 hF, H.f, H.s, ct, vC_nI W c0 cl, vP_t hi (by omega), z_cl (by omega), z_cl (by omega), ← (du_ok W c0 cl).2.2 i hi]
  simp (disch := omega) only [pm_k_i, Option.toList_some, Option.toList_none, List.cons_append, List.nil_append, cond_true, cond_false, ↓reduceIte, reduceCtorEq, z_1, nI_add, z_cl, z_ib, z_lt, z_le, z_eq, z_eq0, z_le0, z_lt0, z_b0, z_b1, z_m1, z_and7, Int32.add_zero, e109_20 hF, Bool.true_and]
theorem ca_gets (hF : pm_fix pt_me pt_Sg (pt_R L0 xs) F) (X : KS q h n b C w a sn S) (c0 : 0 < c) (cl : c ≤ ev h) {y k : Nat} (yl : y < 3) (kl : k < h 0 1) : RS (F 111 0 [some (.ref 0), some (.int (nI c)), some (.int (nI y)), some (.int (nI k))] [] S) (nI (pw h c y k)) (KS q h n b C w a sn) := by
  obtain ⟨fa, pl, I, L, rfl, Z, X⟩ := X
  have W := Z.1
  have hP := W.P
  have hO := W.O
  have hE := ev_lt W
  have H := X.H
  have hv := vC_nI W c0 cl
  have hu := vP_t (m := 3) yl (by omega)
  have ht := vP_t (m := h 0 1) kl (by omega)
  obtain ⟨⟨e, v, e1, v1, cx, fo⟩, k0⟩ := id X
  obtain ⟨A, K, a1, a2, a3⟩ := c_picked hF W cx c0 cl (y := y) (by omega)
  have XA : K1 q h n b fa pl C w a sn A K := K1.fx e1 v1 a3 fo k0 a2
  have wk := pw_ok W c0 cl y
  have g := hp_lt wk.1
  refine RS.same Z XA ?_
  rw [e111_0 hF, c_hasCoalition hF W H]
  simp (disch := omega) only [pm_k_i, Option.toList_some, Option.toList_none, List.cons_append, List.nil_append, cond_true, cond_false, ↓reduceIte, reduceCtorEq, z_1, nI_add, z_cl, z_ib, z_lt, z_le, z_eq, z_eq0, z_le0, z_lt0, z_b0, z_b1, z_m1, z_and7, Int32.add_zero, hv, hu, ht, e111_8 hF, c_isWay hF, e111_15 hF, c_hasOffice hF W H, e111_26 hF, Bool.toNat_true]
  try rw [if_neg (show ¬ nI 1 = 0 from by decide)]
  rw [a1]
  simp (disch := omega) only [pm_k_i, Option.toList_some, Option.toList_none, List.cons_append, List.nil_append, cond_true, cond_false, ↓reduceIte, reduceCtorEq, z_1, nI_add, z_cl, z_ib, z_lt, z_le, z_eq, z_eq0, z_le0, z_lt0, z_b0, z_b1, z_m1, z_and7, Int32.add_zero, e111_40 hF, c_get hF, gs_hp wk.1, e111_44 hF]
theorem ca_has (hF : pm_fix pt_me pt_Sg (pt_R L0 xs) F) (X : KS q h n b C w a sn S) (c0 : 0 < c) (cl : c ≤ ev h) {y k : Nat} (yl : y < 3) (kl : k < h 0 0) : RS (F 112 0 [some (.ref 0), some (.int (nI c)), some (.int (nI y)), some (.int (nI k))] [] S) (nI (own h (pw h c y) k k)) (KS q h n b C w a sn) := by
  obtain ⟨fa, pl, I, L, rfl, Z, X⟩ := X
  have W := Z.1
  have hP := W.P
  have hO := W.O
  have hE := ev_lt W
  have H := X.H
  have hv := vC_nI W c0 cl
  have hu := vP_t (m := 3) yl (by omega)
  have ht := vP_t (m := h 0 0) kl (by omega)
  cases hb : c.testBit k with
  | true =>
    obtain ⟨⟨e, v, e1, v1, cx, fo⟩, k0⟩ := id X
    obtain ⟨A, K, a1, a2, a3⟩ := c_picked hF W cx c0 cl (y := y) (by omega)
    have XA : K1 q h n b fa pl C w a sn A K := K1.fx e1 v1 a3 fo k0 a2
    have wk := pw_ok W c0 cl y
    have g := hp_lt wk.1
    have own1 := c_worthOfHeld (I := A) (L := K) hF W a3.1 (show k < 8 by omega) g kl
    rw [gs_hp wk.1] at own1
    refine RS.same Z XA ?_
    rw [e112_0 hF, c_hasCoalition hF W H]
    simp (disch := omega) only [pm_k_i, Option.toList_some, Option.toList_none, List.cons_append, List.nil_append, cond_true, cond_false, ↓reduceIte, reduceCtorEq, z_1, nI_add, z_cl, z_ib, z_lt, z_le, z_eq, z_eq0, z_le0, z_lt0, z_b0, z_b1, z_m1, z_and7, Int32.add_zero, hv, hu, ht, e112_8 hF, c_isWay hF, e112_15 hF, c_hasParty hF W H, e112_26 hF, Bool.toNat_true]
    try rw [if_neg (show ¬ nI 1 = 0 from by decide)]
    simp (disch := omega) only [pm_k_i, Option.toList_some, Option.toList_none, List.cons_append, List.nil_append, cond_true, cond_false, ↓reduceIte, reduceCtorEq, z_1, nI_add, z_cl, z_ib, z_lt, z_le, z_eq, z_eq0, z_le0, z_lt0, z_b0, z_b1, z_m1, z_and7, Int32.add_zero, c_isIn hF, e112_36 hF, hb, Bool.toNat_true]
    try rw [if_neg (show ¬ nI 1 = 0 from by decide)]
    rw [a1]
    simp (disch := omega) only [pm_k_i, Option.toList_some, Option.toList_none, List.cons_append, List.nil_append, cond_true, cond_false, ↓reduceIte, reduceCtorEq, z_1, nI_add, z_cl, z_ib, z_lt, z_le, z_eq, z_eq0, z_le0, z_lt0, z_b0, z_b1, z_m1, z_and7, Int32.add_zero, e112_55 hF, own1, e112_59 hF]
  | false =>
    have o0 : own h (pw h c y) k k = 0 := own_0 (fun o ho hh => by have := pw_all W c0 cl y o ho; rw [hh, hb] at this; cases this) k
    refine RS.same Z X ?_
    rw [e112_0 hF, c_hasCoalition hF W H]
    simp (disch := omega) only [pm_k_i, Option.toList_some, Option.toList_none, List.cons_append, List.nil_append, cond_true, cond_false, ↓reduceIte, reduceCtorEq, z_1, nI_add, z_cl, z_ib, z_lt, z_le, z_eq, z_eq0, z_le0, z_lt0, z_b0, z_b1, z_m1, z_and7, Int32.add_zero, hv, hu, ht, e112_8 hF, c_isWay hF, e112_15 hF, c_hasParty hF W H, e112_26 hF, Bool.toNat_true]
    try rw [if_neg (show ¬ nI 1 = 0 from by decide)]
    simp (disch := omega) only [pm_k_i, Option.toList_some, Option.toList_none, List.cons_append, List.nil_append, cond_true, cond_false, ↓reduceIte, reduceCtorEq, z_1, nI_add, z_cl, z_ib, z_lt, z_le, z_eq, z_eq0, z_le0, z_lt0, z_b0, z_b1, z_m1, z_and7, Int32.add_zero, c_isIn hF, e112_36 hF, hb, Bool.toNat_false]
    try rw [if_pos (show nI 0 = 0 from rfl)]
    rw [o0]
    try rfl
theorem ca_instead (hF : pm_fix pt_me pt_Sg (pt_R L0 xs) F) (X : KS q h n b C w a sn S) (c0 : 0 < c) (cl : c ≤ ev h) {j o : Nat} (jl : j < h 0 1) (ol : o < h 0 1) : RS (F 114 0 [some (.ref 0), some (.int (nI c)), some (.int (nI j)), some (.int (nI o)), none] [] S) (inv h (du h c) j o) (KS q h n b C w a sn) := by
  obtain ⟨fa, pl, I, L, rfl, Z, X⟩ := X
  have W := Z.1
  have hP := W.P
  have hO := W.O
  have hE := ev_lt W
  have H := X.H
  have hv := vC_nI W c0 cl
  have hi := vP_t (m := h 0 1) jl (by omega)
  have h1 := vP_t (m := h 0 1) ol (by omega)
  obtain ⟨⟨e, v, e1, v1, cx, fo⟩, k0⟩ := X
  have d := du_ok W c0 cl
  have dt : ∀ i, i < h 0 1 → du h c i < h 0 0 := fun i hi => (d.2.1 i hi).1
  obtain ⟨A, K, a1, a2, a3, a4, a5, a6⟩ := c_lookAhead hF W H d.1 dt (cx.pc _ d.1 dt)
  have fx : FX I A L K := ⟨fun r k hx => a2 r k (fun z => by unfold xc at hx; omega) (fun z => hx (by unfold xc; omega)) (fun z => hx (by unfold xc; omega)), a3⟩
  have e8 : A 3 8 = I 3 8 := fx.1 3 8 (by unfold xc; omega)
  have cxA : CX h e v A K := by
    obtain ⟨x1, x2, x3, x4, x5, x6, x7, x8, x9, x10, x11⟩ := cx
    have f30 : ∀ k, A 30 k = I 30 k := fun k => a2 30 k (by omega) (by omega) (by omega)
    refine ⟨fx.H x1, by rw [e8]; exact x2, by rw [fx.1 3 9 (by unfold xc; omega)]; exact x3, x4, x5, ⟨e, Nat.le_refl _, by rw [a6]; exact x2⟩, ?_, by rw [f30]; exact x8, fun z => (x9 (by rw [f30] at z; exact z)).of (fun k => a2 34 k (by omega) (by omega) (by omega)) (fun k => a2 35 k (by omega) (by omega) (by omega)), by rw [f30]; exact x10, fun z => ?_⟩
    · intro t kt ht t5 t6
      rw [a5] at t5
      have : t = du h c := hp_inj kt d.1 (by
        have h1 := hp_lt kt
        have h2 := hp_lt d.1
        exact ((nI_eq (by omega) (by omega)).mp t5).symm)
      rw [this]
      exact a4
    · rw [f30] at z
      obtain ⟨y0, y1, y2, y3⟩ := x11 z
      have fr : ∀ r k, 31 ≤ r → r ≤ 39 → A r k = I r k := fun r k p1 p2 => a2 r k (by omega) (by omega) (by omega)
      refine ⟨by rw [f30]; exact y0, by rw [f30]; exact y1, fun c hc => by rw [fr 31 c (by omega) (by omega), fr 32 c (by omega) (by omega)]; exact y2 c hc, fun c c0 c1 => ?_⟩
      obtain ⟨z1, z2, z3⟩ := y3 c c0 c1
      refine ⟨?_, by rw [fr 38 c (by omega) (by omega)]; exact z2, by rw [fr 39 c (by omega) (by omega)]; exact z3⟩
      rw [fr 33 c (by omega) (by omega)]
      rcases z1 with z1 | ⟨z1, l1, l2, l3⟩
      · exact Or.inl z1
      · exact Or.inr ⟨z1, by rw [fr 34 c (by omega) (by omega)]; exact l1, by rw [fr 35 c (by omega) (by omega)]; exact l2, fun p hp => by rw [fr 36 _ (by omega) (by omega), fr 37 _ (by omega) (by omega)]; exact l3 p hp⟩
  have HA := cxA.1
  have XA : K1 q h n b fa pl C w a sn A K := K1.fx e1 v1 cxA fo k0 fx
  refine RS.same Z XA ?_
  rw [e114_0 hF, c_hasCoalition hF W H]
  simp (disch := omega) only [pm_k_i, Option.toList_some, Option.toList_none, List.cons_append, List.nil_append, cond_true, cond_false, ↓reduceIte, reduceCtorEq, z_1, nI_add, z_cl, z_ib, z_lt, z_le, z_eq, z_eq0, z_le0, z_lt0, z_b0, z_b1, z_m1, z_and7, Int32.add_zero, hv, hi, h1, e114_8 hF, H.O, g_vP, c_hasOffice hF W H, e114_36 hF, H.f, H.s, c_dueOf hF W H c0 cl, e114_63 hF, a1, e114_74 hF, Bool.toNat_true]
  try rw [if_neg (show ¬ nI 1 = 0 from by decide)]
  simp (disch := omega) only [pm_k_i, Option.toList_some, Option.toList_none, List.cons_append, List.nil_append, cond_true, cond_false, ↓reduceIte, reduceCtorEq, z_1, nI_add, z_cl, z_ib, z_lt, z_le, z_eq, z_eq0, z_le0, z_lt0, z_b0, z_b1, z_m1, z_and7, Int32.add_zero, H.f, H.s, c_dueOf hF W H c0 cl, e114_63 hF, a1, e114_74 hF, c_ifPicked hF W HA d.1 dt a4 jl ol, e114_85 hF]
  try rw [if_pos jl]
theorem ca_about2 (hF : pm_fix pt_me pt_Sg (pt_R L0 xs) F) (X : KS q h n b C w a sn S) : RS (F 108 0 [some (.ref 0), some (.int 2)] [] S) (nI (need h)) (KS q h n b C w a sn) := by
  obtain ⟨fa, pl, I, L, rfl, Z, X⟩ := X
  have W := Z.1
  have H := X.H
  refine RS.same Z X ?_
  rw [e108_0 hF, if_neg (by decide), if_neg (by decide), if_pos (show (2 : Int32) = nI 2 from rfl)]
  simp (disch := omega) only [pm_k_i, Option.toList_some, Option.toList_none, List.cons_append, List.nil_append, cond_true, cond_false, ↓reduceIte, reduceCtorEq, z_1, nI_add, z_cl, z_ib, z_lt, z_le, z_eq, z_eq0, z_le0, z_lt0, z_b0, z_b1, z_m1, z_and7, Int32.add_zero, c_needNow hF W H, e108_83 hF]
theorem ca_about6 (hF : pm_fix pt_me pt_Sg (pt_R L0 xs) F) (X : KS q h n b C w a sn S) : RS (F 108 0 [some (.ref 0), some (.int 6)] [] S) (nI (sIn h (ev h))) (KS q h n b C w a sn) := by
  obtain ⟨fa, pl, I, L, rfl, Z, X⟩ := X
  have W := Z.1
  have H := X.H
  have hE := ev_lt W
  refine RS.same Z X ?_
  rw [e108_0 hF, if_neg (by decide), if_neg (by decide), if_neg (by decide), if_neg (by decide), if_neg (by decide), if_neg (by decide), if_pos (show (6 : Int32) = nI 6 from rfl)]
  simp (disch := omega) only [pm_k_i, Option.toList_some, Option.toList_none, List.cons_append, List.nil_append, cond_true, cond_false, ↓reduceIte, reduceCtorEq, z_1, nI_add, z_cl, z_ib, z_lt, z_le, z_eq, z_eq0, z_le0, z_lt0, z_b0, z_b1, z_m1, z_and7, Int32.add_zero, c_everyone hF W H, e108_119 hF, c_seatsIn hF W H, e108_122 hF]
theorem ca_about7 (hF : pm_fix pt_me pt_Sg (pt_R L0 xs) F) (X : KS q h n b C w a sn S) : RS (F 108 0 [some (.ref 0), some (.int 7)] [] S) (nI a) (KS q h n b C w a sn) := by
  obtain ⟨fa, pl, I, L, rfl, Z, X⟩ := X
  have k0 := X.2
  refine RS.same Z X ?_
  rw [e108_0 hF, if_neg (by decide), if_neg (by decide), if_neg (by decide), if_neg (by decide), if_neg (by decide), if_neg (by decide), if_neg (by decide), if_pos (show (7 : Int32) = nI 7 from rfl), k0.2.2.2.2.2.2.1]
theorem ca_party0 (hF : pm_fix pt_me pt_Sg (pt_R L0 xs) F) (X : KS q h n b C w a sn S) {p : Nat} (pP : p < h 0 0) : RS (F 106 0 [some (.ref 0), some (.int (nI p)), some (.int 0)] [] S) (nI (h 1 p)) (KS q h n b C w a sn) := by
  obtain ⟨fa, pl, I, L, rfl, Z, X⟩ := X
  have W := Z.1
  have hP := W.P
  have H := X.H
  have hv := vP_t (m := h 0 0) pP (by omega)
  refine RS.same Z X ?_
  rw [e106_0 hF, c_hasParty hF W H]
  simp (disch := omega) only [pm_k_i, Option.toList_some, Option.toList_none, List.cons_append, List.nil_append, cond_true, cond_false, ↓reduceIte, reduceCtorEq, z_1, nI_add, z_cl, z_ib, z_lt, z_le, z_eq, z_eq0, z_le0, z_lt0, z_b0, z_b1, z_m1, z_and7, Int32.add_zero, hv, e106_8 hF]
  try rw [if_neg (show ¬ nI 1 = 0 by decide)]
  rw [if_pos (show (0 : Int32) = nI 0 from rfl)]
  try simp (disch := omega) only [pm_k_i, Option.toList_some, Option.toList_none, List.cons_append, List.nil_append, cond_true, cond_false, ↓reduceIte, reduceCtorEq, z_1, nI_add, z_cl, z_ib, z_lt, z_le, z_eq, z_eq0, z_le0, z_lt0, z_b0, z_b1, z_m1, z_and7, Int32.add_zero, c_seatsOf hF W H, e106_56 hF]
theorem ca_party3 (hF : pm_fix pt_me pt_Sg (pt_R L0 xs) F) (X : KS q h n b C w a sn S) {p : Nat} (pP : p < h 0 0) : RS (F 106 0 [some (.ref 0), some (.int (nI p)), some (.int 3)] [] S) (nI (pc (hld h C w p))) (KS q h n b C w a sn) := by
  obtain ⟨fa, pl, I, L, rfl, Z, X⟩ := X
  have W := Z.1
  have hP := W.P
  have hE := ev_lt W
  have hc := Z.2.1
  have hc1 := hc.1
  have H := X.H
  have k0 := X.2
  have hv := vP_t (m := h 0 0) pP (by omega)
  have hk : C ≠ 0 → WK h w ∧ I 44 6 = nI (hp w) := fun z => ⟨(hc.2 z).1, k0.2.2.2.2.2.1 z⟩
  refine RS.same Z X ?_
  rw [e106_0 hF, c_hasParty hF W H]
  simp (disch := omega) only [pm_k_i, Option.toList_some, Option.toList_none, List.cons_append, List.nil_append, cond_true, cond_false, ↓reduceIte, reduceCtorEq, z_1, nI_add, z_cl, z_ib, z_lt, z_le, z_eq, z_eq0, z_le0, z_lt0, z_b0, z_b1, z_m1, z_and7, Int32.add_zero, hv, e106_8 hF]
  try rw [if_neg (show ¬ nI 1 = 0 by decide)]
  rw [if_neg (by decide), if_neg (by decide), if_neg (by decide), if_pos (show (3 : Int32) = nI 3 from rfl)]
  try simp (disch := omega) only [pm_k_i, Option.toList_some, Option.toList_none, List.cons_append, List.nil_append, cond_true, cond_false, ↓reduceIte, reduceCtorEq, z_1, nI_add, z_cl, z_ib, z_lt, z_le, z_eq, z_eq0, z_le0, z_lt0, z_b0, z_b1, z_m1, z_and7, Int32.add_zero, c_officesOf hF W H k0.2.2.2.2.1 (show C < 128 by omega) hk (show p < 8 by omega), e106_83 hF]
theorem ca_nowc (hF : pm_fix pt_me pt_Sg (pt_R L0 xs) F) (X : KS q h n b C w a sn S) : RS (F 138 0 [some (.ref 0), some (.int (-1))] [] S) (nI C) (KS q h n b C w a sn) := by
  obtain ⟨fa, pl, I, L, rfl, Z, X⟩ := X
  have k0 := X.2
  refine RS.same Z X ?_
  rw [e138_0 hF, if_pos rfl, e138_23 hF, k0.2.2.2.2.1]
theorem ca_now (hF : pm_fix pt_me pt_Sg (pt_R L0 xs) F) (X : KS q h n b C w a sn S) {o : Nat} (ol : o < h 0 1) : RS (F 138 0 [some (.ref 0), some (.int (nI o))] [] S) (if C = 0 then -1 else nI (w o)) (KS q h n b C w a sn) := by
  obtain ⟨fa, pl, I, L, rfl, Z, X⟩ := X
  have W := Z.1
  have hO := W.O
  have hP := W.P
  have hE := ev_lt W
  have hc := Z.2.1
  have hc1 := hc.1
  have H := X.H
  have k0 := X.2
  have hv := vP_t (m := h 0 1) ol (by omega)
  have hm : ¬ nI o = -1 := fun z => by
    have := congrArg Int32.toInt z
    rw [nI_toInt (by omega)] at this
    have d : (-1 : Int32).toInt = -1 := by decide
    omega
  refine RS.same Z X ?_
  rw [e138_0 hF, if_neg hm, c_holderOf hF W H hc k0.2.2.2.2.1 k0.2.2.2.2.2.1, hv, z_cl (by omega)]
  simp (disch := omega) only [pm_k_i, Option.toList_some, Option.toList_none, List.cons_append, List.nil_append, cond_true, cond_false, ↓reduceIte, reduceCtorEq, z_1, nI_add, z_cl, z_ib, z_lt, z_le, z_eq, z_eq0, z_le0, z_lt0, z_b0, z_b1, z_m1, z_and7, Int32.add_zero, e138_23 hF]
theorem ca_formed (hF : pm_fix pt_me pt_Sg (pt_R L0 xs) F) (X : KS q h n b C w a sn S) (p0 : 0 < h 0 0) {k : Nat} (hk : k < 3) : RS (F 135 0 [some (.ref 0), some (.int (nI k))] [] S) (if k = 0 then nI (fmr h 9).2.2.2.2 else if k = 1 then nI (fmr h 9).2.2.1 else nI (fmr h 9).1) (KS q h n b C w a sn) := by
  obtain ⟨fa, pl, I, L, rfl, Z, X⟩ := X
  have W := Z.1
  have hP := W.P
  have H := X.H
  have np : ¬ nI (h 0 0) = 0 := by rw [z_eq0 (by omega)]; omega
  obtain ⟨A1, K, A, a1, a2, ft0, XA, hi, HA⟩ := c_form_k hF W X
  obtain ⟨s1, s2, s3, s4, s5⟩ := ft0
  have cls : (F 135 0 [some (.ref 0), some (.int (nI k))] [] (49, pt_G, I, L)) = (F 135 26 [some (.ref 0), some (.int (nI k))] [] (49, pt_G, A, K)) := by
    rw [e135_0 hF, H.P, if_neg np, a1]
    simp (disch := omega) only [pm_k_i, Option.toList_some, Option.toList_none, List.cons_append, List.nil_append, cond_true, cond_false, ↓reduceIte, reduceCtorEq, z_1, nI_add, z_cl, z_ib, z_lt, z_le, z_eq, z_eq0, z_le0, z_lt0, z_b0, z_b1, z_m1, z_and7, Int32.add_zero, e135_19 hF, a2]
  refine RS.same Z XA ?_
  have hk : k = 0 ∨ k = 1 ∨ k = 2 := by omega
  rcases hk with rfl | rfl | rfl
  · rw [cls, e135_26 hF, if_pos rfl, if_pos rfl, s3]
  · rw [cls, e135_26 hF, if_neg (by decide), if_pos rfl, if_neg (by decide), if_pos rfl, s2]
  · rw [cls, e135_26 hF, if_neg (by decide), if_neg (by decide), if_pos rfl, if_neg (by decide), if_neg (by decide), s1]
theorem ca_tried (hF : pm_fix pt_me pt_Sg (pt_R L0 xs) F) (X : KS q h n b C w a sn S) {i k : Nat} (hk : k = 1 ∨ k = 2) (hi : i < (fmr h 9).2.2.1) : RS (F 136 0 [some (.ref 0), some (.int (nI i)), some (.int (nI k))] [] S) (if k = 1 then nI ((fmr h 9).2.2.2.1 i).2.1 else nI ((fmr h 9).2.2.2.1 i).2.2) (KS q h n b C w a sn) := by
  obtain ⟨fa, pl, I, L, rfl, Z, X⟩ := X
  have W := Z.1
  have hP := W.P
  have H := X.H
  obtain ⟨A1, K, A, a1, a2, ft0, XA, hi', HA⟩ := c_form_k hF W X
  obtain ⟨s1, s2, s3, s4, s5⟩ := ft0
  have cnt := fmr_cnt W 9
  have cls : (F 136 0 [some (.ref 0), some (.int (nI i)), some (.int (nI k))] [] (49, pt_G, I, L)) = (F 136 14 [some (.ref 0), some (.int (nI i)), some (.int (nI k))] [] (49, pt_G, A, K)) := by
    rw [e136_0 hF, a1]
    simp (disch := omega) only [pm_k_i, Option.toList_some, Option.toList_none, List.cons_append, List.nil_append, cond_true, cond_false, ↓reduceIte, reduceCtorEq, z_1, nI_add, z_cl, z_ib, z_lt, z_le, z_eq, z_eq0, z_le0, z_lt0, z_b0, z_b1, z_m1, z_and7, Int32.add_zero, e136_7 hF, a2]
  have f2 := c_coalitionOf (I := A) (L := K) hF (s := (fmr h 9).2) ⟨s2, s3, s4, s5⟩ (by omega) (nI i)
  have f3 := c_walkersOf (I := A) (L := K) hF (s := (fmr h 9).2) ⟨s2, s3, s4, s5⟩ (by omega) (nI i)
  have hv := vP_t (m := (fmr h 9).2.2.1) hi (by omega)
  rw [hv, z_cl (by omega)] at f2 f3
  refine RS.same Z XA ?_
  rcases hk with rfl | rfl
  · rw [cls, e136_14 hF, if_neg (by decide), if_pos rfl, if_pos rfl, f2]
    simp (disch := omega) only [pm_k_i, Option.toList_some, Option.toList_none, List.cons_append, List.nil_append, cond_true, cond_false, ↓reduceIte, reduceCtorEq, z_1, nI_add, z_cl, z_ib, z_lt, z_le, z_eq, z_eq0, z_le0, z_lt0, z_b0, z_b1, z_m1, z_and7, Int32.add_zero, e136_57 hF]
  · rw [cls, e136_14 hF, if_neg (by decide), if_neg (by decide), if_pos rfl, if_neg (by decide), f3]
    simp (disch := omega) only [pm_k_i, Option.toList_some, Option.toList_none, List.cons_append, List.nil_append, cond_true, cond_false, ↓reduceIte, reduceCtorEq, z_1, nI_add, z_cl, z_ib, z_lt, z_le, z_eq, z_eq0, z_le0, z_lt0, z_b0, z_b1, z_m1, z_and7, Int32.add_zero, e136_66 hF]
end
