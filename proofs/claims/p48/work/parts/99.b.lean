/-! ===== the class asked: acts, the tape ===== -/
section
variable {h : Nat → Nat → Nat} {I I' : Nat → Nat → Int32} {L L' : Nat → Nat → Int64}
variable {q n C a c : Nat} {b w : Nat → Nat} {fa pl : Int32} {sn : Nat → SN} {e v : Nat}
variable {F : pm_F} {L0 : Nat} {xs : Nat → Int32} {S : pm_S}
theorem ca_hold (hF : pm_fix pt_me pt_Sg (pt_R L0 xs) F) (X : KS q h n b C w a sn S) (c0 : 0 < c) (cl : c ≤ ev h) {y : Nat} (yl : y < 3) : RS (F 137 0 [some (.ref 0), some (.int (nI c)), some (.int (nI y))] [] S) (nI (hct h (pw h c y))) (KS q h n b c (pw h c y) (acm a + 1) (psh a sn (C, w, h 1))) := by
  obtain ⟨fa, pl, I, L, rfl, Z, X⟩ := X
  have W := Z.1
  have hP := W.P
  have hO := W.O
  have hE := ev_lt W
  have H := X.H
  have hv := vC_nI W c0 cl
  have hu := vP_t (m := 3) yl (by omega)
  obtain ⟨⟨e, v, e1, v1, cx, fo⟩, k0⟩ := id X
  obtain ⟨A, K, a1, a2, a3⟩ := c_picked hF W cx c0 cl (y := y) (by omega)
  have XA : K1 q h n b fa pl C w a sn A K := K1.fx e1 v1 a3 fo k0 a2
  have kA := XA.2
  have kw := pw_ok W c0 cl y
  obtain ⟨B, b1, b2, b3, b4, b5⟩ := c_install (L := K) hF W a3.1 kA.2.2.2.2.1 kA.2.2.2.2.2.1 kA.2.2.2.2.2.2 (show c ≠ 0 by omega) (show c < 128 by omega) kw
  have XB : K1 q h n b fa pl c (pw h c y) _ _ B K := XA.cab (fun r k hr => b2 r k (by omega) (by omega)) b3 (fun _ => b4) b5
  refine RS.same (Z.act (C' := c) (w' := pw h c y) ⟨cl, fun _ => ⟨kw, pw_all W c0 cl y⟩⟩) XB ?_
  rw [e137_0 hF, c_hasCoalition hF W H]
  simp (disch := omega) only [pm_k_i, Option.toList_some, Option.toList_none, List.cons_append, List.nil_append, cond_true, cond_false, ↓reduceIte, reduceCtorEq, z_1, nI_add, z_cl, z_ib, z_lt, z_le, z_eq, z_eq0, z_le0, z_lt0, z_b0, z_b1, z_m1, z_and7, Int32.add_zero, hv, hu, e137_8 hF, c_isWay hF, e137_15 hF, Bool.toNat_true]
  try rw [if_neg (show ¬ nI 1 = 0 from by decide)]
  simp (disch := omega) only [pm_k_i, Option.toList_some, Option.toList_none, List.cons_append, List.nil_append, cond_true, cond_false, ↓reduceIte, reduceCtorEq, z_1, nI_add, z_cl, z_ib, z_lt, z_le, z_eq, z_eq0, z_le0, z_lt0, z_b0, z_b1, z_m1, z_and7, Int32.add_zero, a1, b1, e137_34 hF, e137_37 hF]
theorem ca_hold0 (hF : pm_fix pt_me pt_Sg (pt_R L0 xs) F) (X : KS q h n b C w a sn S) {x y : Int32} (hv : vC h x = false) : RS (F 137 0 [some (.ref 0), some (.int x), some (.int y)] [] S) (-1) (KS q h n b C w a sn) := by
  obtain ⟨fa, pl, I, L, rfl, Z, X⟩ := X
  have W := Z.1
  have H := X.H
  refine RS.same Z X ?_
  rw [e137_0 hF, c_hasCoalition hF W H]
  simp (disch := omega) only [pm_k_i, Option.toList_some, Option.toList_none, List.cons_append, List.nil_append, cond_true, cond_false, ↓reduceIte, reduceCtorEq, z_1, nI_add, z_cl, z_ib, z_lt, z_le, z_eq, z_eq0, z_le0, z_lt0, z_b0, z_b1, z_m1, z_and7, Int32.add_zero, hv, e137_8 hF]
theorem ca_leave (hF : pm_fix pt_me pt_Sg (pt_R L0 xs) F) (X : KS q h n b C w a sn S) {p : Nat} (pP : p < h 0 0) (hb : C.testBit p = true) : RS (F 139 0 [some (.ref 0), some (.int (nI p))] [] S) (nI (pc (fro h w p))) (KS q h n b (rm C p) (lgw h C w p) (acm a + 1) (psh a sn (C, w, h 1))) := by
  obtain ⟨fa, pl, I, L, rfl, Z, X⟩ := X
  have W := Z.1
  have hP := W.P
  have hE := ev_lt W
  have hc := Z.2.1
  have hc1 := hc.1
  have H := X.H
  have k0 := X.2
  have hv := vP_t (m := h 0 0) pP (by omega)
  have c0 := bit_pos hb
  obtain ⟨A, a1, a2, a3⟩ := c_remember (L := L) (x := -1) (T := h 1) hF W H k0.2.2.2.2.1 k0.2.2.2.2.2.1 k0.2.2.2.2.2.2 (Or.inl ⟨rfl, rfl⟩)
  have HA : CH h A := H.of (fun k _ => a2 3 k (by omega) (by omega)) (fun r p q k => a2 r k (by omega) (by omega))
  obtain ⟨B, b1, b2, b3, b4⟩ := c_letGo (L := L) hF W HA (by rw [a2 44 5 (by omega) (by omega)]; exact k0.2.2.2.2.1) (by rw [a2 44 6 (by omega) (by omega)]; exact k0.2.2.2.2.2.1 c0) hc hb
  have XB : K1 q h n b fa pl (rm C p) (lgw h C w p) _ _ B L := X.cab (fun r k hr => by rw [b2 r k (by omega), a2 r k (by omega) (by omega)]) b3 b4 (a3.of (b2 44 7 (by omega)) (fun r j p q => b2 r j (by omega)))
  refine RS.same (Z.act (lgw_ok W hc hb)) XB ?_
  rw [e139_0 hF, e203_0 hF, c_hasParty hF W H]
  simp (disch := omega) only [pm_k_i, Option.toList_some, Option.toList_none, List.cons_append, List.nil_append, cond_true, cond_false, ↓reduceIte, reduceCtorEq, z_1, nI_add, z_cl, z_ib, z_lt, z_le, z_eq, z_eq0, z_le0, z_lt0, z_b0, z_b1, z_m1, z_and7, Int32.add_zero, hv, e203_8 hF, k0.2.2.2.2.1, c_isIn hF, hb, e203_19 hF, e139_8 hF, a1, e139_21 hF, b1, e139_29 hF]
  rw [if_neg (by decide)]
theorem ca_leave1 (hF : pm_fix pt_me pt_Sg (pt_R L0 xs) F) (X : KS q h n b C w a sn S) {p : Nat} (pP : p < h 0 0) (hb : C.testBit p = false) : RS (F 139 0 [some (.ref 0), some (.int (nI p))] [] S) (-1) (KS q h n b C w a sn) := by
  obtain ⟨fa, pl, I, L, rfl, Z, X⟩ := X
  have W := Z.1
  have hP := W.P
  have hE := ev_lt W
  have hc := Z.2.1
  have hc1 := hc.1
  have H := X.H
  have k0 := X.2
  have hv := vP_t (m := h 0 0) pP (by omega)
  refine RS.same Z X ?_
  rw [e139_0 hF, e203_0 hF, c_hasParty hF W H]
  simp (disch := omega) only [pm_k_i, Option.toList_some, Option.toList_none, List.cons_append, List.nil_append, cond_true, cond_false, ↓reduceIte, reduceCtorEq, z_1, nI_add, z_cl, z_ib, z_lt, z_le, z_eq, z_eq0, z_le0, z_lt0, z_b0, z_b1, z_m1, z_and7, Int32.add_zero, hv, e203_8 hF, k0.2.2.2.2.1, c_isIn hF, hb, e203_19 hF, e139_8 hF]
theorem ca_leave0 (hF : pm_fix pt_me pt_Sg (pt_R L0 xs) F) (X : KS q h n b C w a sn S) {x : Int32} (hv : vP (h 0 0) x = false) : RS (F 139 0 [some (.ref 0), some (.int x)] [] S) (-1) (KS q h n b C w a sn) := by
  obtain ⟨fa, pl, I, L, rfl, Z, X⟩ := X
  have W := Z.1
  have H := X.H
  refine RS.same Z X ?_
  rw [e139_0 hF, e203_0 hF, c_hasParty hF W H]
  simp (disch := omega) only [pm_k_i, Option.toList_some, Option.toList_none, List.cons_append, List.nil_append, cond_true, cond_false, ↓reduceIte, reduceCtorEq, z_1, nI_add, z_cl, z_ib, z_lt, z_le, z_eq, z_eq0, z_le0, z_lt0, z_b0, z_b1, z_m1, z_and7, Int32.add_zero, hv, e203_8 hF, e139_8 hF]
theorem ca_crisis (hF : pm_fix pt_me pt_Sg (pt_R L0 xs) F) (X : KS q h n b C w a sn S) : RS (F 141 0 [some (.ref 0)] [] S) (nI (cgo h C w)) (fun S' => if cgo h C w = 0 then KS q h n b (crn h C w (cgo h C w)).1 (crn h C w (cgo h C w)).2 a sn S' else KS q h n b (crn h C w (cgo h C w)).1 (crn h C w (cgo h C w)).2 (acm a + 1) (psh a sn (C, w, h 1)) S') := by
  obtain ⟨fa, pl, I, L, rfl, Z, X⟩ := X
  have W := Z.1
  have hc := Z.2.1
  have H := X.H
  have k0 := X.2
  obtain ⟨A, a1, a2, a3, a4, a5⟩ := c_crisis (L := L) hF W H k0.2.2.2.2.1 k0.2.2.2.2.2.1 hc k0.2.2.2.2.2.2
  have cls : (F 141 0 [some (.ref 0)] [] (49, pt_G, I, L)) = some (some (.int (nI (cgo h C w))), (49, pt_G, A, L)) := by
    rw [e141_0 hF, a1]
    simp (disch := omega) only [pm_k_i, Option.toList_some, Option.toList_none, List.cons_append, List.nil_append, cond_true, cond_false, ↓reduceIte, reduceCtorEq, z_1, nI_add, z_cl, z_ib, z_lt, z_le, z_eq, z_eq0, z_le0, z_lt0, z_b0, z_b1, z_m1, z_and7, Int32.add_zero, e141_7 hF]
  have fr : ∀ r k, r < 44 → A r k = I r k := fun r k hr => a2 r k (by omega) (by omega)
  have cr := crn_ok W hc (cgo h C w)
  refine ⟨_, cls, ?_⟩
  by_cases z : cgo h C w = 0
  · rw [if_pos z] at a5
    rw [if_pos z]
    exact KS.mk ⟨Z.1, cr, Z.2.2⟩ (X.cab fr a3 a4 a5)
  · rw [if_neg z] at a5
    rw [if_neg z]
    exact KS.mk (Z.act cr) (X.cab fr a3 a4 a5)
/-- no trade -/
theorem ca_trade0 (hF : pm_fix pt_me pt_Sg (pt_R L0 xs) F) (X : KS q h n b C w a sn S) {x y : Int32} (hh : vP (h 0 1) x = true → vP (h 0 1) y = true → C ≠ 0 → w x.toNatClampNeg = w y.toNatClampNeg) : RS (F 142 0 [some (.ref 0), some (.int x), some (.int y), none, none] [] S) (-1000000) (KS q h n b C w a sn) := by
  obtain ⟨fa, pl, I, L, rfl, Z, X⟩ := X
  have W := Z.1
  have hP := W.P
  have hO := W.O
  have hE := ev_lt W
  have hc := Z.2.1
  have hc1 := hc.1
  have H := X.H
  have k0 := X.2
  have ho := fun x => c_holderOf (L := L) hF W H hc k0.2.2.2.2.1 k0.2.2.2.2.2.1 x
  refine RS.same Z X ?_
  rw [e142_0 hF, ho]
  simp (disch := omega) only [pm_k_i, Option.toList_some, Option.toList_none, List.cons_append, List.nil_append, cond_true, cond_false, ↓reduceIte, reduceCtorEq, z_1, nI_add, z_cl, z_ib, z_lt, z_le, z_eq, z_eq0, z_le0, z_lt0, z_b0, z_b1, z_m1, z_and7, Int32.add_zero, e142_8 hF, ho, e142_17 hF]
  by_cases z : C = 0
  · rw [if_pos z, if_pos rfl]
  · rw [if_neg z, if_neg z]
    cases hv : vP (h 0 1) x with
    | false => exact if_pos rfl
    | true =>
      cases hu : vP (h 0 1) y with
      | false => 
        show (if nI (w x.toNatClampNeg) = -1 then _ else if (-1 : Int32) = -1 then _ else _) = _
        rw [if_pos (show (-1 : Int32) = -1 from rfl)]
        exact ite_self _
      | true =>
        show (if nI (w x.toNatClampNeg) = -1 then _ else if nI (w y.toNatClampNeg) = -1 then _ else if nI (w x.toNatClampNeg) = nI (w y.toNatClampNeg) then _ else _) = _
        rw [if_pos (show nI (w x.toNatClampNeg) = nI (w y.toNatClampNeg) by rw [hh hv hu z])]
        split
        · rfl
        · split <;> rfl
theorem ca_trade (hF : pm_fix pt_me pt_Sg (pt_R L0 xs) F) (X : KS q h n b C w a sn S) {o p : Nat} (ol : o < h 0 1) (pl' : p < h 0 1) (z : C ≠ 0) (d : w o ≠ w p) : RS (F 142 0 [some (.ref 0), some (.int (nI o)), some (.int (nI p)), none, none] [] S) (xch h w o p) (KS q h n b C (xw w o p) (acm a + 1) (psh a sn (C, w, h 1))) := by
  obtain ⟨fa, pl, I, L, rfl, Z, X⟩ := X
  have W := Z.1
  have hP := W.P
  have hO := W.O
  have hE := ev_lt W
  have hc := Z.2.1
  have hc1 := hc.1
  have H := X.H
  have k0 := X.2
  have ho := fun x => c_holderOf (L := L) hF W H hc k0.2.2.2.2.1 k0.2.2.2.2.2.1 x
  have hv := vP_t (m := h 0 1) ol (by omega)
  have hu := vP_t (m := h 0 1) pl' (by omega)
  have k := (hc.2 z).1
  have b1 := k.2 o ol
  have b2 := k.2 p pl'
  obtain ⟨A, a1, a2, a3, a4, a5⟩ := c_exchange (L := L) hF W H k0.2.2.2.2.1 k (k0.2.2.2.2.2.1 z) k0.2.2.2.2.2.2 ol pl'
  have XA : K1 q h n b fa pl C (xw w o p) _ _ A L := X.cab (fun r k hr => a2 r k (by omega) (by omega)) a3 (fun _ => a4) a5
  have w1 := hc.2 z
  refine RS.same (Z.act (C' := C) (w' := xw w o p) ⟨hc1, fun _ => ⟨xw_ok W k ol pl', up_all (A := fun j => C.testBit j = true) (up_all (A := fun j => C.testBit j = true) w1.2 (w1.2 p pl')) (w1.2 o ol)⟩⟩) XA ?_
  rw [e142_0 hF, ho]
  simp (disch := omega) only [pm_k_i, Option.toList_some, Option.toList_none, List.cons_append, List.nil_append, cond_true, cond_false, ↓reduceIte, reduceCtorEq, z_1, nI_add, z_cl, z_ib, z_lt, z_le, z_eq, z_eq0, z_le0, z_lt0, z_b0, z_b1, z_m1, z_and7, Int32.add_zero, e142_8 hF, ho, e142_17 hF, hv, hu, z]
  simp (disch := omega) only [pm_k_i, Option.toList_some, Option.toList_none, List.cons_append, List.nil_append, cond_true, cond_false, ↓reduceIte, reduceCtorEq, z_1, nI_add, z_cl, z_ib, z_lt, z_le, z_eq, z_eq0, z_le0, z_lt0, z_b0, z_b1, z_m1, z_and7, Int32.add_zero, d, a1, e142_48 hF]
theorem ca_seats0 (hF : pm_fix pt_me pt_Sg (pt_R L0 xs) F) (X : KS q h n b C w a sn S) {x y : Int32} (hn : (vP (h 0 0) x && vS y) = false) : RS (F 143 0 [some (.ref 0), some (.int x), some (.int y), none] [] S) (-1) (KS q h n b C w a sn) := by
  obtain ⟨fa, pl, I, L, rfl, Z, X⟩ := X
  have W := Z.1
  have hP := W.P
  have H := X.H
  refine RS.same Z X ?_
  rw [e143_0 hF, c_hasParty hF W H]
  simp (disch := omega) only [pm_k_i, Option.toList_some, Option.toList_none, List.cons_append, List.nil_append, cond_true, cond_false, ↓reduceIte, reduceCtorEq, z_1, nI_add, z_cl, z_ib, z_lt, z_le, z_eq, z_eq0, z_le0, z_lt0, z_b0, z_b1, z_m1, z_and7, Int32.add_zero, e143_8 hF]
  rw [g_999]
  cases hv : vP (h 0 0) x
  · rfl
  · rw [hv] at hn
    rw [show vS y = false from hn]
    rfl
theorem vS_nI {s : Nat} (s1 : 1 ≤ s) (s9 : s ≤ 999) : vS (nI s) = true := by
  unfold vS
  rw [nI_toInt (by omega)]
  exact decide_eq_true (by omega)
theorem ca_seats1 (hF : pm_fix pt_me pt_Sg (pt_R L0 xs) F) (X : KS q h n b C w a sn S) {p s : Nat} (pP : p < h 0 0) (s1 : 1 ≤ s) (s9 : s ≤ 999) (z : h 1 p = s) : RS (F 143 0 [some (.ref 0), some (.int (nI p)), some (.int (nI s)), none] [] S) (-1) (KS q h n b C w a sn) := by
  obtain ⟨fa, pl, I, L, rfl, Z, X⟩ := X
  have W := Z.1
  have hP := W.P
  have H := X.H
  have hv := vP_t (m := h 0 0) pP (by omega)
  have g0 : ∀ A B : pm_R, (if nI s < 1 then A else if nI s ≤ 999 then B else A) = B := fun A B => by rw [g_999, vS_nI s1 s9]; rfl
  have g8 : (F 143 0 [some (.ref 0), some (.int (nI p)), some (.int (nI s)), none] [] (49, pt_G, I, L)) = (F 143 33 [some (.ref 0), some (.int (nI p)), some (.int (nI s)), none] [.int (nI (h 1 p))] (49, pt_G, I, L)) := by
    rw [e143_0 hF, c_hasParty hF W H, hv]
    show (F 143 8 [some (.ref 0), some (.int (nI p)), some (.int (nI s)), none] [.int 1] (49, pt_G, I, L)) = _
    rw [e143_8 hF, if_neg (by decide), g0, c_seatsOf hF W H pP]
    rfl
  refine RS.same Z X ?_
  rw [g8]
  simp (disch := omega) only [pm_k_i, Option.toList_some, Option.toList_none, List.cons_append, List.nil_append, cond_true, cond_false, ↓reduceIte, reduceCtorEq, z_1, nI_add, z_cl, z_ib, z_lt, z_le, z_eq, z_eq0, z_le0, z_lt0, z_b0, z_b1, z_m1, z_and7, Int32.add_zero, e143_33 hF, z]
theorem ca_seats (hF : pm_fix pt_me pt_Sg (pt_R L0 xs) F) (X : KS q h n b C w a sn S) (hq : q < 1000000) {p s : Nat} (pP : p < h 0 0) (s1 : 1 ≤ s) (s9 : s ≤ 999) (z : h 1 p ≠ s) : RS (F 143 0 [some (.ref 0), some (.int (nI p)), some (.int (nI s)), none] [] S) (nI (h 1 p)) (KS (q + 1) (sS h (up (h 1) p s)) n b C w (acm a + 1) (psh a sn (C, w, h 1))) := by
  obtain ⟨fa, pl, I, L, rfl, Z, X⟩ := X
  have W := Z.1
  have hP := W.P
  have H := X.H
  have k0 := X.2
  have sb := W.seats p
  have hv := vP_t (m := h 0 0) pP (by omega)
  have g0 : ∀ A B : pm_R, (if nI s < 1 then A else if nI s ≤ 999 then B else A) = B := fun A B => by rw [g_999, vS_nI s1 s9]; rfl
  have g8 : (F 143 0 [some (.ref 0), some (.int (nI p)), some (.int (nI s)), none] [] (49, pt_G, I, L)) = (F 143 33 [some (.ref 0), some (.int (nI p)), some (.int (nI s)), none] [.int (nI (h 1 p))] (49, pt_G, I, L)) := by
    rw [e143_0 hF, c_hasParty hF W H, hv]
    show (F 143 8 [some (.ref 0), some (.int (nI p)), some (.int (nI s)), none] [.int 1] (49, pt_G, I, L)) = _
    rw [e143_8 hF, if_neg (by decide), g0, c_seatsOf hF W H pP]
    rfl
  obtain ⟨A, a1, a2, a3⟩ := c_remember (L := L) (x := nI p) (T := up (h 1) p s) hF W H k0.2.2.2.2.1 k0.2.2.2.2.2.1 k0.2.2.2.2.2.2 (Or.inr ⟨p, s, pP, rfl, rfl⟩)
  have jf : ∀ r k, (r = 4 → k ≠ p) → (r = 3 → k ≠ 9) → pm_ui (pm_ui A 4 p (nI s)) 3 9 (A 3 9 + 1) r k = A r k := fun r k p1 p2 => by
    by_cases e : r = 3
    · rw [e, z_uk (p2 e), z_ur (by omega)]
    · rw [z_ur e]
      by_cases d : r = 4
      · rw [d, z_uk (p1 d)]
      · rw [z_ur d]
  have us : ∀ j, 1 ≤ up (h 1) p s j ∧ up (h 1) p s j ≤ 999 := fun j => by
    unfold up
    split
    · exact ⟨s1, s9⟩
    · exact W.seats j
  have XB : K1 (q + 1) (sS h (up (h 1) p s)) n b fa pl C w (acm a + 1) (psh a sn (C, w, h 1)) (pm_ui (pm_ui A 4 p (nI s)) 3 9 (A 3 9 + 1)) L := by
    refine X.seats hq (fun r k p1 p2 p3 => by rw [jf r k (fun z => absurd z p2) p3, a2 r k (by omega) (by omega)]) (fun j hj => ?_) (by rw [z_ue, a2 3 9 (by omega) (by omega)]) (by rw [jf 44 5 (by omega) (by omega), a2 44 5 (by omega) (by omega)]; exact k0.2.2.2.2.1) (fun z => by rw [jf 44 6 (by omega) (by omega), a2 44 6 (by omega) (by omega)]; exact k0.2.2.2.2.2.1 z) (a3.of (jf 44 7 (by omega) (by omega)) (fun r j p q => jf r j (by omega) (by omega)))
    rw [z_ur (by omega)]
    unfold up
    by_cases e : j = p
    · rw [e, z_ue, if_pos rfl]
    · rw [z_uk e, if_neg e, a2 4 j (by omega) (by omega)]
      exact H.seats hj
  refine RS.same (GS.seats (Z.act Z.2.1) us) XB ?_
  have p7 : nI p &&& 7 = nI p := z_and7 p (by omega)
  rw [g8]
  simp (disch := omega) only [pm_k_i, Option.toList_some, Option.toList_none, List.cons_append, List.nil_append, cond_true, cond_false, ↓reduceIte, reduceCtorEq, z_1, nI_add, z_cl, z_ib, z_lt, z_le, z_eq, z_eq0, z_le0, z_lt0, z_b0, z_b1, z_m1, z_and7, Int32.add_zero, e143_33 hF, z, a1, e143_49 hF, e514_0 hF, p7, e143_58 hF]
theorem ca_undo0 (hF : pm_fix pt_me pt_Sg (pt_R L0 xs) F) (X : KS q h n b C w 0 sn S) : RS (F 145 0 [some (.ref 0)] [] S) (-1) (KS q h n b C w 0 sn) := by
  obtain ⟨fa, pl, I, L, rfl, Z, X⟩ := X
  have k0 := X.2
  refine RS.same Z X ?_
  rw [e145_0 hF, k0.2.2.2.2.2.2.1]
  rw [if_pos (by decide)]
theorem ca_undo (hF : pm_fix pt_me pt_Sg (pt_R L0 xs) F) (X : KS q h n b C w (a + 1) sn S) (hq : q < 1000000) : RS (F 145 0 [some (.ref 0)] [] S) (nI a) (KS (q + 1) (sS h (sn a).2.2) n b (sn a).1 (sn a).2.1 a sn) := by
  obtain ⟨fa, pl, I, L, rfl, Z, X⟩ := X
  have W := Z.1
  have hP := W.P
  have k0 := X.2
  have a12 := Z.2.2.1
  obtain ⟨A, a1, a2, a3, a4, a5⟩ := c_takeBack (L := L) hF W k0.2.2.2.2.2.2
  have z4 := Z.2.2.2.1 a (by omega)
  have Z' : GS (sS h (sn a).2.2) n b (sn a).1 (sn a).2.1 a sn := GS.seats ⟨Z.1, z4.1, by omega, fun i hi => Z.2.2.2.1 i (by omega), Z.2.2.2.2⟩ z4.2
  have XA : K1 (q + 1) (sS h (sn a).2.2) n b fa pl (sn a).1 (sn a).2.1 a sn A L := by
    rcases a5 with ⟨e5, a5⟩ | ⟨q', v', q1, q2, q3, q4, a5⟩
    · rw [e5] at a4 ⊢
      rw [sS_same]
      exact (X.cab (fun r k hr => a5 r k (by omega)) a2 a3 a4).mono (by omega)
    · refine X.seats hq (fun r k p1 p2 p3 => a5 r k (by omega) (fun z => absurd z p2) p3) (fun p hp => ?_) q4 a2 a3 a4
      rw [q2]
      unfold up
      by_cases z : p = q'
      · rw [if_pos z, z, q3]
      · rw [if_neg z, a5 4 p (by omega) (fun _ => z) (by omega)]
        exact X.H.seats hp
  refine RS.same Z' XA ?_
  rw [e145_0 hF, k0.2.2.2.2.2.2.1]
  simp (disch := omega) only [pm_k_i, Option.toList_some, Option.toList_none, List.cons_append, List.nil_append, cond_true, cond_false, ↓reduceIte, reduceCtorEq, z_1, nI_add, z_cl, z_ib, z_lt, z_le, z_eq, z_eq0, z_le0, z_lt0, z_b0, z_b1, z_m1, z_and7, Int32.add_zero, a1, e145_17 hF]
  try rw [if_neg (by decide)]
theorem ca_feed (hF : pm_fix pt_me pt_Sg (pt_R L0 xs) F) (X : KS q h n b C w a sn S) (hc : n + 20 ≤ 900) (x1 x2 x3 x4 x5 : Int32) : RS (F 102 0 [some (.ref 0), some (.int x1), some (.int x2), some (.int x3), some (.int x4), some (.int x5)] [] S) (nI (n + 20)) (KS q h (n + 20) (put4 (put4 (put4 (put4 (put4 b n x1) (n + 4) x2) (n + 4 + 4) x3) (n + 4 + 4 + 4) x4) (n + 4 + 4 + 4 + 4) x5) C w a sn) := by
  obtain ⟨fa, pl, I, L, rfl, Z, X⟩ := X
  have W := Z.1
  have T := X.2.1
  have hn := T.2.1
  obtain ⟨A1, a1, p1, T1⟩ := c_append (L := L) hF T (by omega) x1
  obtain ⟨A2, a2, p2, T2⟩ := c_append (L := L) hF T1 (by omega) x2
  obtain ⟨A3, a3, p3, T3⟩ := c_append (L := L) hF T2 (by omega) x3
  obtain ⟨A4, a4, p4, T4⟩ := c_append (L := L) hF T3 (by omega) x4
  obtain ⟨A5, a5, p5, T5⟩ := c_append (L := L) hF T4 (by omega) x5
  have pf : ∀ r k, (r = 1 → k ≠ 1) → r ≠ 2 → A5 r k = I r k := fun r k g1 g2 => by rw [p5 r k g1 g2, p4 r k g1 g2, p3 r k g1 g2, p2 r k g1 g2, p1 r k g1 g2]
  have XA := X.tape T5 pf
  obtain ⟨z1, z2, z3, z4, z5, z6⟩ := Z
  refine RS.same (L := L) (I := A5) ⟨z1, z2, z3, z4, by omega, put4_lt (put4_lt (put4_lt (put4_lt (put4_lt z6))))⟩ XA ?_
  rw [e102_0 hF, c_length hF T]
  rw [show (∀ S : pm_S, ∀ k : Option Value → pm_S → pm_R, pm_k (some (some (.int (nI n)), S)) k = k (some (.int (nI n))) S) from fun _ _ => rfl]
  show F 102 7 _ ([.int (nI n)] ++ []) _ = _
  rw [show ([Value.int (nI n)] ++ [] : List Value) = [.int (nI n)] from rfl, e102_7 hF, show (20 : Int32) = nI 20 from rfl, show (900 : Int32) = nI 900 from rfl, nI_add]
  simp (disch := omega) only [pm_k_i, Option.toList_some, Option.toList_none, List.cons_append, List.nil_append, cond_true, cond_false, ↓reduceIte, reduceCtorEq, z_1, nI_add, z_cl, z_ib, z_lt, z_le, z_eq, z_eq0, z_le0, z_lt0, z_b0, z_b1, z_m1, z_and7, Int32.add_zero, hc, a1, e102_26 hF, a2, e102_34 hF, a3, e102_42 hF, a4, e102_51 hF, a5, e102_60 hF, c_length hF T5, e102_67 hF]
theorem ca_end (hF : pm_fix pt_me pt_Sg (pt_R L0 xs) F) (X : KS q h n b C w a sn S) {k : Nat} (kl : k ≤ n) : RS (F 103 0 [some (.ref 0), some (.int (nI k))] [] S) (nI k) (KS q h k b C w a sn) := by
  obtain ⟨fa, pl, I, L, rfl, Z, X⟩ := X
  have W := Z.1
  have T := X.2.1
  have hn := T.2.1
  obtain ⟨c1, c2⟩ := c_cutTo (L := L) hF T kl
  have pf : ∀ r j, (r = 1 → j ≠ 1) → r ≠ 2 → pm_ui I 1 1 (nI k) r j = I r j := fun r j g1 g2 => by
    by_cases z : r = 1
    · rw [z, z_uk (g1 z)]
    · rw [z_ur z]
  have XA := X.tape c2 pf
  obtain ⟨z1, z2, z3, z4, z5, z6⟩ := Z
  refine RS.same (L := L) ⟨z1, z2, z3, z4, by omega, z6⟩ XA ?_
  rw [e103_0 hF, c_length hF T]
  simp (disch := omega) only [pm_k_i, Option.toList_some, Option.toList_none, List.cons_append, List.nil_append, cond_true, cond_false, ↓reduceIte, reduceCtorEq, z_1, nI_add, z_cl, z_ib, z_lt, z_le, z_eq, z_eq0, z_le0, z_lt0, z_b0, z_b1, z_m1, z_and7, Int32.add_zero, e103_12 hF, show (k ≤ n) = True from propext ⟨fun _ => trivial, fun _ => by omega⟩, c1, e103_25 hF]
theorem ca_house (hF : pm_fix pt_me pt_Sg (pt_R L0 xs) F) (X : KS q h n b C w a sn S) (hq : q < 1000000) (z : (rdn n b 900).2.1 = 0) : RS (F 104 0 [some (.ref 0), none] [] S) (nI ((rdn n b 900).2.2 0 0)) (KS (q + 1) (rdn n b 900).2.2 0 b 0 (fun _ => 0) 0 sn) := by
  obtain ⟨fa, pl, I, L, rfl, Z, X⟩ := X
  have W := Z.1
  have k0 := X.2
  have hn9 := k0.1.2.1
  have bb : ∀ i, b i < 256 := Z.2.2.2.2.2
  obtain ⟨A, K, a1, a2, a3, a4, a5, a6, a7, a8, a9⟩ := c_house (L := L) hF bb k0.1 k0.2.1
  obtain ⟨⟨e, v, e1, v1, cx, fo⟩, _⟩ := id X
  have D := ((rdn_ok (b := b) hn9 900) z).1
  obtain ⟨c1, c2, c3, c4, c5⟩ := a8 z
  obtain ⟨y1, y2, y3, y4, y5, ⟨m, y6, y6'⟩, y7, y8, y9, y10, y11⟩ := cx
  have o8 := y8.new (by omega)
  have o10 := y10.new (by omega)
  have o41 := fo.1.new (by omega)
  have f : ∀ r k, 22 < r → r < 44 → A r k = I r k := fun r k p1 p2 => a6 r k p1 (by omega)
  have XA : K1 (q + 1) (rdn n b 900).2.2 0 b (nI (rdn n b 900).2.1) (if (rdn n b 900).2.1 = 0 then -1 else nI (rdn n b 900).1) 0 (fun _ => 0) 0 sn A K := by
    refine ⟨⟨e + 1, v + 1, by omega, by omega, ⟨c1, by rw [c2, y2, show (1 : Int32) = nI 1 from rfl, nI_add], by rw [c3, y3, show (1 : Int32) = nI 1 from rfl, nI_add], by omega, by omega, ⟨m, by omega, by rw [f 23 6 (by omega) (by omega)]; exact y6'⟩, fun t _ _ _ u => ?_, by rw [f 30 13 (by omega) (by omega)]; exact o8.1, fun u => absurd (by rw [f 30 13 (by omega) (by omega)] at u; exact u) o8.2, by rw [f 30 14 (by omega) (by omega)]; exact o10.1, fun u => absurd (by rw [f 30 14 (by omega) (by omega)] at u; exact u) o10.2⟩, ?_⟩, a2, a3, a4, a5, c4, fun u => absurd rfl u, c5, by omega, fun i hi => absurd hi (by omega)⟩
    · rw [f 23 6 (by omega) (by omega), y6', c2, y2, show (1 : Int32) = nI 1 from rfl, nI_add] at u
      have := (z_eq (a := m) (b := e + 1) (by omega) (by omega)).mp u
      omega
    · exact ⟨by rw [f 41 7 (by omega) (by omega)]; exact o41.1, fun u => absurd (by rw [f 41 7 (by omega) (by omega)] at u; exact u) o41.2⟩
  have Z' : GS (rdn n b 900).2.2 0 b 0 (fun _ => 0) 0 sn := ⟨D.1, ⟨Nat.zero_le _, fun u => absurd rfl u⟩, by omega, fun i hi => absurd hi (by omega), by omega, bb⟩
  rw [if_pos z] at a1
  exact RS.same Z' XA a1
theorem ca_judge (hF : pm_fix pt_me pt_Sg (pt_R L0 xs) F) (X : KS q h n b C w a sn S) (c0 : 0 < c) (cl : c ≤ ev h) (J : JB h n b c) : RS (F 146 0 [some (.ref 0), some (.int (nI c)), some (.int 0), none] [] S) (nI (scn h (tol b (h 0 1)) (h 0 1))) (KS q h 0 b C w a sn) := by
  obtain ⟨fa, pl, I, L, rfl, Z, X⟩ := X
  have W := Z.1
  have hP := W.P
  have hO := W.O
  have hE := ev_lt W
  have H := X.H
  have hv := vC_nI W c0 cl
  have T := X.2.1
  have hn9 := T.2.1
  have bb : ∀ i, b i < 256 := Z.2.2.2.2.2
  obtain ⟨c1, c2⟩ := c_cutTo (L := L) hF T (Nat.zero_le n)
  have c1 : (F 1005 0 [some (.ref 1), some (.int 0)] [] (49, pt_G, I, L)) = _ := c1
  have pf : ∀ r j, (r = 1 → j ≠ 1) → r ≠ 2 → pm_ui I 1 1 (nI 0) r j = I r j := fun r j g1 g2 => by
    by_cases z : r = 1
    · rw [z, z_uk (g1 z)]
    · rw [z_ur z]
  have XA := X.tape c2 pf
  have HA := XA.H
  have Z0 : GS h 0 b C w a sn := ⟨Z.1, Z.2.1, Z.2.2.1, Z.2.2.2.1, by omega, bb⟩
  have w8 : K8 (tol b (h 0 1)) := tol_K8 hO (fun i hi => by have := (J.2 i hi).1; omega)
  have tw : ∀ o, o < h 0 1 → tol b (h 0 1) o = b o := fun o ho => if_pos ho
  have wk : WK h (tol b (h 0 1)) := ⟨w8, fun o ho => by rw [tw o ho]; exact (J.2 o ho).1⟩
  have wl := hp_lt w8
  refine RS.same (L := L) Z0 XA ?_
  rw [e146_0 hF, c_hasCoalition hF W H]
  simp (disch := omega) only [pm_k_i, Option.toList_some, Option.toList_none, List.cons_append, List.nil_append, cond_true, cond_false, ↓reduceIte, reduceCtorEq, z_1, nI_add, z_cl, z_ib, z_lt, z_le, z_eq, z_eq0, z_le0, z_lt0, z_b0, z_b1, z_m1, z_and7, Int32.add_zero, e146_8 hF, g_4, hv, show vP 4 0 = true by decide, c_told hF W H T bb cl (x := nI (hp (tol b (h 0 1)))) (fun _ => rfl) (fun z => absurd J z), e146_27 hF, c1, e146_36 hF]
  rw [if_pos (show (0 : Int32) = nI 0 from rfl)]
  simp (disch := omega) only [pm_k_i, Option.toList_some, Option.toList_none, List.cons_append, List.nil_append, cond_true, cond_false, ↓reduceIte, reduceCtorEq, z_1, nI_add, z_cl, z_ib, z_lt, z_le, z_eq, z_eq0, z_le0, z_lt0, z_b0, z_b1, z_m1, z_and7, Int32.add_zero, c_firstSwaps hF W HA wk, e146_80 hF]
end
