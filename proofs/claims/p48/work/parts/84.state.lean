/-! ===== what class and model are between calls ===== -/
section
variable {h : Nat → Nat → Nat} {I I' : Nat → Nat → Int32} {L L' : Nat → Nat → Int64}
variable {q n C a : Nat} {b w : Nat → Nat} {fa pl : Int32} {sn : Nat → SN} {e v : Nat}
/-- all that is in order -/
def GS (h : Nat → Nat → Nat) (n : Nat) (b : Nat → Nat) (C : Nat) (w : Nat → Nat) (a : Nat) (sn : Nat → SN) : Prop := WF h ∧ CAB h C w ∧ a ≤ 12 ∧ (∀ i, i < a → CAB h (sn i).1 (sn i).2.1 ∧ ∀ p, 1 ≤ (sn i).2.2 p ∧ (sn i).2.2 p ≤ 999) ∧ n ≤ 900 ∧ ∀ i, b i < 256
/-- the class but what it has found out -/
def K0 (h : Nat → Nat → Nat) (n : Nat) (b : Nat → Nat) (fa pl : Int32) (C : Nat) (w : Nat → Nat) (a : Nat) (sn : Nat → SN) (I : Nat → Nat → Int32) (L : Nat → Nat → Int64) : Prop := TC n b I ∧ LG L ∧ I 10 8 = fa ∧ I 10 9 = pl ∧ I 44 5 = nI C ∧ (C ≠ 0 → I 44 6 = nI (hp w)) ∧ ACC (h 0 0) a sn (h 1) I
/-- the class, q calls ago at most made -/
def K1 (q : Nat) (h : Nat → Nat → Nat) (n : Nat) (b : Nat → Nat) (fa pl : Int32) (C : Nat) (w : Nat → Nat) (a : Nat) (sn : Nat → SN) (I : Nat → Nat → Int32) (L : Nat → Nat → Int64) : Prop := (∃ e v, e ≤ q ∧ v ≤ q ∧ CX h e v I L ∧ FO h v I) ∧ K0 h n b fa pl C w a sn I L
/-- the model -/
def K2 (h : Nat → Nat → Nat) (n : Nat) (b : Nat → Nat) (fa pl : Int32) (C : Nat) (w : Nat → Nat) (a : Nat) (sn : Nat → SN) (I : Nat → Nat → Int32) : Prop := MX h I ∧ TM n b I ∧ I 49 10 = fa ∧ I 49 11 = pl ∧ NM h C w I ∧ ACM h a sn I
def HI (I I' : Nat → Nat → Int32) : Prop := ∀ r k, 49 ≤ r → I' r k = I r k
def LO (I I' : Nat → Nat → Int32) : Prop := ∀ r k, r < 49 → I' r k = I r k
/-- one half of the cells -/
def rsL (I : Nat → Nat → Int32) : Nat → Nat → Int32 := fun r k => if r < 49 then I r k else 0
def rsH (I : Nat → Nat → Int32) : Nat → Nat → Int32 := fun r k => if r < 49 then 0 else I r k
def rsl (L : Nat → Nat → Int64) : Nat → Nat → Int64 := fun r k => if r < 49 then L r k else 0
theorem rsL_eq (f : LO I I') : rsL I' = rsL I := by
  funext r k
  unfold rsL
  by_cases c : r < 49
  · rw [if_pos c, if_pos c, f r k c]
  · rw [if_neg c, if_neg c]
theorem rsH_eq (f : HI I I') : rsH I' = rsH I := by
  funext r k
  unfold rsH
  by_cases c : r < 49
  · rw [if_pos c, if_pos c]
  · rw [if_neg c, if_neg c, f r k (by omega)]
theorem rsl_eq (f : ∀ r k, r < 49 → L' r k = L r k) : rsl L' = rsl L := by
  funext r k
  unfold rsl
  by_cases c : r < 49
  · rw [if_pos c, if_pos c, f r k c]
  · rw [if_neg c, if_neg c]
theorem FO.of (X : FO h v I) (f : ∀ r k, 41 ≤ r → r ≤ 42 → I' r k = I r k) : FO h v I' := by
  obtain ⟨x1, x2⟩ := X
  refine ⟨by rw [f 41 7 (by omega) (by omega)]; exact x1, fun z => ?_⟩
  rw [f 41 7 (by omega) (by omega)] at z
  obtain ⟨y1, y2, y3, y4, y5⟩ := x2 z
  exact ⟨by rw [f 41 5 (by omega) (by omega)]; exact y1, by rw [f 41 4 (by omega) (by omega)]; exact y2, by rw [f 41 6 (by omega) (by omega)]; exact y3, y4, fun i hi => by rw [f 42 i (by omega) (by omega)]; exact y5 i hi⟩
theorem K0.of (X : K0 h n b fa pl C w a sn I L) (f : ∀ r k, r = 1 ∨ r = 2 ∨ r = 10 ∨ (44 ≤ r ∧ r ≤ 48) → I' r k = I r k) (g : ∀ k, L' 18 k = L 18 k) : K0 h n b fa pl C w a sn I' L' := by
  obtain ⟨x1, x2, x3, x4, x5, x6, x7⟩ := X
  exact ⟨x1.of (f 1 1 (by omega)) (fun i => f 2 i (by omega)), x2.of g, by rw [f 10 8 (by omega)]; exact x3, by rw [f 10 9 (by omega)]; exact x4, by rw [f 44 5 (by omega)]; exact x5, fun z => by rw [f 44 6 (by omega)]; exact x6 z, x7.of (f 44 7 (by omega)) (fun r j p q => f r j (by omega))⟩
theorem PC.of' (X : PC h I L) (f : LO I I') (g : ∀ k, L' 25 k = L 25 k) : PC h I' L' := X.of ⟨f 23 4 (by omega), f 23 5 (by omega), f 23 6 (by omega)⟩ (f 3 8 (by omega)) (fun k => f 24 k (by omega)) (fun k => f 26 k (by omega)) g
theorem CX.lo (X : CX h e v I L) (f : LO I I') (g : ∀ r k, r < 49 → L' r k = L r k) : CX h e v I' L' := by
  obtain ⟨x1, x2, x3, x4, x5, x6, x7, x8, x9, x10, x11⟩ := X
  have f30 : ∀ k, I' 30 k = I 30 k := fun k => f 30 k (by omega)
  refine ⟨x1.of (fun k _ => f 3 k (by omega)) (fun r p q k => f r k (by omega)), by rw [f 3 8 (by omega)]; exact x2, by rw [f 3 9 (by omega)]; exact x3, x4, x5, by rw [f 23 6 (by omega)]; exact x6, x7.of' f (fun k => g 25 k (by omega)), by rw [f30]; exact x8, fun z => (x9 (by rw [f30] at z; exact z)).of (fun k => f 34 k (by omega)) (fun k => f 35 k (by omega)), by rw [f30]; exact x10, fun z => ?_⟩
  rw [f30] at z
  obtain ⟨y0, y1, y2, y3⟩ := x11 z
  refine ⟨by rw [f30]; exact y0, by rw [f30]; exact y1, fun c hc => by rw [f 31 c (by omega), f 32 c (by omega)]; exact y2 c hc, fun c c0 c1 => ?_⟩
  obtain ⟨z1, z2, z3⟩ := y3 c c0 c1
  refine ⟨?_, by rw [f 38 c (by omega)]; exact z2, by rw [f 39 c (by omega)]; exact z3⟩
  rw [f 33 c (by omega)]
  rcases z1 with z1 | ⟨z1, l1, l2, l3⟩
  · exact Or.inl z1
  · exact Or.inr ⟨z1, by rw [f 34 c (by omega)]; exact l1, by rw [f 35 c (by omega)]; exact l2, fun p hp => by rw [f 36 _ (by omega), f 37 _ (by omega)]; exact l3 p hp⟩
theorem K1.lo (X : K1 q h n b fa pl C w a sn I L) (f : LO I I') (g : ∀ r k, r < 49 → L' r k = L r k) : K1 q h n b fa pl C w a sn I' L' := by
  obtain ⟨⟨e, v, h1, h2, cx, fo⟩, k0⟩ := X
  exact ⟨⟨e, v, h1, h2, cx.lo f g, fo.of (fun r k p q => f r k (by omega))⟩, k0.of (fun r k p => f r k (by omega)) (fun k => g 18 k (by omega))⟩
theorem MX.hi (X : MX h I) (f : HI I I') : MX h I' := by
  obtain ⟨x1, x2⟩ := X
  refine ⟨x1.of (fun k _ _ => f 49 k (by omega)) (fun r p q k => f r k (by omega)) (fun k _ => f 64 k (by omega)), ?_⟩
  rw [f 49 57 (by omega)]
  rcases x2 with x2 | ⟨x2, y1, y2⟩
  · exact Or.inl x2
  · exact Or.inr ⟨x2, y1.of (fun r k p => f r k (by omega)), fun c c0 c1 => by rw [f 75 c (by omega)]; exact y2 c c0 c1⟩
theorem TM.of (X : TM n b I) (f1 : I' 49 1 = I 49 1) (f : ∀ i, I' 50 i = I 50 i) : TM n b I' := ⟨by rw [f1]; exact X.1, X.2.1, fun i hi => by rw [f]; exact X.2.2 i hi⟩
theorem NM.of (X : NM h C w I) (f : ∀ k, k < 9 → I' 64 k = I 64 k) (W : WF h) : NM h C w I' := by
  have hO := W.O
  exact ⟨by rw [f 0 (by omega)]; exact X.1, fun o ho => by rw [f _ (by omega)]; exact X.2 o ho⟩
theorem K2.hi (X : K2 h n b fa pl C w a sn I) (W : WF h) (f : HI I I') : K2 h n b fa pl C w a sn I' := by
  obtain ⟨x1, x2, x3, x4, x5, x6⟩ := X
  exact ⟨x1.hi f, x2.of (f 49 1 (by omega)) (fun i => f 50 i (by omega)), by rw [f 49 10 (by omega)]; exact x3, by rw [f 49 11 (by omega)]; exact x4, x5.of (fun k _ => f 64 k (by omega)) W, x6.of (f 49 45 (by omega)) (fun j => f 65 j (by omega))⟩
/-- the model when it was asked -/
theorem K2.fm (X : K2 h n b fa pl C w a sn I) (W : WF h) (f : FM I I') (M : MX h I') : K2 h n b fa pl C w a sn I' := by
  obtain ⟨x1, x2, x3, x4, x5, x6⟩ := X
  have f' : ∀ r k, ¬ mc r k → I' r k = I r k := f
  exact ⟨M, x2.of (f' 49 1 (by unfold mc; omega)) (fun i => f' 50 i (by unfold mc; omega)), by rw [f' 49 10 (by unfold mc; omega)]; exact x3, by rw [f' 49 11 (by unfold mc; omega)]; exact x4, x5.of (fun k _ => f' 64 k (by unfold mc; omega)) W, x6.of (f' 49 45 (by unfold mc; omega)) (fun j => f' 65 j (by unfold mc; omega))⟩
theorem FM.lo (f : FM I I') : LO I I' := fun r k hr => f r k (by unfold mc; omega)
theorem FX.hi (f : FX I I' L L') : HI I I' := fun r k hr => f.1 r k (by unfold xc; omega)
/-- the class when it was asked -/
theorem K1.fx (e1 : e ≤ q) (v1 : v ≤ q) (cx : CX h e v I' L') (fo : FO h v I) (k0 : K0 h n b fa pl C w a sn I L) (f : FX I I' L L') : K1 q h n b fa pl C w a sn I' L' :=
  ⟨⟨e, v, e1, v1, cx, fo.of (fun r k p q => f.1 r k (by unfold xc; omega))⟩, k0.of (fun r k p => f.1 r k (by unfold xc; omega)) (fun k => f.2 18 k (by omega))⟩
theorem K1.H (X : K1 q h n b fa pl C w a sn I L) : CH h I := by
  obtain ⟨⟨e, v, h1, h2, cx, fo⟩, k0⟩ := X
  exact cx.1
theorem K2.H (X : K2 h n b fa pl C w a sn I) : MH h I := X.1.1
theorem K1.mono {q' : Nat} (X : K1 q h n b fa pl C w a sn I L) (hq : q ≤ q') : K1 q' h n b fa pl C w a sn I L := by
  obtain ⟨⟨e, v, h1, h2, cx, fo⟩, k0⟩ := X
  exact ⟨⟨e, v, by omega, by omega, cx, fo⟩, k0⟩
/-- the model's picks change nothing that counts -/
theorem K2.pk (X : K2 h n b fa pl C w a sn I) (W : WF h) (f : ∀ r k, (r = 49 → k ≠ 51) → r ≠ 66 → r ≠ 67 → r ≠ 68 → r ≠ 69 → r ≠ 70 → r ≠ 71 → r ≠ 72 → I' r k = I r k) : K2 h n b fa pl C w a sn I' := by
  have M : MX h I' := by
    obtain ⟨x1, x2⟩ := X.1
    have f49 : ∀ k, k ≠ 51 → I' 49 k = I 49 k := fun k hk => f 49 k (fun _ => hk) (by omega) (by omega) (by omega) (by omega) (by omega) (by omega) (by omega)
    have fr : ∀ r k, r ≠ 49 → r < 66 ∨ 72 < r → I' r k = I r k := fun r k c d => f r k (fun z => absurd z c) (by omega) (by omega) (by omega) (by omega) (by omega) (by omega) (by omega)
    refine ⟨x1.of (fun k _ _ => f49 k (by omega)) (fun r p q k => fr r k (by omega) (by omega)) (fun k _ => fr 64 k (by omega) (by omega)), ?_⟩
    rw [f49 57 (by omega)]
    rcases x2 with x2 | ⟨x2, y1, y2⟩
    · exact Or.inl x2
    · exact Or.inr ⟨x2, y1.of (fun r k p => fr r k (by omega) (by omega)), fun c c0 c1 => by rw [fr 75 c (by omega) (by omega)]; exact y2 c c0 c1⟩
  exact X.fm W (fun r k hm => f r k (fun z hk => hm (by unfold mc; omega)) (fun z => hm (by unfold mc; omega)) (fun z => hm (by unfold mc; omega)) (fun z => hm (by unfold mc; omega)) (fun z => hm (by unfold mc; omega)) (fun z => hm (by unfold mc; omega)) (fun z => hm (by unfold mc; omega)) (fun z => hm (by unfold mc; omega))) M
variable {F : pm_F} {L0 : Nat} {xs : Nat → Int32}
theorem c_picked (hF : pm_fix pt_me pt_Sg (pt_R L0 xs) F) (W : WF h) (X : CX h e v I L) {c y : Nat} (h0 : 0 < c) (hc : c ≤ ev h) (hy : y ≤ 2) : ∃ I' L', (F 307 0 [some (.ref 30), some (.int (nI c)), some (.int (nI y)), none] [] (49, pt_G, I, L)) = some (some (.int (nI (hp (pw h c y)))), (49, pt_G, I', L')) ∧ FX I I' L L' ∧ CX h e v I' L' := by
  have hE := ev_lt W
  obtain ⟨A, K, a1, a2, a3, a4, a5⟩ := c_learn hF W X h0 hc
  obtain ⟨l1, l2, l3⟩ := a3.lr h0 hc a4
  have d := du_ok W h0 hc
  have HA := a3.1.H
  rw [e307_0 hF, a1]
  simp (disch := omega) only [pm_k_i, Option.toList_some, Option.toList_none, List.cons_append, List.nil_append, cond_true, cond_false, ↓reduceIte, reduceCtorEq, z_1, nI_add, z_cl, z_ib, z_lt, z_le, z_eq, z_eq0, z_le0, z_lt0, z_b0, z_b1, z_m1, z_and7, Int32.add_zero, e307_5 hF, z_and127, l1, l2]
  have hy' : y = 0 ∨ y = 1 ∨ y = 2 := by omega
  rcases hy' with rfl | rfl | rfl
  · simp (disch := omega) only [pm_k_i, Option.toList_some, Option.toList_none, List.cons_append, List.nil_append, cond_true, cond_false, ↓reduceIte, reduceCtorEq, z_1, nI_add, z_cl, z_ib, z_lt, z_le, z_eq, z_eq0, z_le0, z_lt0, z_b0, z_b1, z_m1, z_and7, Int32.add_zero, c_pickShort hF W HA d.1 (fun i hi => (d.2.1 i hi).1), e307_27 hF]
    exact ⟨A, K, rfl, a2, a3.1⟩
  · rw [if_neg (by decide), if_pos (by decide), e307_55 hF]
    exact ⟨A, K, rfl, a2, a3.1⟩
  · rw [if_neg (by decide), if_neg (by decide)]
    simp (disch := omega) only [pm_k_i, Option.toList_some, Option.toList_none, List.cons_append, List.nil_append, cond_true, cond_false, ↓reduceIte, reduceCtorEq, z_1, nI_add, z_cl, z_ib, z_lt, z_le, z_eq, z_eq0, z_le0, z_lt0, z_b0, z_b1, z_m1, z_and7, Int32.add_zero, c_settle hF W HA (fs_ok W h0 hc), e307_55 hF]
    exact ⟨A, K, rfl, a2, a3.1⟩
end
