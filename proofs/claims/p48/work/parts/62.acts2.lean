/-! ===== acts of the class: exchange, install, a crisis ===== -/
section
variable {h : Nat → Nat → Nat} {I I' : Nat → Nat → Int32} {L L' : Nat → Nat → Int64}
theorem wal_xch {w : Nat → Nat} {a b : Nat} (hab : a ≠ b) (ha : a < h 0 1) (hb : b < h 0 1) : wal h (xw w a b) + h 5 (8 * w a + a) + h 5 (8 * w b + b) = wal h w + h 5 (8 * w b + a) + h 5 (8 * w a + b) := by
  have e : (fun o => h 5 (8 * xw w a b o + o)) = up (up (fun o => h 5 (8 * w o + o)) a (h 5 (8 * w b + a))) b (h 5 (8 * w a + b)) := by
    funext o
    unfold xw up
    by_cases c : o = b
    · rw [if_pos c, if_pos c, c]
    · rw [if_neg c, if_neg c]
      by_cases d : o = a
      · rw [if_pos d, if_pos d, d]
      · rw [if_neg d, if_neg d]
  have h1 := sm_up (f := up (fun o => h 5 (8 * w o + o)) a (h 5 (8 * w b + a))) (v := h 5 (8 * w a + b)) hb
  have h2 := sm_up (f := fun o => h 5 (8 * w o + o)) (v := h 5 (8 * w b + a)) ha
  have h3 : up (fun o => h 5 (8 * w o + o)) a (h 5 (8 * w b + a)) b = h 5 (8 * w b + b) := by unfold up; rw [if_neg (fun z => hab z.symm)]
  rw [h3] at h1
  rw [wal_sm, wal_sm, e]
  try dsimp only at h2
  omega
def xch (h : Nat → Nat → Nat) (w : Nat → Nat) (a b : Nat) : Int32 := nI (wal h (xw w a b)) - nI (wal h w)
theorem xw_ok (W : WF h) {w : Nat → Nat} (k : WK h w) {a b : Nat} (ha : a < h 0 1) (hb : b < h 0 1) : WK h (xw w a b) := by
  have hO := W.O
  have hP := W.P
  have k1 := k.2 a ha
  have k2 := k.2 b hb
  exact ⟨(k.1.up (by omega) (by omega)).up (by omega) (by omega), up_lt (up_lt k.2 k2) k1⟩
/-- how many hold one -/
def hct (h : Nat → Nat → Nat) (w : Nat → Nat) : Nat := lp (fun p n => bif Nat.beq (fro h w p) 0 then n else n + 1) (h 0 0) 0
def hst (h : Nat → Nat → Nat) (w : Nat → Nat) : Nat := lp (fun o a => ad a (w o)) (h 0 1) 0
theorem hst_ok (W : WF h) {w : Nat → Nat} (k : WK h w) : ∀ n, n ≤ h 0 1 → lp (fun o a => ad a (w o)) n 0 < 2 ^ h 0 0 ∧ ∀ q, q < 8 → ((lp (fun o a => ad a (w o)) n 0).testBit q = true ↔ ∃ i, i < n ∧ w i = q) := by
  have hP := W.P
  have l7 : 2 ^ h 0 0 ≤ 2 ^ 7 := Nat.pow_le_pow_right (by decide) hP
  intro n
  induction n with
  | zero => exact fun _ => ⟨Nat.two_pow_pos _, fun q hq => ⟨(fun z => by rw [show lp (fun o a => ad a (w o)) 0 0 = 0 from rfl, Nat.zero_testBit] at z; cases z), (fun ⟨i, hi, _⟩ => by omega)⟩⟩
  | succ n ih =>
    intro hn
    obtain ⟨a1, a2⟩ := ih (by omega)
    have hw := k.2 n (by omega)
    show ad (lp (fun o a => ad a (w o)) n 0) (w n) < _ ∧ ∀ q, q < 8 → ((ad (lp (fun o a => ad a (w o)) n 0) (w n)).testBit q = true ↔ _)
    generalize lp (fun o a => ad a (w o)) n 0 = D at a1 a2
    refine ⟨ad_sub (h 0 0) (by omega) D a1 _ hw, fun q hq => ?_⟩
    rw [z_adb D (by omega) _ (by omega) q hq, Bool.or_eq_true, a2 q hq]
    constructor
    · rintro (⟨i, i1, i2⟩ | z)
      · exact ⟨i, by omega, i2⟩
      · exact ⟨n, by omega, (Nat.eq_of_beq_eq_true z).symm⟩
    · rintro ⟨i, i1, i2⟩
      by_cases z : i = n
      · right; subst z; rw [i2, Nat.beq_refl]
      · left; exact ⟨i, by omega, i2⟩
theorem hst_hct (W : WF h) {w : Nat → Nat} (k : WK h w) : pc (hst h w) = hct h w := by
  have hP := W.P
  have hO := W.O
  obtain ⟨a1, a2⟩ := hst_ok W k (h 0 1) (Nat.le_refl _)
  unfold hct pc
  refine lp_fix (n := h 0 0) (by omega) (lp_congr (fun p n p0 => ?_) 0) (fun q q1 q2 => ?_)
  · obtain ⟨f1, f2, f3⟩ := fro_ok W w p
    show n + ((hst h w).testBit p).toNat = bif Nat.beq (fro h w p) 0 then n else n + 1
    have a3 : (hst h w).testBit p = true ↔ ∃ i, i < h 0 1 ∧ w i = p := a2 p (by omega)
    by_cases z : fro h w p = 0
    · rw [z, Nat.beq_refl]
      have : (hst h w).testBit p = false := by
        cases t : (hst h w).testBit p with
        | false => rfl
        | true =>
          obtain ⟨i, i1, i2⟩ := a3.mp t
          have := f3 i (by omega)
          rw [z, Nat.zero_testBit, decide_eq_true i1, i2, Nat.beq_refl] at this
          cases this
      rw [this]
      rfl
    · rw [beq_f z]
      obtain ⟨o, o1, o2⟩ := set_ex (h 0 1) (by omega) _ f1 (Nat.pos_of_ne_zero z)
      rw [f3 o (by omega), decide_eq_true o1, Bool.true_and] at o2
      rw [a3.mpr ⟨o, o1, Nat.eq_of_beq_eq_true o2⟩]
      rfl
  · show _ + ((hst h w).testBit q).toNat = _
    rw [show (hst h w).testBit q = false from z_tbig (n := h 0 0) a1 q1]
    rfl
/-- a crisis -/
def crs1 (h : Nat → Nat → Nat) (x : Nat × (Nat → Nat)) : Nat × (Nat → Nat) := match fup h x.1 x.2 with
  | none => x
  | some p => (rm x.1 p, lgw h x.1 x.2 p)
def crn (h : Nat → Nat → Nat) (C : Nat) (w : Nat → Nat) : Nat → Nat × (Nat → Nat)
  | 0 => (C, w)
  | n + 1 => crs1 h (crn h C w n)
def cgo (h : Nat → Nat → Nat) (C : Nat) (w : Nat → Nat) : Nat := (ff (fun n => (fup h (crn h C w n).1 (crn h C w n).2).isNone) 8).getD 0
theorem fup_in {C p : Nat} {w : Nat → Nat} (hp : fup h C w = some p) : p < h 0 0 ∧ C.testBit p = true := by
  obtain ⟨a, b, _⟩ := ff_some hp
  rw [Bool.and_eq_true] at b
  exact ⟨a, b.1⟩
theorem crs1_ok (W : WF h) {x : Nat × (Nat → Nat)} (hc : CAB h x.1 x.2) : CAB h (crs1 h x).1 (crs1 h x).2 := by
  unfold crs1
  cases e : fup h x.1 x.2 with
  | none => exact hc
  | some p => exact lgw_ok W hc (fup_in e).2
theorem crn_ok (W : WF h) {C : Nat} {w : Nat → Nat} (hc : CAB h C w) : ∀ n, CAB h (crn h C w n).1 (crn h C w n).2 := by
  intro n
  induction n with
  | zero => exact hc
  | succ n ih => exact crs1_ok W ih
theorem cgo_some (W : WF h) {C : Nat} {w : Nat → Nat} (hc : CAB h C w) : ff (fun n => (fup h (crn h C w n).1 (crn h C w n).2).isNone) 8 = some (cgo h C w) := by
  have hE := ev_lt W
  unfold cgo
  cases e : ff (fun n => (fup h (crn h C w n).1 (crn h C w n).2).isNone) 8 with
  | some j => rfl
  | none =>
    exfalso
    have key : ∀ n, n ≤ 8 → pc (crn h C w n).1 + n = pc C := by
      intro n
      induction n with
      | zero => intro _; rfl
      | succ n ih =>
        intro hn
        have i1 := ih (by omega)
        have i2 := ff_none e n (by omega)
        have i3 := (crn_ok W hc n).1
        show pc (crs1 h (crn h C w n)).1 + (n + 1) = _
        unfold crs1
        cases q : fup h (crn h C w n).1 (crn h C w n).2 with
        | none => rw [q] at i2; cases i2
        | some p =>
          obtain ⟨b1, b2⟩ := fup_in q
          have hP := W.P
          have := pc_rm _ (show (crn h C w n).1 < 256 by omega) p (by omega) b2
          show pc (rm (crn h C w n).1 p) + _ = _
          omega
    have k1 := key 8 (Nat.le_refl _)
    have k2 := (pc_7 C (by have := hc.1; omega)).1
    omega
variable {F : pm_F} {L0 : Nat} {xs : Nat → Int32}
theorem c_exchange (hF : pm_fix pt_me pt_Sg (pt_R L0 xs) F) (W : WF h) (H : CH h I) {C n a b : Nat} {w : Nat → Nat} {sn : Nat → SN} (h45 : I 44 5 = nI C) (k : WK h w) (h46 : I 44 6 = nI (hp w)) (A : ACC (h 0 0) n sn (h 1) I) (ha : a < h 0 1) (hb : b < h 0 1) : ∃ I', (F 209 0 [some (.ref 44), some (.int (nI a)), some (.int (nI b)), none] [] (49, pt_G, I, L)) = some (some (.int (xch h w a b)), (49, pt_G, I', L)) ∧ (∀ r j, r < 45 ∨ 48 < r → (r = 44 → j < 5) → I' r j = I r j) ∧ I' 44 5 = nI C ∧ I' 44 6 = nI (hp (xw w a b)) ∧ ACC (h 0 0) (acm n + 1) (psh n sn (C, w, h 1)) (h 1) I' := by
  have hP := W.P
  have hO := W.O
  have g := hp_lt k.1
  have ka := k.2 a ha
  have kb := k.2 b hb
  have kx := xw_ok W k ha hb
  have gx := hp_lt kx.1
  have v1 := c_worthOfAll (L := L) hF W H g (by rw [gs_hp k.1]; exact k.2)
  rw [gs_hp k.1] at v1
  obtain ⟨J, d1, d2, d3⟩ := c_remember (L := L) hF W H h45 (fun _ => h46) A (x := -1) (Or.inl ⟨rfl, rfl⟩)
  have j6 : J 44 6 = nI (hp w) := by rw [d2 44 6 (by omega) (by omega)]; exact h46
  have j5 : J 44 5 = nI C := by rw [d2 44 5 (by omega) (by omega)]; exact h45
  have HJ : CH h (pm_ui J 44 6 (nI (hp (xw w a b)))) := H.of (fun k _ => by rw [z_ur (by omega)]; exact d2 3 k (by omega) (by omega)) (fun r a b k => by rw [z_ur (by omega)]; exact d2 r k (by omega) (by omega))
  have v2 := c_worthOfAll (L := L) hF W HJ gx (by rw [gs_hp kx.1]; exact kx.2)
  rw [gs_hp kx.1] at v2
  have v3 := c_exchanged (I := J) (L := L) hF g (show a < 8 by omega) (show b < 8 by omega)
  rw [gs_hp k.1, hp_ws k.1 (by omega) (by omega), hp_ws (k.1.up (by omega) (by omega)) (by omega) (by omega)] at v3
  rw [e209_0 hF, h46, v1]
  simp (disch := omega) only [pm_k_i, Option.toList_some, Option.toList_none, List.cons_append, List.nil_append, cond_true, cond_false, ↓reduceIte, reduceCtorEq, z_1, nI_add, z_cl, z_ib, z_lt, z_le, z_eq, z_eq0, z_le0, z_lt0, z_b0, z_b1, z_m1, z_and7, Int32.add_zero, e209_11 hF, d1, e209_17 hF, j6]
  rw [v3]
  simp (disch := omega) only [pm_k_i, Option.toList_some, Option.toList_none, List.cons_append, List.nil_append, cond_true, cond_false, ↓reduceIte, reduceCtorEq, z_1, nI_add, z_cl, z_ib, z_lt, z_le, z_eq, z_eq0, z_le0, z_lt0, z_b0, z_b1, z_m1, z_and7, Int32.add_zero, e209_27 hF]
  have v2' : (F 522 0 [some (.ref 3), some (.int (nI (hp (up (up w a (w b)) b (w a))))), none, none] [] (49, pt_G, (pm_ui J 44 6 (nI (hp (up (up w a (w b)) b (w a))))), L)) = _ := v2
  rw [v2']
  simp (disch := omega) only [pm_k_i, Option.toList_some, Option.toList_none, List.cons_append, List.nil_append, cond_true, cond_false, ↓reduceIte, reduceCtorEq, z_1, nI_add, z_cl, z_ib, z_lt, z_le, z_eq, z_eq0, z_le0, z_lt0, z_b0, z_b1, z_m1, z_and7, Int32.add_zero, e209_41 hF]
  refine ⟨_, rfl, fun r j x y => ?_, ?_, ?_, ?_⟩
  · by_cases z : r = 44
    · have := y z
      rw [z, z_uk (by omega)]; exact d2 44 j (by omega) (fun _ => by omega)
    · rw [z_ur z]; exact d2 r j x (fun q => absurd q z)
  · rw [z_uk (by omega)]; exact j5
  · rw [z_ue]
  · exact d3.of (by rw [z_uk (by omega)]) (fun r j x y => by rw [z_ur (by omega)])
theorem c_install (hF : pm_fix pt_me pt_Sg (pt_R L0 xs) F) (W : WF h) (H : CH h I) {C D n : Nat} {w v : Nat → Nat} {sn : Nat → SN} (h45 : I 44 5 = nI C) (h46 : C ≠ 0 → I 44 6 = nI (hp w)) (A : ACC (h 0 0) n sn (h 1) I) (d0 : D ≠ 0) (hD : D < 128) (k : WK h v) : ∃ I', (F 208 0 [some (.ref 44), some (.int (nI D)), some (.int (nI (hp v))), none, none] [] (49, pt_G, I, L)) = some (some (.int (nI (hct h v))), (49, pt_G, I', L)) ∧ (∀ r j, r < 45 ∨ 48 < r → (r = 44 → j < 5) → I' r j = I r j) ∧ I' 44 5 = nI D ∧ I' 44 6 = nI (hp v) ∧ ACC (h 0 0) (acm n + 1) (psh n sn (C, w, h 1)) (h 1) I' := by
  have hP := W.P
  obtain ⟨J, d1, d2, d3⟩ := c_remember (L := L) hF W H h45 h46 A (x := -1) (Or.inl ⟨rfl, rfl⟩)
  have HJ : CH h (pm_ui (pm_ui J 44 5 (nI D)) 44 6 (nI (hp v))) := H.of (fun k _ => by rw [z_ur (by omega), z_ur (by omega)]; exact d2 3 k (by omega) (by omega)) (fun r a b k => by rw [z_ur (by omega), z_ur (by omega)]; exact d2 r k (by omega) (by omega))
  have j5 : (pm_ui (pm_ui J 44 5 (nI D)) 44 6 (nI (hp v))) 44 5 = nI D := by rw [z_uk (by omega), z_ue]
  have j6 : (pm_ui (pm_ui J 44 5 (nI D)) 44 6 (nI (hp v))) 44 6 = nI (hp v) := by rw [z_ue]
  have fin : (∀ r j, r < 45 ∨ 48 < r → (r = 44 → j < 5) → (pm_ui (pm_ui J 44 5 (nI D)) 44 6 (nI (hp v))) r j = I r j) ∧ ACC (h 0 0) (acm n + 1) (psh n sn (C, w, h 1)) (h 1) (pm_ui (pm_ui J 44 5 (nI D)) 44 6 (nI (hp v))) := by
    refine ⟨fun r j x y => ?_, d3.of (by rw [z_uk (by omega), z_uk (by omega)]) (fun r j x y => by rw [z_ur (by omega), z_ur (by omega)])⟩
    by_cases z : r = 44
    · have := y z
      rw [z, z_uk (by omega), z_uk (by omega)]; exact d2 44 j (by omega) (fun _ => by omega)
    · rw [z_ur z, z_ur z]; exact d2 r j x (fun q => absurd q z)
  rw [e208_0 hF, d1]
  simp (disch := omega) only [pm_k_i, Option.toList_some, Option.toList_none, List.cons_append, List.nil_append, cond_true, cond_false, ↓reduceIte, reduceCtorEq, z_1, nI_add, z_cl, z_ib, z_lt, z_le, z_eq, z_eq0, z_le0, z_lt0, z_b0, z_b1, z_m1, z_and7, Int32.add_zero, e208_5 hF]
  generalize pm_ui (pm_ui J 44 5 (nI D)) 44 6 (nI (hp v)) = N at *
  refine ⟨N, ?_, fin.1, j5, j6, fin.2⟩
  refine ((lpI (G := fun p m => (F 208 20 [some (.ref 44), some (.int (nI D)), some (.int (nI (hp v))), some (.int (nI m)), some (.int (nI p))] [] (49, pt_G, N, L))) (f := fun p n => bif Nat.beq (fro h v p) 0 then n else n + 1) (P := fun p m => m ≤ p) (n := h 0 0) (a := 0) (Nat.le_refl _) (fun p m p0 hm => ⟨?_, ?_⟩)).1).trans ?_
  · have hb := c_heldBy (L := L) hF W HJ j5 hD (fun _ => ⟨k, j6⟩) (show p < 8 by omega)
    have e1 : hld h D v p = fro h v p := by unfold hld; rw [beq_f d0]; rfl
    have l := (fro_ok W v p).2.1
    rw [e1] at hb
    try dsimp only
    rw [e208_20 hF]
    simp (disch := omega) only [pm_k_i, Option.toList_some, Option.toList_none, List.cons_append, List.nil_append, cond_true, cond_false, ↓reduceIte, reduceCtorEq, z_1, nI_add, z_cl, z_ib, z_lt, z_le, z_eq, z_eq0, z_le0, z_lt0, z_b0, z_b1, z_m1, z_and7, Int32.add_zero, HJ.P, p0, hb, e208_38 hF]
    by_cases z : fro h v p = 0
    · rw [if_pos z, z]; rfl
    · rw [if_neg z, beq_f z]; rfl
  · cases Nat.beq (fro h v p) 0
    · show m + 1 ≤ p + 1; omega
    · show m ≤ p + 1; omega
  · try dsimp only
    rw [e208_20 hF]
    simp (disch := omega) only [pm_k_i, Option.toList_some, Option.toList_none, List.cons_append, List.nil_append, cond_true, cond_false, ↓reduceIte, reduceCtorEq, z_1, nI_add, z_cl, z_ib, z_lt, z_le, z_eq, z_eq0, z_le0, z_lt0, z_b0, z_b1, z_m1, z_and7, Int32.add_zero, HJ.P, Nat.lt_irrefl]
    rfl
theorem c_crisis (hF : pm_fix pt_me pt_Sg (pt_R L0 xs) F) (W : WF h) (H : CH h I) {C n : Nat} {w : Nat → Nat} {sn : Nat → SN} (h45 : I 44 5 = nI C) (h46 : C ≠ 0 → I 44 6 = nI (hp w)) (hc : CAB h C w) (A : ACC (h 0 0) n sn (h 1) I) : ∃ I', (F 210 0 [some (.ref 44), none, none, none] [] (49, pt_G, I, L)) = some (some (.int (nI (cgo h C w))), (49, pt_G, I', L)) ∧ (∀ r j, r < 45 ∨ 48 < r → (r = 44 → j < 5) → I' r j = I r j) ∧ I' 44 5 = nI (crn h C w (cgo h C w)).1 ∧ ((crn h C w (cgo h C w)).1 ≠ 0 → I' 44 6 = nI (hp (crn h C w (cgo h C w)).2)) ∧ (if cgo h C w = 0 then ACC (h 0 0) n sn (h 1) I' else ACC (h 0 0) (acm n + 1) (psh n sn (C, w, h 1)) (h 1) I') := by
  have hP := W.P
  have hE := ev_lt W
  obtain ⟨c1, c2, c3⟩ := ff_some (cgo_some W hc)
  generalize cgo h C w = g at *
  rw [e210_0 hF]
  refine wl (Q := fun x => ∃ I', x = some (some (.int (nI g)), (49, pt_G, I', L)) ∧ (∀ r j, r < 45 ∨ 48 < r → (r = 44 → j < 5) → I' r j = I r j) ∧ I' 44 5 = nI (crn h C w g).1 ∧ ((crn h C w g).1 ≠ 0 → I' 44 6 = nI (hp (crn h C w g).2)) ∧ (if g = 0 then ACC (h 0 0) n sn (h 1) I' else ACC (h 0 0) (acm n + 1) (psh n sn (C, w, h 1)) (h 1) I')) (G := fun m J => (F 210 4 [some (.ref 44), some (.int (nI m)), some (.int (nI m)), none] [] (49, pt_G, J, L))) (P := fun m J => (∀ r j, r < 45 ∨ 48 < r → (r = 44 → j < 5) → J r j = I r j) ∧ J 44 5 = nI (crn h C w m).1 ∧ ((crn h C w m).1 ≠ 0 → J 44 6 = nI (hp (crn h C w m).2)) ∧ (if m = 0 then ACC (h 0 0) n sn (h 1) J else ACC (h 0 0) (acm n + 1) (psh n sn (C, w, h 1)) (h 1) J)) (n := g) (fun m J hm hJ go => ?_) (fun J hJ => ?_) 0 I (Nat.zero_le _) ⟨fun _ _ _ _ => rfl, h45, h46, by rw [if_pos rfl]; exact A⟩
  · obtain ⟨j1, j2, j3, j4⟩ := hJ
    have HJ : CH h J := H.of (fun k _ => j1 3 k (by omega) (by omega)) (fun r a b k => j1 r k (by omega) (by omega))
    have cm := crn_ok W hc m
    have cm1 := cm.1
    have c3 := c3 m hm
    have fu := c_firstUnpaid (L := L) hF W HJ j2 (by omega) (fun z => ⟨(cm.2 z).1, j3 z⟩)
    cases q : fup h (crn h C w m).1 (crn h C w m).2 with
    | none => rw [q] at c3; cases c3
    | some p =>
      obtain ⟨b1, b2⟩ := fup_in q
      have nx : crn h C w (m + 1) = (rm (crn h C w m).1 p, lgw h (crn h C w m).1 (crn h C w m).2 p) := by
        show crs1 h (crn h C w m) = _
        unfold crs1
        rw [q]
      rw [q] at fu
      -- behind what is kept
      have key : ∀ K : Nat → Nat → Int32, (∀ r j, r < 45 ∨ 48 < r → (r = 44 → j ≠ 7) → K r j = J r j) → ACC (h 0 0) (acm n + 1) (psh n sn (C, w, h 1)) (h 1) K → ∃ I', (F 210 31 [some (.ref 44), some (.int (nI m)), some (.int (nI m)), some (.int (nI p))] [] (49, pt_G, K, L)) = some (some (.int (nI g)), (49, pt_G, I', L)) ∧ (∀ r j, r < 45 ∨ 48 < r → (r = 44 → j < 5) → I' r j = I r j) ∧ I' 44 5 = nI (crn h C w g).1 ∧ ((crn h C w g).1 ≠ 0 → I' 44 6 = nI (hp (crn h C w g).2)) ∧ (if g = 0 then ACC (h 0 0) n sn (h 1) I' else ACC (h 0 0) (acm n + 1) (psh n sn (C, w, h 1)) (h 1) I') := by
        intro K f B
        have HK : CH h K := HJ.of (fun k _ => f 3 k (by omega) (by omega)) (fun r a b k => f r k (by omega) (by omega))
        obtain ⟨N, n1, n2, n3, n4⟩ := c_letGo (L := L) hF W HK (C := (crn h C w m).1) (w := (crn h C w m).2) (p := p) (by rw [f 44 5 (by omega) (by omega)]; exact j2) (by rw [f 44 6 (by omega) (by omega)]; exact j3 (bit_pos b2)) cm b2
        rw [e210_31 hF, n1]
        simp (disch := omega) only [pm_k_i, Option.toList_some, Option.toList_none, List.cons_append, List.nil_append, cond_true, cond_false, ↓reduceIte, reduceCtorEq, z_1, nI_add, z_cl, z_ib, z_lt, z_le, z_eq, z_eq0, z_le0, z_lt0, z_b0, z_b1, z_m1, z_and7, Int32.add_zero, e210_36 hF]
        refine go N ⟨fun r j x y => ?_, by rw [n3, nx], fun z => by rw [n4 (by rw [nx] at z; exact z), nx], ?_⟩
        · rw [n2 r j (fun q => by have := y q; omega), f r j x (fun q => by have := y q; omega)]
          exact j1 r j x y
        · rw [if_neg (by omega)]
          exact B.of (n2 44 7 (fun _ => by omega)) (fun r j x y => n2 r j (fun q => by omega))
      try dsimp only
      rw [e210_4 hF, show (7 : Int32) = nI 7 from rfl]
      simp (disch := omega) only [pm_k_i, Option.toList_some, Option.toList_none, List.cons_append, List.nil_append, cond_true, cond_false, ↓reduceIte, reduceCtorEq, z_1, nI_add, z_cl, z_ib, z_lt, z_le, z_eq, z_eq0, z_le0, z_lt0, z_b0, z_b1, z_m1, z_and7, Int32.add_zero, show (m < 7) = True from propext ⟨fun _ => trivial, fun _ => by omega⟩, fu, oI, e210_14 hF]
      by_cases z : m = 0
      · subst z
        rw [if_pos rfl] at j4
        obtain ⟨K, d1, d2, d3⟩ := c_remember (L := L) hF W HJ j2 j3 j4 (x := -1) (Or.inl ⟨rfl, rfl⟩)
        simp (disch := omega) only [pm_k_i, Option.toList_some, Option.toList_none, List.cons_append, List.nil_append, cond_true, cond_false, ↓reduceIte, reduceCtorEq, z_1, nI_add, z_cl, z_ib, z_lt, z_le, z_eq, z_eq0, z_le0, z_lt0, z_b0, z_b1, z_m1, z_and7, Int32.add_zero]
        rw [d1]
        simp (disch := omega) only [pm_k_i, Option.toList_some, Option.toList_none, List.cons_append, List.nil_append, cond_true, cond_false, ↓reduceIte, reduceCtorEq, z_1, nI_add, z_cl, z_ib, z_lt, z_le, z_eq, z_eq0, z_le0, z_lt0, z_b0, z_b1, z_m1, z_and7, Int32.add_zero]
        exact key K d2 d3
      · rw [if_neg z] at j4 ⊢
        exact key J (fun _ _ _ _ => rfl) j4
  · obtain ⟨j1, j2, j3, j4⟩ := hJ
    have HJ : CH h J := H.of (fun k _ => j1 3 k (by omega) (by omega)) (fun r a b k => j1 r k (by omega) (by omega))
    have cm := crn_ok W hc g
    have cm1 := cm.1
    have fu := c_firstUnpaid (L := L) hF W HJ j2 (by omega) (fun z => ⟨(cm.2 z).1, j3 z⟩)
    have e1 : fup h (crn h C w g).1 (crn h C w g).2 = none := Option.isNone_iff_eq_none.mp c2
    rw [e1] at fu
    try dsimp only
    rw [e210_4 hF, show (7 : Int32) = nI 7 from rfl]
    by_cases z : g < 7
    · simp (disch := omega) only [pm_k_i, Option.toList_some, Option.toList_none, List.cons_append, List.nil_append, cond_true, cond_false, ↓reduceIte, reduceCtorEq, z_1, nI_add, z_cl, z_ib, z_lt, z_le, z_eq, z_eq0, z_le0, z_lt0, z_b0, z_b1, z_m1, z_and7, Int32.add_zero, z, fu, oI, e210_14 hF]
      exact ⟨J, rfl, j1, j2, j3, j4⟩
    · simp (disch := omega) only [pm_k_i, Option.toList_some, Option.toList_none, List.cons_append, List.nil_append, cond_true, cond_false, ↓reduceIte, reduceCtorEq, z_1, nI_add, z_cl, z_ib, z_lt, z_le, z_eq, z_eq0, z_le0, z_lt0, z_b0, z_b1, z_m1, z_and7, Int32.add_zero, z]
      exact ⟨J, rfl, j1, j2, j3, j4⟩
end
