/-! ===== the house: what its methods answer ===== -/
section
/-- a house: 0: how many parties, offices, first, step, need (0: none told), care, tries, tire; 1 seats, 2 places, 3 walks, 4 bars, 5 worths, 6 stances -/
def WF (h : Nat → Nat → Nat) : Prop := (h 0 0 ≤ 7 ∧ h 0 1 ≤ 8 ∧ 1 ≤ h 0 2 ∧ h 0 2 ≤ 99 ∧ 1 ≤ h 0 3 ∧ h 0 3 ≤ 99 ∧ h 0 4 ≤ 999 ∧ h 0 5 ≤ 9 ∧ 1 ≤ h 0 6 ∧ h 0 6 ≤ 9 ∧ h 0 7 ≤ 99) ∧ (∀ p, 1 ≤ h 1 p ∧ h 1 p ≤ 999) ∧ (∀ p, h 2 p ≤ 99) ∧ (∀ p, h 3 p ≤ 999) ∧ (∀ p, h 4 p < 128) ∧ (∀ x, h 5 x ≤ 99) ∧ (∀ x, h 6 x ≤ 9) ∧ (∀ p q, (h 4 p).testBit q = (h 4 q).testBit p) ∧ ∀ p, (h 4 p).testBit p = false
variable {h : Nat → Nat → Nat}
theorem WF.P (W : WF h) : h 0 0 ≤ 7 := W.1.1
theorem WF.O (W : WF h) : h 0 1 ≤ 8 := W.1.2.1
theorem WF.f (W : WF h) : 1 ≤ h 0 2 ∧ h 0 2 ≤ 99 := ⟨W.1.2.2.1, W.1.2.2.2.1⟩
theorem WF.s (W : WF h) : 1 ≤ h 0 3 ∧ h 0 3 ≤ 99 := ⟨W.1.2.2.2.2.1, W.1.2.2.2.2.2.1⟩
theorem WF.need (W : WF h) : h 0 4 ≤ 999 := W.1.2.2.2.2.2.2.1
theorem WF.care (W : WF h) : h 0 5 ≤ 9 := W.1.2.2.2.2.2.2.2.1
theorem WF.tries (W : WF h) : 1 ≤ h 0 6 ∧ h 0 6 ≤ 9 := ⟨W.1.2.2.2.2.2.2.2.2.1, W.1.2.2.2.2.2.2.2.2.2.1⟩
theorem WF.tire (W : WF h) : h 0 7 ≤ 99 := W.1.2.2.2.2.2.2.2.2.2.2
theorem WF.seats (W : WF h) (p : Nat) : 1 ≤ h 1 p ∧ h 1 p ≤ 999 := W.2.1 p
theorem WF.place (W : WF h) (p : Nat) : h 2 p ≤ 99 := W.2.2.1 p
theorem WF.walk (W : WF h) (p : Nat) : h 3 p ≤ 999 := W.2.2.2.1 p
theorem WF.bars (W : WF h) (p : Nat) : h 4 p < 128 := W.2.2.2.2.1 p
theorem WF.worth (W : WF h) (x : Nat) : h 5 x ≤ 99 := W.2.2.2.2.2.1 x
theorem WF.stance (W : WF h) (x : Nat) : h 6 x ≤ 9 := W.2.2.2.2.2.2.1 x
theorem WF.sym (W : WF h) (p q : Nat) : (h 4 p).testBit q = (h 4 q).testBit p := W.2.2.2.2.2.2.2.1 p q
theorem WF.irr (W : WF h) (p : Nat) : (h 4 p).testBit p = false := W.2.2.2.2.2.2.2.2 p
/-- the class holds the house -/
def CH (h : Nat → Nat → Nat) (I : Nat → Nat → Int32) : Prop := (∀ k, k < 8 → I 3 k = nI (h 0 k)) ∧ (∀ p, p < h 0 0 → I 4 p = nI (h 1 p)) ∧ (∀ p, p < h 0 0 → I 5 p = nI (h 2 p)) ∧ (∀ p, p < h 0 0 → I 6 p = nI (h 3 p)) ∧ (∀ p, p < h 0 0 → I 7 p = nI (h 4 p)) ∧ (∀ p o, p < h 0 0 → o < h 0 1 → I 8 (8 * p + o) = nI (h 5 (8 * p + o))) ∧ (∀ p o, p < h 0 0 → o < h 0 1 → I 9 (8 * p + o) = nI (h 6 (8 * p + o)))
variable {I I' : Nat → Nat → Int32}
theorem CH.P (H : CH h I) : I 3 0 = nI (h 0 0) := H.1 0 (by omega)
theorem CH.O (H : CH h I) : I 3 1 = nI (h 0 1) := H.1 1 (by omega)
theorem CH.f (H : CH h I) : I 3 2 = nI (h 0 2) := H.1 2 (by omega)
theorem CH.s (H : CH h I) : I 3 3 = nI (h 0 3) := H.1 3 (by omega)
theorem CH.need (H : CH h I) : I 3 4 = nI (h 0 4) := H.1 4 (by omega)
theorem CH.care (H : CH h I) : I 3 5 = nI (h 0 5) := H.1 5 (by omega)
theorem CH.tries (H : CH h I) : I 3 6 = nI (h 0 6) := H.1 6 (by omega)
theorem CH.tire (H : CH h I) : I 3 7 = nI (h 0 7) := H.1 7 (by omega)
theorem CH.seats (H : CH h I) {p : Nat} (hp : p < h 0 0) : I 4 p = nI (h 1 p) := H.2.1 p hp
theorem CH.place (H : CH h I) {p : Nat} (hp : p < h 0 0) : I 5 p = nI (h 2 p) := H.2.2.1 p hp
theorem CH.walk (H : CH h I) {p : Nat} (hp : p < h 0 0) : I 6 p = nI (h 3 p) := H.2.2.2.1 p hp
theorem CH.bars (H : CH h I) {p : Nat} (hp : p < h 0 0) : I 7 p = nI (h 4 p) := H.2.2.2.2.1 p hp
theorem CH.worth (H : CH h I) {p o : Nat} (hp : p < h 0 0) (ho : o < h 0 1) : I 8 (8 * p + o) = nI (h 5 (8 * p + o)) := H.2.2.2.2.2.1 p o hp ho
theorem CH.stance (H : CH h I) {p o : Nat} (hp : p < h 0 0) (ho : o < h 0 1) : I 9 (8 * p + o) = nI (h 6 (8 * p + o)) := H.2.2.2.2.2.2 p o hp ho
theorem CH.of (H : CH h I) (f3 : ∀ k, k < 8 → I' 3 k = I 3 k) (fr : ∀ r, 4 ≤ r → r ≤ 9 → ∀ k, I' r k = I r k) : CH h I' :=
  ⟨fun k hk => by rw [f3 k hk]; exact H.1 k hk, fun p hp => by rw [fr 4 (by omega) (by omega)]; exact H.seats hp, fun p hp => by rw [fr 5 (by omega) (by omega)]; exact H.place hp, fun p hp => by rw [fr 6 (by omega) (by omega)]; exact H.walk hp, fun p hp => by rw [fr 7 (by omega) (by omega)]; exact H.bars hp, fun p o hp ho => by rw [fr 8 (by omega) (by omega)]; exact H.worth hp ho, fun p o hp ho => by rw [fr 9 (by omega) (by omega)]; exact H.stance hp ho⟩
/-! what is told of a house -/
def ev (h : Nat → Nat → Nat) : Nat := 2 ^ h 0 0 - 1
def sIn (h : Nat → Nat → Nat) (C : Nat) : Nat := lp (fun p a => bif C.testBit p then a + h 1 p else a) (h 0 0) 0
def ned (h : Nat → Nat → Nat) (a : Nat) : Nat := bif Nat.blt 0 (h 0 4) then h 0 4 else a / 2 + 1
def need (h : Nat → Nat → Nat) : Nat := ned h (sIn h (ev h))
def ahd (h : Nat → Nat → Nat) (f s : Nat) (had : Nat → Nat) (p q : Nat) : Bool := decide (h 1 q * (f + s * had p) < h 1 p * (f + s * had q)) || (decide (h 1 p * (f + s * had q) = h 1 q * (f + s * had p)) && decide (h 1 q < h 1 p))
def nx1 (h : Nat → Nat → Nat) (f s : Nat) (had : Nat → Nat) (C : Nat) (p : Nat) (b : Option Nat) : Option Nat := bif C.testBit p && (match b with
  | none => true
  | some q => ahd h f s had p q) then some p else b
def nxt (h : Nat → Nat → Nat) (f s : Nat) (had : Nat → Nat) (C : Nat) : Option Nat := lp (nx1 h f s had C) (h 0 0) none
def ds1 (h : Nat → Nat → Nat) (p l : Nat) (o : Nat) (b : Option Nat) : Option Nat := bif l.testBit o && (match b with
  | none => true
  | some q => decide (h 5 (8 * p + q) < h 5 (8 * p + o))) then some o else b
def dst (h : Nat → Nat → Nat) (p l : Nat) : Option Nat := lp (ds1 h p l) (h 0 1) none
def wei (h : Nat → Nat → Nat) (C : Nat) : Nat := lp (fun p a => bif C.testBit p then a + h 1 p * h 2 p else a) (h 0 0) 0
def mid (h : Nat → Nat → Nat) (C : Nat) : Nat := wei h C / sIn h C
/-- what the offices of q are worth to p -/
def own (h : Nat → Nat → Nat) (w : Nat → Nat) (q p : Nat) : Nat := lp (fun o a => bif Nat.beq (w o) q then a + h 5 (8 * p + o) else a) (h 0 1) 0
def wal (h : Nat → Nat → Nat) (w : Nat → Nat) : Nat := lp (fun o a => a + h 5 (8 * w o + o)) (h 0 1) 0
def dis (a b : Nat) : Nat := if a ≤ b then b - a else a - b
/-- PAY -/
def pyv (h : Nat → Nat → Nat) (a p m : Nat) : Int32 := nI (10 * a) - nI (h 0 5 * dis (h 2 p) m)
def grf (h : Nat → Nat → Nat) (w : Nat → Nat) (p : Nat) : Nat := lp (fun o a => a + dis (h 6 (8 * p + o)) (h 6 (8 * w o + o)) * h 5 (8 * p + o)) (h 0 1) 0
/-! bounds -/
theorem lp_le {f : Nat → Nat → Nat} {n c : Nat} (hf : ∀ k a, k < n → f k a ≤ a + c) : ∀ a, lp f n a ≤ a + n * c := by
  intro a
  induction n with
  | zero => show a ≤ _; omega
  | succ n ih =>
    have h1 := ih (fun k a hk => hf k a (by omega))
    have h2 := hf n (lp f n a) (by omega)
    show f n (lp f n a) ≤ _
    rw [Nat.succ_mul]
    omega
theorem sIn_le (W : WF h) (C : Nat) : sIn h C ≤ 6993 := by
  have h1 := lp_le (f := fun p a => bif C.testBit p then a + h 1 p else a) (n := h 0 0) (c := 999) (fun k a _ => by
    have := W.seats k
    cases C.testBit k <;> (try simp only [cond_true, cond_false]) <;> omega) 0
  have h2 := W.P
  have h3 : h 0 0 * 999 ≤ 7 * 999 := Nat.mul_le_mul_right _ h2
  show lp _ _ _ ≤ _
  omega
theorem ned_le (W : WF h) {a : Nat} (ha : a ≤ 10000) : ned h a ≤ 5001 ∧ 1 ≤ ned h a := by
  have := W.need
  unfold ned
  cases hb : Nat.blt 0 (h 0 4) with
  | true => have h1 : 0 < h 0 4 := Nat.le_of_ble_eq_true hb
            show h 0 4 ≤ _ ∧ _ ≤ h 0 4; omega
  | false => show a / 2 + 1 ≤ _ ∧ _ ≤ a / 2 + 1; omega
theorem need_le (W : WF h) : need h ≤ 5001 ∧ 1 ≤ need h := ned_le W (by have := sIn_le W (ev h); omega)
theorem ev_lt (W : WF h) : ev h < 128 := by
  have h1 := W.P
  have : 2 ^ h 0 0 ≤ 2 ^ 7 := Nat.pow_le_pow_right (by decide) h1
  unfold ev
  omega
theorem own_le (W : WF h) (w : Nat → Nat) (q p : Nat) : own h w q p ≤ 792 := by
  have h1 := lp_le (f := fun o a => bif Nat.beq (w o) q then a + h 5 (8 * p + o) else a) (n := h 0 1) (c := 99) (fun k a _ => by
    have := W.worth (8 * p + k)
    cases Nat.beq (w k) q <;> (try simp only [cond_true, cond_false]) <;> omega) 0
  have h2 := W.O
  have h3 : h 0 1 * 99 ≤ 8 * 99 := Nat.mul_le_mul_right _ h2
  show lp _ _ _ ≤ _
  omega
theorem wal_le (W : WF h) (w : Nat → Nat) : wal h w ≤ 792 := by
  have h1 := lp_le (f := fun o a => a + h 5 (8 * w o + o)) (n := h 0 1) (c := 99) (fun k a _ => by
    have := W.worth (8 * w k + k)
    show a + h 5 (8 * w k + k) ≤ _
    omega) 0
  have h2 := W.O
  have h3 : h 0 1 * 99 ≤ 8 * 99 := Nat.mul_le_mul_right _ h2
  show lp _ _ _ ≤ _
  omega
theorem wei_le (W : WF h) (C : Nat) : wei h C ≤ 692307 := by
  have h1 := lp_le (f := fun p a => bif C.testBit p then a + h 1 p * h 2 p else a) (n := h 0 0) (c := 98901) (fun k a _ => by
    have h4 := W.seats k
    have h5 := W.place k
    have : h 1 k * h 2 k ≤ 999 * 99 := Nat.mul_le_mul h4.2 h5
    cases C.testBit k <;> (try simp only [cond_true, cond_false]) <;> omega) 0
  have h2 := W.P
  have h3 : h 0 0 * 98901 ≤ 7 * 98901 := Nat.mul_le_mul_right _ h2
  show lp _ _ _ ≤ _
  omega
theorem lt8 {P p : Nat} (hP : P ≤ 7) (hp : p < P) : p < 8 := by omega
/-! the class -/
variable {F : pm_F} {L0 : Nat} {xs : Nat → Int32} {L : Nat → Nat → Int64}
theorem c_isIn (hF : pm_fix pt_me pt_Sg (pt_R L0 xs) F) {k C : Nat} (hk : k < 32) (hC : C < 65536) : (F 151 0 [some (.int (nI k)), some (.int (nI C))] [] (49, pt_G, I, L)) = some (some (.int (nI (C.testBit k).toNat)), (49, pt_G, I, L)) := by
  rw [e151_0 hF, z_usb hC hk]
  simp only [z_b1, z_bR]
theorem c_seatsOf (hF : pm_fix pt_me pt_Sg (pt_R L0 xs) F) (W : WF h) (H : CH h I) {p : Nat} (hp : p < h 0 0) : (F 508 0 [some (.ref 3), some (.int (nI p))] [] (49, pt_G, I, L)) = some (some (.int (nI (h 1 p))), (49, pt_G, I, L)) := by
  have hP := W.P
  rw [e508_0 hF]
  simp (disch := omega) only [pm_k_i, Option.toList_some, Option.toList_none, List.cons_append, List.nil_append, cond_true, cond_false, ↓reduceIte, reduceCtorEq, z_1, nI_add, z_cl, z_ib, z_lt, z_le, z_eq, z_eq0, z_le0, z_lt0, z_b0, z_b1, z_m1, z_and7, H.seats]
theorem c_placeOf (hF : pm_fix pt_me pt_Sg (pt_R L0 xs) F) (W : WF h) (H : CH h I) {p : Nat} (hp : p < h 0 0) : (F 509 0 [some (.ref 3), some (.int (nI p))] [] (49, pt_G, I, L)) = some (some (.int (nI (h 2 p))), (49, pt_G, I, L)) := by
  have hP := W.P
  rw [e509_0 hF]
  simp (disch := omega) only [pm_k_i, Option.toList_some, Option.toList_none, List.cons_append, List.nil_append, cond_true, cond_false, ↓reduceIte, reduceCtorEq, z_1, nI_add, z_cl, z_ib, z_lt, z_le, z_eq, z_eq0, z_le0, z_lt0, z_b0, z_b1, z_m1, z_and7, H.place]
theorem c_walkOf (hF : pm_fix pt_me pt_Sg (pt_R L0 xs) F) (W : WF h) (H : CH h I) {p : Nat} (hp : p < h 0 0) : (F 510 0 [some (.ref 3), some (.int (nI p))] [] (49, pt_G, I, L)) = some (some (.int (nI (h 3 p))), (49, pt_G, I, L)) := by
  have hP := W.P
  rw [e510_0 hF]
  simp (disch := omega) only [pm_k_i, Option.toList_some, Option.toList_none, List.cons_append, List.nil_append, cond_true, cond_false, ↓reduceIte, reduceCtorEq, z_1, nI_add, z_cl, z_ib, z_lt, z_le, z_eq, z_eq0, z_le0, z_lt0, z_b0, z_b1, z_m1, z_and7, H.walk]
theorem c_barredFrom (hF : pm_fix pt_me pt_Sg (pt_R L0 xs) F) (W : WF h) (H : CH h I) {p : Nat} (hp : p < h 0 0) : (F 511 0 [some (.ref 3), some (.int (nI p))] [] (49, pt_G, I, L)) = some (some (.int (nI (h 4 p))), (49, pt_G, I, L)) := by
  have hP := W.P
  rw [e511_0 hF]
  simp (disch := omega) only [pm_k_i, Option.toList_some, Option.toList_none, List.cons_append, List.nil_append, cond_true, cond_false, ↓reduceIte, reduceCtorEq, z_1, nI_add, z_cl, z_ib, z_lt, z_le, z_eq, z_eq0, z_le0, z_lt0, z_b0, z_b1, z_m1, z_and7, H.bars]
theorem c_worthTo (hF : pm_fix pt_me pt_Sg (pt_R L0 xs) F) (W : WF h) (H : CH h I) {p o : Nat} (hp : p < h 0 0) (ho : o < h 0 1) : (F 512 0 [some (.ref 3), some (.int (nI p)), some (.int (nI o))] [] (49, pt_G, I, L)) = some (some (.int (nI (h 5 (8 * p + o)))), (49, pt_G, I, L)) := by
  have hP := W.P
  have hO := W.O
  rw [e512_0 hF]
  simp (disch := omega) only [pm_k_i, Option.toList_some, Option.toList_none, List.cons_append, List.nil_append, cond_true, cond_false, ↓reduceIte, reduceCtorEq, z_1, nI_add, z_cl, z_ib, z_lt, z_le, z_eq, z_eq0, z_le0, z_lt0, z_b0, z_b1, z_m1, z_and7, z_8m, H.worth]
theorem c_stanceOf (hF : pm_fix pt_me pt_Sg (pt_R L0 xs) F) (W : WF h) (H : CH h I) {p o : Nat} (hp : p < h 0 0) (ho : o < h 0 1) : (F 513 0 [some (.ref 3), some (.int (nI p)), some (.int (nI o))] [] (49, pt_G, I, L)) = some (some (.int (nI (h 6 (8 * p + o)))), (49, pt_G, I, L)) := by
  have hP := W.P
  have hO := W.O
  rw [e513_0 hF]
  simp (disch := omega) only [pm_k_i, Option.toList_some, Option.toList_none, List.cons_append, List.nil_append, cond_true, cond_false, ↓reduceIte, reduceCtorEq, z_1, nI_add, z_cl, z_ib, z_lt, z_le, z_eq, z_eq0, z_le0, z_lt0, z_b0, z_b1, z_m1, z_and7, z_8m, H.stance]
theorem c_everyone (hF : pm_fix pt_me pt_Sg (pt_R L0 xs) F) (W : WF h) (H : CH h I) : (F 507 0 [some (.ref 3)] [] (49, pt_G, I, L)) = some (some (.int (nI (ev h))), (49, pt_G, I, L)) := by
  have hP := W.P
  have h2 := z_2p (h 0 0) (by omega)
  rw [e507_0 hF, H.P, z_sh1 _ (by omega), z_s1 h2.1]
  rfl
theorem c_seatsIn (hF : pm_fix pt_me pt_Sg (pt_R L0 xs) F) (W : WF h) (H : CH h I) {C : Nat} (hC : C < 128) : (F 515 0 [some (.ref 3), some (.int (nI C)), none, none] [] (49, pt_G, I, L)) = some (some (.int (nI (sIn h C))), (49, pt_G, I, L)) := by
  have hP := W.P
  rw [e515_0 hF]
  refine (lpE (G := fun k a => (F 515 4 [some (.ref 3), some (.int (nI C)), some (.int (nI a)), some (.int (nI k))] [] (49, pt_G, I, L))) (f := fun p a => bif C.testBit p then a + h 1 p else a) (n := h 0 0) (fun k a hk => ?_) 0).trans ?_
  · try dsimp only
    rw [e515_4 hF]
    simp (disch := omega) only [pm_k_i, Option.toList_some, Option.toList_none, List.cons_append, List.nil_append, cond_true, cond_false, ↓reduceIte, reduceCtorEq, z_1, nI_add, z_cl, z_ib, z_lt, z_le, z_eq, z_eq0, z_le0, z_lt0, z_b0, z_b1, z_m1, z_and7, H.P, hk, c_isIn hF, e515_17 hF]
    cases C.testBit k
    · simp (disch := omega) only [pm_k_i, Option.toList_some, Option.toList_none, List.cons_append, List.nil_append, cond_true, cond_false, ↓reduceIte, reduceCtorEq, z_1, nI_add, z_cl, z_ib, z_lt, z_le, z_eq, z_eq0, z_le0, z_lt0, z_b0, z_b1, z_m1, z_and7]
    · simp (disch := omega) only [pm_k_i, Option.toList_some, Option.toList_none, List.cons_append, List.nil_append, cond_true, cond_false, ↓reduceIte, reduceCtorEq, z_1, nI_add, z_cl, z_ib, z_lt, z_le, z_eq, z_eq0, z_le0, z_lt0, z_b0, z_b1, z_m1, z_and7, c_seatsOf hF W H, e515_26 hF]
  · try dsimp only
    rw [e515_4 hF]
    simp (disch := omega) only [pm_k_i, Option.toList_some, Option.toList_none, List.cons_append, List.nil_append, cond_true, cond_false, ↓reduceIte, reduceCtorEq, z_1, nI_add, z_cl, z_ib, z_lt, z_le, z_eq, z_eq0, z_le0, z_lt0, z_b0, z_b1, z_m1, z_and7, H.P, Nat.lt_irrefl]
    rfl
theorem c_needOf (hF : pm_fix pt_me pt_Sg (pt_R L0 xs) F) (W : WF h) (H : CH h I) {a : Nat} (ha : a < 100000) : (F 516 0 [some (.ref 3), some (.int (nI a))] [] (49, pt_G, I, L)) = some (some (.int (nI (ned h a))), (49, pt_G, I, L)) := by
  have hn := W.need
  rw [e516_0 hF]
  unfold ned
  cases hb : Nat.blt 0 (h 0 4) with
  | true =>
    have h1 : 0 < h 0 4 := Nat.le_of_ble_eq_true hb
    have h2 : (h 0 4 = 0) = False := propext ⟨fun h => by omega, False.elim⟩
    simp (disch := omega) only [pm_k_i, Option.toList_some, Option.toList_none, List.cons_append, List.nil_append, cond_true, cond_false, ↓reduceIte, reduceCtorEq, z_1, nI_add, z_cl, z_ib, z_lt, z_le, z_eq, z_eq0, z_le0, z_lt0, z_b0, z_b1, z_m1, z_and7, H.need, h2]
  | false =>
    have h2 : h 0 4 = 0 := by
      have h3 : ¬ 0 < h 0 4 := fun hh => by rw [show Nat.blt 0 (h 0 4) = true from Nat.ble_eq_true_of_le hh] at hb; cases hb
      omega
    simp (disch := omega) only [pm_k_i, Option.toList_some, Option.toList_none, List.cons_append, List.nil_append, cond_true, cond_false, ↓reduceIte, reduceCtorEq, z_1, nI_add, z_cl, z_ib, z_lt, z_le, z_eq, z_eq0, z_le0, z_lt0, z_b0, z_b1, z_m1, z_and7, H.need, h2, decide_false, Bool.not_false, z_d2]
theorem c_needNow (hF : pm_fix pt_me pt_Sg (pt_R L0 xs) F) (W : WF h) (H : CH h I) : (F 517 0 [some (.ref 3)] [] (49, pt_G, I, L)) = some (some (.int (nI (need h))), (49, pt_G, I, L)) := by
  have h1 := ev_lt W
  have h2 := sIn_le W (ev h)
  rw [e517_0 hF]
  simp (disch := omega) only [pm_k_i, Option.toList_some, Option.toList_none, List.cons_append, List.nil_append, cond_true, cond_false, ↓reduceIte, reduceCtorEq, z_1, nI_add, z_cl, z_ib, z_lt, z_le, z_eq, z_eq0, z_le0, z_lt0, z_b0, z_b1, z_m1, z_and7, c_everyone hF W H, e517_6 hF, c_seatsIn hF W H, e517_9 hF, c_needOf hF W H, e517_12 hF, need]
end
