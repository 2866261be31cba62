/-! ===== the model: what its short methods answer ===== -/
section
variable {h : Nat → Nat → Nat}
/-- the model holds the house -/
def MH (h : Nat → Nat → Nat) (I : Nat → Nat → Int32) : Prop := (I 49 30 = nI (h 0 0) ∧ I 49 31 = nI (h 0 1) ∧ I 49 32 = nI (h 0 2) ∧ I 49 33 = nI (h 0 3) ∧ I 49 34 = (if h 0 4 = 0 then -1 else nI (h 0 4)) ∧ I 49 35 = nI (h 0 5) ∧ I 49 36 = nI (h 0 6) ∧ I 49 37 = nI (h 0 7)) ∧ (∀ p, p < h 0 0 → I 64 (9 + p) = nI (h 1 p)) ∧ (∀ p, p < h 0 0 → I 59 p = nI (h 2 p)) ∧ (∀ p, p < h 0 0 → I 60 p = nI (h 3 p)) ∧ (∀ p, p < h 0 0 → I 61 p = nI (h 4 p)) ∧ (∀ p o, p < h 0 0 → o < h 0 1 → I 62 (8 * p + o) = nI (h 5 (8 * p + o))) ∧ (∀ p o, p < h 0 0 → o < h 0 1 → I 63 (8 * p + o) = nI (h 6 (8 * p + o)))
variable {I I' : Nat → Nat → Int32}
theorem MH.P (H : MH h I) : I 49 30 = nI (h 0 0) := H.1.1
theorem MH.O (H : MH h I) : I 49 31 = nI (h 0 1) := H.1.2.1
theorem MH.f (H : MH h I) : I 49 32 = nI (h 0 2) := H.1.2.2.1
theorem MH.s (H : MH h I) : I 49 33 = nI (h 0 3) := H.1.2.2.2.1
theorem MH.need (H : MH h I) : I 49 34 = (if h 0 4 = 0 then -1 else nI (h 0 4)) := H.1.2.2.2.2.1
theorem MH.care (H : MH h I) : I 49 35 = nI (h 0 5) := H.1.2.2.2.2.2.1
theorem MH.tries (H : MH h I) : I 49 36 = nI (h 0 6) := H.1.2.2.2.2.2.2.1
theorem MH.tire (H : MH h I) : I 49 37 = nI (h 0 7) := H.1.2.2.2.2.2.2.2
theorem MH.seats (H : MH h I) {p : Nat} (hp : p < h 0 0) : I 64 (9 + p) = nI (h 1 p) := H.2.1 p hp
theorem MH.place (H : MH h I) {p : Nat} (hp : p < h 0 0) : I 59 p = nI (h 2 p) := H.2.2.1 p hp
theorem MH.walk (H : MH h I) {p : Nat} (hp : p < h 0 0) : I 60 p = nI (h 3 p) := H.2.2.2.1 p hp
theorem MH.bars (H : MH h I) {p : Nat} (hp : p < h 0 0) : I 61 p = nI (h 4 p) := H.2.2.2.2.1 p hp
theorem MH.worth (H : MH h I) {p o : Nat} (hp : p < h 0 0) (ho : o < h 0 1) : I 62 (8 * p + o) = nI (h 5 (8 * p + o)) := H.2.2.2.2.2.1 p o hp ho
theorem MH.stance (H : MH h I) {p o : Nat} (hp : p < h 0 0) (ho : o < h 0 1) : I 63 (8 * p + o) = nI (h 6 (8 * p + o)) := H.2.2.2.2.2.2 p o hp ho
theorem MH.of (H : MH h I) (f1 : ∀ k, 30 ≤ k → k < 38 → I' 49 k = I 49 k) (f2 : ∀ r, 59 ≤ r → r ≤ 63 → ∀ k, I' r k = I r k) (f3 : ∀ k, 9 ≤ k → I' 64 k = I 64 k) : MH h I' :=
  ⟨⟨by rw [f1 30 (by omega) (by omega)]; exact H.P, by rw [f1 31 (by omega) (by omega)]; exact H.O, by rw [f1 32 (by omega) (by omega)]; exact H.f, by rw [f1 33 (by omega) (by omega)]; exact H.s, by rw [f1 34 (by omega) (by omega)]; exact H.need, by rw [f1 35 (by omega) (by omega)]; exact H.care, by rw [f1 36 (by omega) (by omega)]; exact H.tries, by rw [f1 37 (by omega) (by omega)]; exact H.tire⟩,
  fun p hp => by rw [f3 (9 + p) (by omega)]; exact H.seats hp, fun p hp => by rw [f2 59 (by omega) (by omega)]; exact H.place hp, fun p hp => by rw [f2 60 (by omega) (by omega)]; exact H.walk hp, fun p hp => by rw [f2 61 (by omega) (by omega)]; exact H.bars hp, fun p o hp ho => by rw [f2 62 (by omega) (by omega)]; exact H.worth hp ho, fun p o hp ho => by rw [f2 63 (by omega) (by omega)]; exact H.stance hp ho⟩
/-! who is asked for -/
def vP (n : Nat) (x : Int32) : Bool := decide (0 ≤ x.toInt ∧ x.toInt < n)
def vC (h : Nat → Nat → Nat) (x : Int32) : Bool := decide (1 ≤ x.toInt ∧ x.toInt ≤ ev h)
theorem vP_of {n : Nat} {x : Int32} (hn : n < 2147483648) (hx : vP n x = true) : ∃ k, k < n ∧ x = nI k := by
  have h1 := of_decide_eq_true hx
  refine ⟨x.toInt.toNat, by omega, ?_⟩
  apply Int32.toInt_inj.mp
  rw [nI_toInt (by omega)]
  omega
theorem vC_of {x : Int32} (W : WF h) (hx : vC h x = true) : ∃ C, 0 < C ∧ C ≤ ev h ∧ x = nI C := by
  have h1 := of_decide_eq_true hx
  have h2 := ev_lt W
  refine ⟨x.toInt.toNat, by omega, by omega, ?_⟩
  apply Int32.toInt_inj.mp
  rw [nI_toInt (by omega)]
  omega
theorem vP_nI {n k : Nat} (hk : k < 2147483648) : vP n (nI k) = decide (k < n) := by
  unfold vP
  rw [nI_toInt hk]
  by_cases c : k < n
  · rw [decide_eq_true c, decide_eq_true (by omega)]
  · rw [decide_eq_false c, decide_eq_false (by omega)]
theorem vP_m1 (n : Nat) : vP n (-1) = false := by
  unfold vP
  rw [show (-1 : Int32).toInt = -1 from rfl]
  exact decide_eq_false (by omega)
variable {F : pm_F} {L0 : Nat} {xs : Nat → Int32} {L : Nat → Nat → Int64}
theorem lgc_lt (x y : Int32) : (lg_cmp x.toInt64 y.toInt64 < 0) = (x < y) := by
  refine propext ?_
  have h1 : (x.toInt64 > y.toInt64) ↔ y < x := by
    show y.toInt64 < x.toInt64 ↔ _
    rw [Int64.lt_iff_toInt_lt, Int32.toInt_toInt64, Int32.toInt_toInt64, Int32.lt_iff_toInt_lt]
  have h2 : (x.toInt64 = y.toInt64) ↔ x = y := by
    rw [← Int64.toInt_inj, Int32.toInt_toInt64, Int32.toInt_toInt64, Int32.toInt_inj]
  have h3 : x < y ↔ x.toInt < y.toInt := Int32.lt_iff_toInt_lt
  have h4 : y < x ↔ y.toInt < x.toInt := Int32.lt_iff_toInt_lt
  have h5 : x = y ↔ x.toInt = y.toInt := Int32.toInt_inj.symm
  unfold lg_cmp
  by_cases c1 : y < x
  · rw [if_pos (h1.mpr c1)]
    have d1 := h4.mp c1
    exact ⟨fun hh => absurd hh (by decide), fun hh => by have := h3.mp hh; omega⟩
  · rw [if_neg (fun hh => c1 (h1.mp hh))]
    have d1 : ¬ y.toInt < x.toInt := fun hh => c1 (h4.mpr hh)
    by_cases c2 : x = y
    · rw [if_pos (h2.mpr c2)]
      have d2 := h5.mp c2
      exact ⟨fun hh => absurd hh (by decide), fun hh => by have := h3.mp hh; omega⟩
    · rw [if_neg (fun hh => c2 (h2.mp hh))]
      have d2 : ¬ x.toInt = y.toInt := fun hh => c2 (h5.mpr hh)
      exact ⟨fun _ => h3.mpr (by omega), fun _ => by decide⟩
theorem lgc_le (x y : Int32) : (lg_cmp x.toInt64 y.toInt64 ≤ 0) = (x ≤ y) := by
  refine propext ?_
  have h1 : (x.toInt64 > y.toInt64) ↔ y < x := by
    show y.toInt64 < x.toInt64 ↔ _
    rw [Int64.lt_iff_toInt_lt, Int32.toInt_toInt64, Int32.toInt_toInt64, Int32.lt_iff_toInt_lt]
  have h3 : x ≤ y ↔ x.toInt ≤ y.toInt := Int32.le_iff_toInt_le
  have h4 : y < x ↔ y.toInt < x.toInt := Int32.lt_iff_toInt_lt
  unfold lg_cmp
  by_cases c1 : y < x
  · rw [if_pos (h1.mpr c1)]
    have d1 := h4.mp c1
    exact ⟨fun hh => absurd hh (by decide), fun hh => by have := h3.mp hh; omega⟩
  · rw [if_neg (fun hh => c1 (h1.mp hh))]
    have d1 : ¬ y.toInt < x.toInt := fun hh => c1 (h4.mpr hh)
    split
    · exact ⟨fun _ => h3.mpr (by omega), fun _ => by decide⟩
    · exact ⟨fun _ => h3.mpr (by omega), fun _ => by decide⟩
theorem m_isIn (hF : pm_fix pt_me pt_Sg (pt_R L0 xs) F) (x a b : Int32) : (F 1202 0 [some (.long x.toInt64), none, some (.long a.toInt64), none, some (.long b.toInt64), none] [] (81, pt_G, I, L)) = some (some (.int (nI (decide (a.toInt ≤ x.toInt ∧ x.toInt ≤ b.toInt)).toNat)), (81, pt_G, I, L)) := by
  rw [e1202_0 hF]
  simp only [lgc_lt, lgc_le]
  simp only [Int32.lt_iff_toInt_lt, Int32.le_iff_toInt_le]
  by_cases c : x.toInt < a.toInt
  · rw [if_pos c, decide_eq_false (by omega)]; rfl
  · rw [if_neg c]
    by_cases d : x.toInt ≤ b.toInt
    · rw [if_pos d, decide_eq_true (by omega)]; rfl
    · rw [if_neg d, decide_eq_false (by omega)]; rfl
theorem m_isIn0 (hF : pm_fix pt_me pt_Sg (pt_R L0 xs) F) (x b : Int32) : (F 1202 0 [some (.long x.toInt64), none, some (.long 0), none, some (.long b.toInt64), none] [] (81, pt_G, I, L)) = some (some (.int (nI (decide (0 ≤ x.toInt ∧ x.toInt ≤ b.toInt)).toNat)), (81, pt_G, I, L)) := m_isIn hF x 0 b
theorem m_isIn1 (hF : pm_fix pt_me pt_Sg (pt_R L0 xs) F) (x b : Int32) : (F 1202 0 [some (.long x.toInt64), none, some (.long 1), none, some (.long b.toInt64), none] [] (81, pt_G, I, L)) = some (some (.int (nI (decide (1 ≤ x.toInt ∧ x.toInt ≤ b.toInt)).toNat)), (81, pt_G, I, L)) := m_isIn hF x 1 b
theorem z_toI {n : Nat} (hn : n < 1073741824) : (nI n - 1).toInt = (n : Int) - 1 := pk_sub_toInt (b := 1) hn (by omega)
theorem z_and1 (b : Bool) : (nI b.toNat &&& 1 = nI b.toNat) = True := by cases b <;> decide +kernel
theorem m_isParty (hF : pm_fix pt_me pt_Sg (pt_R L0 xs) F) (W : WF h) (H : MH h I) (x : Int32) : (F 1246 0 [some (.ref 49), some (.int x)] [] (81, pt_G, I, L)) = some (some (.int (nI (vP (h 0 0) x).toNat)), (81, pt_G, I, L)) := by
  have hP := W.P
  rw [e1246_0 hF, H.P]
  simp only [m_isIn0 hF, pm_k_i, Option.toList_some, List.cons_append, List.nil_append, e1246_13 hF, z_and1, decide_true, cond_true]
  have : decide (0 ≤ x.toInt ∧ x.toInt ≤ (nI (h 0 0) - 1).toInt) = vP (h 0 0) x := by
    rw [z_toI (by omega)]
    exact decide_eq_decide.mpr (by omega)
  rw [this]
theorem m_isOffice (hF : pm_fix pt_me pt_Sg (pt_R L0 xs) F) (W : WF h) (H : MH h I) (x : Int32) : (F 1247 0 [some (.ref 49), some (.int x)] [] (81, pt_G, I, L)) = some (some (.int (nI (vP (h 0 1) x).toNat)), (81, pt_G, I, L)) := by
  have hO := W.O
  rw [e1247_0 hF, H.O]
  simp only [m_isIn0 hF, pm_k_i, Option.toList_some, List.cons_append, List.nil_append, e1247_13 hF, z_and1, decide_true, cond_true]
  have : decide (0 ≤ x.toInt ∧ x.toInt ≤ (nI (h 0 1) - 1).toInt) = vP (h 0 1) x := by
    rw [z_toI (by omega)]
    exact decide_eq_decide.mpr (by omega)
  rw [this]
theorem m_everyone (hF : pm_fix pt_me pt_Sg (pt_R L0 xs) F) (W : WF h) (H : MH h I) : (F 1244 0 [some (.ref 49)] [] (81, pt_G, I, L)) = some (some (.int (nI (ev h))), (81, pt_G, I, L)) := by
  have hP := W.P
  have h2 := z_2p (h 0 0) (by omega)
  rw [e1244_0 hF, H.P, z_sh1 _ (by omega), z_s1 h2.1]
  rfl
theorem m_all (hF : pm_fix pt_me pt_Sg (pt_R L0 xs) F) (W : WF h) (H : MH h I) : (F 1261 0 [some (.ref 49)] [] (81, pt_G, I, L)) = some (some (.int (nI (2 ^ h 0 1 - 1))), (81, pt_G, I, L)) := by
  have hP := W.O
  have h2 := z_2p (h 0 1) (by omega)
  rw [e1261_0 hF, H.O, z_sh1 _ (by omega), z_s1 h2.1]
theorem m_isCoalition (hF : pm_fix pt_me pt_Sg (pt_R L0 xs) F) (W : WF h) (H : MH h I) (x : Int32) : (F 1248 0 [some (.ref 49), some (.int x)] [] (81, pt_G, I, L)) = some (some (.int (nI (vC h x).toNat)), (81, pt_G, I, L)) := by
  have hP := ev_lt W
  rw [e1248_0 hF]
  simp only [m_everyone hF W H, m_isIn1 hF, pm_k_i, Option.toList_some, List.cons_append, List.nil_append, e1248_7 hF, e1248_11 hF, z_and1, decide_true, cond_true]
  have : decide (1 ≤ x.toInt ∧ x.toInt ≤ (nI (ev h)).toInt) = vC h x := by
    rw [nI_toInt (by omega)]
    rfl
  rw [this]
theorem m_truth (hF : pm_fix pt_me pt_Sg (pt_R L0 xs) F) (b : Bool) : (F 1203 0 [some (.int (nI b.toNat))] [] (81, pt_G, I, L)) = some (some (.int (nI b.toNat)), (81, pt_G, I, L)) := by
  rw [e1203_0 hF]
  cases b
  · exact if_pos rfl
  · exact if_neg (by decide)
theorem m_truth1 (hF : pm_fix pt_me pt_Sg (pt_R L0 xs) F) : (F 1203 0 [some (.int 1)] [] (81, pt_G, I, L)) = some (some (.int 1), (81, pt_G, I, L)) := m_truth hF true
theorem m_truth0 (hF : pm_fix pt_me pt_Sg (pt_R L0 xs) F) : (F 1203 0 [some (.int 0)] [] (81, pt_G, I, L)) = some (some (.int 0), (81, pt_G, I, L)) := m_truth hF false
theorem m_holds (hF : pm_fix pt_me pt_Sg (pt_R L0 xs) F) {k C : Nat} (hk : k < 32) (hC : C < 65536) : (F 1205 0 [some (.int (nI C)), some (.int (nI k))] [] (81, pt_G, I, L)) = some (some (.int (nI (C.testBit k).toNat)), (81, pt_G, I, L)) := by
  rw [e1205_0 hF, z_srb hC hk]
  simp only [z_b1, z_bR]
theorem m_ones (hF : pm_fix pt_me pt_Sg (pt_R L0 xs) F) {C : Nat} (hC : C < 65536) : (F 1206 0 [some (.int (nI C)), none, none] [] (81, pt_G, I, L)) = some (some (.int (nI (pc C))), (81, pt_G, I, L)) := by
  rw [e1206_0 hF]
  refine (lpE (G := fun k a => (F 1206 4 [some (.int (nI C)), some (.int (nI a)), some (.int (nI k))] [] (81, pt_G, I, L))) (f := fun k a => a + (C.testBit k).toNat) (n := 16) (fun k a hk => ?_) 0).trans ?_
  · try dsimp only
    rw [e1206_4 hF, show (16 : Int32) = nI 16 from rfl]
    simp (disch := omega) only [z_lt, hk, ↓reduceIte, z_srb, nI_add, z_1]
  · try dsimp only
    rw [e1206_4 hF, if_neg (by decide)]
    rfl
theorem m_seatsOf (hF : pm_fix pt_me pt_Sg (pt_R L0 xs) F) (W : WF h) (H : MH h I) {p : Nat} (hp : p < h 0 0) : (F 1242 0 [some (.ref 49), some (.int (nI p))] [] (81, pt_G, I, L)) = some (some (.int (nI (h 1 p))), (81, pt_G, I, L)) := by
  have hP := W.P
  rw [e1242_0 hF, show (9 : Int32) = nI 9 from rfl]
  simp (disch := omega) only [pm_k_i, Option.toList_some, Option.toList_none, List.cons_append, List.nil_append, cond_true, cond_false, ↓reduceIte, reduceCtorEq, z_1, nI_add, z_cl, z_ib, z_lt, z_le, z_eq, z_eq0, z_le0, z_lt0, z_b0, z_b1, z_m1, z_and7, Int32.add_zero, H.seats]
theorem m_seatsIn (hF : pm_fix pt_me pt_Sg (pt_R L0 xs) F) (W : WF h) (H : MH h I) {C : Nat} (hC : C < 256) : (F 1243 0 [some (.ref 49), some (.int (nI C)), none, none] [] (81, pt_G, I, L)) = some (some (.int (nI (sIn h C))), (81, pt_G, I, L)) := by
  have hP := W.P
  rw [e1243_0 hF]
  refine (lpE (G := fun k a => (F 1243 4 [some (.ref 49), some (.int (nI C)), some (.int (nI a)), some (.int (nI k))] [] (81, pt_G, I, L))) (f := fun p a => bif C.testBit p then a + h 1 p else a) (n := h 0 0) (fun k a hk => ?_) 0).trans ?_
  · try dsimp only
    rw [e1243_4 hF]
    simp (disch := omega) only [pm_k_i, Option.toList_some, Option.toList_none, List.cons_append, List.nil_append, cond_true, cond_false, ↓reduceIte, reduceCtorEq, z_1, nI_add, z_cl, z_ib, z_lt, z_le, z_eq, z_eq0, z_le0, z_lt0, z_b0, z_b1, z_m1, z_and7, Int32.add_zero, H.P, hk, m_holds hF, e1243_18 hF]
    cases C.testBit k
    · simp (disch := omega) only [pm_k_i, Option.toList_some, Option.toList_none, List.cons_append, List.nil_append, cond_true, cond_false, ↓reduceIte, reduceCtorEq, z_1, nI_add, z_cl, z_ib, z_lt, z_le, z_eq, z_eq0, z_le0, z_lt0, z_b0, z_b1, z_m1, z_and7, Int32.add_zero]
    · simp (disch := omega) only [pm_k_i, Option.toList_some, Option.toList_none, List.cons_append, List.nil_append, cond_true, cond_false, ↓reduceIte, reduceCtorEq, z_1, nI_add, z_cl, z_ib, z_lt, z_le, z_eq, z_eq0, z_le0, z_lt0, z_b0, z_b1, z_m1, z_and7, Int32.add_zero, m_seatsOf hF W H, e1243_26 hF]
  · try dsimp only
    rw [e1243_4 hF]
    simp (disch := omega) only [pm_k_i, Option.toList_some, Option.toList_none, List.cons_append, List.nil_append, cond_true, cond_false, ↓reduceIte, reduceCtorEq, z_1, nI_add, z_cl, z_ib, z_lt, z_le, z_eq, z_eq0, z_le0, z_lt0, z_b0, z_b1, z_m1, z_and7, Int32.add_zero, H.P, Nat.lt_irrefl]
    rfl
theorem m_need (hF : pm_fix pt_me pt_Sg (pt_R L0 xs) F) (W : WF h) (H : MH h I) : (F 1245 0 [some (.ref 49)] [] (81, pt_G, I, L)) = some (some (.int (nI (need h))), (81, pt_G, I, L)) := by
  have hn := W.need
  have h1 := ev_lt W
  have h2 := sIn_le W (ev h)
  rw [e1245_0 hF, H.need]
  by_cases c : h 0 4 = 0
  · rw [if_pos c, if_pos rfl]
    simp (disch := omega) only [pm_k_i, Option.toList_some, Option.toList_none, List.cons_append, List.nil_append, cond_true, cond_false, ↓reduceIte, reduceCtorEq, z_1, nI_add, z_cl, z_ib, z_lt, z_le, z_eq, z_eq0, z_le0, z_lt0, z_b0, z_b1, z_m1, z_and7, Int32.add_zero, m_everyone hF W H, e1245_20 hF, m_seatsIn hF W H, e1245_23 hF, decide_false, Bool.not_false, z_d2]
    unfold need ned
    rw [c]
    rfl
  · rw [if_neg c]
    simp (disch := omega) only [z_m1, ↓reduceIte]
    unfold need ned
    rw [show Nat.blt 0 (h 0 4) = true from Nat.ble_eq_true_of_le (show 1 ≤ h 0 4 by omega)]
    rfl
theorem m_worthOf (hF : pm_fix pt_me pt_Sg (pt_R L0 xs) F) (W : WF h) (H : MH h I) {p o : Nat} (hp : p < h 0 0) (ho : o < h 0 1) : (F 1249 0 [some (.ref 49), some (.int (nI p)), some (.int (nI o))] [] (81, pt_G, I, L)) = some (some (.int (nI (h 5 (8 * p + o)))), (81, pt_G, I, L)) := by
  have hP := W.P
  have hO := W.O
  rw [e1249_0 hF]
  simp (disch := omega) only [pm_k_i, Option.toList_some, Option.toList_none, List.cons_append, List.nil_append, cond_true, cond_false, ↓reduceIte, reduceCtorEq, z_1, nI_add, z_cl, z_ib, z_lt, z_le, z_eq, z_eq0, z_le0, z_lt0, z_b0, z_b1, z_m1, z_and7, Int32.add_zero, z_8m, H.worth]
theorem m_isAhead (hF : pm_fix pt_me pt_Sg (pt_R L0 xs) F) (W : WF h) (H : MH h I) {p q : Nat} {had : Nat → Nat} (hp : p < h 0 0) (hq : q < h 0 0) (hh : ∀ p, had p ≤ 8) (h67 : ∀ p, p < h 0 0 → I 67 p = nI (had p)) : (F 1254 0 [some (.ref 49), some (.int (nI p)), some (.int (nI q)), none, none] [] (81, pt_G, I, L)) = some (some (.int (nI (ahd h (h 0 2) (h 0 3) had p q).toNat)), (81, pt_G, I, L)) := by
  have hP := W.P
  have h1 := W.seats p
  have h2 := W.seats q
  have h3 := W.f
  have h4 := W.s
  have h5 := mulB h4.2 (hh p)
  have h6 := mulB h4.2 (hh q)
  have h7 := mulB h1.2 (show h 0 2 + h 0 3 * had q ≤ 891 by omega)
  have h8 := mulB h2.2 (show h 0 2 + h 0 3 * had p ≤ 891 by omega)
  have h9 := h67 p hp
  have h10 := h67 q hq
  rw [e1254_0 hF]
  simp (disch := omega) only [pm_k_i, Option.toList_some, Option.toList_none, List.cons_append, List.nil_append, cond_true, cond_false, ↓reduceIte, reduceCtorEq, z_1, nI_add, z_cl, z_ib, z_lt, z_le, z_eq, z_eq0, z_le0, z_lt0, z_b0, z_b1, z_m1, z_and7, Int32.add_zero, m_seatsOf hF W H, e1254_5 hF, e1254_28 hF, e1254_72 hF, e1254_77 hF, H.f, H.s, h9, h10, pk_mul]
  unfold ahd
  by_cases c1 : h 1 p * (h 0 2 + h 0 3 * had q) = h 1 q * (h 0 2 + h 0 3 * had p)
  · rw [if_pos c1, decide_eq_false (show ¬ h 1 q * (h 0 2 + h 0 3 * had p) < h 1 p * (h 0 2 + h 0 3 * had q) by omega), decide_eq_true c1]
    by_cases c2 : h 1 p ≤ h 1 q
    · rw [if_pos c2, decide_eq_false (by omega)]; rfl
    · rw [if_neg c2, decide_eq_true (by omega)]; rfl
  · rw [if_neg c1, decide_eq_false c1]
    by_cases c2 : h 1 p * (h 0 2 + h 0 3 * had q) ≤ h 1 q * (h 0 2 + h 0 3 * had p)
    · rw [if_pos c2, decide_eq_false (by omega)]; rfl
    · rw [if_neg c2, decide_eq_true (by omega)]; rfl
theorem m_nextOf (hF : pm_fix pt_me pt_Sg (pt_R L0 xs) F) (W : WF h) (H : MH h I) {C : Nat} {had : Nat → Nat} (hC : C < 256) (hh : ∀ p, had p ≤ 8) (h67 : ∀ p, p < h 0 0 → I 67 p = nI (had p)) : (F 1255 0 [some (.ref 49), some (.int (nI C)), none, none] [] (81, pt_G, I, L)) = some (some (.int (oI (nxt h (h 0 2) (h 0 3) had C))), (81, pt_G, I, L)) := by
  have hP := W.P
  rw [e1255_0 hF]
  refine ((lpI (G := fun k b => (F 1255 4 [some (.ref 49), some (.int (nI C)), some (.int (oI b)), some (.int (nI k))] [] (81, pt_G, I, L))) (f := nx1 h (h 0 2) (h 0 3) had C) (P := fun _ b => ∀ q, b = some q → q < h 0 0) (n := h 0 0) (a := none) (fun q h => by cases h) (fun k b hk hb => ⟨?_, nx1_lt hk hb⟩)).1).trans ?_
  · try dsimp only
    rw [e1255_4 hF]
    simp (disch := omega) only [pm_k_i, Option.toList_some, Option.toList_none, List.cons_append, List.nil_append, cond_true, cond_false, ↓reduceIte, reduceCtorEq, z_1, nI_add, z_cl, z_ib, z_lt, z_le, z_eq, z_eq0, z_le0, z_lt0, z_b0, z_b1, z_m1, z_and7, Int32.add_zero, H.P, hk, m_holds hF, e1255_17 hF]
    unfold nx1
    cases hx : C.testBit k with
    | false => simp (disch := omega) only [pm_k_i, Option.toList_some, Option.toList_none, List.cons_append, List.nil_append, cond_true, cond_false, ↓reduceIte, reduceCtorEq, z_1, nI_add, z_cl, z_ib, z_lt, z_le, z_eq, z_eq0, z_le0, z_lt0, z_b0, z_b1, z_m1, z_and7, Int32.add_zero, Bool.false_and]
    | true =>
      cases b with
      | none =>
        simp (disch := omega) only [pm_k_i, Option.toList_some, Option.toList_none, List.cons_append, List.nil_append, cond_true, cond_false, ↓reduceIte, reduceCtorEq, z_1, nI_add, z_cl, z_ib, z_lt, z_le, z_eq, z_eq0, z_le0, z_lt0, z_b0, z_b1, z_m1, z_and7, Int32.add_zero, oI, Bool.true_and, eq_self]
      | some q =>
        have hq := hb q rfl
        show (if nI q = -1 then _ else _) = _
        simp (disch := omega) only [pm_k_i, Option.toList_some, Option.toList_none, List.cons_append, List.nil_append, cond_true, cond_false, ↓reduceIte, reduceCtorEq, z_1, nI_add, z_cl, z_ib, z_lt, z_le, z_eq, z_eq0, z_le0, z_lt0, z_b0, z_b1, z_m1, z_and7, Int32.add_zero, oI, Bool.true_and, m_isAhead hF W H hk hq hh h67, e1255_31 hF]
        cases ahd h (h 0 2) (h 0 3) had k q
        · simp (disch := omega) only [pm_k_i, Option.toList_some, Option.toList_none, List.cons_append, List.nil_append, cond_true, cond_false, ↓reduceIte, reduceCtorEq, z_1, nI_add, z_cl, z_ib, z_lt, z_le, z_eq, z_eq0, z_le0, z_lt0, z_b0, z_b1, z_m1, z_and7, Int32.add_zero]
        · simp (disch := omega) only [pm_k_i, Option.toList_some, Option.toList_none, List.cons_append, List.nil_append, cond_true, cond_false, ↓reduceIte, reduceCtorEq, z_1, nI_add, z_cl, z_ib, z_lt, z_le, z_eq, z_eq0, z_le0, z_lt0, z_b0, z_b1, z_m1, z_and7, Int32.add_zero]
  · try dsimp only
    rw [e1255_4 hF]
    simp (disch := omega) only [pm_k_i, Option.toList_some, Option.toList_none, List.cons_append, List.nil_append, cond_true, cond_false, ↓reduceIte, reduceCtorEq, z_1, nI_add, z_cl, z_ib, z_lt, z_le, z_eq, z_eq0, z_le0, z_lt0, z_b0, z_b1, z_m1, z_and7, Int32.add_zero, H.P, Nat.lt_irrefl]
    rfl
end
