/-! ===== swaps ===== -/
section
variable {h : Nat → Nat → Nat}
def fsb (h : Nat → Nat → Nat) (w : Nat → Nat) (a : Nat) : Option Nat := fr (fun b => swp h w a b) (a + 1) (h 0 1 - (a + 1))
/-- the first two that are swapped, as 8 a + b -/
def fsw (h : Nat → Nat → Nat) (w : Nat → Nat) : Option Nat := match ff (fun a => (fsb h w a).isSome) (h 0 1) with
  | some a => some (8 * a + (fsb h w a).getD 0)
  | none => none
def xw (w : Nat → Nat) (a b : Nat) : Nat → Nat := up (up w a (w b)) b (w a)
def sw1 (h : Nat → Nat → Nat) (w : Nat → Nat) : Nat → Nat := match fsw h w with
  | some m => xw w (m / 8) (m % 8)
  | none => w
def itw (h : Nat → Nat → Nat) (w : Nat → Nat) : Nat → Nat → Nat
  | 0 => w
  | n + 1 => sw1 h (itw h w n)
/-- how many swaps till there is none -/
def stn (h : Nat → Nat → Nat) (w : Nat → Nat) : Nat := (ff (fun n => (fsw h (itw h w n)).isNone) 400).getD 400
def stl (h : Nat → Nat → Nat) (w : Nat → Nat) : Nat → Nat := itw h w (stn h w)
theorem fsw_some (W : WF h) {w : Nat → Nat} {m : Nat} (hm : fsw h w = some m) : ∃ a b, m = 8 * a + b ∧ a < b ∧ b < h 0 1 ∧ swp h w a b = true ∧ m / 8 = a ∧ m % 8 = b := by
  have hO := W.O
  unfold fsw at hm
  cases e : ff (fun a => (fsb h w a).isSome) (h 0 1) with
  | none => rw [e] at hm; cases hm
  | some a =>
    rw [e] at hm
    obtain ⟨a1, a2, _⟩ := ff_some e
    try dsimp only at hm a2
    cases e2 : fsb h w a with
    | none => rw [e2] at a2; cases a2
    | some b =>
      rw [e2] at hm
      obtain ⟨b1, b2, b3, _⟩ := fr_some e2
      cases hm
      exact ⟨a, b, rfl, by omega, by omega, b3, by show (8 * a + b) / 8 = a; omega, by show (8 * a + b) % 8 = b; omega⟩
/-- those who hold are parties -/
def WK (h : Nat → Nat → Nat) (w : Nat → Nat) : Prop := K8 w ∧ ∀ o, o < h 0 1 → w o < h 0 0
theorem up_lt {w : Nat → Nat} {n a v P : Nat} (hw : ∀ o, o < n → w o < P) (hv : v < P) : ∀ o, o < n → up w a v o < P := by
  intro o ho
  unfold up
  split
  · exact hv
  · exact hw o ho
theorem WK.s1 (W : WF h) {w : Nat → Nat} (k : WK h w) : WK h (sw1 h w) := by
  have hO := W.O
  have hP := W.P
  unfold sw1
  cases e : fsw h w with
  | none => exact k
  | some m =>
    obtain ⟨a, b, rfl, h1, h2, h3, h4, h5⟩ := fsw_some W e
    dsimp only
    rw [h4, h5]
    have ka := k.2 a (by omega)
    have kb := k.2 b (by omega)
    exact ⟨(k.1.up (by omega) (by omega)).up (by omega) (by omega), up_lt (up_lt k.2 kb) ka⟩
theorem WK.it (W : WF h) {w : Nat → Nat} (k : WK h w) : ∀ n, WK h (itw h w n) := by
  intro n
  induction n with
  | zero => exact k
  | succ n ih => exact ih.s1 W
/-! swaps end -/
def sm (f : Nat → Nat) (n : Nat) : Nat := lp (fun o a => a + f o) n 0
theorem sm_congr {f g : Nat → Nat} {n : Nat} (h : ∀ o, o < n → f o = g o) : sm f n = sm g n := lp_congr (fun k a hk => by rw [h k hk]) 0
theorem sm_up {f : Nat → Nat} {n a v : Nat} (ha : a < n) : sm (up f a v) n + f a = sm f n + v := by
  induction n with
  | zero => omega
  | succ n ih =>
    show sm (up f a v) n + up f a v n + f a = sm f n + f n + v
    by_cases e : a = n
    · subst e
      have : sm (up f a v) a = sm f a := sm_congr (fun o ho => by unfold up; rw [if_neg (by omega)])
      rw [this]
      show _ + (if a = a then v else f a) + _ = _
      rw [if_pos rfl]
      omega
    · have := ih (by omega)
      show _ + (if n = a then v else f n) + _ = _
      rw [if_neg (by omega)]
      omega
theorem wal_sm (w : Nat → Nat) : wal h w = sm (fun o => h 5 (8 * w o + o)) (h 0 1) := rfl
theorem wal_xw {w : Nat → Nat} {a b : Nat} (hab : a < b) (hb : b < h 0 1) (hs : swp h w a b = true) : wal h w + 2 ≤ wal h (xw w a b) := by
  have e : (fun o => h 5 (8 * xw w a b o + o)) = up (up (fun o => h 5 (8 * w o + o)) a (h 5 (8 * w b + a))) b (h 5 (8 * w a + b)) := by
    funext o
    unfold xw up
    by_cases c : o = b
    · rw [if_pos c, if_pos c, c]
    · rw [if_neg c, if_neg c]
      by_cases d : o = a
      · rw [if_pos d, if_pos d, d]
      · rw [if_neg d, if_neg d]
  have h1 := sm_up (f := up (fun o => h 5 (8 * w o + o)) a (h 5 (8 * w b + a))) (v := h 5 (8 * w a + b)) hb
  have h2 := sm_up (f := fun o => h 5 (8 * w o + o)) (v := h 5 (8 * w b + a)) (show a < h 0 1 by omega)
  have h3 : up (fun o => h 5 (8 * w o + o)) a (h 5 (8 * w b + a)) b = h 5 (8 * w b + b) := by unfold up; rw [if_neg (by omega)]
  rw [h3] at h1
  unfold swp at hs
  rw [Bool.and_eq_true, Bool.and_eq_true, decide_eq_true_eq, decide_eq_true_eq] at hs
  rw [wal_sm, wal_sm, e]
  try dsimp only at h2
  omega
theorem itw_wal (W : WF h) {w : Nat → Nat} {n : Nat} (hn : ∀ i, i < n → (fsw h (itw h w i)).isNone = false) : 2 * n ≤ wal h (itw h w n) := by
  induction n with
  | zero => omega
  | succ n ih =>
    have h1 := ih (fun i hi => hn i (by omega))
    have h2 := hn n (by omega)
    show 2 * (n + 1) ≤ wal h (sw1 h (itw h w n))
    unfold sw1
    cases e : fsw h (itw h w n) with
    | none => rw [e] at h2; cases h2
    | some m =>
      obtain ⟨a, b, rfl, k1, k2, k3, k4, k5⟩ := fsw_some W e
      dsimp only
      rw [k4, k5]
      have := wal_xw k1 k2 k3
      omega
theorem stn_some (W : WF h) (w : Nat → Nat) : ff (fun n => (fsw h (itw h w n)).isNone) 400 = some (stn h w) := by
  unfold stn
  cases e : ff (fun n => (fsw h (itw h w n)).isNone) 400 with
  | some j => rfl
  | none =>
    have h1 := itw_wal W (w := w) (n := 400) (fun i hi => ff_none e i hi)
    have h2 := wal_le W (itw h w 400)
    omega
variable {F : pm_F} {L0 : Nat} {xs : Nat → Int32} {I : Nat → Nat → Int32} {L : Nat → Nat → Int64}
theorem c_helpsBoth (hF : pm_fix pt_me pt_Sg (pt_R L0 xs) F) (W : WF h) (H : CH h I) {w : Nat → Nat} (k : WK h w) {a b : Nat} (ha : a < h 0 1) (hb : b < h 0 1) : (F 615 0 [some (.ref 23), some (.int (nI (hp w))), some (.int (nI a)), some (.int (nI b)), none, none] [] (49, pt_G, I, L)) = some (some (.int (nI (swp h w a b).toNat)), (49, pt_G, I, L)) := by
  have hO := W.O
  have hP := W.P
  have hlt := hp_lt k.1
  have ka := k.2 a ha
  have kb := k.2 b hb
  have k1 := W.worth (8 * w a + a)
  have k2 := W.worth (8 * w a + b)
  have k3 := W.worth (8 * w b + a)
  have k4 := W.worth (8 * w b + b)
  rw [e615_0 hF]
  simp (disch := omega) only [pm_k_i, Option.toList_some, Option.toList_none, List.cons_append, List.nil_append, cond_true, cond_false, ↓reduceIte, reduceCtorEq, z_1, nI_add, z_cl, z_ib, z_lt, z_le, z_eq, z_eq0, z_le0, z_lt0, z_b0, z_b1, z_m1, z_and7, Int32.add_zero, c_get hF hlt, gs_hp k.1, e615_5 hF, e615_12 hF]
  unfold swp
  by_cases c : w a = w b
  · rw [if_pos c, c, Nat.beq_refl]; rfl
  · rw [if_neg c, beq_f c]
    simp (disch := omega) only [pm_k_i, Option.toList_some, Option.toList_none, List.cons_append, List.nil_append, cond_true, cond_false, ↓reduceIte, reduceCtorEq, z_1, nI_add, z_cl, z_ib, z_lt, z_le, z_eq, z_eq0, z_le0, z_lt0, z_b0, z_b1, z_m1, z_and7, Int32.add_zero, c_worthTo hF W H, e615_31 hF, e615_41 hF, e615_54 hF, e615_64 hF]
    by_cases c1 : h 5 (8 * w a + b) ≤ h 5 (8 * w a + a)
    · rw [if_pos c1, decide_eq_false (by omega)]; rfl
    · rw [if_neg c1, decide_eq_true (by omega)]
      by_cases c2 : h 5 (8 * w b + a) ≤ h 5 (8 * w b + b)
      · rw [if_pos c2, decide_eq_false (by omega)]; rfl
      · rw [if_neg c2, decide_eq_true (by omega)]; rfl
theorem c_firstSwap (hF : pm_fix pt_me pt_Sg (pt_R L0 xs) F) (W : WF h) (H : CH h I) {w : Nat → Nat} (k : WK h w) : (F 614 0 [some (.ref 23), some (.int (nI (hp w))), none, none] [] (49, pt_G, I, L)) = some (some (.int (oI (fsw h w))), (49, pt_G, I, L)) := by
  have hO := W.O
  have hP := W.P
  rw [e614_0 hF]
  refine (ffE (G := fun a => (F 614 2 [some (.ref 23), some (.int (nI (hp w))), some (.int (nI a)), none] [] (49, pt_G, I, L))) (X := fun a => some (some (.int (nI (8 * a + (fsb h w a).getD 0))), (49, pt_G, I, L))) (p := fun a => (fsb h w a).isSome) (n := h 0 1) (fun a ha => ?_)).trans ?_
  · try dsimp only
    rw [e614_2 hF]
    simp (disch := omega) only [pm_k_i, Option.toList_some, Option.toList_none, List.cons_append, List.nil_append, cond_true, cond_false, ↓reduceIte, reduceCtorEq, z_1, nI_add, z_cl, z_ib, z_lt, z_le, z_eq, z_eq0, z_le0, z_lt0, z_b0, z_b1, z_m1, z_and7, Int32.add_zero, H.O, ha]
    refine (frE (G := fun b => (F 614 17 [some (.ref 23), some (.int (nI (hp w))), some (.int (nI a)), some (.int (nI b))] [] (49, pt_G, I, L))) (X := fun b => some (some (.int (nI (8 * a + b))), (49, pt_G, I, L))) (p := fun b => swp h w a b) (n := h 0 1) (fun b hb => ?_) (h 0 1 - (a + 1)) (a + 1) (by omega)).trans ?_
    · try dsimp only
      rw [e614_17 hF]
      simp (disch := omega) only [pm_k_i, Option.toList_some, Option.toList_none, List.cons_append, List.nil_append, cond_true, cond_false, ↓reduceIte, reduceCtorEq, z_1, nI_add, z_cl, z_ib, z_lt, z_le, z_eq, z_eq0, z_le0, z_lt0, z_b0, z_b1, z_m1, z_and7, Int32.add_zero, H.O, hb, c_helpsBoth hF W H k, e614_35 hF, z_8m]
      cases swp h w a b <;> rfl
    · show (match fsb h w a with | some j => _ | none => _) = _
      cases fsb h w a with
      | some b => rfl
      | none =>
        dsimp only
        rw [e614_17 hF]
        simp (disch := omega) only [pm_k_i, Option.toList_some, Option.toList_none, List.cons_append, List.nil_append, cond_true, cond_false, ↓reduceIte, reduceCtorEq, z_1, nI_add, z_cl, z_ib, z_lt, z_le, z_eq, z_eq0, z_le0, z_lt0, z_b0, z_b1, z_m1, z_and7, Int32.add_zero, H.O, Nat.lt_irrefl]
        rfl
  · unfold fsw
    cases ff (fun a => (fsb h w a).isSome) (h 0 1) with
    | some a => rfl
    | none =>
      dsimp only
      rw [e614_2 hF]
      simp (disch := omega) only [pm_k_i, Option.toList_some, Option.toList_none, List.cons_append, List.nil_append, cond_true, cond_false, ↓reduceIte, reduceCtorEq, z_1, nI_add, z_cl, z_ib, z_lt, z_le, z_eq, z_eq0, z_le0, z_lt0, z_b0, z_b1, z_m1, z_and7, Int32.add_zero, H.O, Nat.lt_irrefl]
      rfl
theorem z_us3 : ∀ a, a < 8 → ∀ b, b < 8 → pm_us (nI (8 * a + b)) 3 = nI a ∧ nI (8 * a + b) &&& 7 = nI b := by decide +kernel
theorem c_sw1 (hF : pm_fix pt_me pt_Sg (pt_R L0 xs) F) (W : WF h) {w : Nat → Nat} (k : WK h w) {m : Nat} (hm : fsw h w = some m) : (F 904 0 [some (.int (nI (hp w))), some (.int (pm_us (nI m) 3)), some (.int (nI m &&& 7))] [] (49, pt_G, I, L)) = some (some (.int (nI (hp (sw1 h w)))), (49, pt_G, I, L)) := by
  have hO := W.O
  have hP := W.P
  obtain ⟨a, b, rfl, h1, h2, h3, h4, h5⟩ := fsw_some W hm
  obtain ⟨u1, u2⟩ := z_us3 a (by omega) b (by omega)
  have ka := k.2 a (by omega)
  have kb := k.2 b (by omega)
  have hx : sw1 h w = xw w a b := by unfold sw1; rw [hm]; dsimp only; rw [h4, h5]
  rw [u1, u2, c_exchanged hF (hp_lt k.1) (by omega) (by omega), gs_hp k.1, hp_ws k.1 (by omega) (by omega), hp_ws (k.1.up (by omega) (by omega)) (by omega) (by omega), hx]
  rfl
theorem c_settle (hF : pm_fix pt_me pt_Sg (pt_R L0 xs) F) (W : WF h) (H : CH h I) {w : Nat → Nat} (k : WK h w) : (F 611 0 [some (.ref 23), some (.int (nI (hp w))), none, none, none] [] (49, pt_G, I, L)) = some (some (.int (nI (hp (stl h w)))), (49, pt_G, I, L)) := by
  have hO := W.O
  have hP := W.P
  rw [e611_0 hF]
  refine (ffE (G := fun n => (F 611 4 [some (.ref 23), some (.int (nI (hp w))), some (.int (nI (hp (itw h w n)))), some (.int (nI n)), none] [] (49, pt_G, I, L))) (X := fun n => some (some (.int (nI (hp (itw h w n)))), (49, pt_G, I, L))) (p := fun n => (fsw h (itw h w n)).isNone) (n := 400) (fun n hn => ?_)).trans ?_
  · try dsimp only
    rw [e611_4 hF, show (400 : Int32) = nI 400 from rfl]
    simp (disch := omega) only [pm_k_i, Option.toList_some, Option.toList_none, List.cons_append, List.nil_append, cond_true, cond_false, ↓reduceIte, reduceCtorEq, z_1, nI_add, z_cl, z_ib, z_lt, z_le, z_eq, z_eq0, z_le0, z_lt0, z_b0, z_b1, z_m1, z_and7, Int32.add_zero, hn, c_firstSwap hF W H (k.it W n), e611_16 hF]
    cases e : fsw h (itw h w n) with
    | none => exact if_pos rfl
    | some m =>
      obtain ⟨a, b, rfl, h1, h2, h3, h4, h5⟩ := fsw_some W e
      show (if nI (8 * a + b) = -1 then _ else _) = _
      simp (disch := omega) only [pm_k_i, Option.toList_some, Option.toList_none, List.cons_append, List.nil_append, cond_true, cond_false, ↓reduceIte, reduceCtorEq, z_1, nI_add, z_cl, z_ib, z_lt, z_le, z_eq, z_eq0, z_le0, z_lt0, z_b0, z_b1, z_m1, z_and7, Int32.add_zero, oI, c_sw1 hF W (k.it W n) e, e611_39 hF]
      rfl
  · rw [stn_some W w]
    rfl
end
