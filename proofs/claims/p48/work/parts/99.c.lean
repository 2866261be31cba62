/-! ===== what picks are: as many offices as turns; none better instead; settled ===== -/
section
variable {h : Nat → Nat → Nat}
/-- what is held by one, weighed -/
def hw (f w : Nat → Nat) (p : Nat) : Nat → Nat := fun o => if w o = p then f o else 0
theorem own_hw (w : Nat → Nat) (q p : Nat) : own h w q p = sm (hw (fun o => h 5 (8 * p + o)) w q) (h 0 1) := by
  unfold own sm
  refine lp_congr (fun o a ho => ?_) 0
  unfold hw
  by_cases e : w o = q
  · rw [e, Nat.beq_refl, if_pos rfl]; rfl
  · rw [beq_f e, if_neg e]; rfl
theorem cnw_hw (w : Nat → Nat) (p : Nat) : ∀ n, cnw w n p = sm (hw (fun _ => 1) w p) n := by
  intro n
  induction n with
  | zero => rfl
  | succ n ih =>
    rw [cnw_s, ih]
    show _ = sm _ n + hw (fun _ => 1) w p n
    unfold hw
    by_cases e : p = w n
    · rw [if_pos e, if_pos e.symm]
    · rw [if_neg e, if_neg (fun z => e z.symm)]
theorem up_s {w : Nat → Nat} {a v : Nat} : up w a v a = v := if_pos rfl
theorem up_n {w : Nat → Nat} {a v j : Nat} (z : j ≠ a) : up w a v j = w j := if_neg z
theorem hw_up_s {f w : Nat → Nat} {a v p : Nat} : hw f (up w a v) p a = if v = p then f a else 0 := by
  unfold hw
  rw [up_s]
theorem hw_up_n {f w : Nat → Nat} {a v p o : Nat} (z : o ≠ a) : hw f (up w a v) p o = hw f w p o := by
  unfold hw
  rw [up_n z]
theorem sm_0 {f : Nat → Nat} {n : Nat} (hf : ∀ o, o < n → f o = 0) : sm f n = 0 := by
  induction n with
  | zero => rfl
  | succ n ih =>
    show sm f n + f n = 0
    rw [ih (fun o ho => hf o (by omega)), hf n (by omega)]
/-- what one gets turn by turn -/
def pt1 (f t : Nat → Nat) (c : Nat → Nat) (p n : Nat) : Nat := lp (fun k a => bif Nat.beq (t k) p then a + f (c k) else a) n 0
theorem pt1_s (f t c : Nat → Nat) (p n : Nat) : pt1 f t c p (n + 1) = pt1 f t c p n + if t n = p then f (c n) else 0 := by
  show (bif Nat.beq (t n) p then pt1 f t c p n + f (c n) else pt1 f t c p n) = _
  by_cases e : t n = p
  · rw [e, Nat.beq_refl, if_pos rfl]; rfl
  · rw [beq_f e, if_neg e]; rfl
theorem pk_sum (W : WF h) {t : Nat → Nat} (ht : ∀ i, i < h 0 1 → t i < h 0 0) {c : Nat → Nat → Nat} (hc : PK h c) (f : Nat → Nat) (p : Nat) : ∀ n, n ≤ h 0 1 → sm (fun o => if (pkS h t c n).1.testBit o = true then 0 else hw f (pkS h t c n).2 p o) (h 0 1) = pt1 f t (fun k => c k (pkS h t c k).1) p n := by
  have hO := W.O
  have h2 := o256 W
  intro n
  induction n with
  | zero =>
    intro _
    refine sm_0 (fun o ho => if_pos ?_)
    show (2 ^ h 0 1 - 1).testBit o = true
    rw [all_tb (h 0 1) (by omega) o (by omega), decide_eq_true ho]
  | succ n ih =>
    intro hn
    obtain ⟨i1, _⟩ := pkS_inv W ht hc (n := n) (by omega)
    obtain ⟨c1, c2⟩ := hc n _ (by omega) (pkS_pos W ht hc (by omega)) i1
    have e1 : (pkS h t c (n + 1)).1 = rm (pkS h t c n).1 (c n (pkS h t c n).1) := rfl
    have e2 : (pkS h t c (n + 1)).2 = up (pkS h t c n).2 (c n (pkS h t c n).1) (t n) := rfl
    have g : sm (fun o => if (pkS h t c (n + 1)).1.testBit o = true then 0 else hw f (pkS h t c (n + 1)).2 p o) (h 0 1) = sm (up (fun o => if (pkS h t c n).1.testBit o = true then 0 else hw f (pkS h t c n).2 p o) (c n (pkS h t c n).1) (if t n = p then f (c n (pkS h t c n).1) else 0)) (h 0 1) := by
      refine sm_congr (fun o ho => ?_)
      rw [e1, e2, z_rmb _ (by omega) _ (by omega) _ (by omega)]
      by_cases z : o = c n (pkS h t c n).1
      · rw [z, Nat.beq_refl, Bool.not_true, Bool.and_false, if_neg (by decide), hw_up_s, up_s]
      · rw [beq_f z, Bool.not_false, Bool.and_true, hw_up_n z, up_n z]
    have u := sm_up (f := fun o => if (pkS h t c n).1.testBit o = true then 0 else hw f (pkS h t c n).2 p o) (v := if t n = p then f (c n (pkS h t c n).1) else 0) c1
    rw [if_pos c2, ih (by omega)] at u
    rw [g, pt1_s]
    exact u
theorem pks_sum (W : WF h) {t : Nat → Nat} (ht : ∀ i, i < h 0 1 → t i < h 0 0) {c : Nat → Nat → Nat} (hc : PK h c) (f : Nat → Nat) (p : Nat) : sm (hw f (pks h t c) p) (h 0 1) = pt1 f t (fun k => c k (pkS h t c k).1) p (h 0 1) := by
  have h2 := o256 W
  obtain ⟨i1, i2, i3, i4⟩ := pkS_inv W ht hc (n := h 0 1) (Nat.le_refl _)
  have e := pc_0 (pkS h t c (h 0 1)).1 (by omega) (by omega)
  have k := pk_sum W ht hc f p _ (Nat.le_refl _)
  rw [e] at k
  rw [← k]
  refine sm_congr (fun o ho => ?_)
  rw [if_neg (by rw [Nat.zero_testBit]; decide)]
  rfl
theorem pt1_cnw (t c : Nat → Nat) (p : Nat) : ∀ n, pt1 (fun _ => 1) t c p n = cnw t n p := by
  intro n
  induction n with
  | zero => rfl
  | succ n ih =>
    rw [pt1_s, cnw_s, ih]
    by_cases e : t n = p
    · rw [if_pos e, if_pos e.symm]
    · rw [if_neg e, if_neg (fun z => e z.symm)]
/-- as many offices as turns -/
theorem pks_cnt (W : WF h) {t : Nat → Nat} (ht : ∀ i, i < h 0 1 → t i < h 0 0) {c : Nat → Nat → Nat} (hc : PK h c) (p : Nat) : cnw (pks h t c) (h 0 1) p = cnw t (h 0 1) p := by
  rw [cnw_hw, pks_sum W ht hc, pt1_cnw]
theorem xw_hw {f w : Nat → Nat} {a b p : Nat} : hw f (xw w a b) p = up (up (hw f w p) a (if w b = p then f a else 0)) b (if w a = p then f b else 0) := by
  funext o
  unfold hw xw up
  by_cases c : o = b
  · rw [if_pos c, if_pos c, c]
  · rw [if_neg c, if_neg c]
    by_cases d : o = a
    · rw [if_pos d, if_pos d, d]
    · rw [if_neg d, if_neg d]
theorem xw_sum {f w : Nat → Nat} {n a b p : Nat} (ab : a ≠ b) (ha : a < n) (hb : b < n) : sm (hw f (xw w a b) p) n + (if w a = p then f a else 0) + (if w b = p then f b else 0) = sm (hw f w p) n + (if w b = p then f a else 0) + (if w a = p then f b else 0) := by
  have h1 := sm_up (f := up (hw f w p) a (if w b = p then f a else 0)) (v := if w a = p then f b else 0) hb
  have h2 := sm_up (f := hw f w p) (v := if w b = p then f a else 0) ha
  have h3 : up (hw f w p) a (if w b = p then f a else 0) b = hw f w p b := by unfold up; rw [if_neg (fun z => ab z.symm)]
  have h4 : hw f w p b = if w b = p then f b else 0 := rfl
  have h5 : hw f w p a = if w a = p then f a else 0 := rfl
  rw [xw_hw]
  rw [h3, h4] at h1
  rw [h5] at h2
  omega
theorem xw_cnt {w : Nat → Nat} {n a b : Nat} (p : Nat) (ab : a ≠ b) (ha : a < n) (hb : b < n) : cnw (xw w a b) n p = cnw w n p := by
  have := xw_sum (f := fun _ => 1) (w := w) (p := p) ab ha hb
  rw [cnw_hw, cnw_hw]
  omega
theorem sw1_cnt (W : WF h) (w : Nat → Nat) (p : Nat) : cnw (sw1 h w) (h 0 1) p = cnw w (h 0 1) p := by
  unfold sw1
  cases e : fsw h w with
  | none => rfl
  | some m =>
    obtain ⟨a, b, rfl, k1, k2, k3, k4, k5⟩ := fsw_some W e
    dsimp only
    rw [k4, k5]
    exact xw_cnt p (by omega) (by omega) k2
theorem sw1_own (W : WF h) (w : Nat → Nat) (p : Nat) : own h w p p ≤ own h (sw1 h w) p p := by
  unfold sw1
  cases e : fsw h w with
  | none => exact Nat.le_refl _
  | some m =>
    obtain ⟨a, b, rfl, k1, k2, k3, k4, k5⟩ := fsw_some W e
    dsimp only
    rw [k4, k5, own_hw, own_hw]
    have := xw_sum (f := fun o => h 5 (8 * p + o)) (w := w) (p := p) (show a ≠ b by omega) (show a < h 0 1 by omega) k2
    unfold swp at k3
    rw [Bool.and_eq_true, Bool.and_eq_true, decide_eq_true_eq, decide_eq_true_eq] at k3
    obtain ⟨d, s1, s2⟩ := k3
    by_cases za : w a = p
    · rw [za] at s1
      rw [if_pos za, if_pos za] at this
      by_cases zb : w b = p
      · rw [if_pos zb, if_pos zb] at this
        omega
      · rw [if_neg zb, if_neg zb] at this
        omega
    · rw [if_neg za, if_neg za] at this
      by_cases zb : w b = p
      · rw [zb] at s2
        rw [if_pos zb, if_pos zb] at this
        omega
      · rw [if_neg zb, if_neg zb] at this
        omega
theorem stl_cnt (W : WF h) (w : Nat → Nat) (p : Nat) : cnw (stl h w) (h 0 1) p = cnw w (h 0 1) p := by
  have : ∀ n, cnw (itw h w n) (h 0 1) p = cnw w (h 0 1) p := by
    intro n
    induction n with
    | zero => rfl
    | succ n ih => exact (sw1_cnt W (itw h w n) p).trans ih
  exact this _
theorem stl_own (W : WF h) (w : Nat → Nat) (p : Nat) : own h w p p ≤ own h (stl h w) p p := by
  have : ∀ n, own h w p p ≤ own h (itw h w n) p p := by
    intro n
    induction n with
    | zero => exact Nat.le_refl _
    | succ n ih => exact Nat.le_trans ih (sw1_own W (itw h w n) p)
  exact this _
/-- promise of all three ways -/
theorem pw_cnt (W : WF h) {c : Nat} (c0 : 0 < c) (cl : c ≤ ev h) (y p : Nat) : cnw (pw h c y) (h 0 1) p = cnw (du h c) (h 0 1) p := by
  have d := du_ok W c0 cl
  have dt : ∀ i, i < h 0 1 → du h c i < h 0 0 := fun i hi => (d.2.1 i hi).1
  match y with
  | 0 => exact pks_cnt W dt (PK_S W _) p
  | 1 => exact pks_cnt W dt (PK_F W _) p
  | y + 2 => exact (stl_cnt W (fs h c) p).trans (pks_cnt W dt (PK_F W _) p)
theorem du_in (W : WF h) {c p : Nat} (c0 : 0 < c) (cl : c ≤ ev h) (hp : 0 < cnw (du h c) (h 0 1) p) : c.testBit p = true := by
  have d := du_ok W c0 cl
  cases hb : c.testBit p with
  | true => rfl
  | false =>
    rw [cnw_z _ (fun i hi z => by have := (d.2.1 i hi).2; rw [z, hb] at this; cases this)] at hp
    exact absurd hp (Nat.lt_irrefl 0)
/-- settled is no less -/
theorem pw_own2 (W : WF h) (c p : Nat) : own h (pw h c 1) p p ≤ own h (pw h c 2) p p := stl_own W (fs h c) p
theorem stl_none (W : WF h) (w : Nat → Nat) : fsw h (stl h w) = none := by
  have := (ff_some (stn_some W w)).2.1
  unfold stl
  cases e : fsw h (itw h w (stn h w)) with
  | none => rfl
  | some m =>
    rw [e] at this
    cases this
theorem fsw_no {w : Nat → Nat} (hw : fsw h w = none) {a b : Nat} (ab : a < b) (hb : b < h 0 1) : swp h w a b = false := by
  unfold fsw at hw
  cases e : ff (fun a => (fsb h w a).isSome) (h 0 1) with
  | some m => rw [e] at hw; cases hw
  | none =>
    have h1 := ff_none e a (by omega)
    cases e2 : fsb h w a with
    | some m => rw [e2] at h1; cases h1
    | none =>
      unfold fsb at e2
      exact fr_none e2 b (by omega) (by omega)
theorem scn_0 {w : Nat → Nat} (hs : ∀ a b, a < b → b < h 0 1 → swp h w a b = false) : scn h w (h 0 1) = 0 := by
  unfold scn
  refine lpP (f := fun i a => sc1 h w i a) (P := fun _ a => a = 0) rfl (fun i a hi ha => ?_)
  subst ha
  unfold sc1
  refine lpP (f := fun d a => a + (swp h w i (i + 1 + d)).toNat) (P := fun _ a => a = 0) rfl (fun d a hd ha => ?_)
  rw [ha, hs i (i + 1 + d) (by omega) (by omega)]
  rfl
theorem swp_congr {v w : Nat → Nat} {a b : Nat} (ha : v a = w a) (hb : v b = w b) : swp h v a b = swp h w a b := by
  unfold swp
  rw [ha, hb]
/-- no swap is left of what is settled -/
theorem scn_pw (W : WF h) {c : Nat} {b : Nat → Nat} (hb : ∀ o, o < h 0 1 → b o = pw h c 2 o) : scn h (tol b (h 0 1)) (h 0 1) = 0 := by
  refine scn_0 (fun a e ab he => ?_)
  have ta : ∀ o, o < h 0 1 → tol b (h 0 1) o = stl h (fs h c) o := fun o ho => (if_pos ho).trans (hb o ho)
  rw [swp_congr (ta a (by omega)) (ta e he)]
  exact fsw_no (stl_none W _) ab he
/-! foreseen: nothing is better instead -/
theorem amx_max {m : Nat} {val : Nat → Nat} : ∀ n, ∀ o, o < n → m.testBit o = true → ∃ q, amx m val n = some q ∧ val o ≤ val q := by
  intro n
  induction n with
  | zero => intro o ho; omega
  | succ n ih =>
    intro o ho hb
    have e : amx m val (n + 1) = am1 m val n (amx m val n) := rfl
    rw [e]
    by_cases z : o = n
    · subst z
      unfold am1
      rw [hb]
      cases e2 : amx m val o with
      | none => exact ⟨o, rfl, Nat.le_refl _⟩
      | some q =>
        by_cases c : val q < val o
        · exact ⟨o, by simp only [decide_eq_true c, Bool.and_true, cond_true], Nat.le_refl _⟩
        · exact ⟨q, by simp only [decide_eq_false c, Bool.and_false, cond_false], by omega⟩
    · obtain ⟨q, hq, hl⟩ := ih o (by omega) hb
      rw [hq]
      unfold am1
      cases m.testBit n with
      | false => exact ⟨q, rfl, hl⟩
      | true =>
        by_cases c : val q < val n
        · exact ⟨n, by simp only [decide_eq_true c, Bool.and_true, cond_true], by omega⟩
        · exact ⟨q, by simp only [decide_eq_false c, Bool.and_false, cond_false], hl⟩
theorem fsT_keep2 (t : Nat → Nat) {l q : Nat} : ∀ {n m : Nat}, l ≤ n → n ≤ m → (fsT h t m).2 l q = (fsT h t n).2 l q := by
  intro n m hl hm
  induction m with
  | zero => rw [show n = 0 by omega]
  | succ m ih =>
    by_cases e : n = m + 1
    · rw [e]
    · rw [← ih (by omega)]
      show (fs1 h t m (fsT h t m)).2 l q = _
      rw [fs1_2, if_neg (by omega)]
theorem fgn_0 (t : Nat → Nat) (q : Nat) : fgn h t 0 q = 0 := (fsT_keep2 t (n := 0) (Nat.le_refl _) (Nat.zero_le _)).trans rfl
/-- what one has by a set that is left -/
theorem fgn_eq (W : WF h) (t : Nat → Nat) {l q : Nat} (h0 : 0 < l) (hl : l < 2 ^ h 0 1) : fgn h t l q = fgn h t (rm l (fch h t l)) q + (if q = ft h t l then h 5 (8 * ft h t l + fch h t l) else 0) ∧ ∀ o, o < h 0 1 → l.testBit o = true → h 5 (8 * ft h t l + o) + fgn h t (rm l o) (ft h t l) ≤ h 5 (8 * ft h t l + fch h t l) + fgn h t (rm l (fch h t l)) (ft h t l) := by
  have hO := W.O
  have h2 := o256 W
  have hf := fch_eq W t h0 hl
  obtain ⟨k, rfl⟩ : ∃ k, l = k + 1 := ⟨l - 1, by omega⟩
  have hf : fch h t (k + 1) = fc h t (fsT h t k).2 (k + 1) := hf
  obtain ⟨c1, c2, c3⟩ := fc_in W t (fsT h t k).2 (l := k + 1) h0 hl
  have lt : ∀ o, o < h 0 1 → (k + 1).testBit o = true → rm (k + 1) o ≤ k := fun o ho hb => by
    have := (rm_lt (k + 1) (by omega) o (by omega)).2.2 hb
    omega
  have kp : ∀ o, o < h 0 1 → (k + 1).testBit o = true → ∀ q, fgn h t (rm (k + 1) o) q = (fsT h t k).2 (rm (k + 1) o) q := fun o ho hb q => fsT_keep2 t (lt o ho hb) (by omega)
  constructor
  · have e : fgn h t (k + 1) q = (fsT h t (k + 1)).2 (k + 1) q := fsT_keep2 t (Nat.le_refl _) (by omega)
    have e2 : (fsT h t (k + 1)).2 (k + 1) q = (fs1 h t k (fsT h t k)).2 (k + 1) q := rfl
    rw [e, e2, fs1_2, if_pos rfl, hf, kp _ c1 c2]
  · intro o ho hb
    obtain ⟨q, hq, hl2⟩ := amx_max (val := fv h t (fsT h t k).2 (k + 1)) (h 0 1) o ho hb
    rw [c3] at hq
    cases hq
    rw [hf, kp o ho hb, kp _ c1 c2]
    exact hl2
theorem ins_pt1 (t : Nat → Nat) (i n : Nat) : ins h t i n = pt1 (fun o => h 5 (8 * t i + o)) t (fun k => cF h t k (pkS h t (cF h t) k).1) (t i) n := rfl
theorem fgn_run (W : WF h) {t : Nat → Nat} (ht : ∀ i, i < h 0 1 → t i < h 0 0) (i : Nat) : ∀ m n, n + m = h 0 1 → ins h t i n + fgn h t (pkS h t (cF h t) n).1 (t i) = ins h t i (h 0 1) := by
  have h2 := o256 W
  intro m
  induction m with
  | zero =>
    intro n hn
    have hn : n = h 0 1 := by omega
    subst hn
    obtain ⟨i1, i2, i3, i4⟩ := pkS_inv W ht (PK_F W t) (n := h 0 1) (Nat.le_refl _)
    rw [pc_0 (pkS h t (cF h t) (h 0 1)).1 (by omega) (by omega), fgn_0, Nat.add_zero]
  | succ m ih =>
    intro n hn
    obtain ⟨i1, i2, i3, i4⟩ := pkS_inv W ht (PK_F W t) (n := n) (by omega)
    have l0 := pkS_pos W ht (PK_F W t) (n := n) (by omega)
    have eft : ft h t (pkS h t (cF h t) n).1 = t n := by
      unfold ft
      rw [i2]
      congr 1
      omega
    have st := (fgn_eq W t (q := t i) l0 i1).1
    have nx : (pkS h t (cF h t) (n + 1)).1 = rm (pkS h t (cF h t) n).1 (fch h t (pkS h t (cF h t) n).1) := rfl
    rw [eft, ← nx] at st
    have := ih (n + 1) (by omega)
    rw [← this, st, ins_pt1, ins_pt1, pt1_s]
    show _ = _ + (if t n = t i then h 5 (8 * t i + fch h t (pkS h t (cF h t) n).1) else 0) + _
    by_cases z : t n = t i
    · rw [if_pos z, if_pos z.symm, z]
      omega
    · rw [if_neg z, if_neg (fun y => z y.symm)]
      omega
theorem own_ins (W : WF h) {t : Nat → Nat} (ht : ∀ i, i < h 0 1 → t i < h 0 0) (i : Nat) : own h (pks h t (cF h t)) (t i) (t i) = ins h t i (h 0 1) := by
  rw [own_hw, pks_sum W ht (PK_F W t), ins_pt1]
theorem own_le7 (W : WF h) (w : Nat → Nat) (q p : Nat) : own h w q p ≤ 792 := by
  have hO := W.O
  have := lp_le (f := fun o a => bif Nat.beq (w o) q then a + h 5 (8 * p + o) else a) (n := h 0 1) (c := 99) (fun o a _ => by
    have := W.worth (8 * p + o)
    cases Nat.beq (w o) q
    · show a ≤ _; omega
    · show a + h 5 (8 * p + o) ≤ _; omega) 0
  unfold own
  omega
/-- no office instead is better -/
theorem inv_le (W : WF h) {c i o : Nat} (c0 : 0 < c) (cl : c ≤ ev h) (hi : i < h 0 1) (ho : o < h 0 1) : inv h (du h c) i o ≤ nI (own h (pw h c 1) (du h c i) (du h c i)) := by
  have d := du_ok W c0 cl
  have dt : ∀ i, i < h 0 1 → du h c i < h 0 0 := fun i hi => (d.2.1 i hi).1
  have h2 := o256 W
  have l7 := own_le7 W (pw h c 1) (du h c i) (du h c i)
  unfold inv
  cases hb : (pkS h (du h c) (cF h (du h c)) i).1.testBit o with
  | false =>
    show (-1 : Int32) ≤ _
    have e : (-1 : Int32).toInt = -1 := by decide
    rw [Int32.le_iff_toInt_le, e, nI_toInt (by omega)]
    omega
  | true =>
    obtain ⟨i1, i2, i3, i4⟩ := pkS_inv W dt (PK_F W (du h c)) (n := i) (by omega)
    have l0 := pkS_pos W dt (PK_F W (du h c)) hi
    have eft : ft h (du h c) (pkS h (du h c) (cF h (du h c)) i).1 = du h c i := by
      unfold ft
      rw [i2]
      congr 1
      omega
    obtain ⟨f1, f2⟩ := fgn_eq W (du h c) (q := du h c i) l0 i1
    have f3 := f2 o ho hb
    have r := fgn_run W dt i (h 0 1 - i) i (by omega)
    have ow : own h (pw h c 1) (du h c i) (du h c i) = ins h (du h c) i (h 0 1) := own_ins W dt i
    rw [eft] at f1 f3
    rw [if_pos rfl] at f1
    have le : ins h (du h c) i i + h 5 (8 * du h c i + o) + fgn h (du h c) (rm (pkS h (du h c) (cF h (du h c)) i).1 o) (du h c i) ≤ own h (pw h c 1) (du h c i) (du h c i) := by omega
    show nI _ ≤ nI _
    rw [z_le (by omega) (by omega)]
    exact le
end
