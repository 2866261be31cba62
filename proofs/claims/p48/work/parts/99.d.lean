/-! ===== what coalitions are; forming; who is needed ===== -/
section
variable {h : Nat → Nat → Nat}
def kn5 (a b m n s : Bool) : Nat := a.toNat + 2 * b.toNat + 4 * m.toNat + 8 * n.toNat + 16 * s.toNat
theorem kn5_b : ∀ a b m n s, (nI (kn5 a b m n s) &&& 16 = 16 ↔ s = true) ∧ (nI (kn5 a b m n s) &&& 3 = 3 ↔ (a && b) = true) ∧ (nI (kn5 a b m n s) &&& 4 = 4 ↔ m = true) ∧ (nI (kn5 a b m n s) &&& 1 = 0 ↔ a = false) := by decide +kernel
theorem kin_b (c : Nat) : (nI (kin h c) &&& 16 = 16 ↔ (can h c && Nat.beq (rvl h c) 0) = true) ∧ (nI (kin h c) &&& 3 = 3 ↔ can h c = true) ∧ (nI (kin h c) &&& 4 = 4 ↔ mnl h c = true) ∧ (nI (kin h c) &&& 1 = 0 ↔ led h c = false) := kn5_b (led h c) (fre h c) (mnl h c) (cnn h c) (can h c && Nat.beq (rvl h c) 0)
theorem mnl_led {c : Nat} (hm : mnl h c = true) : led h c = true := (Bool.and_eq_true_iff.mp hm).1
/-- a rival has more for each of it -/
theorem rvl_mor {c p : Nat} (hr : 0 < rvl h c) (hp : p < h 0 0) (hb : (rvl h c).testBit p = true) : ¬ pyc h (rvl h c) p ≤ pyc h c p := by
  unfold rvl at hr hb ⊢
  cases e : ff (fun k => !Nat.beq (k + 1) c && (can h (k + 1) && mor h (k + 1) c)) (ev h) with
  | none => rw [e] at hr; exact absurd hr (Nat.lt_irrefl 0)
  | some k =>
    rw [e] at hb
    have hb : (k + 1).testBit p = true := hb
    show ¬ pyc h (k + 1) p ≤ pyc h c p
    have h1 := (ff_some e).2.1
    rw [Bool.and_eq_true, Bool.and_eq_true] at h1
    have h2 := h1.2.2
    unfold mor at h2
    cases e2 : ff (fun p => (k + 1).testBit p && decide (pyc h (k + 1) p ≤ pyc h c p)) (h 0 0) with
    | some j => rw [e2] at h2; cases h2
    | none =>
      have h3 := ff_none e2 p hp
      rw [hb, Bool.true_and] at h3
      exact of_decide_eq_false h3
theorem cnt_all : cntP h (kp h 0) = ev h := by
  unfold cntP
  have : ∀ n, lp (fun k a => bif kp h 0 (k + 1) then a + 1 else a) n 0 = n := by
    intro n
    induction n with
    | zero => rfl
    | succ n ih =>
      show (bif kp h 0 (n + 1) then _ + 1 else _) = _
      rw [ih, show kp h 0 (n + 1) = true from by unfold kp; rw [Nat.and_zero]; rfl]
      rfl
  exact this _
theorem joi_ok {c j : Nat} (hj : joi h c = some j) : 0 < j ∧ j ≤ ev h ∧ j &&& c = 0 ∧ can h (j ||| c) = true := by
  have key : ∀ q, lp (jo1 h c) (ev h) none = some q → 0 < q ∧ q ≤ ev h ∧ q &&& c = 0 ∧ can h (q ||| c) = true := by
    have := lpP (f := jo1 h c) (P := fun k (b : Option Nat) => ∀ q, b = some q → 0 < q ∧ q ≤ k ∧ q &&& c = 0 ∧ can h (q ||| c) = true) (n := ev h) (a := none) (fun q hq => by cases hq) (fun k b hk hb q hq => by
      unfold jo1 at hq
      rcases bif_some hq with ⟨e2, e⟩ | ⟨_, e⟩
      · rw [Bool.and_eq_true, Bool.and_eq_true] at e2
        rw [e]
        exact ⟨Nat.succ_pos _, Nat.le_refl _, Nat.eq_of_beq_eq_true e2.1, e2.2.1⟩
      · obtain ⟨a1, a2, a3, a4⟩ := hb q e
        exact ⟨a1, by omega, a3, a4⟩)
    exact this
  exact key j hj
/-! forming -/
def FI (h : Nat → Nat → Nat) (s : fst') : Prop := s.2.2.2 ≠ 0 → can h s.2.2.2 = true ∧ s.2.2.2 ≤ ev h ∧ 0 < s.2.1 ∧ (s.2.2.1 (s.2.1 - 1)).2.1 = s.2.2.2 ∧ (s.2.2.1 (s.2.1 - 1)).2.2 = 0
theorem tr1_FI {r p : Nat} {s : fst'} (hs : FI h s) : FI h (tr1 h r p s) := by
  unfold tr1
  by_cases z : s.2.2.2 = 0
  · rw [z, Nat.beq_refl, Bool.true_and]
    obtain ⟨b1, b2⟩ := bch_ok (h := h) s.1 p
    by_cases c : bch h s.1 p = 0
    · rw [c, Nat.beq_refl]
      exact hs
    · rw [beq_f c]
      show FI h (fun x => Nat.beq x (bch h s.1 p) || s.1 x, s.2.1 + 1, fun i => if i = s.2.1 then (p, bch h s.1 p, wkr h (bch h s.1 p) r) else s.2.2.1 i, bif Nat.beq (wkr h (bch h s.1 p) r) 0 then bch h s.1 p else 0)
      intro hz
      have hz : (bif Nat.beq (wkr h (bch h s.1 p) r) 0 then bch h s.1 p else 0) ≠ 0 := hz
      by_cases d : wkr h (bch h s.1 p) r = 0
      · show can h (bif Nat.beq (wkr h (bch h s.1 p) r) 0 then bch h s.1 p else 0) = true ∧ (bif Nat.beq (wkr h (bch h s.1 p) r) 0 then bch h s.1 p else 0) ≤ ev h ∧ 0 < s.2.1 + 1 ∧ (if s.2.1 + 1 - 1 = s.2.1 then (p, bch h s.1 p, wkr h (bch h s.1 p) r) else s.2.2.1 (s.2.1 + 1 - 1)).2.1 = (bif Nat.beq (wkr h (bch h s.1 p) r) 0 then bch h s.1 p else 0) ∧ (if s.2.1 + 1 - 1 = s.2.1 then (p, bch h s.1 p, wkr h (bch h s.1 p) r) else s.2.2.1 (s.2.1 + 1 - 1)).2.2 = 0
        rw [d, Nat.beq_refl, if_pos (by omega)]
        exact ⟨b2 (by omega), b1, Nat.succ_pos _, rfl, rfl⟩
      · rw [beq_f d] at hz
        exact absurd rfl hz
  · rw [beq_f z]
    exact hs
theorem trs_FI {r p n : Nat} {s : fst'} (hs : FI h s) : FI h (trs h r p n s) := lpP (f := fun _ s => tr1 h r p s) (P := fun _ s => FI h s) hs (fun k a _ ha => tr1_FI ha)
theorem rnd_FI {r n : Nat} {s : fst'} (hs : FI h s) : FI h (rnd h r n s) := lpP (f := fun f s => trs h r (fo h f) (h 0 6) s) (P := fun _ s => FI h s) (show FI h ((fun _ => false), s.2) from hs) (fun k a _ ha => trs_FI ha)
/-- what is formed can be, and nobody walked out; without, nine rounds -/
theorem fmr_FI (n : Nat) : FI h (fmr h n).2 ∧ ((fmr h n).2.2.2.2 = 0 → (fmr h n).1 = n) := by
  have := lpP (f := fun r (a : Nat × fst') => bif Nat.beq a.2.2.2.2 0 then (a.1 + 1, rnd h r (h 0 0) a.2) else a) (P := fun k (a : Nat × fst') => FI h a.2 ∧ (a.2.2.2.2 = 0 → a.1 = k)) (n := n) (a := (0, (fun _ => false), 0, (fun _ => (0, 0, 0)), 0)) ⟨fun z => absurd rfl z, fun _ => rfl⟩ (fun k a hk ha => by
    obtain ⟨a1, a2⟩ := ha
    by_cases z : a.2.2.2.2 = 0
    · rw [z, Nat.beq_refl]
      exact ⟨rnd_FI a1, fun _ => by show a.1 + 1 = k + 1; rw [a2 z]⟩
    · rw [beq_f z]
      exact ⟨a1, fun y => absurd y z⟩)
  exact this
/-! who is needed: together all orders -/
def pvL (L : Nat → Bool) (P p : Nat) : Nat := lp (fun k a => bif (k + 1).testBit p && (L (k + 1) && !L (rm (k + 1) p)) then a + odf (pc (rm (k + 1) p)) * odf (P - 1 - pc (rm (k + 1) p)) else a) (2 ^ P - 1) 0
def pvS (L : Nat → Bool) (P : Nat) : Nat := lp (fun p a => a + pvL L P p) P 0
theorem pvC_L {P p : Nat} (hP : h 0 0 = P) : pvC h p = pvL (led h) P p := by
  unfold pvC pvL ev pw1
  rw [hP]
  rfl
theorem rm_16 : ∀ c, c < 16 → ∀ p, p < 4 → rm c p < 16 := by decide +kernel
theorem pvL_congr {L M : Nat → Bool} {P p : Nat} (hP : P ≤ 4) (hp : p < 4) (e : ∀ c, c < 2 ^ P → L c = M c) (hr : ∀ c, c < 2 ^ P → rm c p < 2 ^ P) : pvL L P p = pvL M P p := by
  refine lp_congr (fun k a hk => ?_) 0
  have := Nat.one_le_two_pow (n := P)
  rw [e (k + 1) (by omega), e _ (hr (k + 1) (by omega))]
def bA (f : Bool → Bool) : Bool := f false && f true
theorem bA_t {f : Bool → Bool} (k : bA f = true) (x : Bool) : f x = true := by
  unfold bA at k
  rw [Bool.and_eq_true] at k
  cases x
  · exact k.1
  · exact k.2
def im (x y r : Bool) : Bool := bif x && !y then true else r
theorem im_t {x y r : Bool} (k : im x y r = true) (i : x = true → y = true) : r = true := by
  unfold im at k
  cases x with
  | false => exact k
  | true => rw [i rfl] at k; exact k
theorem pv_1 : (bA (fun l1 => Nat.beq (pvS (fun c => [false, l1].getD c false) 1) (bif l1 then 1 else 0))) = true := by decide +kernel
theorem pv_2 : (bA (fun l1 => bA (fun l2 => bA (fun l3 => im l2 l3 (im l1 l3 (Nat.beq (pvS (fun c => [false, l1, l2, l3].getD c false) 2) (bif l3 then 2 else 0))))))) = true := by decide +kernel
theorem pv_3 : (bA (fun l1 => bA (fun l2 => bA (fun l3 => im l2 l3 (im l1 l3 (bA (fun l4 => bA (fun l5 => im l4 l5 (im l1 l5 (bA (fun l6 => im l4 l6 (im l2 l6 (bA (fun l7 => im l6 l7 (im l5 l7 (im l3 l7 (Nat.beq (pvS (fun c => [false, l1, l2, l3, l4, l5, l6, l7].getD c false) 3) (bif l7 then 6 else 0)))))))))))))))))) = true := by decide +kernel
theorem pv_4 : (bA (fun l1 => bA (fun l2 => bA (fun l3 => im l2 l3 (im l1 l3 (bA (fun l4 => bA (fun l5 => im l4 l5 (im l1 l5 (bA (fun l6 => im l4 l6 (im l2 l6 (bA (fun l7 => im l6 l7 (im l5 l7 (im l3 l7 (bA (fun l8 => bA (fun l9 => im l8 l9 (im l1 l9 (bA (fun l10 => im l8 l10 (im l2 l10 (bA (fun l11 => im l10 l11 (im l9 l11 (im l3 l11 (bA (fun l12 => im l8 l12 (im l4 l12 (bA (fun l13 => im l12 l13 (im l9 l13 (im l5 l13 (bA (fun l14 => im l12 l14 (im l10 l14 (im l6 l14 (bA (fun l15 => im l14 l15 (im l13 l15 (im l11 l15 (im l7 l15 (Nat.beq (pvS (fun c => [false, l1, l2, l3, l4, l5, l6, l7, l8, l9, l10, l11, l12, l13, l14, l15].getD c false) 4) (bif l15 then 24 else 0))))))))))))))))))))))))))))))))))))))))))))) = true := by decide +kernel
theorem led_mono (W : WF h) {c p : Nat} (hc : c < 16) (hp : p < h 0 0) (hb : c.testBit p = true) (hl : led h (rm c p) = true) : led h c = true := by
  have := sIn_rm W (show c < 256 by omega) hp hb
  unfold led at hl ⊢
  rw [decide_eq_true_eq] at hl ⊢
  omega
theorem led_0 (W : WF h) : led h 0 = false := by
  have n1 := (need_le W).2
  have e : sIn h 0 = 0 := by
    unfold sIn
    refine lpP (P := fun _ a => a = 0) rfl (fun p a _ ha => ?_)
    rw [Nat.zero_testBit, ha]
    rfl
  unfold led
  rw [e]
  exact decide_eq_false (by omega)
theorem pv_h1 (W : WF h) (hP : h 0 0 = 1) : lp (fun p a => a + pvC h p) (h 0 0) 0 = bif led h (ev h) then 1 else 0 := by
  have k := Nat.eq_of_beq_eq_true (bA_t pv_1 (led h 1))
  have e : ∀ c, c < 2 ^ 1 → led h c = [false, led h 1].getD c false := fun c hc => match c, hc with
    | 0, _ => led_0 W
    | 1, _ => rfl
    | n + 2, hc => absurd hc (by omega)
  have ee : ev h = 1 := by unfold ev; rw [hP]
  rw [ee, ← k, hP]
  unfold pvS
  refine lp_congr (fun p a hp => ?_) 0
  rw [pvC_L hP, pvL_congr (by decide) (by omega) e (fun c hc => rm_sub 1 (by decide) c hc p hp)]
theorem pv_h2 (W : WF h) (hP : h 0 0 = 2) : lp (fun p a => a + pvC h p) (h 0 0) 0 = bif led h (ev h) then 2 else 0 := by
  have k := Nat.eq_of_beq_eq_true (im_t (im_t (bA_t (bA_t (bA_t pv_2 (led h 1)) (led h 2)) (led h 3)) (fun z => led_mono W (c := 3) (p := 0) (by decide) (by omega) (by decide) (by rw [show rm 3 0 = 2 from by decide +kernel]; exact z))) (fun z => led_mono W (c := 3) (p := 1) (by decide) (by omega) (by decide) (by rw [show rm 3 1 = 1 from by decide +kernel]; exact z)))
  have e : ∀ c, c < 2 ^ 2 → led h c = [false, led h 1, led h 2, led h 3].getD c false := fun c hc => match c, hc with
    | 0, _ => led_0 W
    | 1, _ => rfl
    | 2, _ => rfl
    | 3, _ => rfl
    | n + 4, hc => absurd hc (by omega)
  have ee : ev h = 3 := by unfold ev; rw [hP]
  rw [ee, ← k, hP]
  unfold pvS
  refine lp_congr (fun p a hp => ?_) 0
  rw [pvC_L hP, pvL_congr (by decide) (by omega) e (fun c hc => rm_sub 2 (by decide) c hc p hp)]
theorem pv_h3 (W : WF h) (hP : h 0 0 = 3) : lp (fun p a => a + pvC h p) (h 0 0) 0 = bif led h (ev h) then 6 else 0 := by
  have k := Nat.eq_of_beq_eq_true (im_t (im_t (im_t (bA_t (im_t (im_t (bA_t (im_t (im_t (bA_t (bA_t (im_t (im_t (bA_t (bA_t (bA_t pv_3 (led h 1)) (led h 2)) (led h 3)) (fun z => led_mono W (c := 3) (p := 0) (by decide) (by omega) (by decide) (by rw [show rm 3 0 = 2 from by decide +kernel]; exact z))) (fun z => led_mono W (c := 3) (p := 1) (by decide) (by omega) (by decide) (by rw [show rm 3 1 = 1 from by decide +kernel]; exact z))) (led h 4)) (led h 5)) (fun z => led_mono W (c := 5) (p := 0) (by decide) (by omega) (by decide) (by rw [show rm 5 0 = 4 from by decide +kernel]; exact z))) (fun z => led_mono W (c := 5) (p := 2) (by decide) (by omega) (by decide) (by rw [show rm 5 2 = 1 from by decide +kernel]; exact z))) (led h 6)) (fun z => led_mono W (c := 6) (p := 1) (by decide) (by omega) (by decide) (by rw [show rm 6 1 = 4 from by decide +kernel]; exact z))) (fun z => led_mono W (c := 6) (p := 2) (by decide) (by omega) (by decide) (by rw [show rm 6 2 = 2 from by decide +kernel]; exact z))) (led h 7)) (fun z => led_mono W (c := 7) (p := 0) (by decide) (by omega) (by decide) (by rw [show rm 7 0 = 6 from by decide +kernel]; exact z))) (fun z => led_mono W (c := 7) (p := 1) (by decide) (by omega) (by decide) (by rw [show rm 7 1 = 5 from by decide +kernel]; exact z))) (fun z => led_mono W (c := 7) (p := 2) (by decide) (by omega) (by decide) (by rw [show rm 7 2 = 3 from by decide +kernel]; exact z)))
  have e : ∀ c, c < 2 ^ 3 → led h c = [false, led h 1, led h 2, led h 3, led h 4, led h 5, led h 6, led h 7].getD c false := fun c hc => match c, hc with
    | 0, _ => led_0 W
    | 1, _ => rfl
    | 2, _ => rfl
    | 3, _ => rfl
    | 4, _ => rfl
    | 5, _ => rfl
    | 6, _ => rfl
    | 7, _ => rfl
    | n + 8, hc => absurd hc (by omega)
  have ee : ev h = 7 := by unfold ev; rw [hP]
  rw [ee, ← k, hP]
  unfold pvS
  refine lp_congr (fun p a hp => ?_) 0
  rw [pvC_L hP, pvL_congr (by decide) (by omega) e (fun c hc => rm_sub 3 (by decide) c hc p hp)]
theorem pv_h4 (W : WF h) (hP : h 0 0 = 4) : lp (fun p a => a + pvC h p) (h 0 0) 0 = bif led h (ev h) then 24 else 0 := by
  have k := Nat.eq_of_beq_eq_true (im_t (im_t (im_t (im_t (bA_t (im_t (im_t (im_t (bA_t (im_t (im_t (im_t (bA_t (im_t (im_t (bA_t (im_t (im_t (im_t (bA_t (im_t (im_t (bA_t (im_t (im_t (bA_t (bA_t (im_t (im_t (im_t (bA_t (im_t (im_t (bA_t (im_t (im_t (bA_t (bA_t (im_t (im_t (bA_t (bA_t (bA_t pv_4 (led h 1)) (led h 2)) (led h 3)) (fun z => led_mono W (c := 3) (p := 0) (by decide) (by omega) (by decide) (by rw [show rm 3 0 = 2 from by decide +kernel]; exact z))) (fun z => led_mono W (c := 3) (p := 1) (by decide) (by omega) (by decide) (by rw [show rm 3 1 = 1 from by decide +kernel]; exact z))) (led h 4)) (led h 5)) (fun z => led_mono W (c := 5) (p := 0) (by decide) (by omega) (by decide) (by rw [show rm 5 0 = 4 from by decide +kernel]; exact z))) (fun z => led_mono W (c := 5) (p := 2) (by decide) (by omega) (by decide) (by rw [show rm 5 2 = 1 from by decide +kernel]; exact z))) (led h 6)) (fun z => led_mono W (c := 6) (p := 1) (by decide) (by omega) (by decide) (by rw [show rm 6 1 = 4 from by decide +kernel]; exact z))) (fun z => led_mono W (c := 6) (p := 2) (by decide) (by omega) (by decide) (by rw [show rm 6 2 = 2 from by decide +kernel]; exact z))) (led h 7)) (fun z => led_mono W (c := 7) (p := 0) (by decide) (by omega) (by decide) (by rw [show rm 7 0 = 6 from by decide +kernel]; exact z))) (fun z => led_mono W (c := 7) (p := 1) (by decide) (by omega) (by decide) (by rw [show rm 7 1 = 5 from by decide +kernel]; exact z))) (fun z => led_mono W (c := 7) (p := 2) (by decide) (by omega) (by decide) (by rw [show rm 7 2 = 3 from by decide +kernel]; exact z))) (led h 8)) (led h 9)) (fun z => led_mono W (c := 9) (p := 0) (by decide) (by omega) (by decide) (by rw [show rm 9 0 = 8 from by decide +kernel]; exact z))) (fun z => led_mono W (c := 9) (p := 3) (by decide) (by omega) (by decide) (by rw [show rm 9 3 = 1 from by decide +kernel]; exact z))) (led h 10)) (fun z => led_mono W (c := 10) (p := 1) (by decide) (by omega) (by decide) (by rw [show rm 10 1 = 8 from by decide +kernel]; exact z))) (fun z => led_mono W (c := 10) (p := 3) (by decide) (by omega) (by decide) (by rw [show rm 10 3 = 2 from by decide +kernel]; exact z))) (led h 11)) (fun z => led_mono W (c := 11) (p := 0) (by decide) (by omega) (by decide) (by rw [show rm 11 0 = 10 from by decide +kernel]; exact z))) (fun z => led_mono W (c := 11) (p := 1) (by decide) (by omega) (by decide) (by rw [show rm 11 1 = 9 from by decide +kernel]; exact z))) (fun z => led_mono W (c := 11) (p := 3) (by decide) (by omega) (by decide) (by rw [show rm 11 3 = 3 from by decide +kernel]; exact z))) (led h 12)) (fun z => led_mono W (c := 12) (p := 2) (by decide) (by omega) (by decide) (by rw [show rm 12 2 = 8 from by decide +kernel]; exact z))) (fun z => led_mono W (c := 12) (p := 3) (by decide) (by omega) (by decide) (by rw [show rm 12 3 = 4 from by decide +kernel]; exact z))) (led h 13)) (fun z => led_mono W (c := 13) (p := 0) (by decide) (by omega) (by decide) (by rw [show rm 13 0 = 12 from by decide +kernel]; exact z))) (fun z => led_mono W (c := 13) (p := 2) (by decide) (by omega) (by decide) (by rw [show rm 13 2 = 9 from by decide +kernel]; exact z))) (fun z => led_mono W (c := 13) (p := 3) (by decide) (by omega) (by decide) (by rw [show rm 13 3 = 5 from by decide +kernel]; exact z))) (led h 14)) (fun z => led_mono W (c := 14) (p := 1) (by decide) (by omega) (by decide) (by rw [show rm 14 1 = 12 from by decide +kernel]; exact z))) (fun z => led_mono W (c := 14) (p := 2) (by decide) (by omega) (by decide) (by rw [show rm 14 2 = 10 from by decide +kernel]; exact z))) (fun z => led_mono W (c := 14) (p := 3) (by decide) (by omega) (by decide) (by rw [show rm 14 3 = 6 from by decide +kernel]; exact z))) (led h 15)) (fun z => led_mono W (c := 15) (p := 0) (by decide) (by omega) (by decide) (by rw [show rm 15 0 = 14 from by decide +kernel]; exact z))) (fun z => led_mono W (c := 15) (p := 1) (by decide) (by omega) (by decide) (by rw [show rm 15 1 = 13 from by decide +kernel]; exact z))) (fun z => led_mono W (c := 15) (p := 2) (by decide) (by omega) (by decide) (by rw [show rm 15 2 = 11 from by decide +kernel]; exact z))) (fun z => led_mono W (c := 15) (p := 3) (by decide) (by omega) (by decide) (by rw [show rm 15 3 = 7 from by decide +kernel]; exact z)))
  have e : ∀ c, c < 2 ^ 4 → led h c = [false, led h 1, led h 2, led h 3, led h 4, led h 5, led h 6, led h 7, led h 8, led h 9, led h 10, led h 11, led h 12, led h 13, led h 14, led h 15].getD c false := fun c hc => match c, hc with
    | 0, _ => led_0 W
    | 1, _ => rfl
    | 2, _ => rfl
    | 3, _ => rfl
    | 4, _ => rfl
    | 5, _ => rfl
    | 6, _ => rfl
    | 7, _ => rfl
    | 8, _ => rfl
    | 9, _ => rfl
    | 10, _ => rfl
    | 11, _ => rfl
    | 12, _ => rfl
    | 13, _ => rfl
    | 14, _ => rfl
    | 15, _ => rfl
    | n + 16, hc => absurd hc (by omega)
  have ee : ev h = 15 := by unfold ev; rw [hP]
  rw [ee, ← k, hP]
  unfold pvS
  refine lp_congr (fun p a hp => ?_) 0
  rw [pvC_L hP, pvL_congr (by decide) (by omega) e (fun c hc => rm_sub 4 (by decide) c hc p hp)]
/-- how many orders there are -/
def fac (n : Nat) : Nat := lp (fun p a => a * (p + 1)) n 1
theorem pv_sum (W : WF h) (h1 : 1 ≤ h 0 0) (h4 : h 0 0 ≤ 4) : lp (fun p a => a + pvC h p) (h 0 0) 0 = bif led h (ev h) then fac (h 0 0) else 0 := by
  have : h 0 0 = 1 ∨ h 0 0 = 2 ∨ h 0 0 = 3 ∨ h 0 0 = 4 := by omega
  rcases this with e | e | e | e
  · rw [pv_h1 W e, e]; rfl
  · rw [pv_h2 W e, e]; rfl
  · rw [pv_h3 W e, e]; rfl
  · rw [pv_h4 W e, e]; rfl
end
