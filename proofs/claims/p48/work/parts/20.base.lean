/-! ===== loops, numbers, sets ===== -/
section
/-- the first n turns of a loop -/
def lp {α : Type} (f : Nat → α → α) : Nat → α → α
  | 0, a => a
  | n + 1, a => f n (lp f n a)
theorem lpE {α β : Type} {G : Nat → α → β} {f : Nat → α → α} {n : Nat} (h : ∀ k a, k < n → G k a = G (k + 1) (f k a)) (a : α) : G 0 a = G n (lp f n a) := by
  induction n with
  | zero => rfl
  | succ n ih => rw [ih (fun k a hk => h k a (by omega)), h n _ (by omega)]; rfl
/-- with what holds of the number that is counted up -/
theorem lpI {α β : Type} {G : Nat → α → β} {f : Nat → α → α} {P : Nat → α → Prop} {n : Nat} {a : α} (h0 : P 0 a) (h : ∀ k a, k < n → P k a → G k a = G (k + 1) (f k a) ∧ P (k + 1) (f k a)) : G 0 a = G n (lp f n a) ∧ P n (lp f n a) := by
  induction n with
  | zero => exact ⟨rfl, h0⟩
  | succ n ih =>
    obtain ⟨h1, h2⟩ := ih (fun k a hk => h k a (by omega))
    obtain ⟨h3, h4⟩ := h n _ (by omega) h2
    exact ⟨h1.trans h3, h4⟩
theorem lpP {α : Type} {f : Nat → α → α} {P : Nat → α → Prop} {n : Nat} {a : α} (h0 : P 0 a) (h : ∀ k a, k < n → P k a → P (k + 1) (f k a)) : P n (lp f n a) := by
  induction n with
  | zero => exact h0
  | succ n ih => exact h n _ (by omega) (ih (fun k a hk => h k a (by omega)))
theorem lp_congr {α : Type} {f g : Nat → α → α} {n : Nat} (h : ∀ k a, k < n → f k a = g k a) (a : α) : lp f n a = lp g n a := by
  induction n with
  | zero => rfl
  | succ n ih => show f n _ = g n _; rw [ih (fun k a hk => h k a (by omega)), h n _ (by omega)]
/-- a loop whose turns are told by what holds ahead of them -/
theorem wl {α : Type} {G : Nat → α → pm_R} {P : Nat → α → Prop} {Q : pm_R → Prop} {n : Nat} (st : ∀ k a, k < n → P k a → (∀ a', P (k + 1) a' → Q (G (k + 1) a')) → Q (G k a)) (fin : ∀ a, P n a → Q (G n a)) : ∀ k a, k ≤ n → P k a → Q (G k a) := by
  have : ∀ m k a, k + m = n → P k a → Q (G k a) := by
    intro m
    induction m with
    | zero => intro k a hk hp; have : k = n := by omega
              subst this; exact fin a hp
    | succ m ih => intro k a hk hp; exact st k a (by omega) hp (fun a' h' => ih (k + 1) a' (by omega) h')
  exact fun k a hk hp => this (n - k) k a (by omega) hp
/-- the same, the end as an equation of two -/
theorem wlx {α : Type} {G : Nat → α → pm_R} {P : Nat → α → Prop} {n : Nat} (st : ∀ k a, k < n → P k a → ∃ a', P (k + 1) a' ∧ G k a = G (k + 1) a') : ∀ k a, k ≤ n → P k a → ∃ a', P n a' ∧ G k a = G n a' := by
  have : ∀ m k a, k + m = n → P k a → ∃ a', P n a' ∧ G k a = G n a' := by
    intro m
    induction m with
    | zero => intro k a hk hp; have : k = n := by omega
              subst this; exact ⟨a, hp, rfl⟩
    | succ m ih =>
      intro k a hk hp
      obtain ⟨a1, h1, h2⟩ := st k a (by omega) hp
      obtain ⟨a2, h3, h4⟩ := ih (k + 1) a1 (by omega) h1
      exact ⟨a2, h3, h2.trans h4⟩
  exact fun k a hk hp => this (n - k) k a (by omega) hp
/-- the first from k on, of m -/
def fr (p : Nat → Bool) : Nat → Nat → Option Nat
  | _, 0 => none
  | k, m + 1 => bif p k then some k else fr p (k + 1) m
def ff (p : Nat → Bool) (n : Nat) : Option Nat := fr p 0 n
theorem frE {β : Type} {G X : Nat → β} {p : Nat → Bool} {n : Nat} (h : ∀ k, k < n → G k = bif p k then X k else G (k + 1)) : ∀ m k, k + m = n → G k = (match fr p k m with
    | some j => X j
    | none => G n) := by
  intro m
  induction m with
  | zero => intro k hk; have : k = n := by omega
            subst this; rfl
  | succ m ih =>
    intro k hk
    rw [h k (by omega)]
    unfold fr
    cases p k with
    | true => rfl
    | false => exact ih (k + 1) (by omega)
theorem ffE {β : Type} {G X : Nat → β} {p : Nat → Bool} {n : Nat} (h : ∀ k, k < n → G k = bif p k then X k else G (k + 1)) : G 0 = (match ff p n with
    | some j => X j
    | none => G n) := frE h n 0 (by omega)
theorem fr_some {p : Nat → Bool} : ∀ {m k j : Nat}, fr p k m = some j → k ≤ j ∧ j < k + m ∧ p j = true ∧ ∀ i, k ≤ i → i < j → p i = false := by
  intro m
  induction m with
  | zero => intro k j h; cases h
  | succ m ih =>
    intro k j h
    unfold fr at h
    cases hp : p k with
    | true => rw [hp] at h; cases h; exact ⟨by omega, by omega, hp, fun i h1 h2 => by omega⟩
    | false =>
      rw [hp] at h
      obtain ⟨h1, h2, h3, h4⟩ := ih h
      refine ⟨by omega, by omega, h3, fun i h5 h6 => ?_⟩
      by_cases e : i = k
      · rw [e]; exact hp
      · exact h4 i (by omega) h6
theorem fr_none {p : Nat → Bool} : ∀ {m k : Nat}, fr p k m = none → ∀ i, k ≤ i → i < k + m → p i = false := by
  intro m
  induction m with
  | zero => intro k h i h1 h2; omega
  | succ m ih =>
    intro k h i h1 h2
    unfold fr at h
    cases hp : p k with
    | true => rw [hp] at h; cases h
    | false =>
      rw [hp] at h
      by_cases e : i = k
      · rw [e]; exact hp
      · exact ih h i (by omega) (by omega)
theorem ff_some {p : Nat → Bool} {n j : Nat} (h : ff p n = some j) : j < n ∧ p j = true ∧ ∀ i, i < j → p i = false := by
  obtain ⟨_, h2, h3, h4⟩ := fr_some h
  exact ⟨by omega, h3, fun i hi => h4 i (by omega) hi⟩
theorem ff_none {p : Nat → Bool} {n : Nat} (h : ff p n = none) : ∀ i, i < n → p i = false := fun i hi => fr_none h i (by omega) (by omega)
theorem ff_of {p : Nat → Bool} {n j : Nat} (h1 : j < n) (h2 : p j = true) (h3 : ∀ i, i < j → p i = false) : ff p n = some j := by
  cases h : ff p n with
  | none => rw [ff_none h j h1] at h2; cases h2
  | some i =>
    obtain ⟨a, b, c⟩ := ff_some h
    by_cases e : i < j
    · rw [h3 i e] at b; cases b
    · by_cases e2 : j < i
      · rw [c j e2] at h2; cases h2
      · rw [show i = j by omega]
theorem ff_of_none {p : Nat → Bool} {n : Nat} (h : ∀ i, i < n → p i = false) : ff p n = none := by
  cases e : ff p n with
  | none => rfl
  | some i =>
    obtain ⟨a, b, c⟩ := ff_some e
    rw [h i a] at b; cases b
theorem ff_congr {p q : Nat → Bool} {n : Nat} (h : ∀ i, i < n → p i = q i) : ff p n = ff q n := by
  cases e : ff q n with
  | none => exact ff_of_none (fun i hi => by rw [h i hi]; exact ff_none e i hi)
  | some j =>
    obtain ⟨a, b, c⟩ := ff_some e
    exact ff_of a (by rw [h j a]; exact b) (fun i hi => by rw [h i (by omega)]; exact c i hi)
/-! numbers -/
/-- one of so many, or -1 -/
def oI : Option Nat → Int32
  | some k => nI k
  | none => -1
theorem z_lt {a b : Nat} (ha : a < 2147483648) (hb : b < 2147483648) : (nI a < nI b) = (a < b) := propext (nI_ltI ha hb)
theorem z_le {a b : Nat} (ha : a < 2147483648) (hb : b < 2147483648) : (nI a ≤ nI b) = (a ≤ b) := propext (nI_leI ha hb)
theorem z_eq {a b : Nat} (ha : a < 2147483648) (hb : b < 2147483648) : (nI a = nI b) = (a = b) := propext (nI_eq ha hb)
theorem z_eq0 {a : Nat} (ha : a < 2147483648) : (nI a = 0) = (a = 0) := z_eq (b := 0) ha (by decide)
theorem z_eq1 {a : Nat} (ha : a < 2147483648) : (nI a = 1) = (a = 1) := z_eq (b := 1) ha (by decide)
theorem z_le0 {a : Nat} (ha : a < 2147483648) : (nI a ≤ 0) = (a = 0) := by rw [show (0 : Int32) = nI 0 from rfl, z_le ha (by omega)]; exact propext Nat.le_zero
theorem z_lt0 {a : Nat} (ha : a < 2147483648) : (nI a < 0) = False := by rw [show (0 : Int32) = nI 0 from rfl, z_lt ha (by omega)]; exact propext ⟨fun h => by omega, False.elim⟩
theorem z_0lt {a : Nat} (ha : a < 2147483648) : ((0 : Int32) < nI a) = (0 < a) := z_lt (a := 0) (by decide) ha
theorem z_m1 {a : Nat} (ha : a < 2147483648) : (nI a = -1) = False := by
  refine propext ⟨fun h => ?_, False.elim⟩
  have h2 := congrArg Int32.toInt h
  rw [nI_toInt ha] at h2
  have : (-1 : Int32).toInt = -1 := rfl
  omega
theorem z_m1' {a : Nat} (ha : a < 2147483648) : ((-1 : Int32) = nI a) = False := (propext eq_comm : ((-1 : Int32) = nI a) = (nI a = -1)).trans (z_m1 ha)
theorem z_mlt {a : Nat} (ha : a < 2147483648) : ((-1 : Int32) < nI a) = True := by
  refine propext ⟨fun _ => trivial, fun _ => Int32.lt_iff_toInt_lt.mpr ?_⟩
  rw [nI_toInt ha]
  have : (-1 : Int32).toInt = -1 := rfl
  omega
theorem z_lem {a : Nat} (ha : a < 2147483648) : (nI a ≤ -1) = False := by
  refine propext ⟨fun h => ?_, False.elim⟩
  have h2 := Int32.le_iff_toInt_le.mp h
  rw [nI_toInt ha] at h2
  have : (-1 : Int32).toInt = -1 := rfl
  omega
theorem z_cl {n : Nat} (h : n < 2147483648) : (nI n).toNatClampNeg = n := nI_clamp h
theorem z_ib {k n : Nat} (h : k < n) (hn : n < 2147483648) : pm_ib (nI k) n = true := by
  unfold pm_ib
  rw [nI_clamp (by omega), show Nat.blt k n = true from Nat.ble_eq_true_of_le h]
  rw [decide_eq_false (nI_pos (by omega))]
  rfl
theorem z_1 (a : Nat) : nI a + 1 = nI (a + 1) := nI_1 a
theorem z_p1 (a : Nat) : nI (a + 1) - 1 = nI a := nI_pred a
theorem z_s1 {a : Nat} (h : 0 < a) : nI a - 1 = nI (a - 1) := by
  obtain ⟨b, rfl⟩ : ∃ b, a = b + 1 := ⟨a - 1, by omega⟩
  exact nI_pred b
theorem z_3m (a : Nat) : (3 : Int32) * nI a = nI (3 * a) := pk_mul 3 a
theorem z_4m (a : Nat) : (4 : Int32) * nI a = nI (4 * a) := pk_mul 4 a
theorem z_7m (a : Nat) : (7 : Int32) * nI a = nI (7 * a) := pk_mul 7 a
theorem z_8m (a : Nat) : (8 : Int32) * nI a = nI (8 * a) := pk_mul 8 a
theorem z_10m (a : Nat) : (10 : Int32) * nI a = nI (10 * a) := pk_mul 10 a
theorem z_2m (a : Nat) : (2 : Int32) * nI a = nI (2 * a) := pk_mul 2 a
theorem z_d2 {a : Nat} (h : a < 2147483648) : nI a / 2 = nI (a / 2) := pk_div (d := 2) h (by omega) (by omega)
theorem z_and7 : ∀ k, k < 8 → nI k &&& 7 = nI k := by decide +kernel
theorem z_and127 : ∀ k, k < 128 → nI k &&& 127 = nI k := by decide +kernel
theorem z_and255 : ∀ k, k < 256 → nI k &&& 255 = nI k := by decide +kernel
theorem z_us {k j : Nat} (hk : k < 65536) (hj : j < 32) : pm_us (nI k) (nI j) = nI (k >>> j) := nx_ush hk hj
theorem z_tb (C k : Nat) : (C >>> k) &&& 1 = (C.testBit k).toNat := by
  unfold Nat.testBit
  rw [Nat.and_comm, Nat.one_and_eq_mod_two]
  rcases Nat.mod_two_eq_zero_or_one (C >>> k) with h | h <;> rw [h] <;> rfl
theorem z_usb {C k : Nat} (hC : C < 65536) (hk : k < 32) : pm_us (nI C) (nI k) &&& 1 = nI (C.testBit k).toNat := by
  rw [z_us hC hk, show (1 : Int32) = nI 1 from rfl, nx_and, z_tb]
theorem z_sm : ∀ n, n < 32 → ((nI n &&& 31).toBitVec.smod 32).toNat = n := s_l
theorem z_srb {C k : Nat} (hC : C < 65536) (hk : k < 32) : (nI C >>> (nI k &&& 31)) &&& 1 = nI (C.testBit k).toNat := by
  rw [pk_shrN (by omega) _ k (z_sm k hk), ← Nat.shiftRight_eq_div_pow, show (1 : Int32) = nI 1 from rfl, nx_and, z_tb]
theorem z_b1 (b : Bool) : (nI b.toNat = 1) = (b = true) := by cases b <;> decide +kernel
theorem z_b0 (b : Bool) : (nI b.toNat = 0) = (b = false) := by cases b <;> decide +kernel
theorem z_bf (b : Bool) : (if b = true then (1 : Int32) else 0) = nI b.toNat := by cases b <;> rfl
theorem z_bR (b : Bool) (S : pm_S) : (if b = true then (some (some (Value.int 1), S) : pm_R) else some (some (Value.int 0), S)) = some (some (.int (nI b.toNat)), S) := by cases b <;> rfl
theorem z_bN (b : Bool) (S : pm_S) : (if b = true then (some (some (Value.int 0), S) : pm_R) else some (some (Value.int 1), S)) = some (some (.int (nI (!b).toNat)), S) := by cases b <;> rfl
theorem z_dR (p : Prop) [Decidable p] (S : pm_S) : (if p then (some (some (Value.int 1), S) : pm_R) else some (some (Value.int 0), S)) = some (some (.int (nI (decide p).toNat)), S) := by by_cases h : p <;> simp [h] <;> rfl
theorem z_dN (p : Prop) [Decidable p] (S : pm_S) : (if p then (some (some (Value.int 0), S) : pm_R) else some (some (Value.int 1), S)) = some (some (.int (nI (!decide p).toNat)), S) := by by_cases h : p <;> simp [h] <;> rfl
theorem z_ite {α : Type} (b : Bool) (x y : α) : (if b = true then x else y) = bif b then x else y := by cases b <;> rfl
theorem z_itf {α : Type} (b : Bool) (x y : α) : (if b = false then x else y) = bif b then y else x := by cases b <;> rfl
theorem z_itd {α : Type} (p : Prop) [Decidable p] (x y : α) : (if p then x else y) = bif decide p then x else y := by by_cases h : p <;> simp [h]
/-! sets of few -/
def rm (C k : Nat) : Nat := bif C.testBit k then C - 2 ^ k else C
def ad (C k : Nat) : Nat := bif C.testBit k then C else C + 2 ^ k
def pc (C : Nat) : Nat := lp (fun k a => a + (C.testBit k).toNat) 16 0
def tz (C : Nat) : Nat := (ff (fun k => C.testBit k) 8).getD 8
theorem z_rm : ∀ C, C < 256 → ∀ k, k < 8 → nI C &&& (((1 : Int32) <<< (nI k &&& 31)) ^^^ (-1)) = nI (rm C k) := by decide +kernel
theorem z_ad : ∀ C, C < 256 → ∀ k, k < 8 → nI C ||| ((1 : Int32) <<< (nI k &&& 31)) = nI (ad C k) := by decide +kernel
theorem z_rmb : ∀ C, C < 256 → ∀ k, k < 8 → ∀ j, j < 8 → (rm C k).testBit j = (C.testBit j && !Nat.beq j k) := by decide +kernel
theorem z_adb : ∀ C, C < 256 → ∀ k, k < 8 → ∀ j, j < 8 → (ad C k).testBit j = (C.testBit j || Nat.beq j k) := by decide +kernel
theorem rm_lt : ∀ C, C < 256 → ∀ k, k < 8 → rm C k < 256 ∧ rm C k ≤ C ∧ (C.testBit k = true → rm C k < C) := by decide +kernel
theorem ad_lt : ∀ C, C < 256 → ∀ k, k < 8 → ad C k < 256 ∧ C ≤ ad C k ∧ (C.testBit k = false → C < ad C k) := by decide +kernel
theorem pc_le : ∀ C, C < 256 → pc C ≤ 8 ∧ (0 < C → 0 < pc C) := by decide +kernel
theorem tz_lt : ∀ C, C < 256 → 0 < C → tz C < 8 ∧ C.testBit (tz C) = true := by decide +kernel
theorem pc_rm : ∀ C, C < 256 → ∀ k, k < 8 → C.testBit k = true → pc (rm C k) + 1 = pc C := by decide +kernel
theorem z_tbig {C n k : Nat} (h : C < 2 ^ n) (hk : n ≤ k) : C.testBit k = false := Nat.testBit_lt_two_pow (Nat.lt_of_lt_of_le h (Nat.pow_le_pow_right (by decide) hk))
theorem z_sh1 : ∀ n, n < 16 → (1 : Int32) <<< (nI n &&& 31) = nI (2 ^ n) := by decide +kernel
theorem z_2p : ∀ n, n < 16 → 0 < 2 ^ n ∧ 2 ^ n ≤ 32768 := by decide +kernel
/-! cells -/
theorem z_ur {f : Nat → Nat → Int32} {r k : Nat} {v : Int32} {a b : Nat} (h : a ≠ r) : pm_ui f r k v a b = f a b := by
  unfold pm_ui
  rw [show Nat.beq a r = false from by cases e : Nat.beq a r with
    | false => rfl
    | true => exact absurd (Nat.eq_of_beq_eq_true e) h]
  rfl
theorem z_uk {f : Nat → Nat → Int32} {r k : Nat} {v : Int32} {a b : Nat} (h : b ≠ k) : pm_ui f r k v a b = f a b := by
  unfold pm_ui
  rw [show Nat.beq b k = false from by cases e : Nat.beq b k with
    | false => rfl
    | true => exact absurd (Nat.eq_of_beq_eq_true e) h, Bool.and_false]
  rfl
theorem z_ue {f : Nat → Nat → Int32} {r k : Nat} {v : Int32} : pm_ui f r k v r k = v := by
  unfold pm_ui
  rw [Nat.beq_refl, Nat.beq_refl]; rfl
theorem z_ui {f : Nat → Nat → Int32} {r k : Nat} {v : Int32} {a b : Nat} : pm_ui f r k v a b = if a = r ∧ b = k then v else f a b := by
  by_cases h : a = r
  · subst h
    by_cases h2 : b = k
    · subst h2; rw [z_ue, if_pos ⟨rfl, rfl⟩]
    · rw [z_uk h2, if_neg (fun h => h2 h.2)]
  · rw [z_ur h, if_neg (fun h2 => h h2.1)]
theorem z_lr {f : Nat → Nat → Int64} {r k : Nat} {v : Int64} {a b : Nat} (h : a ≠ r) : pm_ul f r k v a b = f a b := by
  unfold pm_ul
  rw [show Nat.beq a r = false from by cases e : Nat.beq a r with
    | false => rfl
    | true => exact absurd (Nat.eq_of_beq_eq_true e) h]
  rfl
theorem z_lk {f : Nat → Nat → Int64} {r k : Nat} {v : Int64} {a b : Nat} (h : b ≠ k) : pm_ul f r k v a b = f a b := by
  unfold pm_ul
  rw [show Nat.beq b k = false from by cases e : Nat.beq b k with
    | false => rfl
    | true => exact absurd (Nat.eq_of_beq_eq_true e) h, Bool.and_false]
  rfl
theorem z_le' {f : Nat → Nat → Int64} {r k : Nat} {v : Int64} : pm_ul f r k v r k = v := by
  unfold pm_ul
  rw [Nat.beq_refl, Nat.beq_refl]; rfl
end
