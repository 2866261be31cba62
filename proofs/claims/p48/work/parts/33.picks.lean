/-! ===== picks: what is foreseen; who gets what ===== -/
section
/-- the first of a set with the greatest number -/
def am1 (m : Nat) (val : Nat → Nat) (o : Nat) (b : Option Nat) : Option Nat := bif m.testBit o && (match b with
  | none => true
  | some q => decide (val q < val o)) then some o else b
def amx (m : Nat) (val : Nat → Nat) (n : Nat) : Option Nat := lp (am1 m val) n none
theorem am1_in {m k n : Nat} {val : Nat → Nat} {b : Option Nat} (hk : k < n) (hb : ∀ q, b = some q → q < n ∧ m.testBit q = true) : ∀ q, am1 m val k b = some q → q < n ∧ m.testBit q = true := by
  intro q hq
  unfold am1 at hq
  rcases bif_some hq with ⟨e2, e⟩ | ⟨_, e⟩
  · rw [e]
    rw [Bool.and_eq_true] at e2
    exact ⟨hk, e2.1⟩
  · exact hb q e
theorem amx_in {m n q : Nat} {val : Nat → Nat} (hq : amx m val n = some q) : q < n ∧ m.testBit q = true :=
  lpP (f := am1 m val) (P := fun _ b => ∀ q, b = some q → q < n ∧ m.testBit q = true) (fun q h => by cases h) (fun k b hk hb => am1_in hk hb) q hq
theorem am1_some {m p : Nat} {val : Nat → Nat} (b : Option Nat) (hC : b = none → m.testBit p = true) : am1 m val p b ≠ none := by
  unfold am1
  cases b with
  | none => rw [hC rfl]; intro e; cases e
  | some q =>
    cases (m.testBit p && _)
    · intro e; cases e
    · intro e; cases e
theorem amx_some {m n p : Nat} {val : Nat → Nat} (hp : p < n) (hm : m.testBit p = true) : ∃ q, amx m val n = some q :=
  Option.ne_none_iff_exists'.mp (lp_some (f := am1 m val) (fun k b hb => am1_some b (fun e => absurd e hb)) hp (fun b => am1_some b (fun _ => hm)) none)
theorem set_ex : ∀ n, n < 9 → ∀ l, l < 2 ^ n → 0 < l → ∃ p, p < n ∧ l.testBit p = true := by decide +kernel
theorem rm_sub : ∀ n, n < 9 → ∀ l, l < 2 ^ n → ∀ k, k < n → rm l k < 2 ^ n := by decide +kernel
theorem pc_sub : ∀ n, n < 9 → ∀ l, l < 2 ^ n → pc l ≤ n := by decide +kernel
theorem pc_all : ∀ n, n < 9 → pc (2 ^ n - 1) = n := by decide +kernel
theorem pc_0 : ∀ l, l < 256 → pc l = 0 → l = 0 := by decide +kernel
theorem all_tb : ∀ n, n < 9 → ∀ o, o < 16 → (2 ^ n - 1).testBit o = decide (o < n) := by decide +kernel
variable {h : Nat → Nat → Nat}
theorem dst_amx (p l : Nat) : dst h p l = amx l (fun o => h 5 (8 * p + o)) (h 0 1) := rfl
/-- what is best by what is left: one more set -/
def fs1 (h : Nat → Nat → Nat) (t : Nat → Nat) (k : Nat) (T : (Nat → Nat) × (Nat → Nat → Nat)) : (Nat → Nat) × (Nat → Nat → Nat) :=
  (up T.1 (k + 1) ((amx (k + 1) (fun o => h 5 (8 * t (h 0 1 - pc (k + 1)) + o) + T.2 (rm (k + 1) o) (t (h 0 1 - pc (k + 1)))) (h 0 1)).getD 0),
   fun x q => if x = k + 1 then T.2 (rm (k + 1) ((amx (k + 1) (fun o => h 5 (8 * t (h 0 1 - pc (k + 1)) + o) + T.2 (rm (k + 1) o) (t (h 0 1 - pc (k + 1)))) (h 0 1)).getD 0)) q + (if q = t (h 0 1 - pc (k + 1)) then h 5 (8 * t (h 0 1 - pc (k + 1)) + ((amx (k + 1) (fun o => h 5 (8 * t (h 0 1 - pc (k + 1)) + o) + T.2 (rm (k + 1) o) (t (h 0 1 - pc (k + 1)))) (h 0 1)).getD 0)) else 0) else T.2 x q)
def fsT (h : Nat → Nat → Nat) (t : Nat → Nat) (n : Nat) : (Nat → Nat) × (Nat → Nat → Nat) := lp (fs1 h t) n (fun _ => 0, fun _ _ => 0)
def fch (h : Nat → Nat → Nat) (t : Nat → Nat) (l : Nat) : Nat := (fsT h t (2 ^ h 0 1 - 1)).1 l
def fgn (h : Nat → Nat → Nat) (t : Nat → Nat) (l q : Nat) : Nat := (fsT h t (2 ^ h 0 1 - 1)).2 l q
/-- whose turn it is with a set left, its value of an office, its choice -/
def ft (h : Nat → Nat → Nat) (t : Nat → Nat) (l : Nat) : Nat := t (h 0 1 - pc l)
def fv (h : Nat → Nat → Nat) (t : Nat → Nat) (g : Nat → Nat → Nat) (l : Nat) : Nat → Nat := fun o => h 5 (8 * ft h t l + o) + g (rm l o) (ft h t l)
def fc (h : Nat → Nat → Nat) (t : Nat → Nat) (g : Nat → Nat → Nat) (l : Nat) : Nat := (amx l (fv h t g l) (h 0 1)).getD 0
theorem fs1_1 (t : Nat → Nat) (k : Nat) (T : (Nat → Nat) × (Nat → Nat → Nat)) : (fs1 h t k T).1 = up T.1 (k + 1) (fc h t T.2 (k + 1)) := rfl
theorem fs1_2 (t : Nat → Nat) (k : Nat) (T : (Nat → Nat) × (Nat → Nat → Nat)) (x q : Nat) : (fs1 h t k T).2 x q = if x = k + 1 then T.2 (rm (k + 1) (fc h t T.2 (k + 1))) q + (if q = ft h t (k + 1) then h 5 (8 * ft h t (k + 1) + fc h t T.2 (k + 1)) else 0) else T.2 x q := rfl
theorem fc_in (W : WF h) (t : Nat → Nat) (g : Nat → Nat → Nat) {l : Nat} (h0 : 0 < l) (hl : l < 2 ^ h 0 1) : fc h t g l < h 0 1 ∧ l.testBit (fc h t g l) = true ∧ amx l (fv h t g l) (h 0 1) = some (fc h t g l) := by
  have hO := W.O
  obtain ⟨p, a, b⟩ := set_ex (h 0 1) (by omega) l hl h0
  obtain ⟨q, hq⟩ := amx_some (val := fv h t g l) a b
  unfold fc
  rw [hq]
  exact ⟨(amx_in hq).1, (amx_in hq).2, rfl⟩
theorem o256 (W : WF h) : 2 ^ h 0 1 ≤ 256 ∧ 1 ≤ 2 ^ h 0 1 := by
  have hO := W.O
  have : 2 ^ h 0 1 ≤ 2 ^ 8 := Nat.pow_le_pow_right (by decide) hO
  exact ⟨this, Nat.one_le_two_pow⟩
theorem fsT_le (W : WF h) (t : Nat → Nat) {n : Nat} (hn : n ≤ 2 ^ h 0 1 - 1) : ∀ x q, (fsT h t n).2 x q ≤ 99 * pc x := by
  have h2 := o256 W
  refine lpP (f := fs1 h t) (P := fun _ T => ∀ x q, T.2 x q ≤ 99 * pc x) (fun x q => Nat.zero_le _) (fun k T hk hT x q => ?_)
  rw [fs1_2]
  split
  · rename_i e
    obtain ⟨a, b, _⟩ := fc_in W t T.2 (l := k + 1) (by omega) (by omega)
    have hO := W.O
    have h3 := hT (rm (k + 1) (fc h t T.2 (k + 1))) q
    have h4 := pc_rm (k + 1) (by omega) _ (show fc h t T.2 (k + 1) < 8 by omega) b
    have h5 := W.worth (8 * ft h t (k + 1) + fc h t T.2 (k + 1))
    rw [e]
    split <;> omega
  · exact hT x q
theorem pc_le8 {x : Nat} (hx : x < 256) : pc x ≤ 8 := (pc_le x hx).1
variable {F : pm_F} {L0 : Nat} {xs : Nat → Int32} {I : Nat → Nat → Int32} {L : Nat → Nat → Int64}
def vO (val : Nat → Nat) : Option Nat → Nat
  | none => 0
  | some q => val q
end
