/-! ===== picks: what is foreseen; who gets what ===== -/
section
/-- the first of a set with the greatest number -/
def am1 (m : Nat) (val : Nat → Nat) (o : Nat) (b : Option Nat) : Option Nat := bif m.testBit o && (match b with
  | none => true
  | some q => decide (val q < val o)) then some o else b
def amx (m : Nat) (val : Nat → Nat) (n : Nat) : Option Nat := lp (am1 m val) n none
theorem am1_in {m k n : Nat} {val : Nat → Nat} {b : Option Nat} (hk : k < n) (hb : ∀ q, b = some q → q < n ∧ m.testBit q = true) : ∀ q, am1 m val k b = some q → q < n ∧ m.testBit q = true := by
  intro q hq
  unfold am1 at hq
  rcases bif_some hq with ⟨e2, e⟩ | ⟨_, e⟩
  · rw [e]
    rw [Bool.and_eq_true] at e2
    exact ⟨hk, e2.1⟩
  · exact hb q e
theorem amx_in {m n q : Nat} {val : Nat → Nat} (hq : amx m val n = some q) : q < n ∧ m.testBit q = true :=
  lpP (f := am1 m val) (P := fun _ b => ∀ q, b = some q → q < n ∧ m.testBit q = true) (fun q h => by cases h) (fun k b hk hb => am1_in hk hb) q hq
theorem am1_some {m p : Nat} {val : Nat → Nat} (b : Option Nat) (hC : b = none → m.testBit p = true) : am1 m val p b ≠ none := by
  unfold am1
  cases b with
  | none => rw [hC rfl]; intro e; cases e
  | some q =>
    cases (m.testBit p && _)
    · intro e; cases e
    · intro e; cases e
theorem amx_some {m n p : Nat} {val : Nat → Nat} (hp : p < n) (hm : m.testBit p = true) : ∃ q, amx m val n = some q :=
  Option.ne_none_iff_exists'.mp (lp_some (f := am1 m val) (fun k b hb => am1_some b (fun e => absurd e hb)) hp (fun b => am1_some b (fun _ => hm)) none)
theorem set_ex : ∀ n, n < 9 → ∀ l, l < 2 ^ n → 0 < l → ∃ p, p < n ∧ l.testBit p = true := by decide +kernel
theorem rm_sub : ∀ n, n < 9 → ∀ l, l < 2 ^ n → ∀ k, k < n → rm l k < 2 ^ n := by decide +kernel
theorem pc_sub : ∀ n, n < 9 → ∀ l, l < 2 ^ n → pc l ≤ n := by decide +kernel
theorem pc_all : ∀ n, n < 9 → pc (2 ^ n - 1) = n := by decide +kernel
theorem pc_0 : ∀ l, l < 256 → pc l = 0 → l = 0 := by decide +kernel
theorem all_tb : ∀ n, n < 9 → ∀ o, o < 16 → (2 ^ n - 1).testBit o = decide (o < n) := by decide +kernel
variable {h : Nat → Nat → Nat}
theorem dst_amx (p l : Nat) : dst h p l = amx l (fun o => h 5 (8 * p + o)) (h 0 1) := rfl
/-- what is best by what is left: one more set -/
def fs1 (h : Nat → Nat → Nat) (t : Nat → Nat) (k : Nat) (T : (Nat → Nat) × (Nat → Nat → Nat)) : (Nat → Nat) × (Nat → Nat → Nat) :=
  (up T.1 (k + 1) ((amx (k + 1) (fun o => h 5 (8 * t (h 0 1 - pc (k + 1)) + o) + T.2 (rm (k + 1) o) (t (h 0 1 - pc (k + 1)))) (h 0 1)).getD 0),
   fun x q => if x = k + 1 then T.2 (rm (k + 1) ((amx (k + 1) (fun o => h 5 (8 * t (h 0 1 - pc (k + 1)) + o) + T.2 (rm (k + 1) o) (t (h 0 1 - pc (k + 1)))) (h 0 1)).getD 0)) q + (if q = t (h 0 1 - pc (k + 1)) then h 5 (8 * t (h 0 1 - pc (k + 1)) + ((amx (k + 1) (fun o => h 5 (8 * t (h 0 1 - pc (k + 1)) + o) + T.2 (rm (k + 1) o) (t (h 0 1 - pc (k + 1)))) (h 0 1)).getD 0)) else 0) else T.2 x q)
def fsT (h : Nat → Nat → Nat) (t : Nat → Nat) (n : Nat) : (Nat → Nat) × (Nat → Nat → Nat) := lp (fs1 h t) n (fun _ => 0, fun _ _ => 0)
def fch (h : Nat → Nat → Nat) (t : Nat → Nat) (l : Nat) : Nat := (fsT h t (2 ^ h 0 1 - 1)).1 l
def fgn (h : Nat → Nat → Nat) (t : Nat → Nat) (l q : Nat) : Nat := (fsT h t (2 ^ h 0 1 - 1)).2 l q
/-- whose turn it is with a set left, its value of an office, its choice -/
def ft (h : Nat → Nat → Nat) (t : Nat → Nat) (l : Nat) : Nat := t (h 0 1 - pc l)
def fv (h : Nat → Nat → Nat) (t : Nat → Nat) (g : Nat → Nat → Nat) (l : Nat) : Nat → Nat := fun o => h 5 (8 * ft h t l + o) + g (rm l o) (ft h t l)
def fc (h : Nat → Nat → Nat) (t : Nat → Nat) (g : Nat → Nat → Nat) (l : Nat) : Nat := (amx l (fv h t g l) (h 0 1)).getD 0
theorem fs1_1 (t : Nat → Nat) (k : Nat) (T : (Nat → Nat) × (Nat → Nat → Nat)) : (fs1 h t k T).1 = up T.1 (k + 1) (fc h t T.2 (k + 1)) := rfl
theorem fs1_2 (t : Nat → Nat) (k : Nat) (T : (Nat → Nat) × (Nat → Nat → Nat)) (x q : Nat) : (fs1 h t k T).2 x q = if x = k + 1 then T.2 (rm (k + 1) (fc h t T.2 (k + 1))) q + (if q = ft h t (k + 1) then h 5 (8 * ft h t (k + 1) + fc h t T.2 (k + 1)) else 0) else T.2 x q := rfl
theorem fc_in (W : WF h) (t : Nat → Nat) (g : Nat → Nat → Nat) {l : Nat} (h0 : 0 < l) (hl : l < 2 ^ h 0 1) : fc h t g l < h 0 1 ∧ l.testBit (fc h t g l) = true ∧ amx l (fv h t g l) (h 0 1) = some (fc h t g l) := by
  have hO := W.O
  obtain ⟨p, a, b⟩ := set_ex (h 0 1) (by omega) l hl h0
  obtain ⟨q, hq⟩ := amx_some (val := fv h t g l) a b
  unfold fc
  rw [hq]
  exact ⟨(amx_in hq).1, (amx_in hq).2, rfl⟩
theorem o256 (W : WF h) : 2 ^ h 0 1 ≤ 256 ∧ 1 ≤ 2 ^ h 0 1 := by
  have hO := W.O
  have : 2 ^ h 0 1 ≤ 2 ^ 8 := Nat.pow_le_pow_right (by decide) hO
  exact ⟨this, Nat.one_le_two_pow⟩
theorem fsT_le (W : WF h) (t : Nat → Nat) {n : Nat} (hn : n ≤ 2 ^ h 0 1 - 1) : ∀ x q, (fsT h t n).2 x q ≤ 99 * pc x := by
  have h2 := o256 W
  refine lpP (f := fs1 h t) (P := fun _ T => ∀ x q, T.2 x q ≤ 99 * pc x) (fun x q => Nat.zero_le _) (fun k T hk hT x q => ?_)
  rw [fs1_2]
  split
  · rename_i e
    obtain ⟨a, b, _⟩ := fc_in W t T.2 (l := k + 1) (by omega) (by omega)
    have hO := W.O
    have h3 := hT (rm (k + 1) (fc h t T.2 (k + 1))) q
    have h4 := pc_rm (k + 1) (by omega) _ (show fc h t T.2 (k + 1) < 8 by omega) b
    have h5 := W.worth (8 * ft h t (k + 1) + fc h t T.2 (k + 1))
    rw [e]
    split <;> omega
  · exact hT x q
theorem pc_le8 {x : Nat} (hx : x < 256) : pc x ≤ 8 := (pc_le x hx).1
variable {F : pm_F} {L0 : Nat} {xs : Nat → Int32} {I : Nat → Nat → Int32} {L : Nat → Nat → Int64}
def vO (val : Nat → Nat) : Option Nat → Nat
  | none => 0
  | some q => val q
theorem m_turnAt (hF : pm_fix pt_me pt_Sg (pt_R L0 xs) F) (W : WF h) (HO : I 49 31 = nI (h 0 1)) {t : Nat → Nat} (ht : ∀ i, i < h 0 1 → I 66 i = nI (t i)) {l : Nat} (h0 : 0 < l) (hl : l < 2 ^ h 0 1) : (F 1259 0 [some (.ref 49), some (.int (nI l))] [] (81, pt_G, I, L)) = some (some (.int (nI (ft h t l))), (81, pt_G, I, L)) := by
  have hO := W.O
  have h2 := o256 W
  have h3 := pc_sub (h 0 1) (by omega) l hl
  have h4 := (pc_le l (by omega)).2 h0
  have h5 := ht (h 0 1 - pc l) (by omega)
  rw [e1259_0 hF]
  simp (disch := omega) only [pm_k_i, Option.toList_some, Option.toList_none, List.cons_append, List.nil_append, cond_true, cond_false, ↓reduceIte, reduceCtorEq, z_1, nI_add, z_cl, z_ib, z_lt, z_le, z_eq, z_eq0, z_le0, z_lt0, z_b0, z_b1, z_m1, z_and7, Int32.add_zero, m_ones hF, e1259_12 hF, HO, pk_sub, h5]
  rfl
theorem m_foresees (hF : pm_fix pt_me pt_Sg (pt_R L0 xs) F) (W : WF h) (H : MH h I) {t : Nat → Nat} (ht : ∀ i, i < h 0 1 → I 66 i = nI (t i) ∧ t i < h 0 0) : ∃ I', (F 1260 0 [some (.ref 49), none, none, none, none, none, none] [] (81, pt_G, I, L)) = some (none, (81, pt_G, I', L)) ∧ (∀ r k, r ≠ 68 → r ≠ 69 → I' r k = I r k) ∧ (∀ l, 0 < l → l < 2 ^ h 0 1 → I' 69 l = nI (fch h t l)) ∧ ∀ l q, l < 2 ^ h 0 1 → q < 7 → I' 68 (7 * l + q) = nI (fgn h t l q) := by
  have hP := W.P
  have hO := W.O
  have h2 := o256 W
  rw [e1260_0 hF]
  refine wl (G := fun k J => (F 1260 2 [some (.ref 49), some (.int (nI k)), none, none, none, none, none] [] (81, pt_G, J, L))) (P := fun k J => (∀ r k, r ≠ 68 → r ≠ 69 → J r k = I r k) ∧ ∀ q, q < k → J 68 q = 0) (Q := fun r => ∃ I', r = some (none, (81, pt_G, I', L)) ∧ (∀ r k, r ≠ 68 → r ≠ 69 → I' r k = I r k) ∧ (∀ l, 0 < l → l < 2 ^ h 0 1 → I' 69 l = nI (fch h t l)) ∧ ∀ l q, l < 2 ^ h 0 1 → q < 7 → I' 68 (7 * l + q) = nI (fgn h t l q)) (n := 7) (fun k J hk hJ go => ?_) (fun J hJ => ?_) 0 I (Nat.zero_le _) ⟨fun _ _ _ _ => rfl, fun p hp => by omega⟩
  · rw [e1260_2 hF, show (7 : Int32) = nI 7 from rfl]
    simp (disch := omega) only [pm_k_i, Option.toList_some, Option.toList_none, List.cons_append, List.nil_append, cond_true, cond_false, ↓reduceIte, reduceCtorEq, z_1, nI_add, z_cl, z_ib, z_lt, z_le, z_eq, z_eq0, z_le0, z_lt0, z_b0, z_b1, z_m1, z_and7, Int32.add_zero, hk]
    refine go _ ⟨fun r j a b => ?_, fun p hp => ?_⟩
    · rw [z_ur a]; exact hJ.1 r j a b
    · by_cases e : p = k
      · subst e; rw [z_ue]
      · rw [z_uk e]; exact hJ.2 p (by omega)
  · rw [e1260_2 hF, if_neg (by decide)]
    refine wl (G := fun k J => (F 1260 23 [some (.ref 49), some (.int (nI (k + 1))), none, none, none, none, none] [] (81, pt_G, J, L))) (P := fun k J => (∀ r k, r ≠ 68 → r ≠ 69 → J r k = I r k) ∧ (∀ l, 0 < l → l ≤ k → J 69 l = nI ((fsT h t k).1 l)) ∧ ∀ l q, l ≤ k → q < 7 → J 68 (7 * l + q) = nI ((fsT h t k).2 l q)) (Q := fun r => ∃ I', r = some (none, (81, pt_G, I', L)) ∧ (∀ r k, r ≠ 68 → r ≠ 69 → I' r k = I r k) ∧ (∀ l, 0 < l → l < 2 ^ h 0 1 → I' 69 l = nI (fch h t l)) ∧ ∀ l q, l < 2 ^ h 0 1 → q < 7 → I' 68 (7 * l + q) = nI (fgn h t l q)) (n := 2 ^ h 0 1 - 1) (fun k J hk hJ go => ?_) (fun J hJ => ?_) 0 J (Nat.zero_le _) ⟨hJ.1, fun l a b => by omega, fun l q a b => by
      have : l = 0 := by omega
      subst this
      rw [Nat.mul_zero, Nat.zero_add]
      exact hJ.2 q b⟩
    · obtain ⟨j1, j2, j3⟩ := hJ
      have HJ : MH h J := H.of (fun k _ _ => j1 49 k (by omega) (by omega)) (fun r a b k => j1 r k (by omega) (by omega)) (fun k _ => j1 64 k (by omega) (by omega))
      have htJ : ∀ i, i < h 0 1 → J 66 i = nI (t i) := fun i hi => by rw [j1 66 i (by omega) (by omega)]; exact (ht i hi).1
      have hl : k + 1 < 2 ^ h 0 1 := by omega
      have h3 := pc_sub (h 0 1) (by omega) (k + 1) hl
      have h4 := (pc_le (k + 1) (by omega)).2 (by omega)
      have hft : ft h t (k + 1) < h 0 0 := (ht (h 0 1 - pc (k + 1)) (by omega)).2
      obtain ⟨c1, c2, c3⟩ := fc_in W t (fsT h t k).2 (l := k + 1) (by omega) hl
      have hb := fsT_le W t (n := k) (by omega)
      rw [e1260_23 hF]
      simp (disch := omega) only [HJ.O, z_sh1, z_lt, hl, ↓reduceIte, m_turnAt hF W HJ.O htJ, pm_k_i, Option.toList_some, List.cons_append, List.nil_append, e1260_38 hF]
      have key : (F 1260 47 [some (.ref 49), some (.int (nI (k + 1))), some (.int (nI (ft h t (k + 1)))), some (.int (-1)), some (.int 0), some (.int 0), none] [] (81, pt_G, J, L)) = (F 1260 47 [some (.ref 49), some (.int (nI (k + 1))), some (.int (nI (ft h t (k + 1)))), some (.int (nI (fc h t (fsT h t k).2 (k + 1)))), some (.int (nI (vO (fv h t (fsT h t k).2 (k + 1)) (some (fc h t (fsT h t k).2 (k + 1)))))), some (.int (nI (h 0 1))), none] [] (81, pt_G, J, L)) := by
        refine ((lpI (G := fun o b => (F 1260 47 [some (.ref 49), some (.int (nI (k + 1))), some (.int (nI (ft h t (k + 1)))), some (.int (oI b)), some (.int (nI (vO (fv h t (fsT h t k).2 (k + 1)) b))), some (.int (nI o)), none] [] (81, pt_G, J, L))) (f := am1 (k + 1) (fv h t (fsT h t k).2 (k + 1))) (P := fun _ b => ∀ q, b = some q → q < h 0 1 ∧ (k + 1).testBit q = true) (n := h 0 1) (a := none) (fun q h => by cases h) (fun o b ho hb2 => ⟨?_, am1_in ho hb2⟩)).1).trans ?_
        · try dsimp only
          have r1 := rm_lt (k + 1) (by omega) o (by omega)
          have v1 := hb (rm (k + 1) o) (ft h t (k + 1))
          have v2 := pc_le8 r1.1
          have v3 := W.worth (8 * ft h t (k + 1) + o)
          rw [e1260_47 hF]
          simp (disch := omega) only [HJ.O, pm_k_i, Option.toList_some, Option.toList_none, List.cons_append, List.nil_append, cond_true, cond_false, ↓reduceIte, reduceCtorEq, z_1, nI_add, z_cl, z_ib, z_lt, z_le, z_eq, z_eq0, z_le0, z_lt0, z_b0, z_b1, z_m1, z_and7, Int32.add_zero, ho, m_holds hF, e1260_62 hF]
          cases hx : (k + 1).testBit o with
          | false =>
            have : am1 (k + 1) (fv h t (fsT h t k).2 (k + 1)) o b = b := by unfold am1; rw [hx]; rfl
            simp (disch := omega) only [pm_k_i, Option.toList_some, Option.toList_none, List.cons_append, List.nil_append, cond_true, cond_false, ↓reduceIte, reduceCtorEq, z_1, nI_add, z_cl, z_ib, z_lt, z_le, z_eq, z_eq0, z_le0, z_lt0, z_b0, z_b1, z_m1, z_and7, Int32.add_zero, this]
          | true =>
            have r2 := r1.2.2 hx
            have j4 := j3 (rm (k + 1) o) (ft h t (k + 1)) (by omega) (by omega)
            simp (disch := omega) only [pm_k_i, Option.toList_some, Option.toList_none, List.cons_append, List.nil_append, cond_true, cond_false, ↓reduceIte, reduceCtorEq, z_1, nI_add, z_cl, z_ib, z_lt, z_le, z_eq, z_eq0, z_le0, z_lt0, z_b0, z_b1, z_m1, z_and7, Int32.add_zero, m_worthOf hF W HJ, e1260_75 hF, z_rm, z_7m, j4]
            cases b with
            | none =>
              have : am1 (k + 1) (fv h t (fsT h t k).2 (k + 1)) o none = some o := by unfold am1; rw [hx]; rfl
              rw [this]
              simp (disch := omega) only [pm_k_i, Option.toList_some, Option.toList_none, List.cons_append, List.nil_append, cond_true, cond_false, ↓reduceIte, reduceCtorEq, z_1, nI_add, z_cl, z_ib, z_lt, z_le, z_eq, z_eq0, z_le0, z_lt0, z_b0, z_b1, z_m1, z_and7, Int32.add_zero, oI, eq_self]
              rfl
            | some q =>
              obtain ⟨q1, q2⟩ := hb2 q rfl
              have r3 := rm_lt (k + 1) (by omega) q (by omega)
              have v4 := hb (rm (k + 1) q) (ft h t (k + 1))
              have v5 := pc_le8 r3.1
              have v6 := W.worth (8 * ft h t (k + 1) + q)
              have v7 : fv h t (fsT h t k).2 (k + 1) q ≤ 2000 := by show _ + _ ≤ _; omega
              show (if nI q = -1 then _ else if nI (fv h t (fsT h t k).2 (k + 1) o) ≤ nI (fv h t (fsT h t k).2 (k + 1) q) then _ else _) = _
              have v8 : fv h t (fsT h t k).2 (k + 1) o ≤ 2000 := by show _ + _ ≤ _; omega
              simp (disch := omega) only [z_m1, ↓reduceIte, z_le]
              by_cases c : fv h t (fsT h t k).2 (k + 1) o ≤ fv h t (fsT h t k).2 (k + 1) q
              · have : am1 (k + 1) (fv h t (fsT h t k).2 (k + 1)) o (some q) = some q := by unfold am1; rw [hx]; show (bif true && decide _ then _ else _) = _; rw [decide_eq_false (by omega)]; rfl
                rw [if_pos c, this]
                try rfl
              · have : am1 (k + 1) (fv h t (fsT h t k).2 (k + 1)) o (some q) = some o := by unfold am1; rw [hx]; show (bif true && decide _ then _ else _) = _; rw [decide_eq_true (by omega)]; rfl
                rw [if_neg c, this]
                try rfl
        · show (F 1260 47 [some (.ref 49), some (.int (nI (k + 1))), some (.int (nI (ft h t (k + 1)))), some (.int (oI (amx (k + 1) (fv h t (fsT h t k).2 (k + 1)) (h 0 1)))), some (.int (nI (vO (fv h t (fsT h t k).2 (k + 1)) (amx (k + 1) (fv h t (fsT h t k).2 (k + 1)) (h 0 1))))), some (.int (nI (h 0 1))), none] [] (81, pt_G, J, L)) = _
          rw [c3]
          rfl
      rw [key, e1260_47 hF]
      have c4 := rm_lt (k + 1) (by omega) (fc h t (fsT h t k).2 (k + 1)) (by omega)
      have c5 := c4.2.2 c2
      simp (disch := omega) only [HJ.O, pm_k_i, Option.toList_some, Option.toList_none, List.cons_append, List.nil_append, cond_true, cond_false, ↓reduceIte, reduceCtorEq, z_1, nI_add, z_cl, z_ib, z_lt, z_le, z_eq, z_eq0, z_le0, z_lt0, z_b0, z_b1, z_m1, z_and7, Int32.add_zero, Nat.lt_irrefl]
      refine wl (Q := fun r => ∃ I', r = some (none, (81, pt_G, I', L)) ∧ (∀ r k, r ≠ 68 → r ≠ 69 → I' r k = I r k) ∧ (∀ l, 0 < l → l < 2 ^ h 0 1 → I' 69 l = nI (fch h t l)) ∧ ∀ l q, l < 2 ^ h 0 1 → q < 7 → I' 68 (7 * l + q) = nI (fgn h t l q)) (G := fun q M => (F 1260 134 [some (.ref 49), some (.int (nI (k + 1))), some (.int (nI (ft h t (k + 1)))), some (.int (nI (fc h t (fsT h t k).2 (k + 1)))), some (.int (nI (vO (fv h t (fsT h t k).2 (k + 1)) (some (fc h t (fsT h t k).2 (k + 1)))))), some (.int (nI q)), none] [] (81, pt_G, M, L))) (P := fun q M => (∀ r k, r ≠ 68 → r ≠ 69 → M r k = I r k) ∧ (∀ l, 0 < l → l ≤ k + 1 → M 69 l = nI ((fsT h t (k + 1)).1 l)) ∧ (∀ l q, l ≤ k → q < 7 → M 68 (7 * l + q) = nI ((fsT h t k).2 l q)) ∧ ∀ x, x < q → M 68 (7 * (k + 1) + x) = nI ((fsT h t (k + 1)).2 (k + 1) x)) (n := 7) (fun q M hq hM go2 => ?_) (fun M hM => ?_) 0 _ (Nat.zero_le _) ⟨fun r j a b => by rw [z_ur b]; exact j1 r j a b, fun l a b => ?_, fun l q a b => by rw [z_ur (by omega)]; exact j3 l q a b, fun x hx => by omega⟩
      · obtain ⟨m1, m2, m3, m4⟩ := hM
        have HM : MH h M := H.of (fun k _ _ => m1 49 k (by omega) (by omega)) (fun r a b k => m1 r k (by omega) (by omega)) (fun k _ => m1 64 k (by omega) (by omega))
        have m5 := m3 (rm (k + 1) (fc h t (fsT h t k).2 (k + 1))) q (by omega) hq
        rw [e1260_134 hF, show (7 : Int32) = nI 7 from rfl]
        simp (disch := omega) only [pm_k_i, Option.toList_some, Option.toList_none, List.cons_append, List.nil_append, cond_true, cond_false, ↓reduceIte, reduceCtorEq, z_1, nI_add, z_cl, z_ib, z_lt, z_le, z_eq, z_eq0, z_le0, z_lt0, z_b0, z_b1, z_m1, z_and7, Int32.add_zero, hq, z_rm, pk_mul, m5]
        have fin : ∀ v : Int32, v = nI ((fsT h t (k + 1)).2 (k + 1) q) → (∀ r j, r ≠ 68 → r ≠ 69 → pm_ui M 68 (7 * (k + 1) + q) v r j = I r j) ∧ (∀ l, 0 < l → l ≤ k + 1 → pm_ui M 68 (7 * (k + 1) + q) v 69 l = nI ((fsT h t (k + 1)).1 l)) ∧ (∀ l x, l ≤ k → x < 7 → pm_ui M 68 (7 * (k + 1) + q) v 68 (7 * l + x) = nI ((fsT h t k).2 l x)) ∧ ∀ x, x < q + 1 → pm_ui M 68 (7 * (k + 1) + q) v 68 (7 * (k + 1) + x) = nI ((fsT h t (k + 1)).2 (k + 1) x) := by
          intro v hv
          refine ⟨fun r j a b => by rw [z_ur a]; exact m1 r j a b, fun l a b => by rw [z_ur (by omega)]; exact m2 l a b, fun l x a b => by rw [z_uk (by omega)]; exact m3 l x a b, fun x hx => ?_⟩
          by_cases e : x = q
          · subst e; rw [z_ue]; exact hv
          · rw [z_uk (by omega)]; exact m4 x (by omega)
        have val : (fsT h t (k + 1)).2 (k + 1) q = (fsT h t k).2 (rm (k + 1) (fc h t (fsT h t k).2 (k + 1))) q + (if q = ft h t (k + 1) then h 5 (8 * ft h t (k + 1) + fc h t (fsT h t k).2 (k + 1)) else 0) := (fs1_2 t k (fsT h t k) (k + 1) q).trans (if_pos rfl)
        by_cases e : q = ft h t (k + 1)
        · rw [if_pos e]
          simp (disch := omega) only [pm_k_i, Option.toList_some, Option.toList_none, List.cons_append, List.nil_append, cond_true, cond_false, ↓reduceIte, reduceCtorEq, z_1, nI_add, z_cl, z_ib, z_lt, z_le, z_eq, z_eq0, z_le0, z_lt0, z_b0, z_b1, z_m1, z_and7, Int32.add_zero, m_worthOf hF W HM, e1260_182 hF]
          refine go2 _ (fin _ ?_)
          rw [val, if_pos e]
        · rw [if_neg e]
          refine go2 _ (fin _ ?_)
          rw [val, if_neg e]
          rfl
      · obtain ⟨m1, m2, m3, m4⟩ := hM
        rw [e1260_134 hF, if_neg (by decide), z_1]
        refine go M ⟨m1, m2, fun l q a b => ?_⟩
        by_cases e : l = k + 1
        · subst e; exact m4 q b
        · rw [m3 l q (by omega) b]
          exact congrArg nI ((fs1_2 t k (fsT h t k) l q).trans (if_neg e)).symm
      · show pm_ui J 69 (k + 1) _ 69 l = nI ((fs1 h t k (fsT h t k)).1 l)
        rw [fs1_1]
        unfold up
        by_cases e : l = k + 1
        · subst e; rw [z_ue, if_pos rfl]
        · rw [z_uk e, if_neg e]; exact j2 l a (by omega)
    · obtain ⟨j1, j2, j3⟩ := hJ
      have HO : J 49 31 = nI (h 0 1) := by rw [j1 49 31 (by omega) (by omega)]; exact H.O
      rw [e1260_23 hF]
      simp (disch := omega) only [HO, z_sh1, z_lt, show ¬ (2 ^ h 0 1 - 1 + 1 < 2 ^ h 0 1) by omega, ↓reduceIte]
      exact ⟨J, rfl, j1, fun l a b => j2 l a (by omega), fun l q a b => j3 l q (by omega) b⟩
end
