/-! ===== small numbers in rows: in one number ===== -/
section
def gs (s i : Nat) : Nat := (s >>> (3 * i)) &&& 7
def ws (s i v : Nat) : Nat := (s &&& (4294967295 ^^^ (7 <<< (3 * i)))) ||| (v <<< (3 * i))
def pkw (w : Nat → Nat) (n : Nat) : Nat := lp (fun i s => ws s i (w i)) n 0
theorem sl_7 (b : Nat) : (7 : Nat).testBit b = decide (b < 3) := Nat.testBit_two_pow_sub_one 3 b
theorem sl_32 (b : Nat) : (4294967295 : Nat).testBit b = decide (b < 32) := Nat.testBit_two_pow_sub_one 32 b
theorem gs_tb (s i b : Nat) : (gs s i).testBit b = (s.testBit (3 * i + b) && decide (b < 3)) := by
  unfold gs
  rw [Nat.testBit_and, Nat.testBit_shiftRight, sl_7]
theorem ws_tb (s i v b : Nat) : (ws s i v).testBit b = ((s.testBit b && (decide (b < 32) ^^ (decide (b ≥ 3 * i) && decide (b - 3 * i < 3)))) || (decide (b ≥ 3 * i) && v.testBit (b - 3 * i))) := by
  unfold ws
  rw [Nat.testBit_or, Nat.testBit_and, Nat.testBit_xor, Nat.testBit_shiftLeft, Nat.testBit_shiftLeft, sl_7, sl_32]
theorem gs_lt (s i : Nat) : gs s i < 8 := by
  unfold gs
  exact Nat.lt_of_le_of_lt Nat.and_le_right (by omega)
theorem tb_8 {v b : Nat} (hv : v < 8) (hb : 3 ≤ b) : v.testBit b = false := z_tbig (n := 3) hv hb
theorem gs_ws {s i j v : Nat} (hi : i < 8) (hj : j < 8) (hv : v < 8) : gs (ws s i v) j = if j = i then v else gs s j := by
  apply Nat.eq_of_testBit_eq
  intro b
  rw [gs_tb, ws_tb]
  by_cases hb : b < 3
  · by_cases e : j = i
    · subst e
      rw [if_pos rfl, show 3 * j + b - 3 * j = b by omega, decide_eq_true hb, decide_eq_true (show 3 * j + b < 32 by omega), decide_eq_true (show 3 * j + b ≥ 3 * j by omega)]
      simp
    · rw [if_neg e, gs_tb, decide_eq_true hb, decide_eq_true (show 3 * j + b < 32 by omega)]
      by_cases c : i < j
      · rw [tb_8 hv (show 3 ≤ 3 * j + b - 3 * i by omega), decide_eq_false (show ¬ 3 * j + b - 3 * i < 3 by omega)]
        simp
      · rw [decide_eq_false (show ¬ 3 * j + b ≥ 3 * i by omega)]
        simp
  · rw [decide_eq_false hb, Bool.and_false]
    by_cases e : j = i
    · rw [if_pos e, tb_8 hv (by omega)]
    · rw [if_neg e, gs_tb, decide_eq_false hb, Bool.and_false]
theorem lt_tb {x n : Nat} (h : ∀ b, n ≤ b → x.testBit b = false) : x < 2 ^ n := Nat.lt_pow_two_of_testBit x h
theorem ws_lt {s i v : Nat} (hs : s < 16777216) (hi : i < 8) (hv : v < 8) : ws s i v < 16777216 := by
  refine lt_tb (n := 24) (fun b hb => ?_)
  rw [ws_tb, z_tbig (n := 24) hs hb, tb_8 hv (show 3 ≤ b - 3 * i by omega)]
  simp
theorem gs_ext {s t : Nat} (hs : s < 16777216) (ht : t < 16777216) (h : ∀ i, i < 8 → gs s i = gs t i) : s = t := by
  apply Nat.eq_of_testBit_eq
  intro b
  by_cases hb : b < 24
  · have h1 := congrArg (fun x => x.testBit (b % 3)) (h (b / 3) (by omega))
    try dsimp only at h1
    rw [gs_tb, gs_tb, decide_eq_true (show b % 3 < 3 by omega), Bool.and_true, Bool.and_true, show 3 * (b / 3) + b % 3 = b by omega] at h1
    exact h1
  · rw [z_tbig (n := 24) hs (by omega), z_tbig (n := 24) ht (by omega)]
theorem gs_0 (i : Nat) : gs 0 i = 0 := by unfold gs; rw [Nat.zero_shiftRight]; rfl
theorem pkw_lt {w : Nat → Nat} (hw : ∀ i, w i < 8) : ∀ {n : Nat}, n ≤ 8 → pkw w n < 16777216 := by
  intro n
  induction n with
  | zero => intro _; show 0 < _; omega
  | succ n ih => intro hn; exact ws_lt (ih (by omega)) (by omega) (hw n)
theorem gs_pkw {w : Nat → Nat} (hw : ∀ i, w i < 8) : ∀ {n : Nat}, n ≤ 8 → ∀ {i : Nat}, i < 8 → gs (pkw w n) i = if i < n then w i else 0 := by
  intro n
  induction n with
  | zero => intro _ i hi; exact gs_0 i
  | succ n ih =>
    intro hn i hi
    show gs (ws (pkw w n) n (w n)) i = _
    rw [gs_ws (by omega) hi (hw n), ih (by omega) hi]
    by_cases e : i = n
    · rw [if_pos e, if_pos (by omega), e]
    · rw [if_neg e]
      by_cases c : i < n
      · rw [if_pos c, if_pos (by omega)]
      · rw [if_neg c, if_neg (by omega)]
/-- counts: four bits each -/
def pkc (c : Nat → Nat) : Nat := c 0 + 16 * c 1 + 256 * c 2 + 4096 * c 3 + 65536 * c 4 + 1048576 * c 5 + 16777216 * c 6
def inc (c : Nat → Nat) (p : Nat) : Nat → Nat := fun q => bif Nat.beq q p then c q + 1 else c q
theorem lt7 {p : Nat} (h : p < 7) : p = 0 ∨ p = 1 ∨ p = 2 ∨ p = 3 ∨ p = 4 ∨ p = 5 ∨ p = 6 := by omega
theorem pkc_get {c : Nat → Nat} (hc : ∀ p, c p < 16) {p : Nat} (hp : p < 7) : (pkc c >>> (4 * p)) &&& 15 = c p := by
  rw [show (15 : Nat) = 2 ^ 4 - 1 from rfl, Nat.and_two_pow_sub_one_eq_mod, Nat.shiftRight_eq_div_pow]
  have h0 := hc 0
  have h1 := hc 1
  have h2 := hc 2
  have h3 := hc 3
  have h4 := hc 4
  have h5 := hc 5
  have h6 := hc 6
  unfold pkc
  rcases lt7 hp with rfl | rfl | rfl | rfl | rfl | rfl | rfl <;> simp only [Nat.reduceMul, Nat.reducePow] <;> omega
theorem pkc_inc {c : Nat → Nat} {p : Nat} (hp : p < 7) : pkc (inc c p) = pkc c + 2 ^ (4 * p) := by
  rcases lt7 hp with rfl | rfl | rfl | rfl | rfl | rfl | rfl
  · show (c 0 + 1) + 16 * c 1 + 256 * c 2 + 4096 * c 3 + 65536 * c 4 + 1048576 * c 5 + 16777216 * c 6 = c 0 + 16 * c 1 + 256 * c 2 + 4096 * c 3 + 65536 * c 4 + 1048576 * c 5 + 16777216 * c 6 + 1; omega
  · show c 0 + 16 * (c 1 + 1) + 256 * c 2 + 4096 * c 3 + 65536 * c 4 + 1048576 * c 5 + 16777216 * c 6 = c 0 + 16 * c 1 + 256 * c 2 + 4096 * c 3 + 65536 * c 4 + 1048576 * c 5 + 16777216 * c 6 + 16; omega
  · show c 0 + 16 * c 1 + 256 * (c 2 + 1) + 4096 * c 3 + 65536 * c 4 + 1048576 * c 5 + 16777216 * c 6 = c 0 + 16 * c 1 + 256 * c 2 + 4096 * c 3 + 65536 * c 4 + 1048576 * c 5 + 16777216 * c 6 + 256; omega
  · show c 0 + 16 * c 1 + 256 * c 2 + 4096 * (c 3 + 1) + 65536 * c 4 + 1048576 * c 5 + 16777216 * c 6 = c 0 + 16 * c 1 + 256 * c 2 + 4096 * c 3 + 65536 * c 4 + 1048576 * c 5 + 16777216 * c 6 + 4096; omega
  · show c 0 + 16 * c 1 + 256 * c 2 + 4096 * c 3 + 65536 * (c 4 + 1) + 1048576 * c 5 + 16777216 * c 6 = c 0 + 16 * c 1 + 256 * c 2 + 4096 * c 3 + 65536 * c 4 + 1048576 * c 5 + 16777216 * c 6 + 65536; omega
  · show c 0 + 16 * c 1 + 256 * c 2 + 4096 * c 3 + 65536 * c 4 + 1048576 * (c 5 + 1) + 16777216 * c 6 = c 0 + 16 * c 1 + 256 * c 2 + 4096 * c 3 + 65536 * c 4 + 1048576 * c 5 + 16777216 * c 6 + 1048576; omega
  · show c 0 + 16 * c 1 + 256 * c 2 + 4096 * c 3 + 65536 * c 4 + 1048576 * c 5 + 16777216 * (c 6 + 1) = c 0 + 16 * c 1 + 256 * c 2 + 4096 * c 3 + 65536 * c 4 + 1048576 * c 5 + 16777216 * c 6 + 16777216; omega
theorem pkc_lt {c : Nat → Nat} (hc : ∀ p, c p < 16) : pkc c < 268435456 := by
  have h0 := hc 0
  have h1 := hc 1
  have h2 := hc 2
  have h3 := hc 3
  have h4 := hc 4
  have h5 := hc 5
  have h6 := hc 6
  unfold pkc
  omega
def cnw (w : Nat → Nat) (n : Nat) : Nat → Nat := lp (fun i c => inc c (w i)) n (fun _ => 0)
theorem inc_le (c : Nat → Nat) (p q : Nat) : inc c p q ≤ c q + 1 := by
  unfold inc
  cases Nat.beq q p
  · exact Nat.le_succ _
  · exact Nat.le_refl _
theorem cnw_le (w : Nat → Nat) (n q : Nat) : cnw w n q ≤ n := by
  induction n with
  | zero => exact Nat.le_refl _
  | succ n ih =>
    have := inc_le (cnw w n) (w n) q
    show inc (cnw w n) (w n) q ≤ _
    omega
variable {F : pm_F} {L0 : Nat} {xs : Nat → Int32} {I : Nat → Nat → Int32} {L : Nat → Nat → Int64}
theorem nx_or (a b : Nat) : nI a ||| nI b = nI (a ||| b) := by
  apply Int32.toBitVec_inj.mp
  rw [Int32.toBitVec_or]
  show BitVec.ofNat 32 a ||| BitVec.ofNat 32 b = BitVec.ofNat 32 (a ||| b)
  exact BitVec.ofNat_or.symm
theorem z_us2 {n j : Nat} (hn : n < 4294967296) (hj : j < 32) : pm_us (nI n) (nI j) = nI (n >>> j) := by
  rw [Nat.shiftRight_eq_div_pow]
  exact pk_ushrN hn _ j (s_u j hj)
theorem z_m7 : ∀ i, i < 8 → ((((7 : Int32) <<< ((3 * (nI i &&& 7)) &&& 31)) : Int32) ^^^ (-1) : Int32) = nI (4294967295 ^^^ (7 <<< (3 * i))) := by decide +kernel
theorem z_s7 : ∀ i, i < 8 → ∀ v, v < 8 → (nI v &&& 7) <<< ((3 * (nI i &&& 7)) &&& 31) = nI (v <<< (3 * i)) := by decide +kernel
theorem z_s4 : ∀ i, i < 7 → (1 : Int32) <<< ((4 * (nI i &&& 7)) &&& 31) = nI (2 ^ (4 * i)) := by decide +kernel
theorem c_get (hF : pm_fix pt_me pt_Sg (pt_R L0 xs) F) {s i : Nat} (hs : s < 16777216) (hi : i < 8) : (F 902 0 [some (.int (nI s)), some (.int (nI i))] [] (49, pt_G, I, L)) = some (some (.int (nI (gs s i))), (49, pt_G, I, L)) := by
  rw [e902_0 hF, z_and7 i hi, z_3m, z_us2 (by omega) (by omega), show (7 : Int32) = nI 7 from rfl, nx_and]
  rfl
theorem c_with (hF : pm_fix pt_me pt_Sg (pt_R L0 xs) F) {s i v : Nat} (hs : s < 16777216) (hi : i < 8) (hv : v < 8) : (F 903 0 [some (.int (nI s)), some (.int (nI i)), some (.int (nI v)), none] [] (49, pt_G, I, L)) = some (some (.int (nI (ws s i v))), (49, pt_G, I, L)) := by
  rw [e903_0 hF, z_m7 i hi, z_s7 i hi v hv, nx_and, nx_or]
  rfl
theorem c_exchanged (hF : pm_fix pt_me pt_Sg (pt_R L0 xs) F) {s a b : Nat} (hs : s < 16777216) (ha : a < 8) (hb : b < 8) : (F 904 0 [some (.int (nI s)), some (.int (nI a)), some (.int (nI b))] [] (49, pt_G, I, L)) = some (some (.int (nI (ws (ws s a (gs s b)) b (gs s a)))), (49, pt_G, I, L)) := by
  have h1 := gs_lt s a
  have h2 := gs_lt s b
  have h3 := ws_lt hs ha h2
  rw [e904_0 hF]
  simp (disch := omega) only [pm_k_i, Option.toList_some, Option.toList_none, List.cons_append, List.nil_append, cond_true, cond_false, ↓reduceIte, reduceCtorEq, z_1, nI_add, z_cl, z_ib, z_lt, z_le, z_eq, z_eq0, z_le0, z_lt0, z_b0, z_b1, z_m1, z_and7, c_get hF, c_with hF, e904_7 hF, e904_10 hF, e904_16 hF, e904_19 hF]
theorem c_placesOf (hF : pm_fix pt_me pt_Sg (pt_R L0 xs) F) {s n v : Nat} (hs : s < 16777216) (hn : n ≤ 8) (hv : v < 8) : (F 905 0 [some (.int (nI s)), some (.int (nI n)), some (.int (nI v)), none, none] [] (49, pt_G, I, L)) = some (some (.int (nI (lp (fun i a => bif Nat.beq (gs s i) v then ad a i else a) n 0))), (49, pt_G, I, L)) := by
  rw [e905_0 hF]
  refine ((lpI (G := fun k a => (F 905 5 [some (.int (nI s)), some (.int (nI n)), some (.int (nI v)), some (.int (nI a)), some (.int (nI k))] [] (49, pt_G, I, L))) (f := fun i a => bif Nat.beq (gs s i) v then ad a i else a) (P := fun _ a => a < 256) (n := n) (a := 0) (by omega) (fun k a hk ha => ?_)).1).trans ?_
  · try dsimp only
    have hg := gs_lt s k
    rw [e905_5 hF]
    simp (disch := omega) only [pm_k_i, Option.toList_some, Option.toList_none, List.cons_append, List.nil_append, cond_true, cond_false, ↓reduceIte, reduceCtorEq, z_1, nI_add, z_cl, z_ib, z_lt, z_le, z_eq, z_eq0, z_le0, z_lt0, z_b0, z_b1, z_m1, z_and7, hk, c_get hF, e905_17 hF]
    by_cases e : gs s k = v
    · subst e
      rw [Nat.beq_refl]
      have := (ad_lt a ha k (by omega)).1
      simp (disch := omega) only [pm_k_i, Option.toList_some, Option.toList_none, List.cons_append, List.nil_append, cond_true, cond_false, ↓reduceIte, reduceCtorEq, z_1, nI_add, z_cl, z_ib, z_lt, z_le, z_eq, z_eq0, z_le0, z_lt0, z_b0, z_b1, z_m1, z_and7, z_ad]
      exact ⟨trivial, this⟩
    · rw [show Nat.beq (gs s k) v = false from by cases e2 : Nat.beq (gs s k) v with
        | false => rfl
        | true => exact absurd (Nat.eq_of_beq_eq_true e2) e]
      simp (disch := omega) only [pm_k_i, Option.toList_some, Option.toList_none, List.cons_append, List.nil_append, cond_true, cond_false, ↓reduceIte, reduceCtorEq, z_1, nI_add, z_cl, z_ib, z_lt, z_le, z_eq, z_eq0, z_le0, z_lt0, z_b0, z_b1, z_m1, z_and7, e]
      exact ⟨trivial, ha⟩
  · try dsimp only
    rw [e905_5 hF]
    simp (disch := omega) only [pm_k_i, Option.toList_some, Option.toList_none, List.cons_append, List.nil_append, cond_true, cond_false, ↓reduceIte, reduceCtorEq, z_1, nI_add, z_cl, z_ib, z_lt, z_le, z_eq, z_eq0, z_le0, z_lt0, z_b0, z_b1, z_m1, z_and7, Nat.lt_irrefl]
theorem c_count (hF : pm_fix pt_me pt_Sg (pt_R L0 xs) F) {c : Nat → Nat} (hc : ∀ p, c p < 16) {p : Nat} (hp : p < 7) : (F 906 0 [some (.int (nI (pkc c))), some (.int (nI p))] [] (49, pt_G, I, L)) = some (some (.int (nI (c p))), (49, pt_G, I, L)) := by
  have := pkc_lt hc
  rw [e906_0 hF, z_and7 p (by omega), z_4m, z_us2 (by omega) (by omega), show (15 : Int32) = nI 15 from rfl, nx_and, pkc_get hc hp]
theorem c_oneMore (hF : pm_fix pt_me pt_Sg (pt_R L0 xs) F) {c : Nat → Nat} {p : Nat} (hp : p < 7) : (F 907 0 [some (.int (nI (pkc c))), some (.int (nI p))] [] (49, pt_G, I, L)) = some (some (.int (nI (pkc (inc c p)))), (49, pt_G, I, L)) := by
  rw [e907_0 hF, z_s4 p hp, nI_add, pkc_inc hp]
theorem c_countsOf (hF : pm_fix pt_me pt_Sg (pt_R L0 xs) F) {s n : Nat} (hs : s < 16777216) (hn : n ≤ 8) (hw : ∀ i, i < n → gs s i < 7) : (F 908 0 [some (.int (nI s)), some (.int (nI n)), none, none] [] (49, pt_G, I, L)) = some (some (.int (nI (pkc (cnw (gs s) n)))), (49, pt_G, I, L)) := by
  rw [e908_0 hF]
  refine (lpE (G := fun k a => (F 908 4 [some (.int (nI s)), some (.int (nI n)), some (.int (nI (pkc a))), some (.int (nI k))] [] (49, pt_G, I, L))) (f := fun i c => inc c (gs s i)) (n := n) (fun k a hk => ?_) (fun _ => 0)).trans ?_
  · try dsimp only
    have hg := hw k hk
    rw [e908_4 hF]
    simp (disch := omega) only [pm_k_i, Option.toList_some, Option.toList_none, List.cons_append, List.nil_append, cond_true, cond_false, ↓reduceIte, reduceCtorEq, z_1, nI_add, z_cl, z_ib, z_lt, z_le, z_eq, z_eq0, z_le0, z_lt0, z_b0, z_b1, z_m1, z_and7, hk, c_get hF, c_oneMore hF, e908_15 hF, e908_18 hF]
  · try dsimp only
    rw [e908_4 hF]
    simp (disch := omega) only [pm_k_i, Option.toList_some, Option.toList_none, List.cons_append, List.nil_append, cond_true, cond_false, ↓reduceIte, reduceCtorEq, z_1, nI_add, z_cl, z_ib, z_lt, z_le, z_eq, z_eq0, z_le0, z_lt0, z_b0, z_b1, z_m1, z_and7, Nat.lt_irrefl]
    rfl
end
