/-! ===== turns ===== -/
section
/-- who holds what, as a function that is 0 behind eight -/
def K8 (w : Nat → Nat) : Prop := (∀ i, w i < 8) ∧ ∀ i, 8 ≤ i → w i = 0
def hp (w : Nat → Nat) : Nat := pkw w 8
def up (w : Nat → Nat) (i v : Nat) : Nat → Nat := fun j => if j = i then v else w j
theorem hp_lt {w : Nat → Nat} (k : K8 w) : hp w < 16777216 := pkw_lt k.1 (Nat.le_refl _)
theorem gs_hp {w : Nat → Nat} (k : K8 w) : gs (hp w) = w := by
  funext i
  by_cases hi : i < 8
  · exact (gs_pkw k.1 (Nat.le_refl _) hi).trans (if_pos hi)
  · rw [k.2 i (by omega)]
    apply Nat.eq_of_testBit_eq
    intro b
    rw [gs_tb, z_tbig (n := 24) (hp_lt k) (by omega)]
    simp
theorem K8.up {w : Nat → Nat} (k : K8 w) {i v : Nat} (hi : i < 8) (hv : v < 8) : K8 (up w i v) := by
  refine ⟨fun j => ?_, fun j hj => ?_⟩
  · show (if j = i then v else w j) < 8
    split
    · exact hv
    · exact k.1 j
  · show (if j = i then v else w j) = 0
    rw [if_neg (by omega)]
    exact k.2 j hj
theorem K8.z : K8 (fun _ => 0) := ⟨fun _ => Nat.zero_lt_succ 7, fun _ _ => rfl⟩
theorem hp_z : hp (fun _ => 0) = 0 := by decide +kernel
theorem hp_ws {w : Nat → Nat} (k : K8 w) {i v : Nat} (hi : i < 8) (hv : v < 8) : ws (hp w) i v = hp (up w i v) := by
  refine gs_ext (ws_lt (hp_lt k) hi hv) (hp_lt (k.up hi hv)) (fun j hj => ?_)
  rw [gs_ws hi hj hv, gs_hp k, gs_hp (k.up hi hv)]
  rfl
theorem hp_inj {w v : Nat → Nat} (k : K8 w) (k2 : K8 v) (h : hp w = hp v) : w = v := by
  rw [← gs_hp k, ← gs_hp k2, h]
/-- how many turns each had, ahead of turn i -/
def hdn (h : Nat → Nat → Nat) (f s C : Nat) : Nat → Nat → Nat
  | 0 => fun _ => 0
  | i + 1 => inc (hdn h f s C i) ((nxt h f s (hdn h f s C i) C).getD 0)
def tw (h : Nat → Nat → Nat) (f s C : Nat) (i : Nat) : Nat := (nxt h f s (hdn h f s C i) C).getD 0
def tq (h : Nat → Nat → Nat) (f s C : Nat) : Nat → Nat := fun i => bif Nat.blt i (h 0 1) then tw h f s C i else 0
/-- what of it stands ahead of turn n -/
def tqn (h : Nat → Nat → Nat) (f s C n : Nat) : Nat → Nat := fun i => bif Nat.blt i n then tw h f s C i else 0
variable {h : Nat → Nat → Nat}
theorem hdn_le (f s C i q : Nat) : hdn h f s C i q ≤ i := by
  induction i with
  | zero => exact Nat.le_refl _
  | succ i ih =>
    have := inc_le (hdn h f s C i) ((nxt h f s (hdn h f s C i) C).getD 0) q
    show inc _ _ q ≤ _
    omega
theorem lp_some {α : Type} {f : Nat → Option α → Option α} (hf : ∀ k b, b ≠ none → f k b ≠ none) {n p : Nat} (hp : p < n) (h1 : ∀ b, f p b ≠ none) : ∀ b, lp f n b ≠ none := by
  intro b
  induction n with
  | zero => omega
  | succ n ih =>
    show f n (lp f n b) ≠ none
    by_cases e : p = n
    · subst e; exact h1 _
    · exact hf n _ (ih (by omega))
theorem nx1_some {f s C p : Nat} {had : Nat → Nat} (b : Option Nat) (hC : b = none → C.testBit p = true) : nx1 h f s had C p b ≠ none := by
  unfold nx1
  cases b with
  | none => rw [hC rfl]; intro e; cases e
  | some q =>
    cases (C.testBit p && _)
    · intro e; cases e
    · intro e; cases e
theorem nxt_some {f s C p : Nat} {had : Nat → Nat} (hp : p < h 0 0) (hC : C.testBit p = true) : ∃ q, nxt h f s had C = some q := by
  have := lp_some (f := nx1 h f s had C) (fun k b hb => nx1_some b (fun e => absurd e hb)) hp (fun b => nx1_some b (fun _ => hC)) none
  exact Option.ne_none_iff_exists'.mp this
/-- one of it is a party -/
theorem tb_ex : ∀ C, C < 128 → 0 < C → ∃ p, p < 7 ∧ C.testBit p = true := by decide +kernel
theorem mem_ex (W : WF h) {C : Nat} (h0 : 0 < C) (hC : C ≤ ev h) : ∃ p, p < h 0 0 ∧ C.testBit p = true := by
  have h1 := ev_lt W
  obtain ⟨p, _, hp⟩ := tb_ex C (by omega) h0
  refine ⟨p, ?_, hp⟩
  by_cases c : p < h 0 0
  · exact c
  · rw [z_tbig (n := h 0 0) (by unfold ev at hC; have := Nat.one_le_two_pow (n := h 0 0); omega) (by omega)] at hp
    cases hp
theorem tw_lt {f s C p : Nat} (hp : p < h 0 0) (hC : C.testBit p = true) (i : Nat) : tw h f s C i < h 0 0 ∧ nxt h f s (hdn h f s C i) C = some (tw h f s C i) := by
  obtain ⟨q, hq⟩ := nxt_some (h := h) (f := f) (s := s) (had := hdn h f s C i) hp hC
  unfold tw
  rw [hq]
  exact ⟨nxt_lt hq, rfl⟩
theorem nx1_in {f s C k : Nat} {had : Nat → Nat} {b : Option Nat} (hb : ∀ q, b = some q → C.testBit q = true) : ∀ q, nx1 h f s had C k b = some q → C.testBit q = true := by
  intro q hq
  unfold nx1 at hq
  rcases bif_some hq with ⟨e2, e⟩ | ⟨_, e⟩
  · rw [e]
    rw [Bool.and_eq_true] at e2
    exact e2.1
  · exact hb q e
theorem nxt_in {f s C : Nat} {had : Nat → Nat} {q : Nat} (hq : nxt h f s had C = some q) : C.testBit q = true :=
  lpP (f := nx1 h f s had C) (P := fun _ b => ∀ q, b = some q → C.testBit q = true) (fun q h => by cases h) (fun k b _ hb => nx1_in hb) q hq
theorem tw_in {f s C p : Nat} (hp : p < h 0 0) (hC : C.testBit p = true) (i : Nat) : C.testBit (tw h f s C i) = true := nxt_in (tw_lt hp hC i).2
theorem tq_K8 (W : WF h) {f s C p : Nat} (hp : p < h 0 0) (hC : C.testBit p = true) {n : Nat} (hn : n ≤ 8) : K8 (tqn h f s C n) := by
  have hP := W.P
  refine ⟨fun i => ?_, fun i hi => ?_⟩
  · unfold tqn
    cases Nat.blt i n
    · show 0 < 8; omega
    · have := (tw_lt (f := f) (s := s) hp hC i).1
      show tw h f s C i < 8; omega
  · unfold tqn
    rw [show Nat.blt i n = false from by
      cases e : Nat.blt i n with
      | false => rfl
      | true => have := Nat.le_of_ble_eq_true e; omega]
    rfl
theorem tqn_up {f s C n : Nat} : up (tqn h f s C n) n (tw h f s C n) = tqn h f s C (n + 1) := by
  funext i
  unfold up tqn
  by_cases e : i = n
  · subst e
    rw [if_pos rfl, show Nat.blt i (i + 1) = true from Nat.ble_eq_true_of_le (by omega)]
    rfl
  · rw [if_neg e]
    by_cases c : i < n
    · rw [show Nat.blt i n = true from Nat.ble_eq_true_of_le c, show Nat.blt i (n + 1) = true from Nat.ble_eq_true_of_le (by omega)]
    · rw [show Nat.blt i n = false from by
        cases e : Nat.blt i n with
        | false => rfl
        | true => have := Nat.le_of_ble_eq_true e; omega, show Nat.blt i (n + 1) = false from by
        cases e : Nat.blt i (n + 1) with
        | false => rfl
        | true => have := Nat.le_of_ble_eq_true e; omega]
variable {F : pm_F} {L0 : Nat} {xs : Nat → Int32} {I : Nat → Nat → Int32} {L : Nat → Nat → Int64}
theorem stE {β : Type} {G : Nat → β} {n : Nat} (h : ∀ k, k < n → G k = G (k + 1)) : G 0 = G n := by
  induction n with
  | zero => rfl
  | succ n ih => rw [ih (fun k hk => h k (by omega)), h n (by omega)]
theorem c_turnsOf (hF : pm_fix pt_me pt_Sg (pt_R L0 xs) F) (W : WF h) (H : CH h I) {C f s : Nat} (h0 : 0 < C) (hC : C ≤ ev h) (hf : f ≤ 99) (hs : s ≤ 99) : (F 602 0 [some (.ref 23), some (.int (nI C)), some (.int (nI f)), some (.int (nI s)), none, none, none, none] [] (49, pt_G, I, L)) = some (some (.int (nI (hp (tq h f s C)))), (49, pt_G, I, L)) := by
  have hP := W.P
  have hO := W.O
  have hE := ev_lt W
  obtain ⟨p, hp1, hp2⟩ := mem_ex W h0 hC
  rw [e602_0 hF]
  refine Eq.trans ?_ ((stE (G := fun k => (F 602 9 [some (.ref 23), some (.int (nI C)), some (.int (nI f)), some (.int (nI s)), some (.int (nI (hp (tqn h f s C k)))), some (.int (nI (pkc (hdn h f s C k)))), some (.int (nI k)), none] [] (49, pt_G, I, L))) (n := h 0 1) (fun k hk => ?_)).trans ?_)
  · show _ = (F 602 9 [some (.ref 23), some (.int (nI C)), some (.int (nI f)), some (.int (nI s)), some (.int (nI (hp (tqn h f s C 0)))), some (.int (nI (pkc (hdn h f s C 0)))), some (.int (nI 0)), none] [] (49, pt_G, I, L))
    rw [show hp (tqn h f s C 0) = 0 from hp_z, show pkc (hdn h f s C 0) = 0 from rfl]
    rfl
  · try dsimp only
    obtain ⟨a1, a2⟩ := tw_lt (f := f) (s := s) hp1 hp2 k
    have a3 := tq_K8 W (f := f) (s := s) hp1 hp2 (n := k) (by omega)
    rw [e602_9 hF]
    simp (disch := omega) only [pm_k_i, Option.toList_some, Option.toList_none, List.cons_append, List.nil_append, cond_true, cond_false, ↓reduceIte, reduceCtorEq, z_1, nI_add, z_cl, z_ib, z_lt, z_le, z_eq, z_eq0, z_le0, z_lt0, z_b0, z_b1, z_m1, z_and7, Int32.add_zero, H.O, hk, c_nextBy hF W H (show C < 128 by omega) (fun p => Nat.le_trans (hdn_le f s C k p) (show k ≤ 8 by omega)) hf hs, a2, oI, e602_33 hF, c_with hF (hp_lt a3), e602_44 hF, c_oneMore hF (show tw h f s C k < 7 by omega), e602_53 hF, hp_ws a3, tqn_up]
    rfl
  · try dsimp only
    rw [e602_9 hF]
    simp (disch := omega) only [pm_k_i, Option.toList_some, Option.toList_none, List.cons_append, List.nil_append, cond_true, cond_false, ↓reduceIte, reduceCtorEq, z_1, nI_add, z_cl, z_ib, z_lt, z_le, z_eq, z_eq0, z_le0, z_lt0, z_b0, z_b1, z_m1, z_and7, Int32.add_zero, H.O, Nat.lt_irrefl]
    rfl
end
