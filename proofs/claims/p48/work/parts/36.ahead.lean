/-! ===== looking ahead: gains in lanes ===== -/
section
def pkl (b : Nat) (v : Nat → Nat) (n : Nat) : Nat := sm (fun j => v j * 2 ^ (b * j)) n
theorem pkl_lt {b : Nat} {v : Nat → Nat} {n : Nat} (hv : ∀ j, j < n → v j < 2 ^ b) : pkl b v n < 2 ^ (b * n) := by
  induction n with
  | zero => exact Nat.one_pos
  | succ n ih =>
    have h1 := ih (fun j hj => hv j (by omega))
    have h2 := hv n (by omega)
    show pkl b v n + v n * 2 ^ (b * n) < 2 ^ (b * (n + 1))
    rw [Nat.mul_succ, Nat.pow_add]
    have h3 : (v n + 1) * 2 ^ (b * n) ≤ 2 ^ b * 2 ^ (b * n) := Nat.mul_le_mul_right _ h2
    rw [Nat.succ_mul] at h3
    rw [Nat.mul_comm (2 ^ (b * n))]
    omega
theorem pkl_get {b : Nat} {v : Nat → Nat} {n j : Nat} (hv : ∀ j, j < n → v j < 2 ^ b) (hj : j < n) : pkl b v n / 2 ^ (b * j) % 2 ^ b = v j := by
  induction n with
  | zero => omega
  | succ n ih =>
    show (pkl b v n + v n * 2 ^ (b * n)) / 2 ^ (b * j) % 2 ^ b = v j
    by_cases e : j = n
    · subst e
      rw [Nat.add_mul_div_right _ _ (Nat.two_pow_pos _), Nat.div_eq_of_lt (pkl_lt (fun i hi => hv i (by omega))), Nat.zero_add, Nat.mod_eq_of_lt (hv j (by omega))]
    · have h1 : b * n = b * j + (b + b * (n - j - 1)) := by
        have e2 : n = j + (1 + (n - j - 1)) := by omega
        have e3 : b * (j + (1 + (n - j - 1))) = b * j + (b + b * (n - j - 1)) := by rw [Nat.mul_add, Nat.mul_add, Nat.mul_one]
        rw [← e3, ← e2]
      rw [h1, Nat.pow_add, ← Nat.mul_assoc, Nat.mul_right_comm, Nat.add_mul_div_right _ _ (Nat.two_pow_pos _), Nat.pow_add, Nat.mul_comm (2 ^ b), ← Nat.mul_assoc, Nat.add_mul_mod_self_right]
      exact ih (fun i hi => hv i (by omega)) (by omega)
theorem pkl_up {b : Nat} {v : Nat → Nat} {n j c : Nat} (hj : j < n) : pkl b (up v j (v j + c)) n = pkl b v n + c * 2 ^ (b * j) := by
  have e : (fun i => up v j (v j + c) i * 2 ^ (b * i)) = up (fun i => v i * 2 ^ (b * i)) j ((v j + c) * 2 ^ (b * j)) := by
    funext i
    unfold up
    split
    · rename_i e; rw [e]
    · rfl
  have h1 : sm (up (fun i => v i * 2 ^ (b * i)) j ((v j + c) * 2 ^ (b * j))) n + v j * 2 ^ (b * j) = sm (fun i => v i * 2 ^ (b * i)) n + (v j + c) * 2 ^ (b * j) := sm_up (f := fun i => v i * 2 ^ (b * i)) hj
  unfold pkl
  rw [e]
  try dsimp only at h1
  rw [Nat.add_mul] at h1 ⊢
  omega
theorem pkl_congr {b : Nat} {v u : Nat → Nat} {n : Nat} (h : ∀ j, j < n → v j = u j) : pkl b v n = pkl b u n := sm_congr (fun j hj => by rw [h j hj])
theorem cnw_s (t : Nat → Nat) (n q : Nat) : cnw t (n + 1) q = cnw t n q + if q = t n then 1 else 0 := by
  show inc (cnw t n) (t n) q = _
  unfold inc
  by_cases e : q = t n
  · rw [if_pos e, e, Nat.beq_refl]; rfl
  · rw [if_neg e, beq_f e]; rfl
theorem cnw_mono (t : Nat → Nat) {n m : Nat} (h : n ≤ m) (q : Nat) : cnw t n q ≤ cnw t m q := by
  induction m with
  | zero => rw [show n = 0 by omega]; exact Nat.le_refl _
  | succ m ih =>
    by_cases e : n = m + 1
    · rw [e]; exact Nat.le_refl _
    · have := ih (by omega)
      rw [cnw_s]
      omega
theorem cnw_pos (t : Nat → Nat) {n i : Nat} (h : i < n) : 1 ≤ cnw t n (t i) := by
  have h1 := cnw_mono t (show i + 1 ≤ n from h) (t i)
  rw [cnw_s, if_pos rfl] at h1
  omega
theorem cnw_sum {t : Nat → Nat} {n : Nat} (ht : ∀ i, i < n → t i < 7) : cnw t n 0 + cnw t n 1 + cnw t n 2 + cnw t n 3 + cnw t n 4 + cnw t n 5 + cnw t n 6 = n := by
  induction n with
  | zero => rfl
  | succ n ih =>
    have h1 := ih (fun i hi => ht i (by omega))
    have h2 := ht n (by omega)
    rw [cnw_s, cnw_s, cnw_s, cnw_s, cnw_s, cnw_s, cnw_s]
    rcases lt7 h2 with e | e | e | e | e | e | e <;> rw [e] <;> simp only [↓reduceIte, reduceCtorEq, Nat.reduceEqDiff, Nat.zero_ne_one, Nat.one_ne_zero] <;> omega
variable {h : Nat → Nat → Nat}
theorem fsT_cnt (W : WF h) (t : Nat → Nat) {n : Nat} (hn : n ≤ 2 ^ h 0 1 - 1) : ∀ x q, x < 2 ^ h 0 1 → (fsT h t n).2 x q + 99 * cnw t (h 0 1 - pc x) q ≤ 99 * cnw t (h 0 1) q := by
  have h2 := o256 W
  have hO := W.O
  refine lpP (f := fs1 h t) (P := fun _ T => ∀ x q, x < 2 ^ h 0 1 → T.2 x q + 99 * cnw t (h 0 1 - pc x) q ≤ 99 * cnw t (h 0 1) q) (fun x q hx => ?_) (fun k T hk hT x q hx => ?_)
  · have := cnw_mono t (show h 0 1 - pc x ≤ h 0 1 by omega) q
    show 0 + _ ≤ _
    omega
  · rw [fs1_2]
    split
    · rename_i e
      subst e
      obtain ⟨a, b, _⟩ := fc_in W t T.2 (l := k + 1) (by omega) (by omega)
      have h3 := hT (rm (k + 1) (fc h t T.2 (k + 1))) q (by have := (rm_lt (k + 1) (by omega) (fc h t T.2 (k + 1)) (by omega)).2.1; omega)
      have h4 := pc_rm (k + 1) (by omega) _ (show fc h t T.2 (k + 1) < 8 by omega) b
      have h5 := W.worth (8 * ft h t (k + 1) + fc h t T.2 (k + 1))
      have h6 := pc_sub (h 0 1) (by omega) (k + 1) hx
      rw [show h 0 1 - pc (rm (k + 1) (fc h t T.2 (k + 1))) = (h 0 1 - pc (k + 1)) + 1 by omega, cnw_s] at h3
      have h7 : (if q = t (h 0 1 - pc (k + 1)) then 1 else 0) = (if q = ft h t (k + 1) then 1 else 0) := rfl
      rw [h7] at h3
      split
      · rename_i e
        rw [if_pos e] at h3
        omega
      · rename_i e
        rw [if_neg e] at h3
        omega
    · exact hT x q hx
/-- the lanes are laid for these turns -/
def LA (h : Nat → Nat → Nat) (t : Nat → Nat) (I : Nat → Nat → Int32) (b mm : Nat) (lane ord : Nat → Nat) : Prop := (∀ i, i < h 0 1 → lane (t i) < mm ∧ ord (lane (t i)) = t i ∧ I 26 (t i) = nI (lane (t i))) ∧ (∀ j, j < mm → lane (ord j) = j) ∧ I 23 4 = nI b ∧ b * mm ≤ 63 ∧ (b = 9 ∨ b = 10) ∧ ∀ q, 99 * cnw t (h 0 1) q < 2 ^ b
/-- what is looked ahead from these turns lies there -/
def AH (h : Nat → Nat → Nat) (t : Nat → Nat) (I : Nat → Nat → Int32) (L : Nat → Nat → Int64) : Prop := (∀ l, 0 < l → l < 2 ^ h 0 1 → I 24 l = nI (fch h t l)) ∧ ∀ l i, l < 2 ^ h 0 1 → i < h 0 1 → pm_uls (L 25 l) (I 23 4 * I 26 (t i)) &&& Int32.toInt64 (((1 : Int32) <<< (I 23 4 &&& 31)) - 1) = (nI (fgn h t l (t i))).toInt64
theorem pc_ad : ∀ C, C < 256 → ∀ k, k < 8 → C.testBit k = false → pc (ad C k) = pc C + 1 := by decide +kernel
theorem pc_7 : ∀ C, C < 128 → pc C ≤ 7 ∧ (pc C = 7 → ∀ p, p < 7 → C.testBit p = true) := by decide +kernel
theorem ad_same : ∀ C, C < 256 → ∀ k, k < 8 → C.testBit k = true → ad C k = C := by decide +kernel
theorem ad_128 : ∀ C, C < 128 → ∀ k, k < 7 → ad C k < 128 := by decide +kernel
theorem cnt2 {t : Nat → Nat} {n : Nat} (hn : n ≤ 8) (ht : ∀ i, i < n → t i < 7) (hall : ∀ p, p < 7 → ∃ i, i < n ∧ t i = p) (q : Nat) : cnw t n q ≤ 2 := by
  have hs := cnw_sum ht
  have h1 : ∀ p, p < 7 → 1 ≤ cnw t n p := fun p hp => by
    obtain ⟨i, a, b⟩ := hall p hp
    have := cnw_pos t a
    rw [b] at this
    exact this
  have p0 := h1 0 (by omega)
  have p1 := h1 1 (by omega)
  have p2 := h1 2 (by omega)
  have p3 := h1 3 (by omega)
  have p4 := h1 4 (by omega)
  have p5 := h1 5 (by omega)
  have p6 := h1 6 (by omega)
  by_cases hq : q < 7
  · rcases lt7 hq with e | e | e | e | e | e | e <;> rw [e] <;> omega
  · have : ∀ m, m ≤ n → cnw t m q = 0 := by
      intro m
      induction m with
      | zero => intro _; rfl
      | succ m ih =>
        intro hm
        rw [cnw_s, ih (by omega), if_neg (by have := ht m (by omega); omega)]
    rw [this n (Nat.le_refl _)]
    omega
variable {F : pm_F} {L0 : Nat} {xs : Nat → Int32} {I : Nat → Nat → Int32} {L : Nat → Nat → Int64}
theorem c_layLanes (hF : pm_fix pt_me pt_Sg (pt_R L0 xs) F) (W : WF h) (HO : I 3 1 = nI (h 0 1)) {t : Nat → Nat} (kt : K8 t) (ht : ∀ i, i < h 0 1 → t i < h 0 0) : ∃ I' b mm lane ord, (F 608 0 [some (.ref 23), some (.int (nI (hp t))), none, none, none] [] (49, pt_G, I, L)) = some (none, (49, pt_G, I', L)) ∧ (∀ r k, (r = 23 → k ≠ 4) → r ≠ 26 → I' r k = I r k) ∧ LA h t I' b mm lane ord := by
  have hO := W.O
  have hP := W.P
  have hlt := hp_lt kt
  rw [e608_0 hF]
  refine wl (α := Nat × (Nat → Nat → Int32)) (G := fun n a => (F 608 4 [some (.ref 23), some (.int (nI (hp t))), some (.int (nI a.1)), some (.int (nI n)), none] [] (49, pt_G, a.2, L))) (P := fun n a => a.1 < 128 ∧ (∀ r k, r ≠ 26 → a.2 r k = I r k) ∧ (∀ p, p < 7 → (a.1.testBit p = true ↔ ∃ i, i < n ∧ t i = p)) ∧ ∃ lane ord : Nat → Nat, (∀ p, p < 7 → a.1.testBit p = true → lane p < pc a.1 ∧ ord (lane p) = p ∧ a.2 26 p = nI (lane p)) ∧ ∀ j, j < pc a.1 → ord j < 7 ∧ a.1.testBit (ord j) = true ∧ lane (ord j) = j) (Q := fun r => ∃ I' b mm lane ord, r = some (none, (49, pt_G, I', L)) ∧ (∀ r k, (r = 23 → k ≠ 4) → r ≠ 26 → I' r k = I r k) ∧ LA h t I' b mm lane ord) (n := h 0 1) (fun n a hn ha go => ?_) (fun a ha => ?_) 0 (0, I) (Nat.zero_le _) ?_
  · obtain ⟨met, J⟩ := a
    obtain ⟨a1, a2, a3, lane, ord, a4, a5⟩ := ha
    dsimp only at a1 a2 a3 a4 a5
    have hn7 : t n < 7 := by have := ht n hn; omega
    have HJO : J 3 1 = nI (h 0 1) := by rw [a2 3 1 (by omega)]; exact HO
    have p1 := (pc_7 met a1).1
    try dsimp only
    rw [e608_4 hF]
    simp (disch := omega) only [pm_k_i, Option.toList_some, Option.toList_none, List.cons_append, List.nil_append, cond_true, cond_false, ↓reduceIte, reduceCtorEq, z_1, nI_add, z_cl, z_ib, z_lt, z_le, z_eq, z_eq0, z_le0, z_lt0, z_b0, z_b1, z_m1, z_and7, Int32.add_zero, HJO, hn, c_get hF hlt, gs_hp kt, e608_20 hF, c_isIn hF, e608_28 hF]
    cases hx : met.testBit (t n) with
    | true =>
      have e := ad_same met (by omega) (t n) (by omega) hx
      simp (disch := omega) only [pm_k_i, Option.toList_some, Option.toList_none, List.cons_append, List.nil_append, cond_true, cond_false, ↓reduceIte, reduceCtorEq, z_1, nI_add, z_cl, z_ib, z_lt, z_le, z_eq, z_eq0, z_le0, z_lt0, z_b0, z_b1, z_m1, z_and7, Int32.add_zero, z_ad, e]
      refine go (met, J) ⟨a1, a2, fun p hp => ?_, lane, ord, a4, a5⟩
      show met.testBit p = true ↔ _
      rw [a3 p hp]
      exact ⟨fun ⟨i, b, c⟩ => ⟨i, by omega, c⟩, fun ⟨i, b, c⟩ => by
        by_cases e2 : i = n
        · subst e2; rw [← c]; exact (a3 _ hn7).mp hx
        · exact ⟨i, by omega, c⟩⟩
    | false =>
      have p2 := pc_ad met (by omega) (t n) (by omega) hx
      have p3 := ad_128 met a1 (t n) hn7
      simp (disch := omega) only [pm_k_i, Option.toList_some, Option.toList_none, List.cons_append, List.nil_append, cond_true, cond_false, ↓reduceIte, reduceCtorEq, z_1, nI_add, z_cl, z_ib, z_lt, z_le, z_eq, z_eq0, z_le0, z_lt0, z_b0, z_b1, z_m1, z_and7, Int32.add_zero, c_bitCount hF, e608_41 hF, z_ad]
      refine go (ad met (t n), pm_ui J 26 (t n) (nI (pc met))) ⟨p3, fun r k hr => by show pm_ui _ _ _ _ _ _ = _; rw [z_ur hr]; exact a2 r k hr, fun p hp => ?_, up lane (t n) (pc met), up ord (pc met) (t n), fun p hp hb => ?_, fun j hj => ?_⟩
      · show (ad met (t n)).testBit p = true ↔ _
        rw [z_adb met (by omega) (t n) (by omega) p (by omega), Bool.or_eq_true, a3 p hp]
        exact ⟨fun hh => hh.elim (fun ⟨i, b, c⟩ => ⟨i, by omega, c⟩) (fun hh => ⟨n, by omega, (Nat.eq_of_beq_eq_true hh).symm⟩), fun ⟨i, b, c⟩ => by
          by_cases e2 : i = n
          · right; subst e2; rw [c, Nat.beq_refl]
          · left; exact ⟨i, by omega, c⟩⟩
      · have hb : (ad met (t n)).testBit p = true := hb
        rw [z_adb met (by omega) (t n) (by omega) p (by omega), Bool.or_eq_true] at hb
        show up lane (t n) (pc met) p < pc (ad met (t n)) ∧ up ord (pc met) (t n) (up lane (t n) (pc met) p) = p ∧ pm_ui J 26 (t n) (nI (pc met)) 26 p = nI (up lane (t n) (pc met) p)
        rw [p2]
        by_cases e : p = t n
        · subst e
          rw [show up lane (t n) (pc met) (t n) = pc met from if_pos rfl, show up ord (pc met) (t n) (pc met) = t n from if_pos rfl, z_ue]
          exact ⟨by omega, rfl, rfl⟩
        · rw [beq_f e] at hb
          obtain ⟨b1, b2, b3⟩ := a4 p hp (hb.elim id (fun hh => by cases hh))
          rw [show up lane (t n) (pc met) p = lane p from if_neg e, show up ord (pc met) (t n) (lane p) = ord (lane p) from if_neg (by omega), z_uk e]
          exact ⟨by omega, b2, b3⟩
      · have hj : j < pc (ad met (t n)) := hj
        rw [p2] at hj
        by_cases e : j = pc met
        · subst e
          rw [show up ord (pc met) (t n) (pc met) = t n from if_pos rfl]
          refine ⟨hn7, ?_, if_pos rfl⟩
          rw [z_adb met (by omega) (t n) (by omega) (t n) (by omega), Nat.beq_refl, Bool.or_true]
        · obtain ⟨b1, b2, b3⟩ := a5 j (by omega)
          rw [show up ord (pc met) (t n) j = ord j from if_neg e]
          refine ⟨b1, ?_, ?_⟩
          · rw [z_adb met (by omega) (t n) (by omega) _ (by omega), b2]; rfl
          · unfold up
            rw [if_neg (fun e3 => by rw [e3, hx] at b2; cases b2)]
            exact b3
  · obtain ⟨met, J⟩ := a
    obtain ⟨a1, a2, a3, lane, ord, a4, a5⟩ := ha
    dsimp only at a1 a2 a3 a4 a5
    have HJO : J 3 1 = nI (h 0 1) := by rw [a2 3 1 (by omega)]; exact HO
    have p1 := pc_7 met a1
    try dsimp only
    rw [e608_4 hF]
    simp (disch := omega) only [pm_k_i, Option.toList_some, Option.toList_none, List.cons_append, List.nil_append, cond_true, cond_false, ↓reduceIte, reduceCtorEq, z_1, nI_add, z_cl, z_ib, z_lt, z_le, z_eq, z_eq0, z_le0, z_lt0, z_b0, z_b1, z_m1, z_and7, Int32.add_zero, HJO, Nat.lt_irrefl, c_bitCount hF, e608_60 hF]
    rw [show (7 : Int32) = nI 7 from rfl]
    simp (disch := omega) only [z_lt]
    have lan : ∀ (v : Int32), ∀ i, i < h 0 1 → lane (t i) < pc met ∧ ord (lane (t i)) = t i ∧ pm_ui J 23 4 v 26 (t i) = nI (lane (t i)) := fun v i hi => by
      have := ht i hi
      rw [z_ur (by omega)]
      exact a4 (t i) (by omega) ((a3 (t i) (by omega)).mpr ⟨i, hi, rfl⟩)
    have frm : ∀ (v : Int32) r k, (r = 23 → k ≠ 4) → r ≠ 26 → pm_ui J 23 4 v r k = I r k := fun v r k c d => by
      by_cases e : r = 23
      · subst e; rw [z_uk (c rfl)]; exact a2 _ _ d
      · rw [z_ur e]; exact a2 _ _ d
    by_cases c : pc met < 7
    · rw [if_pos c]
      refine ⟨_, 10, pc met, lane, ord, rfl, frm _, lan _, fun j hj => (a5 j hj).2.2, z_ue, by omega, Or.inr rfl, fun q => ?_⟩
      have := cnw_le t (h 0 1) q
      show _ < 1024
      omega
    · rw [if_neg c]
      refine ⟨_, 9, pc met, lane, ord, rfl, frm _, lan _, fun j hj => (a5 j hj).2.2, z_ue, by omega, Or.inl rfl, fun q => ?_⟩
      have := cnt2 (n := h 0 1) hO (fun i hi => by have := ht i hi; omega) (fun p hp => (a3 p hp).mp (p1.2 (by omega) p hp)) q
      show _ < 512
      omega
  · refine ⟨Nat.zero_lt_succ 127, fun _ _ _ => rfl, fun p hp => ?_, fun _ => 0, fun _ => 0, fun p hp hb => ?_, fun j hj => ?_⟩
    · show (0 : Nat).testBit p = true ↔ _
      rw [Nat.zero_testBit]
      exact ⟨(fun hh => by cases hh), (fun ⟨i, hi, _⟩ => by omega)⟩
    · have hb : (0 : Nat).testBit p = true := hb
      rw [Nat.zero_testBit] at hb
      cases hb
    · have hj : j < pc 0 := hj
      rw [show pc 0 = 0 from by decide +kernel] at hj
      omega
end
