/-! ===== lists of parties ===== -/
section
variable {S S' S0 : qm_S} {O : qm_O} {F : qm_F} {J L0 : Nat} {xs : List Int32}
/-- a list holds these -/
def ALS (S : qm_S) (a : Nat) (l : List Nat) : Prop := qr_i S 23 a 1 = nI l.length ∧ qr_i S 23 a 2 = nI l.length ∧ ((l = [] ∧ qr_g S 23 a 0 = 2) ∨ ∃ v, 1001 ≤ v ∧ a < v ∧ v < S.1 ∧ qr_g S 23 a 0 = v ∧ qr_n S v = 10 ∧ ∀ j, j < l.length → qr_g S 24 v j = l.getD j 0 + 229)
theorem bl_2 : Nat.blt 0 2 = true := rfl
theorem bl_k {v : Nat} (h : 1001 ≤ v) : Nat.blt v 1001 = false := by
  cases e : Nat.blt v 1001 with
  | false => rfl
  | true => rw [Nat.blt_eq] at e; omega
theorem gD_l {l : List Nat} {p j : Nat} (hj : j < l.length) : (l ++ [p]).getD j 0 = l.getD j 0 := by
  rw [List.getD_eq_getElem?_getD, List.getD_eq_getElem?_getD, List.getElem?_append_left hj]
theorem gD_e {l : List Nat} {p : Nat} : (l ++ [p]).getD l.length 0 = p := by
  rw [List.getD_eq_getElem?_getD, List.getElem?_append_right (Nat.le_refl _), Nat.sub_self]
  rfl
theorem len1 {l : List Nat} {p : Nat} : (l ++ [p]).length = l.length + 1 := by rw [List.length_append]; rfl
/-- one more -/
theorem j_add (hF : qm_fix O qt_me qt_qs (qt_C L0 xs) J F) {a p : Nat} {l : List Nat} (A : ALS S a l) (hl : l.length < 9) (ha : a < S.1) (hS : 1001 ≤ S.1) : ∃ S', F 1563 0 [some (.inr (23, a)), some (.inr (25, p + 229))] [] S = some (some (.inl 1), S') ∧ ALS S' a (l ++ [p]) ∧ FRM a S S' ∧ S'.1 ≤ S.1 + 1 ∧ S'.2.1 ≤ S.2.1 + 10 ∧ S'.2.2.2.2.2.2 = S.2.2.2.2.2.2 := by
  obtain ⟨h1, h2, h3⟩ := A
  rcases h3 with ⟨rfl, h3⟩ | ⟨v, v1, v2, v3, v4, v5, v6⟩
  · have h1 : qr_i S 23 a 1 = nI 0 := h1
    have h2 : qr_i S 23 a 2 = nI 0 := h2
    refine ⟨qu_i (qu_g (qu_g (qm_mk (qu_i S 23 a 2 (nI 1)) 24 10) 23 a 0 S.1) 24 S.1 0 (p + 229)) 23 a 1 (nI 1), ?_, ⟨?_, ?_, Or.inr ⟨S.1, hS, ha, Nat.lt_succ_self _, ?_, ?_, fun j hj => ?_⟩⟩, ?_, Nat.le_refl _, Nat.le_refl _, rfl⟩
    · have hz : Int32.toNatClampNeg (nI 0) = 0 := by decide +kernel
      have ht : Int32.toNatClampNeg 10 = 10 := by decide +kernel
      have e1 : qr_g (qu_i S 23 a 2 (nI 1)) 23 a 0 = 2 := h3
      have e2 : qr_i (qu_i S 23 a 2 (nI 1)) 23 a 1 = nI 0 := by rw [qi_i, if_neg (fun z => by omega)]; exact h1
      have e3 : qr_n (qu_g (qm_mk (qu_i S 23 a 2 (nI 1)) 24 10) 23 a 0 S.1) S.1 = 10 := by rw [qn_g, qn_mk]; exact if_pos rfl
      rw [q1563_0 hF, h3, bl_2, h1, h2, show nI 0 + 1 = nI 1 from by decide +kernel, q1564_0 hF, show Nat.blt 2 1001 = true from rfl]
      show qm_k (if nI 0 = nI 0 then _ else _) _ = _
      rw [if_pos rfl, q1565_0 hF, e2, show nI 0 + 1 = nI 1 from by decide +kernel, q1566_0 hF, e1, bl_2, show Nat.blt 2 1001 = true from rfl]
      simp only [cond_true]
      rw [if_pos (by decide)]
      show qm_k (qm_k (qm_k (F 1566 17 [some (.inr (23, a)), some (.inl (nI 1)), some (.inl (nI 0)), none] [.inr (24, 2), .inr (24, 2)] (qu_i S 23 a 2 (nI 1))) _) _) _ = _
      rw [q1566_17 hF, q1512_0 hF, if_neg (by decide)]
      show qm_k (qm_k (qm_k (F 1566 52 [some (.inr (23, a)), some (.inl (nI 1)), some (.inl (nI 0)), none] [.inl 10, .inr (23, a)] (qu_i S 23 a 2 (nI 1))) _) _) _ = _
      rw [q1566_52 hF, show decide ((10 : Int32) < 0) = false by decide, ht, show Nat.ble 10 100000 = true by decide]
      show qm_k (qm_k (F 1565 10 [some (.inr (23, a))] [.inr (24, S.1)] (qu_g (qm_mk (qu_i S 23 a 2 (nI 1)) 24 10) 23 a 0 S.1)) _) _ = _
      rw [q1565_10 hF]
      show qm_k (F 1564 10 [some (.inr (23, a)), some (.inr (25, p + 229)), some (.inr (24, 2)), some (.inl (nI 0))] [.inr (24, S.1)] (qu_g (qm_mk (qu_i S 23 a 2 (nI 1)) 24 10) 23 a 0 S.1)) _ = _
      rw [q1564_10 hF, bl_k hS]
      show qm_k (bif pm_ib (nI 0) (qr_n (qu_g (qm_mk (qu_i S 23 a 2 (nI 1)) 24 10) 23 a 0 S.1) S.1) then _ else _) _ = _
      rw [e3, show pm_ib (nI 0) 10 = true by decide +kernel, hz, show nI 0 + 1 = nI 1 from by decide +kernel]
      show F 1563 23 [some (.inr (23, a)), some (.inr (25, p + 229))] [] _ = _
      rw [q1563_23 hF]
    · rw [qi_i, if_pos ⟨rfl, rfl, rfl⟩]
      rfl
    · rw [qi_i, if_neg (fun z => by omega), qi_g, qi_g, qi_mk, if_neg (fun z => by omega), qi_i, if_pos ⟨rfl, rfl, rfl⟩]
      rfl
    · rw [qg_i, qg_g, if_neg (fun z => by omega), qg_g, if_pos ⟨rfl, rfl, rfl⟩]
    · rw [qn_i, qn_g, qn_g, qn_mk]
      exact if_pos rfl
    · have j0 : j = 0 := by have : j < 1 := hj; omega
      rw [qg_i, qg_g, if_pos ⟨rfl, j0, rfl⟩, j0]
      rfl
    · exact (((((FRM.rf (S := S)).i (Nat.le_refl a)).mk (s := 24) (l := 10) (Nat.le_of_lt ha)).g (Nat.le_refl a)).g (Nat.le_of_lt ha)).i (Nat.le_refl a)
  · refine ⟨qu_i (qu_g (qu_i S 23 a 2 (nI (l.length + 1))) 24 v l.length (p + 229)) 23 a 1 (nI (l.length + 1)), ?_, ⟨?_, ?_, Or.inr ⟨v, v1, v2, v3, ?_, v5, fun j hj => ?_⟩⟩, ?_, Nat.le_succ _, Nat.le_add_right _ _, rfl⟩
    · rw [q1563_0 hF, v4, bl0 (by omega), h1, h2, z_1, q1564_0 hF, bl_k v1]
      show qm_k (if nI l.length = nI (qr_n S v) then _ else bif pm_ib (nI l.length) (qr_n S v) then _ else _) _ = _
      rw [v5, if_neg (fun z => by have := (nI_eq (by omega) (by omega)).mp z; omega), z_ib (by omega) (by omega), z_cl (by omega), z_1]
      show F 1563 23 [some (.inr (23, a)), some (.inr (25, p + 229))] [] _ = _
      rw [q1563_23 hF]
    · rw [qi_i, if_pos ⟨rfl, rfl, rfl⟩, len1]
    · rw [qi_i, if_neg (fun z => by omega), qi_g, qi_i, if_pos ⟨rfl, rfl, rfl⟩, len1]
    · rw [qg_i, qg_g, if_neg (fun z => by omega)]
      exact v4
    · rw [len1] at hj
      rw [qg_i, qg_g]
      by_cases z : j = l.length
      · rw [if_pos ⟨rfl, z, rfl⟩, z, gD_e]
      · rw [if_neg (fun y => z y.2.1), gD_l (by omega)]
        exact v6 j (by omega)
    · exact (((FRM.rf (S := S)).i (Nat.le_refl a)).g (Nat.le_of_lt v2)).i (Nat.le_refl a)
/-- those of a set -/
def MB (r p : Nat) : List Nat := (List.range p).filter (fun i => r.testBit i)
theorem MB_s {r p : Nat} : MB r (p + 1) = if r.testBit p = true then MB r p ++ [p] else MB r p := by
  have e : [p].filter (fun i => r.testBit i) = if r.testBit p = true then [p] else [] := by rw [List.filter_cons]; rfl
  unfold MB
  rw [List.range_succ, List.filter_append, e]
  split
  · rfl
  · rw [List.append_nil]
theorem MB_len (r p : Nat) : (MB r p).length ≤ p := by
  unfold MB
  have := List.length_filter_le (fun i => r.testBit i) (List.range p)
  rw [List.length_range] at this
  exact this
theorem MB_in {r p i : Nat} (hi : i < (MB r p).length) : (MB r p).getD i 0 < p ∧ r.testBit ((MB r p).getD i 0) = true := by
  have hm : (MB r p).getD i 0 ∈ MB r p := by
    rw [List.getD_eq_getElem?_getD, List.getElem?_eq_getElem hi]
    exact List.getElem_mem hi
  generalize (MB r p).getD i 0 = k at hm
  unfold MB at hm
  rw [List.mem_filter, List.mem_range] at hm
  exact hm
theorem val_i : ∀ p, p < 100 → nI p + 128 = nI (p + 128) := fun p _ => nI_add p 128
theorem j_of10 (hF : qm_fix O qt_me qt_qs (qt_C L0 xs) J F) {y r P a : Nat} (h4 : P ≤ 4) (hr : r < 16) (ha : 1001 ≤ a) (hy : y < a) : ∀ (d p : Nat) (S : qm_S), p + d = P → qr_i S 1 y 0 = nI P → a < S.1 → ALS S a (MB r p) → ∃ S', F 1204 10 [some (.inr (1, y)), some (.inl (nI r)), some (.inr (23, a)), some (.inl (nI p))] [] S = some (some (.inr (23, a)), S') ∧ ALS S' a (MB r P) ∧ FRM a S S' ∧ S'.1 ≤ S.1 + d ∧ S'.2.1 ≤ S.2.1 + 10 * d ∧ S'.2.2.2.2.2.2 = S.2.2.2.2.2.2 := by
  intro d
  induction d with
  | zero =>
    intro p S pd hP hS A
    have pq : p = P := by omega
    subst pq
    rw [q1204_10 hF, hP, if_neg (by rw [z_lt (by omega) (by omega)]; omega)]
    exact ⟨S, rfl, A, FRM.rf, by omega, by omega, rfl⟩
  | succ d ih =>
    intro p S pd hP hS A
    have ml := MB_len r p
    rw [q1204_10 hF, hP, if_pos (by rw [z_lt (by omega) (by omega)]; omega), tb_shr r hr p (by omega)]
    cases tb : r.testBit p with
    | false =>
      have e : MB r (p + 1) = MB r p := by rw [MB_s, tb, if_neg (by decide)]
      obtain ⟨S', i1, i2, i3, i4, i5, i6⟩ := ih (p + 1) S (by omega) hP hS (by rw [e]; exact A)
      rw [if_neg (by decide), z_1]
      exact ⟨S', i1, i2, i3, by omega, by omega, i6⟩
    | true =>
      have e : MB r (p + 1) = MB r p ++ [p] := by rw [MB_s, tb, if_pos rfl]
      obtain ⟨S1, a1, a2, a3, a4, a5, a6⟩ := j_add hF (p := p) A (by omega) hS (by omega)
      have f := a3.2.2.2.1
      obtain ⟨S', i1, i2, i3, i4, i5, i6⟩ := ih (p + 1) S1 (by omega) ((a3.1 1 y 0 hy).trans hP) (by omega) (by rw [e]; exact a2)
      have vv : ∀ p, p < 5 → ¬ nI p < -128 ∧ nI p ≤ 127 ∧ pm_ib (nI p + 128) 256 = true ∧ Int32.toNatClampNeg (nI p + 128) + 101 = p + 229 := by decide +kernel
      obtain ⟨u1, u2, u3, u4⟩ := vv p (by omega)
      rw [if_pos (by decide), q1560_0 hF, if_neg u1, if_pos u2, show qt_cn L0 26 3 = 256 from rfl, u3, u4]
      show ∃ S', F 1204 32 [some (.inr (1, y)), some (.inl (nI r)), some (.inr (23, a)), some (.inl (nI p))] [.inr (25, p + 229), .inr (23, a)] S = _ ∧ _
      rw [q1204_32 hF, a1]
      simp only [qm_k_n, Option.toList_some, Option.toList_none, List.cons_append, List.nil_append, List.append_nil]
      rw [q1204_37 hF, z_1]
      exact ⟨S', i1, i2, a3.tr i3, by omega, by omega, i6.trans a6⟩
theorem j_of (hF : qm_fix O qt_me qt_qs (qt_C L0 xs) J F) {y r P : Nat} (h4 : P ≤ 4) (hr : r < 16) (hS : 1001 ≤ S.1) (hy : y < S.1) (hP : qr_i S 1 y 0 = nI P) : ∃ S', F 1204 0 [some (.inr (1, y)), some (.inl (nI r)), none, none] [] S = some (some (.inr (23, S.1)), S') ∧ ALS S' S.1 (MB r P) ∧ FRM S.1 S S' ∧ S'.1 ≤ S.1 + 5 ∧ S.1 < S'.1 ∧ S'.2.1 ≤ S.2.1 + 43 ∧ S'.2.2.2.2.2.2 = S.2.2.2.2.2.2 := by
  have fr : FRM S.1 S (qu_g (qu_i (qm_mk S 23 3) 23 S.1 2 0) 23 S.1 0 2) := (((FRM.rf (S := S)).mk (s := 23) (l := 3) (Nat.le_refl _)).i (Nat.le_refl _)).g (Nat.le_refl _)
  obtain ⟨S', i1, i2, i3, i4, i5, i6⟩ := j_of10 hF h4 hr hS hy P 0 (qu_g (qu_i (qm_mk S 23 3) 23 S.1 2 0) 23 S.1 0 2) (by omega) ((fr.1 1 y 0 hy).trans hP) (Nat.lt_succ_self _) ⟨by rw [qi_g, qi_i, if_neg (fun z => by omega), qi_mk, if_pos ⟨rfl, rfl⟩]; rfl, by rw [qi_g, qi_i, if_pos ⟨rfl, rfl, rfl⟩]; rfl, Or.inl ⟨rfl, by rw [qg_g, if_pos ⟨rfl, rfl, rfl⟩]⟩⟩
  have n1 : (qu_g (qu_i (qm_mk S 23 3) 23 S.1 2 0) 23 S.1 0 2).1 = S.1 + 1 := rfl
  have n2 : (qu_g (qu_i (qm_mk S 23 3) 23 S.1 2 0) 23 S.1 0 2).2.1 = S.2.1 + 3 := rfl
  have n3 := i3.2.2.2.1
  rw [q1204_0 hF, q1557_0 hF, q1558_0 hF, q1559_0 hF]
  simp only [qm_k_n, Option.toList_some, Option.toList_none, List.cons_append, List.nil_append, List.append_nil]
  rw [q1558_4 hF]
  simp only [qm_k_n, Option.toList_some, Option.toList_none, List.cons_append, List.nil_append, List.append_nil]
  rw [q1557_4 hF]
  simp only [qm_k_n, Option.toList_some, Option.toList_none, List.cons_append, List.nil_append, List.append_nil]
  rw [q1204_7 hF]
  exact ⟨S', i1, i2, fr.tr i3, by omega, by omega, by omega, i6⟩
/-- going through them -/
def ITS (S : qm_S) (t a : Nat) (l : List Nat) (i : Nat) : Prop := ALS S a l ∧ 0 < a ∧ qr_g S 27 t 3 = a ∧ qr_i S 27 t 0 = nI i ∧ qr_i S 27 t 2 = nI l.length
theorem j_iter (hF : qm_fix O qt_me qt_qs (qt_C L0 xs) J F) {a : Nat} {l : List Nat} (A : ALS S a l) (a0 : 0 < a) (hS : a < S.1) : ∃ S', F 1569 0 [some (.inr (23, a))] [] S = some (some (.inr (27, S.1)), S') ∧ ITS S' S.1 a l 0 ∧ FRM S.1 S S' ∧ S'.1 = S.1 + 1 ∧ S'.2.1 = S.2.1 + 4 ∧ S'.2.2.2.2.2.2 = S.2.2.2.2.2.2 := by
  obtain ⟨h1, h2, h3⟩ := A
  have e3 : qr_g (qu_g (qm_mk S 27 4) 27 S.1 3 a) 27 S.1 3 = a := by rw [qg_g, if_pos ⟨rfl, rfl, rfl⟩]
  have e2 : qr_i (qm_mk S 27 4) 23 a 2 = nI l.length := by rw [qi_mk, if_neg (fun z => by omega)]; exact h2
  refine ⟨qu_i (qu_i (qu_g (qm_mk S 27 4) 27 S.1 3 a) 27 S.1 1 (-1)) 27 S.1 2 (nI l.length), ?_, ⟨⟨?_, ?_, ?_⟩, a0, ?_, ?_, ?_⟩, ?_, rfl, rfl, rfl⟩
  · rw [q1569_0 hF, q1570_0 hF, e3, bl0 a0, e2]
    show F 1569 8 [some (.inr (23, a))] [.inr (27, S.1)] _ = _
    rw [q1569_8 hF]
  · rw [qi_i, if_neg (fun z => by omega), qi_i, if_neg (fun z => by omega), qi_g, qi_mk, if_neg (fun z => by omega)]; exact h1
  · rw [qi_i, if_neg (fun z => by omega), qi_i, if_neg (fun z => by omega), qi_g, qi_mk, if_neg (fun z => by omega)]; exact h2
  · rcases h3 with ⟨h3, h4⟩ | ⟨v, v1, v2, v3, v4, v5, v6⟩
    · exact Or.inl ⟨h3, by rw [qg_i, qg_i, qg_g, if_neg (fun z => by omega), qg_mk, if_neg (fun z => by omega)]; exact h4⟩
    · exact Or.inr ⟨v, v1, v2, Nat.lt_succ_of_lt v3, by rw [qg_i, qg_i, qg_g, if_neg (fun z => by omega), qg_mk, if_neg (fun z => by omega)]; exact v4, by rw [qn_i, qn_i, qn_g, qn_mk, if_neg (by omega)]; exact v5, fun j hj => by rw [qg_i, qg_i, qg_g, if_neg (fun z => by omega), qg_mk, if_neg (fun z => by omega)]; exact v6 j hj⟩
  · rw [qg_i, qg_i, qg_g, if_pos ⟨rfl, rfl, rfl⟩]
  · rw [qi_i, if_neg (fun z => by omega), qi_i, if_neg (fun z => by omega), qi_g, qi_mk, if_pos ⟨rfl, rfl⟩]; rfl
  · rw [qi_i, if_pos ⟨rfl, rfl, rfl⟩]
  · exact ((((FRM.rf (S := S)).mk (s := 27) (l := 4) (Nat.le_refl _)).g (Nat.le_refl _)).i (Nat.le_refl _)).i (Nat.le_refl _)
theorem j_hasNext (hF : qm_fix O qt_me qt_qs (qt_C L0 xs) J F) {t a i : Nat} {l : List Nat} (T : ITS S t a l i) (hl : l.length < 100) (hi : i ≤ l.length) : F 1571 0 [some (.inr (27, t))] [] S = some (some (.inl (if i = l.length then 0 else 1)), S) := by
  obtain ⟨⟨h1, h2, h3⟩, a0, t1, t2, t3⟩ := T
  rw [q1571_0 hF, t1, bl0 a0, t2, h1]
  by_cases e : i = l.length
  · rw [if_pos e, if_pos (by rw [e])]
    rfl
  · rw [if_neg e, if_neg (fun z => e ((nI_eq (by omega) (by omega)).mp z))]
    rfl
theorem j_next27 (hF : qm_fix O qt_me qt_qs (qt_C L0 xs) J F) {t a i : Nat} {l : List Nat} (T : ITS S t a l i) (hl : l.length < 9) (hi : i < l.length) : ∃ S', F 1572 0 [some (.inr (27, t)), none, none] [] S = some (some (.inr (25, l.getD i 0 + 229)), S') ∧ ITS S' t a l (i + 1) ∧ FRM t S S' ∧ S'.1 = S.1 ∧ S'.2.1 = S.2.1 ∧ S'.2.2.2.2.2.2 = S.2.2.2.2.2.2 := by
  obtain ⟨⟨h1, h2, h3⟩, a0, t1, t2, t3⟩ := T
  rcases h3 with ⟨h3, h4⟩ | ⟨v, v1, v2, v3, v4, v5, v6⟩
  · rw [h3] at hi
    exact absurd hi (Nat.not_lt_zero _)
  · refine ⟨qu_i (qu_i S 27 t 0 (nI (i + 1))) 27 t 1 (nI i), ?_, ⟨⟨?_, ?_, Or.inr ⟨v, v1, v2, v3, v4, v5, v6⟩⟩, a0, t1, ?_, ?_⟩, ((FRM.rf (S := S)).i (Nat.le_refl _)).i (Nat.le_refl _), rfl, rfl, rfl⟩
    · rw [q1572_0 hF, q1573_0 hF, t1, bl0 a0, h2, t3, if_pos rfl]
      show F 1572 4 [some (.inr (27, t)), none, none] [] S = _
      rw [q1572_4 hF, t1, bl0 a0, t2, h1, if_pos (by rw [z_lt (by omega) (by omega)]; exact hi), v4, bl0 (by omega), bl_k v1, v5]
      show (if nI i < nI 10 then bif pm_ib (nI i) 10 && Nat.blt 0 (qr_g S 24 v (Int32.toNatClampNeg (nI i))) then _ else _ else _) = _
      rw [if_pos (by rw [z_lt (by omega) (by omega)]; omega), z_ib (by omega) (by omega), z_cl (by omega), v6 i hi, bl0 (by omega), z_1]
      rfl
    · rw [qi_i, if_neg (fun z => by omega), qi_i, if_neg (fun z => by omega)]; exact h1
    · rw [qi_i, if_neg (fun z => by omega), qi_i, if_neg (fun z => by omega)]; exact h2
    · rw [qi_i, if_neg (fun z => by omega), qi_i, if_pos ⟨rfl, rfl, rfl⟩]
    · rw [qi_i, if_neg (fun z => by omega), qi_i, if_neg (fun z => by omega)]; exact t3
theorem j_iv (hF : qm_fix O qt_me qt_qs (qt_C L0 xs) J F) {p : Nat} (hp : p < 5) : F 1574 0 [some (.inr (25, p + 229))] [] S = some (some (.inl (nI p)), S) := by
  have vv : ∀ p, p < 5 → nI (p + 229 - 101) - 128 = nI p := by decide +kernel
  rw [q1574_0 hF]
  exact congrArg (fun v => some (some (Sum.inl v), S)) (vv p hp)
end
