/-! ===== the grown text, read whole ===== -/
section
variable {n : Nat} {b : Nat → Nat}
def npf (P st p : Nat) : Nat := if st < 5 then 0 else if st = 5 then p else P
def nof (Q st o : Nat) : Nat := if st < 4 then 0 else if st = 4 then o else Q
def fgA (st k : Nat) : Prop := (k = 0 ∧ st ≤ 0) ∨ (k = 2 ∧ st ≤ 1) ∨ (k = 3 ∧ st ≤ 2) ∨ (k = 4 ∧ st ≤ 3) ∨ (k = 1 ∧ st ≤ 9)
def tT9 (st p o x y : Nat) : Prop := y < 8 ∧ (st < 6 ∨ (st = 6 ∧ (p < x ∨ (p = x ∧ o ≤ y))))
def tT10 (st p o x y : Nat) : Prop := y < 8 ∧ (st < 7 ∨ (st = 7 ∧ (p < x ∨ (p = x ∧ o ≤ y))))
def IVs (P Q st p o : Nat) (n : Nat) (b : Nat → Nat) (d : Nat → Nat → Nat) : Prop := IV (npf P st p) (nof Q st o) (fgA st) (tT9 st p o) (tT10 st p o) n b d
def RD (P Q st p o : Nat) (ls : List LN) : Prop := ∀ (rest : List Nat) (n : Nat) (b : Nat → Nat), n ≤ 900 → RM n b 0 (TXT ls ++ rest) → isB (rest.getD 0 256) = false → ∃ d, rdn n b ls.length = ((TXT ls).length, 0, d) ∧ IVs P Q st p o n b d
theorem lstep {ls : List LN} {l : LN} {d d' : Nat → Nat → Nat} {q' : Nat} {rest : List Nat} (hh : RM n b 0 (TXT ls ++ (ltx l ++ rest))) (e : rdn n b ls.length = ((TXT ls).length, 0, d)) (k : kd n b (TXT ls).length = 1) (li : lin n b d (TXT ls).length = (q', 0, d')) (r : RM n b q' rest) : rdn n b (ls ++ [l]).length = ((TXT (ls ++ [l])).length, 0, d') := by
  have h1 := hh.1
  have h2 := r.1
  rw [List.length_append, List.length_append] at h1
  have e1 : (ls ++ [l]).length = ls.length + 1 := by rw [List.length_append]; rfl
  have e2 : rdn n b (ls.length + 1) = rd1 n b (rdn n b ls.length) := rfl
  rw [e1, e2, e, TXT_add, List.length_append]
  unfold rd1
  rw [if_pos ⟨rfl, by show kd n b (TXT ls).length ≠ 0; rw [k]; decide⟩]
  show lin n b d (TXT ls).length = _
  rw [li, show q' = (TXT ls).length + (ltx l).length by omega]
theorem RD.line {P Q st p o st' p' o' : Nat} {ls : List LN} {l : LN} (h : RD P Q st p o ls) (hb : ∀ rest, isB ((ltx l ++ rest).getD 0 256) = false) (hl : ∀ (rest : List Nat) (n : Nat) (b : Nat → Nat) (q : Nat) (d : Nat → Nat → Nat), n ≤ 900 → RM n b q (ltx l ++ rest) → isB (rest.getD 0 256) = false → IVs P Q st p o n b d → ∃ q' d', kd n b q = 1 ∧ lin n b d q = (q', 0, d') ∧ RM n b q' rest ∧ IVs P Q st' p' o' n b d') : RD P Q st' p' o' (ls ++ [l]) := by
  intro rest n b hn hR hr
  have hh : RM n b 0 (TXT ls ++ (ltx l ++ rest)) := by rw [TXT_add, List.append_assoc] at hR; exact hR
  obtain ⟨d, e, V⟩ := h (ltx l ++ rest) n b hn hh (hb rest)
  have h2 : RM n b (TXT ls).length (ltx l ++ rest) := by have := hh.skip; rw [Nat.zero_add] at this; exact this
  obtain ⟨q', d', k, li, r, V'⟩ := hl rest n b _ d hn h2 hr V
  exact ⟨d', lstep hh e k li r, V'⟩
theorem RD.same {P Q st p o st' p' o' : Nat} {ls : List LN} (h : RD P Q st p o ls) (e1 : npf P st' p' = npf P st p) (e2 : nof Q st' o' = nof Q st o) (a : ∀ k, fgA st' k → fgA st k) (t : ∀ x y, tT9 st' p' o' x y → tT9 st p o x y) (s : ∀ x y, tT10 st' p' o' x y → tT10 st p o x y) : RD P Q st' p' o' ls := by
  intro rest n b hn hR hr
  obtain ⟨d, e, V⟩ := h rest n b hn hR hr
  refine ⟨d, e, ?_⟩
  unfold IVs
  rw [e1, e2]
  exact V.mono a t s
theorem d00_IV : IV 0 0 (fgA 0) (tT9 0 0 0) (tT10 0 0 0) n b d00 :=
  ⟨rfl, rfl, fun k _ _ => Nat.zero_testBit k, by decide, fun p hp => absurd hp (Nat.not_lt_zero _), fun p hp => absurd hp (Nat.not_lt_zero _), fun x y _ => Nat.zero_testBit y, fun x y _ => Nat.zero_testBit y, fun x => ⟨by show 0 < 256; decide, by show 0 < 256; decide⟩⟩
theorem RD.start {P Q : Nat} : RD P Q 0 0 0 [] := by
  intro rest n b hn hR hr
  refine ⟨d00, ?_, d00_IV⟩
  have e : rdn n b 0 = (skp n b 0, 0, d00) := rfl
  show rdn n b 0 = (0, 0, d00)
  rw [e]
  unfold skp
  rw [rn_w (u := []) hR hn rfl hr]
  rfl
theorem GT.read {P Q st p o : Nat} (hP : P ≤ 4) (hQ : Q ≤ 5) {ls : List LN} (h : GT P Q st p o ls) : RD P Q st p o ls := by
  obtain ⟨v0, v1, v2, v3, v4, v5, v6, v7, v8, v9, v10, v11, v12, v13, v14, v15, v16⟩ := sn_v
  refine h (fun st p o ls => RD P Q st p o ls) ⟨?_, ?_, ?_, ?_, ?_, ?_, ?_, ?_, ?_, ?_, ?_, ?_, ?_, ?_, ?_, ?_, ?_, ?_, ?_, ?_, ?_, ?_, ?_, ?_, ?_, ?_⟩
  · exact RD.start
  · intro ls  ih 
    exact ih.same rfl rfl (fun k z => by unfold fgA at *; omega) (fun x y z => by unfold tT9 at *; omega) (fun x y z => by unfold tT10 at *; omega)
  · intro ls f s ih h0 h1
    refine ih.line (fun rest => by simp only [ltx, v0, v1, v2, v3, v4, v5, v6, v7, v8, v9, v10, v11, v12, v13, v14, v15, v16, List.append_assoc, List.cons_append, List.nil_append]; rfl) (fun rest n b q d hn h2 hr V => ?_)
    obtain ⟨q', d', k, li, r, V'⟩ := LN_divisors (np := npf P 0 0) (no := nof Q 0 0) (A := fgA 0) (T9 := tT9 0 0 0) (T10 := tT10 0 0 0) h2 hr hn V (by show 0 ≤ 6; omega) (by show 0 ≤ 7; omega) (by unfold fgA; omega) h0 h1
    exact ⟨q', d', k, li, r, V'.mono (fun k z => by unfold fgA at *; omega) (fun x y z => by unfold tT9 at *; omega) (fun x y z => by unfold tT10 at *; omega)⟩
  · intro ls  ih 
    exact ih.same rfl rfl (fun k z => by unfold fgA at *; omega) (fun x y z => by unfold tT9 at *; omega) (fun x y z => by unfold tT10 at *; omega)
  · intro ls c ih h0
    refine ih.line (fun rest => by simp only [ltx, v0, v1, v2, v3, v4, v5, v6, v7, v8, v9, v10, v11, v12, v13, v14, v15, v16, List.append_assoc, List.cons_append, List.nil_append]; rfl) (fun rest n b q d hn h2 hr V => ?_)
    obtain ⟨q', d', k, li, r, V'⟩ := LN_care (np := npf P 1 0) (no := nof Q 1 0) (A := fgA 1) (T9 := tT9 1 0 0) (T10 := tT10 1 0 0) h2 hr hn V (by show 0 ≤ 6; omega) (by show 0 ≤ 7; omega) (by unfold fgA; omega) h0
    exact ⟨q', d', k, li, r, V'.mono (fun k z => by unfold fgA at *; omega) (fun x y z => by unfold tT9 at *; omega) (fun x y z => by unfold tT10 at *; omega)⟩
  · intro ls  ih 
    exact ih.same rfl rfl (fun k z => by unfold fgA at *; omega) (fun x y z => by unfold tT9 at *; omega) (fun x y z => by unfold tT10 at *; omega)
  · intro ls c ih h0
    refine ih.line (fun rest => by simp only [ltx, v0, v1, v2, v3, v4, v5, v6, v7, v8, v9, v10, v11, v12, v13, v14, v15, v16, List.append_assoc, List.cons_append, List.nil_append]; rfl) (fun rest n b q d hn h2 hr V => ?_)
    obtain ⟨q', d', k, li, r, V'⟩ := LN_tries (np := npf P 2 0) (no := nof Q 2 0) (A := fgA 2) (T9 := tT9 2 0 0) (T10 := tT10 2 0 0) h2 hr hn V (by show 0 ≤ 6; omega) (by show 0 ≤ 7; omega) (by unfold fgA; omega) h0
    exact ⟨q', d', k, li, r, V'.mono (fun k z => by unfold fgA at *; omega) (fun x y z => by unfold tT9 at *; omega) (fun x y z => by unfold tT10 at *; omega)⟩
  · intro ls  ih 
    exact ih.same rfl rfl (fun k z => by unfold fgA at *; omega) (fun x y z => by unfold tT9 at *; omega) (fun x y z => by unfold tT10 at *; omega)
  · intro ls c ih h0
    refine ih.line (fun rest => by simp only [ltx, v0, v1, v2, v3, v4, v5, v6, v7, v8, v9, v10, v11, v12, v13, v14, v15, v16, List.append_assoc, List.cons_append, List.nil_append]; rfl) (fun rest n b q d hn h2 hr V => ?_)
    obtain ⟨q', d', k, li, r, V'⟩ := LN_tire (np := npf P 3 0) (no := nof Q 3 0) (A := fgA 3) (T9 := tT9 3 0 0) (T10 := tT10 3 0 0) h2 hr hn V (by show 0 ≤ 6; omega) (by show 0 ≤ 7; omega) (by unfold fgA; omega) h0
    exact ⟨q', d', k, li, r, V'.mono (fun k z => by unfold fgA at *; omega) (fun x y z => by unfold tT9 at *; omega) (fun x y z => by unfold tT10 at *; omega)⟩
  · intro ls o ih h0
    refine ih.line (fun rest => by simp only [ltx, v0, v1, v2, v3, v4, v5, v6, v7, v8, v9, v10, v11, v12, v13, v14, v15, v16, List.append_assoc, List.cons_append, List.nil_append]; rfl) (fun rest n b q d hn h2 hr V => ?_)
    obtain ⟨q', d', k, li, r, V'⟩ := LN_office (np := npf P 4 0) (no := nof Q 4 o) (A := fgA 4) (T9 := tT9 4 0 o) (T10 := tT10 4 0 o) h2 hr hn V (by show 0 ≤ 6; omega) (by show o ≤ 7; omega)
    exact ⟨q', d', k, li, r, V'.mono (fun k z => by unfold fgA at *; omega) (fun x y z => by unfold tT9 at *; omega) (fun x y z => by unfold tT10 at *; omega)⟩
  · intro ls  ih 
    exact ih.same rfl rfl (fun k z => by unfold fgA at *; omega) (fun x y z => by unfold tT9 at *; omega) (fun x y z => by unfold tT10 at *; omega)
  · intro ls p s a ih h0 h1 h2'
    refine ih.line (fun rest => by simp only [ltx, v0, v1, v2, v3, v4, v5, v6, v7, v8, v9, v10, v11, v12, v13, v14, v15, v16, List.append_assoc, List.cons_append, List.nil_append]; rfl) (fun rest n b q d hn h2 hr V => ?_)
    obtain ⟨q', d', k, li, r, V'⟩ := LN_party (np := npf P 5 p) (no := nof Q 5 0) (A := fgA 5) (T9 := tT9 5 p 0) (T10 := tT10 5 p 0) h2 hr hn V (by show p ≤ 6; omega) (by show Q ≤ 7; omega) h1 h2'
    exact ⟨q', d', k, li, r, V'.mono (fun k z => by unfold fgA at *; omega) (fun x y z => by unfold tT9 at *; omega) (fun x y z => by unfold tT10 at *; omega)⟩
  · intro ls p s a y ih h0 h1 h2' h3
    refine ih.line (fun rest => by simp only [ltx, v0, v1, v2, v3, v4, v5, v6, v7, v8, v9, v10, v11, v12, v13, v14, v15, v16, List.append_assoc, List.cons_append, List.nil_append]; rfl) (fun rest n b q d hn h2 hr V => ?_)
    obtain ⟨q', d', k, li, r, V'⟩ := LN_partyw (np := npf P 5 p) (no := nof Q 5 0) (A := fgA 5) (T9 := tT9 5 p 0) (T10 := tT10 5 p 0) h2 hr hn V (by show p ≤ 6; omega) (by show Q ≤ 7; omega) h1 h2' h3
    exact ⟨q', d', k, li, r, V'.mono (fun k z => by unfold fgA at *; omega) (fun x y z => by unfold tT9 at *; omega) (fun x y z => by unfold tT10 at *; omega)⟩
  · intro ls  ih 
    exact ih.same rfl rfl (fun k z => by unfold fgA at *; omega) (fun x y z => by unfold tT9 at *; omega) (fun x y z => by unfold tT10 at *; omega)
  · intro ls p o ih h0 h1
    exact ih.same rfl rfl (fun k z => by unfold fgA at *; omega) (fun x y z => by unfold tT9 at *; omega) (fun x y z => by unfold tT10 at *; omega)
  · intro ls p o c ih h0 h1 h3
    refine ih.line (fun rest => by simp only [ltx, v0, v1, v2, v3, v4, v5, v6, v7, v8, v9, v10, v11, v12, v13, v14, v15, v16, List.append_assoc, List.cons_append, List.nil_append]; rfl) (fun rest n b q d hn h2 hr V => ?_)
    obtain ⟨q', d', k, li, r, V'⟩ := LN_worth (np := npf P 6 p) (no := nof Q 6 o) (A := fgA 6) (T9 := tT9 6 p o) (T10 := tT10 6 p o) h2 hr hn V (by show P ≤ 6; omega) (by show Q ≤ 7; omega) h0 h1 (by unfold tT9; omega) h3
    exact ⟨q', d', k, li, r, V'.mono (fun k z => by unfold fgA at *; omega) (fun x y z => by unfold tT9 at *; omega) (fun x y z => by unfold tT10 at *; omega)⟩
  · intro ls p ih h0
    exact ih.same rfl rfl (fun k z => by unfold fgA at *; omega) (fun x y z => by unfold tT9 at *; omega) (fun x y z => by unfold tT10 at *; omega)
  · intro ls  ih 
    exact ih.same rfl rfl (fun k z => by unfold fgA at *; omega) (fun x y z => by unfold tT9 at *; omega) (fun x y z => by unfold tT10 at *; omega)
  · intro ls p o ih h0 h1
    exact ih.same rfl rfl (fun k z => by unfold fgA at *; omega) (fun x y z => by unfold tT9 at *; omega) (fun x y z => by unfold tT10 at *; omega)
  · intro ls p o c ih h0 h1 h3
    refine ih.line (fun rest => by simp only [ltx, v0, v1, v2, v3, v4, v5, v6, v7, v8, v9, v10, v11, v12, v13, v14, v15, v16, List.append_assoc, List.cons_append, List.nil_append]; rfl) (fun rest n b q d hn h2 hr V => ?_)
    obtain ⟨q', d', k, li, r, V'⟩ := LN_stance (np := npf P 7 p) (no := nof Q 7 o) (A := fgA 7) (T9 := tT9 7 p o) (T10 := tT10 7 p o) h2 hr hn V (by show P ≤ 6; omega) (by show Q ≤ 7; omega) h0 h1 (by unfold tT10; omega) h3
    exact ⟨q', d', k, li, r, V'.mono (fun k z => by unfold fgA at *; omega) (fun x y z => by unfold tT9 at *; omega) (fun x y z => by unfold tT10 at *; omega)⟩
  · intro ls p ih h0
    exact ih.same rfl rfl (fun k z => by unfold fgA at *; omega) (fun x y z => by unfold tT9 at *; omega) (fun x y z => by unfold tT10 at *; omega)
  · intro ls  ih 
    exact ih.same rfl rfl (fun k z => by unfold fgA at *; omega) (fun x y z => by unfold tT9 at *; omega) (fun x y z => by unfold tT10 at *; omega)
  · intro ls c p q0 ih h0 h1 h3 h4
    refine ih.line (fun rest => by simp only [ltx, v0, v1, v2, v3, v4, v5, v6, v7, v8, v9, v10, v11, v12, v13, v14, v15, v16, List.append_assoc, List.cons_append, List.nil_append]; rfl) (fun rest n b q d hn h2 hr V => ?_)
    obtain ⟨q', d', k, li, r, V'⟩ := LN_bar (np := npf P 8 c) (no := nof Q 8 0) (A := fgA 8) (T9 := tT9 8 c 0) (T10 := tT10 8 c 0) h2 hr hn V (by show P ≤ 6; omega) (by show Q ≤ 7; omega) h1 h3 h4
    exact ⟨q', d', k, li, r, V'.mono (fun k z => by unfold fgA at *; omega) (fun x y z => by unfold tT9 at *; omega) (fun x y z => by unfold tT10 at *; omega)⟩
  · intro ls c ih 
    exact ih.same rfl rfl (fun k z => by unfold fgA at *; omega) (fun x y z => by unfold tT9 at *; omega) (fun x y z => by unfold tT10 at *; omega)
  · intro ls  ih 
    exact ih.same rfl rfl (fun k z => by unfold fgA at *; omega) (fun x y z => by unfold tT9 at *; omega) (fun x y z => by unfold tT10 at *; omega)
  · intro ls c ih h0
    refine ih.line (fun rest => by simp only [ltx, v0, v1, v2, v3, v4, v5, v6, v7, v8, v9, v10, v11, v12, v13, v14, v15, v16, List.append_assoc, List.cons_append, List.nil_append]; rfl) (fun rest n b q d hn h2 hr V => ?_)
    obtain ⟨q', d', k, li, r, V'⟩ := LN_need (np := npf P 9 0) (no := nof Q 9 0) (A := fgA 9) (T9 := tT9 9 0 0) (T10 := tT10 9 0 0) h2 hr hn V (by show P ≤ 6; omega) (by show Q ≤ 7; omega) (by unfold fgA; omega) h0
    exact ⟨q', d', k, li, r, V'.mono (fun k z => by unfold fgA at *; omega) (fun x y z => by unfold tT9 at *; omega) (fun x y z => by unfold tT10 at *; omega)⟩
theorem cb_of {t : List Nat} (hn : n = t.length) (hb : ∀ i, i < t.length → b i = t.getD i 0) : RM n b 0 t := by
  refine ⟨by omega, fun i => ?_⟩
  rw [Nat.zero_add]
  unfold cb
  by_cases c : i < n
  · rw [if_pos c, hb i (by omega), List.getD_eq_getElem?_getD, List.getD_eq_getElem?_getD, List.getElem?_eq_getElem (by omega)]
    rfl
  · rw [if_neg c, List.getD_eq_getElem?_getD, List.getElem?_eq_none (by omega)]
    rfl
theorem ltx_pos (l : LN) : 1 ≤ (ltx l).length := by
  obtain ⟨s0, s1, s2, s3, s4, s5, s6, s7, s8, s9, s10, s11, s12, s13, s14, s15, s16⟩ := sn_len
  unfold ltx
  split <;> simp only [List.length_append, s0, s2, s3, s4, s5, s6, s7, s11, s13, s14, s16] <;> omega
theorem TXT_len (ls : List LN) : ls.length ≤ (TXT ls).length := by
  induction ls with
  | nil => exact Nat.le_refl _
  | cons l ls ih =>
    have e : TXT (l :: ls) = ltx l ++ TXT ls := by unfold TXT; rw [List.flatMap_cons]
    rw [e, List.length_append, List.length_cons]
    have := ltx_pos l
    omega
/-- it has as many parties and offices as were grown -/
theorem GT.whole {P Q : Nat} (hP : P ≤ 4) (hQ : Q ≤ 5) {ls : List LN} (h : GT P Q 10 0 0 ls) (hl : (TXT ls).length ≤ 900) (hn : n = (TXT ls).length) (hb : ∀ i, i < (TXT ls).length → b i = (TXT ls).getD i 0) : (rdn n b 900).2.1 = 0 ∧ (rdn n b 900).2.2 0 0 = P ∧ (rdn n b 900).2.2 0 1 = Q := by
  have hR := cb_of hn hb
  obtain ⟨d, e, V⟩ := h.read hP hQ [] n b (by omega) (by rw [List.append_nil]; exact hR) rfl
  have le := TXT_len ls
  have k : kd n b (TXT ls).length = 0 := kd_0.mpr (by omega)
  have dn : rdn n b 900 = rdn n b ls.length := rdn_done (by omega) (by rw [e]; exact fun z => z.2 k)
  rw [dn, e]
  exact ⟨rfl, V.1, V.2.1⟩
end
