/-! ===== the law's machine: what its operations leave ===== -/
section
variable {S S' : qm_S} {O : qm_O} {F : qm_F} {J L0 : Nat} {xs : List Int32}
theorem qb_c {p : Prop} [Decidable p] {α : Type} {b : Bool} {x y : α} (h : (b = true) ↔ p) : (bif b then x else y) = if p then x else y := by
  cases b with
  | true => rw [if_pos (h.mp rfl)]; rfl
  | false => rw [if_neg (fun z => by cases h.mpr z)]; rfl
theorem qb_eq {a b : Nat} : (Nat.beq a b = true) ↔ a = b := ⟨Nat.eq_of_beq_eq_true, fun h => h ▸ Nat.beq_refl a⟩
theorem qi_i {s a k : Nat} {v : Int32} {t b j : Nat} : qr_i (qu_i S s a k v) t b j = if t = s ∧ j = k ∧ b = a then v else qr_i S t b j :=
  qb_c (by rw [Bool.and_eq_true, Bool.and_eq_true, qb_eq, qb_eq, qb_eq])
theorem qg_g {s a k v : Nat} {t b j : Nat} : qr_g (qu_g S s a k v) t b j = if t = s ∧ j = k ∧ b = a then v else qr_g S t b j :=
  qb_c (by rw [Bool.and_eq_true, Bool.and_eq_true, qb_eq, qb_eq, qb_eq])
theorem qi_mk {s w : Nat} {t b j : Nat} : qr_i (qm_mk S s w) t b j = if t = s ∧ b = S.1 then 0 else qr_i S t b j :=
  qb_c (by rw [Bool.and_eq_true, qb_eq, qb_eq])
theorem qg_mk {s w : Nat} {t b j : Nat} : qr_g (qm_mk S s w) t b j = if t = s ∧ b = S.1 then 0 else qr_g S t b j :=
  qb_c (by rw [Bool.and_eq_true, qb_eq, qb_eq])
theorem qn_mk {s w : Nat} {b : Nat} : qr_n (qm_mk S s w) b = if b = S.1 then w else qr_n S b :=
  qb_c qb_eq
theorem qi_cp {s a t b sp dp n : Nat} {x c j : Nat} : qr_i (qu_cp S s a t b sp dp n) x c j = if x = t ∧ c = b then (if dp ≤ j ∧ j < dp + n then qr_i S s a (sp + (j - dp)) else qr_i S t b j) else qr_i S x c j :=
  qb_c (by rw [Bool.and_eq_true, qb_eq, qb_eq])
theorem qi_ct {g : Nat → Int32} {t b sp dp n : Nat} {x c j : Nat} : qr_i (qu_ct g S t b sp dp n) x c j = if x = t ∧ c = b then (if dp ≤ j ∧ j < dp + n then g (sp + (j - dp)) else qr_i S t b j) else qr_i S x c j :=
  qb_c (by rw [Bool.and_eq_true, qb_eq, qb_eq])
theorem qi_c {s a : Nat} {x c j : Nat} : qr_i (qu_c S s a) x c j = if x = 15 ∧ c = S.1 then qr_i S s a j else qr_i S x c j :=
  qb_c (by rw [Bool.and_eq_true, qb_eq, qb_eq])
theorem qg_c {s a : Nat} {x c j : Nat} : qr_g (qu_c S s a) x c j = if x = 15 ∧ c = S.1 then 0 else qr_g S x c j :=
  qb_c (by rw [Bool.and_eq_true, qb_eq, qb_eq])
theorem qn_c {s a : Nat} {b : Nat} : qr_n (qu_c S s a) b = if b = S.1 then qr_n S a else qr_n S b :=
  qb_c qb_eq
theorem qi_mm {s t n k : Nat} {x b j : Nat} : qr_i (qm_mm S s t n k) x b j = if x = t ∧ S.1 < b ∧ b ≤ S.1 + n then 0 else qr_i S x b j :=
  qb_c (by rw [Bool.and_eq_true, Bool.and_eq_true, qb_eq, Nat.blt_eq, Nat.ble_eq])
theorem qg_mm {s t n k : Nat} {x b j : Nat} : qr_g (qm_mm S s t n k) x b j = if x = s ∧ b = S.1 then (if j < n then S.1 + 1 + j else 0) else qr_g S x b j := by
  show (bif Nat.beq x s && Nat.beq b S.1 then (bif Nat.blt j n then S.1 + 1 + j else 0) else qr_g S x b j) = _
  rw [qb_c (p := x = s ∧ b = S.1) (by rw [Bool.and_eq_true, qb_eq, qb_eq]), qb_c (p := j < n) (by rw [Nat.blt_eq])]
theorem qn_mm {s t n k : Nat} {b : Nat} : qr_n (qm_mm S s t n k) b = if S.1 < b ∧ b ≤ S.1 + n then k else if b = S.1 then n else qr_n S b := by
  show (bif Nat.blt S.1 b && Nat.ble b (S.1 + n) then k else (bif Nat.beq b S.1 then n else qr_n S b)) = _
  rw [qb_c (p := S.1 < b ∧ b ≤ S.1 + n) (by rw [Bool.and_eq_true, Nat.blt_eq, Nat.ble_eq]), qb_c (p := b = S.1) qb_eq]
/-- what is read elsewhere -/
theorem qg_i {s a k : Nat} {v : Int32} {t b j : Nat} : qr_g (qu_i S s a k v) t b j = qr_g S t b j := rfl
theorem qn_i {s a k : Nat} {v : Int32} {b : Nat} : qr_n (qu_i S s a k v) b = qr_n S b := rfl
theorem qi_g {s a k v : Nat} {t b j : Nat} : qr_i (qu_g S s a k v) t b j = qr_i S t b j := rfl
theorem qn_g {s a k v : Nat} {b : Nat} : qr_n (qu_g S s a k v) b = qr_n S b := rfl
theorem qg_cp {s a t b sp dp n : Nat} {x c j : Nat} : qr_g (qu_cp S s a t b sp dp n) x c j = qr_g S x c j := rfl
theorem qn_cp {s a t b sp dp n : Nat} {c : Nat} : qr_n (qu_cp S s a t b sp dp n) c = qr_n S c := rfl
theorem qg_ct {g : Nat → Int32} {t b sp dp n : Nat} {x c j : Nat} : qr_g (qu_ct g S t b sp dp n) x c j = qr_g S x c j := rfl
theorem qn_ct {g : Nat → Int32} {t b sp dp n : Nat} {c : Nat} : qr_n (qu_ct g S t b sp dp n) c = qr_n S c := rfl
/-- counts and the class -/
theorem q1_i {s a k : Nat} {v : Int32} : (qu_i S s a k v).1 = S.1 ∧ (qu_i S s a k v).2.1 = S.2.1 ∧ (qu_i S s a k v).2.2.2.2.2.2 = S.2.2.2.2.2.2 := ⟨rfl, rfl, rfl⟩
theorem q1_g {s a k v : Nat} : (qu_g S s a k v).1 = S.1 ∧ (qu_g S s a k v).2.1 = S.2.1 ∧ (qu_g S s a k v).2.2.2.2.2.2 = S.2.2.2.2.2.2 := ⟨rfl, rfl, rfl⟩
theorem q1_mk {s w : Nat} : (qm_mk S s w).1 = S.1 + 1 ∧ (qm_mk S s w).2.1 = S.2.1 + w ∧ (qm_mk S s w).2.2.2.2.2.2 = S.2.2.2.2.2.2 := ⟨rfl, rfl, rfl⟩
theorem q1_cp {s a t b sp dp n : Nat} : (qu_cp S s a t b sp dp n).1 = S.1 ∧ (qu_cp S s a t b sp dp n).2.1 = S.2.1 ∧ (qu_cp S s a t b sp dp n).2.2.2.2.2.2 = S.2.2.2.2.2.2 := ⟨rfl, rfl, rfl⟩
theorem q1_ct {g : Nat → Int32} {t b sp dp n : Nat} : (qu_ct g S t b sp dp n).1 = S.1 ∧ (qu_ct g S t b sp dp n).2.1 = S.2.1 ∧ (qu_ct g S t b sp dp n).2.2.2.2.2.2 = S.2.2.2.2.2.2 := ⟨rfl, rfl, rfl⟩
theorem q1_c {s a : Nat} : (qu_c S s a).1 = S.1 + 1 ∧ (qu_c S s a).2.1 = S.2.1 + qr_n S a ∧ (qu_c S s a).2.2.2.2.2.2 = S.2.2.2.2.2.2 := ⟨rfl, rfl, rfl⟩
theorem q1_mm {s t n k : Nat} : (qm_mm S s t n k).1 = S.1 + 1 + n ∧ (qm_mm S s t n k).2.1 = S.2.1 + (n + n * k) ∧ (qm_mm S s t n k).2.2.2.2.2.2 = S.2.2.2.2.2.2 := ⟨rfl, rfl, rfl⟩
/-- bytes -/
def qby (x : Int32) : Prop := x.toInt8.toInt32 = x
theorem qby_nar (x : Int32) : qby (vp_nar .byte x) := by
  show (vp_nar .byte x).toInt8.toInt32 = vp_nar .byte x
  have e : vp_nar .byte x = x.toInt8.toInt32 := rfl
  rw [e, Int8.toInt8_toInt32]
theorem nar_qby {x : Int32} (h : qby x) : vp_nar .byte x = x := by
  have e : vp_nar .byte x = x.toInt8.toInt32 := rfl
  rw [e]
  exact h
theorem qby_nI : ∀ k, k < 128 → qby (nI k) := by unfold qby; decide +kernel
theorem qm_bytes_mk {f : Nat → Int32} {p n : Nat} (h : ∀ i, i < n → qby (f (p + i))) : qm_bytes f p n = true :=
  List.all_eq_true.mpr fun i hi => decide_eq_true (h i (List.mem_range.mp hi))
/-- what a string builder holds: its row, how long that is -/
def SBs (S : qm_S) (b v N : Nat) (t : List Nat) : Prop := qr_g S 12 b 0 = v ∧ 0 < v ∧ v < S.1 ∧ b < S.1 ∧ qr_i S 12 b 1 = 0 ∧ qr_i S 12 b 3 = nI t.length ∧ t.length ≤ N ∧ qr_n S v = N ∧ N ≤ 2000 ∧ 16 ≤ N ∧ (∀ j, j < N → qby (qr_i S 14 v j)) ∧ (∀ j, j < t.length → qr_i S 14 v j = nI (t.getD j 0)) ∧ ∀ x ∈ t, x < 128
/-- nothing else has changed -/
def FRs (S S' : qm_S) : Prop := (∀ s a k, s ≠ 12 → s ≠ 14 → qr_i S' s a k = qr_i S s a k) ∧ (∀ s a k, s ≠ 12 → s ≠ 14 → qr_g S' s a k = qr_g S s a k) ∧ (∀ a, a < S.1 → qr_n S' a = qr_n S a) ∧ S.1 ≤ S'.1 ∧ S'.2.2.2.2.2.2 = S.2.2.2.2.2.2
theorem FRs.rf : FRs S S := ⟨fun _ _ _ _ _ => rfl, fun _ _ _ _ _ => rfl, fun _ _ => rfl, Nat.le_refl _, rfl⟩
theorem FRs.tr {S2 : qm_S} (h1 : FRs S S') (h2 : FRs S' S2) : FRs S S2 := ⟨fun s a k c d => (h2.1 s a k c d).trans (h1.1 s a k c d), fun s a k c d => (h2.2.1 s a k c d).trans (h1.2.1 s a k c d), fun a ha => (h2.2.2.1 a (Nat.lt_of_lt_of_le ha h1.2.2.2.1)).trans (h1.2.2.1 a ha), Nat.le_trans h1.2.2.2.1 h2.2.2.2.1, h2.2.2.2.2.trans h1.2.2.2.2⟩
/-- cells and slots made by a growing row -/
def CST (S S' : qm_S) (N N' : Nat) : Prop := N ≤ N' ∧ S'.1 + N ≤ S.1 + N' ∧ S'.2.1 + 2 * N ≤ S.2.1 + 2 * N'
theorem CST.rf {N : Nat} : CST S S N N := ⟨Nat.le_refl _, Nat.le_refl _, Nat.le_refl _⟩
theorem CST.tr {S2 : qm_S} {N N' N2 : Nat} (h1 : CST S S' N N') (h2 : CST S' S2 N' N2) : CST S S2 N N2 := by
  obtain ⟨a1, a2, a3⟩ := h1
  obtain ⟨b1, b2, b3⟩ := h2
  exact ⟨by omega, by omega, by omega⟩
end
