/-! ===== the house being grown: what stays, what is told ===== -/
section
variable {S S' : qm_S} {O : qm_O} {F : qm_F} {J L0 : Nat} {xs : List Int32}
/-- while it grows: its builder's text, its fields, how many numbers were taken, rows of rows, lengths, room, the class -/
def WI (S : qm_S) (w b i : Nat) (t : List Nat) (f : Nat → Int32) (g : Nat → Nat) (R : Nat → Nat → Nat → Nat) (ln : Nat → Nat) (A B : Nat) (C : pm_S) : Prop :=
  (∃ v N, SBs S b v N t ∧ S.1 ≤ A + N ∧ S.2.1 ≤ B + 2 * N) ∧ w < S.1 ∧ (∀ k, k ≠ 16 → qr_i S 1 w k = f k) ∧ qr_i S 1 w 16 = nI i ∧ (∀ k, qr_g S 1 w k = g k) ∧ (∀ s a k, s = 6 ∨ s = 8 ∨ s = 10 → qr_g S s a k = R s a k) ∧ (∀ a, 0 < ln a → a < S.1 ∧ qr_n S a = ln a) ∧ S.2.2.2.2.2.2 = C
/-- rows keep what they hold -/
def KP (S S' : qm_S) : Prop := ∀ s a k, s ≠ 1 → s ≠ 12 → s ≠ 14 → qr_i S' s a k = qr_i S s a k
theorem KP.rf : KP S S := fun _ _ _ _ _ _ => rfl
theorem KP.tr {S2 : qm_S} (h1 : KP S S') (h2 : KP S' S2) : KP S S2 := fun s a k c1 c2 c3 => (h2 s a k c1 c2 c3).trans (h1 s a k c1 c2 c3)
/-- a field with another value -/
def fu (f : Nat → Int32) (k : Nat) (v : Int32) : Nat → Int32 := fun j => if j = k then v else f j
theorem fu_s {f : Nat → Int32} {k : Nat} {v : Int32} : fu f k v k = v := if_pos rfl
theorem fu_n {f : Nat → Int32} {k j : Nat} {v : Int32} (h : j ≠ k) : fu f k v j = f j := if_neg h
section
variable {w b i A B : Nat} {t : List Nat} {f : Nat → Int32} {g : Nat → Nat} {R : Nat → Nat → Nat → Nat} {ln : Nat → Nat} {C : pm_S}
theorem SBs.at1 {v N a k : Nat} {x : Int32} {s : Nat} (h : SBs S b v N t) (h1 : s ≠ 12) (h2 : s ≠ 14) : SBs (qu_i S s a k x) b v N t := by
  obtain ⟨h1', h2', h3, h4, h5, h6, h7, h8, h9, h10, h11, h12, h13⟩ := h
  refine ⟨h1', h2', h3, h4, by rw [qi_i, if_neg (fun z => h1 z.1.symm)]; exact h5, by rw [qi_i, if_neg (fun z => h1 z.1.symm)]; exact h6, h7, h8, h9, h10, fun j hj => by rw [qi_i, if_neg (fun z => h2 z.1.symm)]; exact h11 j hj, fun j hj => by rw [qi_i, if_neg (fun z => h2 z.1.symm)]; exact h12 j hj, h13⟩
theorem WI.put (h : WI S w b i t f g R ln A B C) {k : Nat} (hk : k ≠ 16) (x : Int32) : WI (qu_i S 1 w k x) w b i t (fu f k x) g R ln A B C ∧ KP S (qu_i S 1 w k x) := by
  obtain ⟨⟨v, N, h1, h2, h3⟩, h4, h5, h6, h7, h8, h9, h10⟩ := h
  refine ⟨⟨⟨v, N, h1.at1 (by decide) (by decide), h2, h3⟩, h4, fun j hj => ?_, ?_, h7, h8, h9, h10⟩, fun s a j c1 _ _ => by rw [qi_i, if_neg (fun z => c1 z.1)]⟩
  · rw [qi_i]
    by_cases c : j = k
    · subst c
      rw [if_pos ⟨rfl, rfl, rfl⟩, fu_s]
    · rw [if_neg (fun z => c z.2.1), fu_n c]
      exact h5 j hj
  · rw [qi_i, if_neg (fun z => hk z.2.1.symm)]
    exact h6
/-- a row's place written -/
theorem WI.row (h : WI S w b i t f g R ln A B C) {s : Nat} (h1 : s ≠ 1) (h2 : s ≠ 12) (h3 : s ≠ 14) (a k : Nat) (x : Int32) : WI (qu_i S s a k x) w b i t f g R ln A B C := by
  obtain ⟨⟨v, N, g1, g2, g3⟩, h4, h5, h6, h7, h8, h9, h10⟩ := h
  exact ⟨⟨v, N, g1.at1 h2 h3, g2, g3⟩, h4, fun j hj => by rw [qi_i, if_neg (fun z => h1 z.1.symm)]; exact h5 j hj, by rw [qi_i, if_neg (fun z => h1 z.1.symm)]; exact h6, h7, h8, h9, h10⟩
theorem WI.fr {S2 : qm_S} {t2 : List Nat} {N N2 v v2 : Nat} (h : WI S w b i t f g R ln A B C) (hs : SBs S b v N t) (g1 : SBs S2 b v2 N2 t2) (g2 : FRs S S2) (g3 : CST S S2 N N2) : WI S2 w b i t2 f g R ln A B C ∧ KP S S2 := by
  obtain ⟨⟨v0, N0, h1, h2, h3⟩, h4, h5, h6, h7, h8, h9, h10⟩ := h
  have e : v0 = v := h1.1.symm.trans hs.1
  subst e
  have e : N0 = N := h1.2.2.2.2.2.2.2.1.symm.trans hs.2.2.2.2.2.2.2.1
  subst e
  obtain ⟨c1, c2, c3⟩ := g3
  refine ⟨⟨⟨v2, N2, g1, by omega, by omega⟩, Nat.lt_of_lt_of_le h4 g2.2.2.2.1, fun k hk => ?_, ?_, fun k => ?_, fun s a k hs => ?_, fun a ha => ⟨Nat.lt_of_lt_of_le (h9 a ha).1 g2.2.2.2.1, ?_⟩, g2.2.2.2.2.trans h10⟩, fun s a k _ c2 c3 => g2.1 s a k c2 c3⟩
  · rw [g2.1 1 w k (by decide) (by decide)]; exact h5 k hk
  · rw [g2.1 1 w 16 (by decide) (by decide)]; exact h6
  · rw [g2.2.1 1 w k (by decide) (by decide)]; exact h7 k
  · rw [g2.2.1 s a k (by omega) (by omega)]; exact h8 s a k hs
  · rw [g2.2.2.1 a (h9 a ha).1]; exact (h9 a ha).2
theorem WI.next (hF : qm_fix O qt_me qt_qs (qt_C L0 xs) J F) (hL : L0 < 2147483648) (h : WI S w b i t f g R ln A B C) (hg : g 15 = 1) (hi : i < 100000) {n : Nat} (h0 : 0 < n) (hn : n < 2147483648) :
    ∃ S' x, F 1201 0 [some (.inr (1, w)), some (.inl (nI n))] [] S = some (some (.inl (nI x)), S') ∧ x < n ∧ WI S' w b (i + 1) t f g R ln A B C ∧ KP S S' := by
  obtain ⟨⟨v, N, h1, h2, h3⟩, h4, h5, h6, h7, h8, h9, h10⟩ := id h
  refine ⟨qu_i S 1 w 16 (nI (i + 1)), wpk L0 xs (i + 1) n, j_next hF hL ((h7 15).trans hg) h6 hi h0 hn, wpk_lt h0, ⟨⟨v, N, h1.at1 (by decide) (by decide), h2, h3⟩, h4, fun k hk => by rw [qi_i, if_neg (fun z => hk z.2.1)]; exact h5 k hk, by rw [qi_i, if_pos ⟨rfl, rfl, rfl⟩], h7, h8, h9, h10⟩, fun s a j c1 _ _ => by rw [qi_i, if_neg (fun z => c1 z.1)]⟩
theorem WI.app (hF : qm_fix O qt_me qt_qs (qt_C L0 xs) J F) (h : WI S w b i t f g R ln A B C) (hl : t.length ≤ 890) {k : Nat} (hk : k < 18) :
    ∃ S', F 1523 0 [some (.inr (12, b)), some (.inr (16, 11 + k))] [] S = some (some (.inr (12, b)), S') ∧ WI S' w b i (t ++ qt_sn k) f g R ln A B C ∧ KP S S' := by
  obtain ⟨⟨v, N, h1, h2, h3⟩, -⟩ := id h
  obtain ⟨S2, v2, N2, a1, a2, a3, a4⟩ := j_append hF h1 hk hl
  exact ⟨S2, a1, h.fr h1 a2 a3 a4⟩
theorem WI.appI (hF : qm_fix O qt_me qt_qs (qt_C L0 xs) J F) (h : WI S w b i t f g R ln A B C) (hl : t.length ≤ 890) {x : Nat} (hx : x < 200) :
    ∃ S', F 1541 0 [some (.inr (12, b)), some (.inl (nI x))] [] S = some (some (.inr (12, b)), S') ∧ WI S' w b i (t ++ qt_dg x) f g R ln A B C ∧ KP S S' := by
  obtain ⟨⟨v, N, h1, h2, h3⟩, -⟩ := id h
  obtain ⟨S2, v2, N2, a1, a2, a3, a4⟩ := j_appendI hF h1 hx hl
  exact ⟨S2, a1, h.fr h1 a2 a3 a4⟩
theorem WI.appC (hF : qm_fix O qt_me qt_qs (qt_C L0 xs) J F) (h : WI S w b i t f g R ln A B C) (hl : t.length ≤ 890) {x : Nat} (hx : x < 128) :
    ∃ S', F 1545 0 [some (.inr (12, b)), some (.inl (nI x))] [] S = some (some (.inr (12, b)), S') ∧ WI S' w b i (t ++ [x]) f g R ln A B C ∧ KP S S' := by
  obtain ⟨⟨v, N, h1, h2, h3⟩, -⟩ := id h
  obtain ⟨S2, v2, N2, a1, a2, a3, a4⟩ := j_appendC hF h1 hx hl
  exact ⟨S2, a1, h.fr h1 a2 a3 a4⟩
end
end
