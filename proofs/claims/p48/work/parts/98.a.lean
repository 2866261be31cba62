/-! ===== the house grown: its maker, from its end ===== -/
section
variable {S S' : qm_S} {O : qm_O} {F : qm_F} {J L0 : Nat} {xs : List Int32}
variable {w b i A B P Q : Nat} {t : List Nat} {f : Nat → Int32} {g : Nat → Nat} {R : Nat → Nat → Nat → Nat} {ln : Nat → Nat} {C : pm_S} {ls : List LN} {x3 x4 x5 x6 x7 x8 x9 : Int32}
/-- it is made -/
def WP (w : Nat) (C : pm_S) (A B : Nat) (r : qm_R) : Prop := ∃ S P Q ls, r = some (none, S) ∧ GT P Q 10 0 0 ls ∧ (1 ≤ P ∧ P ≤ 4) ∧ Q ≤ 5 ∧ 0 < qr_g S 1 w 14 ∧ STR S (qr_g S 1 w 14) (TXT ls) ∧ qr_i S 1 w 0 = nI P ∧ qr_i S 1 w 1 = nI Q ∧ w < S.1 ∧ S.2.2.2.2.2.2 = C ∧ S.1 ≤ A + 2002 ∧ S.2.1 ≤ B + 5000
/-- what is known of parties and offices -/
def PQ (P Q : Nat) (f : Nat → Int32) (g : Nat → Nat) : Prop := (1 ≤ P ∧ P ≤ 4) ∧ Q ≤ 5 ∧ f 0 = nI P ∧ f 1 = nI Q ∧ g 15 = 1
theorem PQ.fu (h : PQ P Q f g) {k : Nat} {v : Int32} (h0 : k ≠ 0) (h1 : k ≠ 1) : PQ P Q (fu f k v) g := ⟨h.1, h.2.1, by rw [fu_n (Ne.symm h0)]; exact h.2.2.1, by rw [fu_n (Ne.symm h1)]; exact h.2.2.2.1, h.2.2.2.2⟩
theorem WI.appn (hF : qm_fix O qt_me qt_qs (qt_C L0 xs) J F) (h : WI S w b i t f g R ln A B C) (k : Nat) {n : Nat} (hn : n = 11 + k) (hk : k < 18) (hl : t.length ≤ 890) :
    ∃ S', F 1523 0 [some (.inr (12, b)), some (.inr (16, n))] [] S = some (some (.inr (12, b)), S') ∧ WI S' w b i (t ++ qt_sn k) f g R ln A B C ∧ KP S S' := by
  subst hn
  exact h.app hF hl hk
theorem WI.nextn (hF : qm_fix O qt_me qt_qs (qt_C L0 xs) J F) (hL : L0 < 2147483648) (h : WI S w b i t f g R ln A B C) (hg : g 15 = 1) (hi : i < 100000) (n : Nat) {v : Int32} (hv : v = nI n) (h0 : 0 < n) (hn : n < 2147483648) :
    ∃ S' x, F 1201 0 [some (.inr (1, w)), some (.inl v)] [] S = some (some (.inl (nI x)), S') ∧ x < n ∧ WI S' w b (i + 1) t f g R ln A B C ∧ KP S S' := by
  subst hv
  exact h.next hF hL hg hi h0 hn
theorem WI.appIn (hF : qm_fix O qt_me qt_qs (qt_C L0 xs) J F) (h : WI S w b i t f g R ln A B C) (x : Nat) {v : Int32} (hv : v = nI x) (hx : x < 200) (hl : t.length ≤ 890) :
    ∃ S', F 1541 0 [some (.inr (12, b)), some (.inl v)] [] S = some (some (.inr (12, b)), S') ∧ WI S' w b i (t ++ qt_dg x) f g R ln A B C ∧ KP S S' := by
  subst hv
  exact h.appI hF hl hx
theorem lt_f : ∀ x, x < 8 → UInt32.toInt32 (Int32.toUInt32 (97 + nI x) % 65536) = nI (97 + x) := by decide +kernel
theorem WI.appL (hF : qm_fix O qt_me qt_qs (qt_C L0 xs) J F) (h : WI S w b i t f g R ln A B C) (x : Nat) (hx : x < 8) (hl : t.length ≤ 890) :
    ∃ S', F 1545 0 [some (.inr (12, b)), some (.inl (UInt32.toInt32 (Int32.toUInt32 (97 + nI x) % 65536)))] [] S = some (some (.inr (12, b)), S') ∧ WI S' w b i (t ++ [97 + x]) f g R ln A B C ∧ KP S S' := by
  rw [lt_f x hx]
  exact h.appC hF hl (by omega)
theorem WI.eqt {t2 : List Nat} (h : WI S w b i t f g R ln A B C) (e : t = t2) : WI S w b i t2 f g R ln A B C := e ▸ h
theorem ph952 (hF : qm_fix O qt_me qt_qs (qt_C L0 xs) J F) (h : WI S w b i (TXT ls) f g R ln A B C) (hP : PQ P Q f g) (hT : GT P Q 10 0 0 ls) : WP w C A B (F 1202 952 [some (.inr (1, w)), some (.inr (2, 1)), some (.inr (12, b)), some (.inl x3), some (.inl x4), some (.inl x5), some (.inl x6), some (.inl x7), none, none] [] S) := by
  obtain ⟨⟨v, N, g1, g2, g3⟩, h4, h5, h6, h7, h8, h9, h10⟩ := id h
  have hl : (TXT ls).length ≤ 846 := (GT.len hP.1.2 hP.2.1 hT).1
  have hN := g1.2.2.2.2.2.2.2.2.1
  obtain ⟨S1, a1, a2, a3, a4, a5, a6, a7, a8⟩ := j_toString hF g1 (by omega)
  rw [q1202_952 hF, a1]
  simp only [qm_k_n, Option.toList_some, Option.toList_none, List.cons_append, List.nil_append, List.append_nil]
  rw [q1202_957 hF]
  have e14 : qr_g (qu_g S1 1 w 14 S.1) 1 w 14 = S.1 := by rw [qg_g, if_pos ⟨rfl, rfl, rfl⟩]
  obtain ⟨z, z1, z2, z3, z4, z5, z6, z7, z8, z9⟩ := a2
  refine ⟨qu_g S1 1 w 14 S.1, P, Q, ls, rfl, hT, hP.1, hP.2.1, by rw [e14]; omega, ?_, ?_, ?_, ?_, a5.trans h10, ?_, ?_⟩
  · rw [e14]
    exact ⟨z, by rw [qg_g, if_neg (fun y => by omega)]; exact z1, z2, z3, z4, z5, z6, z7, z8, z9⟩
  · rw [qi_g, a7 _ _ _ h4, h5 0 (by decide)]; exact hP.2.2.1
  · rw [qi_g, a7 _ _ _ h4, h5 1 (by decide)]; exact hP.2.2.2.1
  · show w < S1.1
    omega
  · show S1.1 ≤ _
    omega
  · show S1.2.1 ≤ _
    omega
theorem ph913 (hF : qm_fix O qt_me qt_qs (qt_C L0 xs) J F) (hL : L0 < 2147483648) (h : WI S w b i (TXT ls) f g R ln A B C) (hP : PQ P Q f g) (hT : GT P Q 9 0 0 ls) (hi : i ≤ 200) : WP w C A B (F 1202 913 [some (.inr (1, w)), some (.inr (2, 1)), some (.inr (12, b)), some (.inl x3), some (.inl x4), some (.inl x5), some (.inl x6), some (.inl x7), none, none] [] S) := by
  obtain ⟨s0, s1, s2, s3, s4, s5, s6, s7, s8, s9, s10, s11, s12, s13, s14, s15, s16⟩ := sn_len
  have hl : (TXT ls).length ≤ 838 := (GT.len hP.1.2 hP.2.1 hT).1
  obtain ⟨S1, x, e1, hx, h1, -⟩ := h.nextn hF hL hP.2.2.2.2 (by omega) 3 (v := 3) rfl (by decide) (by decide)
  rw [q1202_913 hF, e1]
  simp only [qm_k_n, Option.toList_some, Option.toList_none, List.cons_append, List.nil_append, List.append_nil]
  rw [q1202_918 hF]
  by_cases c : x = 0
  · subst c
    obtain ⟨S2, y, e2, hy, h2, -⟩ := h1.nextn hF hL hP.2.2.2.2 (by omega) 60 (v := 60) rfl (by decide) (by decide)
    rw [if_pos (show nI 0 = 0 from rfl), e2]
    simp only [qm_k_n, Option.toList_some, Option.toList_none, List.cons_append, List.nil_append, List.append_nil]
    have h3 := (h2.put (k := 7) (by decide) (1 + nI y)).1
    have hd := (qt_dg_ok (1 + y) (by omega)).1
    obtain ⟨S4, e4, h4, -⟩ := h3.appn hF 16 (n := 27) rfl (by decide) (by (try simp only [List.length_append, List.length_cons, List.length_nil, s0, s1, s2, s3, s4, s5, s6, s7, s8, s9, s10, s11, s12, s13, s14, s15, s16]); omega)
    rw [q1202_929 hF, e4]
    simp only [qm_k_n, Option.toList_some, Option.toList_none, List.cons_append, List.nil_append, List.append_nil]
    obtain ⟨S5, e5, h5, -⟩ := h4.appIn hF (1 + y) (v := qr_i S4 1 w 7) (by rw [h4.2.2.1 7 (by decide), fu_s]; exact nI_add 1 y) (by omega) (by (try simp only [List.length_append, List.length_cons, List.length_nil, s0, s1, s2, s3, s4, s5, s6, s7, s8, s9, s10, s11, s12, s13, s14, s15, s16]); omega)
    rw [q1202_939 hF, e5]
    simp only [qm_k_n, Option.toList_some, Option.toList_none, List.cons_append, List.nil_append, List.append_nil]
    obtain ⟨S6, e6, h6, -⟩ := h5.appn hF 2 (n := 13) rfl (by decide) (by (try simp only [List.length_append, List.length_cons, List.length_nil, s0, s1, s2, s3, s4, s5, s6, s7, s8, s9, s10, s11, s12, s13, s14, s15, s16]); omega)
    rw [q1202_946 hF, e6]
    simp only [qm_k_n, Option.toList_some, Option.toList_none, List.cons_append, List.nil_append, List.append_nil]
    rw [q1202_951 hF]
    exact ph952 hF (h6.eqt (by rw [TXT_add]; simp only [ltx, List.append_assoc])) (hP.fu (by decide) (by decide)) (hT.need1 (n := 1 + y) (by omega))
  · rw [if_neg (nI_ne0 (by omega) (by omega))]
    exact ph952 hF h1 hP hT.need0
/-- rows of rows are there -/
def RR (P Q : Nat) (g : Nat → Nat) (R : Nat → Nat → Nat → Nat) (ln : Nat → Nat) : Prop := (0 < g 13 ∧ ln (g 13) = P ∧ ∀ p, p < P → 0 < R 10 (g 13) p ∧ ln (R 10 (g 13) p) = P) ∧ (0 < g 11 ∧ ln (g 11) = P ∧ ∀ p, p < P → 0 < R 6 (g 11) p ∧ ln (R 6 (g 11) p) = Q) ∧ (0 < g 12 ∧ ln (g 12) = P ∧ ∀ p, p < P → 0 < R 8 (g 12) p ∧ ln (R 8 (g 12) p) = Q) ∧ (0 < g 8 ∧ ln (g 8) = P) ∧ (0 < g 9 ∧ ln (g 9) = P) ∧ (0 < g 10 ∧ ln (g 10) = P)
theorem ph813 (hF : qm_fix O qt_me qt_qs (qt_C L0 xs) J F) (hL : L0 < 2147483648) (hR : RR P Q g R ln) (hP : PQ P Q f g) : ∀ (n : Nat) {S : qm_S} {i a : Nat} {ls : List LN}, WI S w b i (TXT ls) f g R ln A B C → GT P Q 8 a 0 ls → a + n ≤ 2 → (0 < n → 2 ≤ P) → i + 2 * n ≤ 150 → WP w C A B (F 1202 813 [some (.inr (1, w)), some (.inr (2, 1)), some (.inr (12, b)), some (.inl x3), some (.inl x4), some (.inl x5), some (.inl x6), some (.inl (nI n)), none, none] [] S) := by
  obtain ⟨s0, s1, s2, s3, s4, s5, s6, s7, s8, s9, s10, s11, s12, s13, s14, s15, s16⟩ := sn_len
  obtain ⟨⟨rg, rn, rr⟩, -⟩ := hR
  intro n
  induction n with
  | zero =>
    intro S i a ls h hT ha h2 hi
    rw [q1202_813 hF, if_pos (show nI 0 ≤ 0 from Int32.le_refl _)]
    exact ph913 hF hL h hP hT.bars (by omega)
  | succ n ih =>
    intro S i a ls h hT ha h2 hi
    have h2 := h2 (Nat.succ_pos _)
    have hl : (TXT ls).length ≤ 838 := by
      have := (GT.len hP.1.2 hP.2.1 hT).1
      unfold LB at this
      simp only at this
      omega
    have hP4 := hP.1.2
    obtain ⟨S1, x, e1, hx, h1, -⟩ := h.nextn hF hL hP.2.2.2.2 (by omega) P (v := qr_i S 1 w 0) ((h.2.2.1 0 (by decide)).trans hP.2.2.1) (by omega) (by omega)
    rw [q1202_813 hF, if_neg (nI_nle (Nat.succ_pos _) (by omega)), e1]
    simp only [qm_k_n, Option.toList_some, Option.toList_none, List.cons_append, List.nil_append, List.append_nil]
    obtain ⟨S2, y, e2, hy, h2', -⟩ := h1.nextn hF hL hP.2.2.2.2 (by omega) (P - 1) (v := qr_i S1 1 w 0 - 1) (by rw [h1.2.2.1 0 (by decide), hP.2.2.1]; exact z_s1 (by omega)) (by omega) (by omega)
    rw [q1202_826 hF, e2]
    simp only [qm_k_n, Option.toList_some, Option.toList_none, List.cons_append, List.nil_append, List.append_nil]
    have ep : qr_i S2 1 w 0 = nI P := (h2'.2.2.1 0 (by decide)).trans hP.2.2.1
    have hz : (x + 1 + y) % P < P := Nat.mod_lt _ (by omega)
    have hne : x ≠ (x + 1 + y) % P := by
      intro e
      rcases Nat.lt_or_ge (x + 1 + y) P with c | c
      · rw [Nat.mod_eq_of_lt c] at e; omega
      · rw [Nat.mod_eq_sub_mod c, Nat.mod_eq_of_lt (by omega)] at e; omega
    rw [q1202_842 hF, ep, decide_eq_false (nI_ne0 (n := P) (by omega) (by omega)), z_1, nI_add, pk_rem (by omega) (by omega) (by omega)]
    generalize hzz : (x + 1 + y) % P = z at hz hne
    show WP w C A B (F 1202 850 [some (.inr (1, w)), some (.inr (2, 1)), some (.inr (12, b)), some (.inl x3), some (.inl x4), some (.inl x5), some (.inl x6), some (.inl (nI (n + 1))), some (.inl (nI x)), some (.inl (nI z))] [] S2)
    have eg : ∀ S', WI S' w b (i + 1 + 1) (TXT ls) f g R ln A B C → qr_g S' 1 w 13 = g 13 ∧ qr_n S' (g 13) = P ∧ ∀ p, p < P → qr_g S' 10 (g 13) p = R 10 (g 13) p ∧ qr_n S' (R 10 (g 13) p) = P := fun S' hS => ⟨hS.2.2.2.2.1 13, ((hS.2.2.2.2.2.2.1 (g 13) (by omega)).2).trans rn, fun p hp => ⟨hS.2.2.2.2.2.1 10 _ _ (by omega), ((hS.2.2.2.2.2.2.1 _ (by have := (rr p hp).2; omega)).2).trans (rr p hp).2⟩⟩
    obtain ⟨j1, j2, j3⟩ := eg S2 h2'
    rw [q1202_850 hF, j1, bl0 rg, j2, z_ib hx (by omega), z_cl (by omega), (j3 x hx).1, bl0 (rr x hx).1, (j3 x hx).2, z_ib hz (by omega)]
    have h3 := h2'.row (s := 11) (by decide) (by decide) (by decide) (R 10 (g 13) x) (Int32.toNatClampNeg (nI z)) (vp_nar .boolean 1)
    obtain ⟨j1, j2, j3⟩ := eg _ h3
    show WP w C A B (F 1202 861 [some (.inr (1, w)), some (.inr (2, 1)), some (.inr (12, b)), some (.inl x3), some (.inl x4), some (.inl x5), some (.inl x6), some (.inl (nI (n + 1))), some (.inl (nI x)), some (.inl (nI z))] [] (qu_i S2 11 (R 10 (g 13) x) (Int32.toNatClampNeg (nI z)) (vp_nar .boolean 1)))
    rw [q1202_861 hF, j1, bl0 rg, j2, z_ib hz (by omega), z_cl (n := z) (by omega)]
    rw [z_cl (n := z) (by omega)] at j3 h3
    rw [(j3 z hz).1, bl0 (rr z hz).1, (j3 z hz).2, z_ib hx (by omega)]
    have h4 := h3.row (s := 11) (by decide) (by decide) (by decide) (R 10 (g 13) z) (Int32.toNatClampNeg (nI x)) (vp_nar .boolean 1)
    show WP w C A B (F 1202 872 [some (.inr (1, w)), some (.inr (2, 1)), some (.inr (12, b)), some (.inl x3), some (.inl x4), some (.inl x5), some (.inl x6), some (.inl (nI (n + 1))), some (.inl (nI x)), some (.inl (nI z))] [] _)
    obtain ⟨S5, e5, h5, -⟩ := h4.appn hF 14 (n := 25) rfl (by decide) (by (try simp only [List.length_append, List.length_cons, List.length_nil, s0, s1, s2, s3, s4, s5, s6, s7, s8, s9, s10, s11, s12, s13, s14, s15, s16]); omega)
    rw [q1202_872 hF, e5]
    simp only [qm_k_n, Option.toList_some, Option.toList_none, List.cons_append, List.nil_append, List.append_nil]
    obtain ⟨S6, e6, h6, -⟩ := h5.appL hF x (by omega) (by (try simp only [List.length_append, List.length_cons, List.length_nil, s0, s1, s2, s3, s4, s5, s6, s7, s8, s9, s10, s11, s12, s13, s14, s15, s16]); omega)
    rw [q1202_878 hF, e6]
    simp only [qm_k_n, Option.toList_some, Option.toList_none, List.cons_append, List.nil_append, List.append_nil]
    obtain ⟨S7, e7, h7, -⟩ := h6.appn hF 15 (n := 26) rfl (by decide) (by (try simp only [List.length_append, List.length_cons, List.length_nil, s0, s1, s2, s3, s4, s5, s6, s7, s8, s9, s10, s11, s12, s13, s14, s15, s16]); omega)
    rw [q1202_887 hF, e7]
    simp only [qm_k_n, Option.toList_some, Option.toList_none, List.cons_append, List.nil_append, List.append_nil]
    obtain ⟨S8, e8, h8, -⟩ := h7.appL hF z (by omega) (by (try simp only [List.length_append, List.length_cons, List.length_nil, s0, s1, s2, s3, s4, s5, s6, s7, s8, s9, s10, s11, s12, s13, s14, s15, s16]); omega)
    rw [q1202_892 hF, e8]
    simp only [qm_k_n, Option.toList_some, Option.toList_none, List.cons_append, List.nil_append, List.append_nil]
    obtain ⟨S9, e9, h9, -⟩ := h8.appn hF 2 (n := 13) rfl (by decide) (by (try simp only [List.length_append, List.length_cons, List.length_nil, s0, s1, s2, s3, s4, s5, s6, s7, s8, s9, s10, s11, s12, s13, s14, s15, s16]); omega)
    rw [q1202_901 hF, e9]
    simp only [qm_k_n, Option.toList_some, Option.toList_none, List.cons_append, List.nil_append, List.append_nil]
    rw [q1202_906 hF, pk_m1]
    exact ih (h9.eqt (by rw [TXT_add]; simp only [ltx, List.append_assoc])) (hT.bar (p := x) (q := z) (by omega) hx hz hne) (by omega) (fun _ => h2) (by omega)
end
