/-! ===== the house grown: worths and stances ===== -/
section
variable {S S' : qm_S} {O : qm_O} {F : qm_F} {J L0 : Nat} {xs : List Int32}
variable {w b i A B P Q : Nat} {t : List Nat} {f : Nat → Int32} {g : Nat → Nat} {R : Nat → Nat → Nat → Nat} {ln : Nat → Nat} {C : pm_S} {ls : List LN} {x3 x4 x5 x6 x7 x8 x9 : Int32}
theorem ph693in (hF : qm_fix O qt_me qt_qs (qt_C L0 xs) J F) (hL : L0 < 2147483648) (hR : RR P Q g R ln) (hP : PQ P Q f g) {p : Nat} (hp : p < P)
    (hout : ∀ {S : qm_S} {i : Nat} {ls : List LN}, WI S w b i (TXT ls) f g R ln A B C → GT P Q 7 (p + 1) 0 ls → i ≤ 67 + 2 * (5 * (p + 1)) → WP w C A B (F 1202 681 [some (.inr (1, w)), some (.inr (2, 1)), some (.inr (12, b)), some (.inl x3), some (.inl x4), some (.inl x5), some (.inl x6), some (.inl (nI (p + 1))), none, none] [] S)) : ∀ (d : Nat) {S : qm_S} {i o : Nat} {ls : List LN}, o + d = Q → WI S w b i (TXT ls) f g R ln A B C → GT P Q 7 p o ls → i ≤ 67 + 2 * (5 * p + o) → WP w C A B (F 1202 693 [some (.inr (1, w)), some (.inr (2, 1)), some (.inr (12, b)), some (.inl x3), some (.inl x4), some (.inl x5), some (.inl x6), some (.inl (nI p)), some (.inl (nI o)), none] [] S) := by
  obtain ⟨s0, s1, s2, s3, s4, s5, s6, s7, s8, s9, s10, s11, s12, s13, s14, s15, s16⟩ := sn_len
  obtain ⟨rg, rn, rr⟩ := hR.2.2.1
  have hP4 := hP.1.2
  have hQ5 := hP.2.1
  intro d
  induction d with
  | zero =>
    intro S i o ls ho h hT hi
    have : o = Q := ho
    subst this
    rw [q1202_693 hF, h.2.2.1 1 (by decide), hP.2.2.2.1, if_neg (nI_nlt (Nat.le_refl _) (by omega)), q1202_788 hF, z_1]
    exact hout h (hT.stas hp) (by omega)
  | succ d ih =>
    intro S i o ls ho h hT hi
    have hoQ : o < Q := by omega
    have hl : (TXT ls).length ≤ 838 := by
      have := (GT.len hP.1.2 hP.2.1 hT).1
      have h2 : Q * p ≤ 5 * p := Nat.mul_le_mul_right p hQ5
      unfold LB at this
      simp only at this
      omega
    obtain ⟨S1, x, e1, hx, h1, -⟩ := h.nextn hF hL hP.2.2.2.2 (by omega) 3 (v := 3) rfl (by decide) (by decide)
    rw [q1202_693 hF, h.2.2.1 1 (by decide), hP.2.2.2.1, if_pos (nI_lt hoQ (by omega)), e1]
    simp only [qm_k_n, Option.toList_some, Option.toList_none, List.cons_append, List.nil_append, List.append_nil]
    rw [q1202_707 hF]
    by_cases c : x = 0
    · subst c
      rw [if_pos (show nI 0 = 0 from rfl), q1202_782 hF, z_1]
      exact ih (by omega) h1 (hT.sta0 hp hoQ) (by omega)
    · have eg : ∀ {S' : qm_S} {i' : Nat} {t' : List Nat}, WI S' w b i' t' f g R ln A B C → qr_g S' 1 w 12 = g 12 ∧ qr_n S' (g 12) = P ∧ ∀ p, p < P → qr_g S' 8 (g 12) p = R 8 (g 12) p ∧ qr_n S' (R 8 (g 12) p) = Q := fun hS => ⟨hS.2.2.2.2.1 12, ((hS.2.2.2.2.2.2.1 (g 12) (by omega)).2).trans rn, fun p hp => ⟨hS.2.2.2.2.2.1 8 _ _ (by omega), ((hS.2.2.2.2.2.2.1 _ (by have := (rr p hp).2; omega)).2).trans (rr p hp).2⟩⟩
      obtain ⟨j1, j2, j3⟩ := eg h1
      obtain ⟨S2, n, e2, hn, h2, -⟩ := h1.nextn hF hL hP.2.2.2.2 (by omega) 10 (v := 10) rfl (by decide) (by decide)
      rw [if_neg (nI_ne0 (by omega) (by omega)), q1202_713 hF, j1, bl0 rg, j2, z_ib hp (by omega), z_cl (by omega), (j3 p hp).1, bl0 (rr p hp).1, e2]
      show WP w C A B (F 1202 728 [some (.inr (1, w)), some (.inr (2, 1)), some (.inr (12, b)), some (.inl x3), some (.inl x4), some (.inl x5), some (.inl x6), some (.inl (nI p)), some (.inl (nI o)), none] [.inl (nI n), .inl (nI o), .inr (9, R 8 (g 12) p)] S2)
      obtain ⟨j1, j2, j3⟩ := eg h2
      rw [q1202_728 hF, (j3 p hp).2, z_ib hoQ (by omega), z_cl (by omega)]
      have h3 := h2.row (s := 9) (by decide) (by decide) (by decide) (R 8 (g 12) p) o (nI n)
      have v3 : qr_i (qu_i S2 9 (R 8 (g 12) p) o (nI n)) 9 (R 8 (g 12) p) o = nI n := by rw [qi_i, if_pos ⟨rfl, rfl, rfl⟩]
      generalize qu_i S2 9 (R 8 (g 12) p) o (nI n) = S3 at h3 v3
      have hd := (qt_dg_ok n (by omega)).1
      obtain ⟨S4, e4, h4, k4⟩ := h3.appn hF 13 (n := 24) rfl (by decide) (by (try simp only [List.length_append, List.length_cons, List.length_nil, s0, s1, s2, s3, s4, s5, s6, s7, s8, s9, s10, s11, s12, s13, s14, s15, s16]); omega)
      rw [e4]
      show WP w C A B (F 1202 735 [some (.inr (1, w)), some (.inr (2, 1)), some (.inr (12, b)), some (.inl x3), some (.inl x4), some (.inl x5), some (.inl x6), some (.inl (nI p)), some (.inl (nI o)), none] [.inr (12, b)] S4)
      obtain ⟨S5, e5, h5, k5⟩ := h4.appL hF p (by omega) (by (try simp only [List.length_append, List.length_cons, List.length_nil, s0, s1, s2, s3, s4, s5, s6, s7, s8, s9, s10, s11, s12, s13, s14, s15, s16]); omega)
      rw [q1202_735 hF, e5]
      simp only [qm_k_n, Option.toList_some, Option.toList_none, List.cons_append, List.nil_append, List.append_nil]
      obtain ⟨S6, e6, h6, k6⟩ := h5.appn hF 12 (n := 23) rfl (by decide) (by (try simp only [List.length_append, List.length_cons, List.length_nil, s0, s1, s2, s3, s4, s5, s6, s7, s8, s9, s10, s11, s12, s13, s14, s15, s16]); omega)
      rw [q1202_744 hF, e6]
      simp only [qm_k_n, Option.toList_some, Option.toList_none, List.cons_append, List.nil_append, List.append_nil]
      obtain ⟨S7, e7, h7, k7⟩ := h6.appL hF o (by omega) (by (try simp only [List.length_append, List.length_cons, List.length_nil, s0, s1, s2, s3, s4, s5, s6, s7, s8, s9, s10, s11, s12, s13, s14, s15, s16]); omega)
      rw [q1202_749 hF, e7]
      simp only [qm_k_n, Option.toList_some, Option.toList_none, List.cons_append, List.nil_append, List.append_nil]
      obtain ⟨S8, e8, h8, k8⟩ := h7.appn hF 1 (n := 12) rfl (by decide) (by (try simp only [List.length_append, List.length_cons, List.length_nil, s0, s1, s2, s3, s4, s5, s6, s7, s8, s9, s10, s11, s12, s13, s14, s15, s16]); omega)
      rw [q1202_758 hF, e8]
      simp only [qm_k_n, Option.toList_some, Option.toList_none, List.cons_append, List.nil_append, List.append_nil]
      obtain ⟨j1, j2, j3⟩ := eg h8
      have kk := (((k4.tr k5).tr k6).tr k7).tr k8
      obtain ⟨S9, e9, h9, -⟩ := h8.appIn hF n (v := qr_i S8 9 (R 8 (g 12) p) o) ((kk 9 _ _ (by decide) (by decide) (by decide)).trans v3) (by omega) (by (try simp only [List.length_append, List.length_cons, List.length_nil, s0, s1, s2, s3, s4, s5, s6, s7, s8, s9, s10, s11, s12, s13, s14, s15, s16]); omega)
      rw [q1202_763 hF, j1, bl0 rg, j2, z_ib hp (by omega), z_cl (n := p) (by omega), (j3 p hp).1, bl0 (rr p hp).1, (j3 p hp).2, z_ib hoQ (by omega), z_cl (n := o) (by omega), e9]
      show WP w C A B (F 1202 776 [some (.inr (1, w)), some (.inr (2, 1)), some (.inr (12, b)), some (.inl x3), some (.inl x4), some (.inl x5), some (.inl x6), some (.inl (nI p)), some (.inl (nI o)), none] [.inr (12, b)] S9)
      obtain ⟨S10, e10, h10, -⟩ := h9.appn hF 2 (n := 13) rfl (by decide) (by (try simp only [List.length_append, List.length_cons, List.length_nil, s0, s1, s2, s3, s4, s5, s6, s7, s8, s9, s10, s11, s12, s13, s14, s15, s16]); omega)
      rw [q1202_776 hF, e10]
      simp only [qm_k_n, Option.toList_some, Option.toList_none, List.cons_append, List.nil_append, List.append_nil]
      rw [q1202_781 hF, q1202_782 hF, z_1]
      exact ih (by omega) (h10.eqt (by rw [TXT_add]; simp only [ltx, List.append_assoc])) (hT.sta1 (n := n) hp hoQ hn) (by omega)
theorem ph681 (hF : qm_fix O qt_me qt_qs (qt_C L0 xs) J F) (hL : L0 < 2147483648) (hR : RR P Q g R ln) (hP : PQ P Q f g) : ∀ (d : Nat) {S : qm_S} {i p : Nat} {ls : List LN}, p + d = P → WI S w b i (TXT ls) f g R ln A B C → GT P Q 7 p 0 ls → i ≤ 67 + 2 * (5 * p) → WP w C A B (F 1202 681 [some (.inr (1, w)), some (.inr (2, 1)), some (.inr (12, b)), some (.inl x3), some (.inl x4), some (.inl x5), some (.inl x6), some (.inl (nI p)), none, none] [] S) := by
  have hP4 := hP.1.2
  intro d
  induction d with
  | zero =>
    intro S i p ls hp h hT hi
    have : p = P := hp
    subst this
    rw [q1202_681 hF, h.2.2.1 0 (by decide), hP.2.2.1, if_neg (nI_nlt (Nat.le_refl _) (by omega))]
    rw [q1202_794 hF, h.2.2.1 0 (by decide), hP.2.2.1]
    by_cases c : p ≤ 1
    · rw [if_pos (show nI p ≤ 1 from nI_le (b := 1) c (by omega)), q1202_810 hF, q1202_811 hF]
      exact ph813 hF hL hR hP 0 (a := 0) h hT.stae (by omega) (fun z => absurd z (Nat.lt_irrefl _)) (by omega)
    · obtain ⟨S1, x, e1, hx, h1, -⟩ := h.nextn hF hL hP.2.2.2.2 (by omega) 3 (v := 3) rfl (by decide) (by decide)
      rw [if_neg (show ¬ nI p ≤ 1 from nI_ge (a := 1) (by omega) (by omega)), e1]
      simp only [qm_k_n, Option.toList_some, Option.toList_none, List.cons_append, List.nil_append, List.append_nil]
      rw [q1202_807 hF, q1202_811 hF]
      exact ph813 hF hL hR hP x (a := 0) h1 hT.stae (by omega) (fun _ => by omega) (by omega)
  | succ d ih =>
    intro S i p ls hp h hT hi
    have hpP : p < P := by omega
    rw [q1202_681 hF, h.2.2.1 0 (by decide), hP.2.2.1, if_pos (nI_lt hpP (by omega))]
    exact ph693in (o := 0) hF hL hR hP hpP (fun h hT hi => ih (by omega) h hT hi) Q (by omega) h hT (by omega)
theorem ph577in (hF : qm_fix O qt_me qt_qs (qt_C L0 xs) J F) (hL : L0 < 2147483648) (hR : RR P Q g R ln) (hP : PQ P Q f g) {p : Nat} (hp : p < P)
    (hout : ∀ {S : qm_S} {i : Nat} {ls : List LN}, WI S w b i (TXT ls) f g R ln A B C → GT P Q 6 (p + 1) 0 ls → i ≤ 27 + 2 * (5 * (p + 1)) → WP w C A B (F 1202 565 [some (.inr (1, w)), some (.inr (2, 1)), some (.inr (12, b)), some (.inl x3), some (.inl x4), some (.inl x5), some (.inl x6), some (.inl (nI (p + 1))), none, none] [] S)) : ∀ (d : Nat) {S : qm_S} {i o : Nat} {ls : List LN}, o + d = Q → WI S w b i (TXT ls) f g R ln A B C → GT P Q 6 p o ls → i ≤ 27 + 2 * (5 * p + o) → WP w C A B (F 1202 577 [some (.inr (1, w)), some (.inr (2, 1)), some (.inr (12, b)), some (.inl x3), some (.inl x4), some (.inl x5), some (.inl x6), some (.inl (nI p)), some (.inl (nI o)), none] [] S) := by
  obtain ⟨s0, s1, s2, s3, s4, s5, s6, s7, s8, s9, s10, s11, s12, s13, s14, s15, s16⟩ := sn_len
  obtain ⟨rg, rn, rr⟩ := hR.2.1
  have hP4 := hP.1.2
  have hQ5 := hP.2.1
  intro d
  induction d with
  | zero =>
    intro S i o ls ho h hT hi
    have : o = Q := ho
    subst this
    rw [q1202_577 hF, h.2.2.1 1 (by decide), hP.2.2.2.1, if_neg (nI_nlt (Nat.le_refl _) (by omega)), q1202_672 hF, z_1]
    exact hout h (hT.wors hp) (by omega)
  | succ d ih =>
    intro S i o ls ho h hT hi
    have hoQ : o < Q := by omega
    have hl : (TXT ls).length ≤ 838 := by
      have := (GT.len hP.1.2 hP.2.1 hT).1
      have h2 : Q * p ≤ 5 * p := Nat.mul_le_mul_right p hQ5
      unfold LB at this
      simp only at this
      omega
    obtain ⟨S1, x, e1, hx, h1, -⟩ := h.nextn hF hL hP.2.2.2.2 (by omega) 4 (v := 4) rfl (by decide) (by decide)
    rw [q1202_577 hF, h.2.2.1 1 (by decide), hP.2.2.2.1, if_pos (nI_lt hoQ (by omega)), e1]
    simp only [qm_k_n, Option.toList_some, Option.toList_none, List.cons_append, List.nil_append, List.append_nil]
    rw [q1202_591 hF]
    by_cases c : x = 0
    · subst c
      rw [if_pos (show nI 0 = 0 from rfl), q1202_666 hF, z_1]
      exact ih (by omega) h1 (hT.wor0 hp hoQ) (by omega)
    · have eg : ∀ {S' : qm_S} {i' : Nat} {t' : List Nat}, WI S' w b i' t' f g R ln A B C → qr_g S' 1 w 11 = g 11 ∧ qr_n S' (g 11) = P ∧ ∀ p, p < P → qr_g S' 6 (g 11) p = R 6 (g 11) p ∧ qr_n S' (R 6 (g 11) p) = Q := fun hS => ⟨hS.2.2.2.2.1 11, ((hS.2.2.2.2.2.2.1 (g 11) (by omega)).2).trans rn, fun p hp => ⟨hS.2.2.2.2.2.1 6 _ _ (by omega), ((hS.2.2.2.2.2.2.1 _ (by have := (rr p hp).2; omega)).2).trans (rr p hp).2⟩⟩
      obtain ⟨j1, j2, j3⟩ := eg h1
      obtain ⟨S2, n, e2, hn, h2, -⟩ := h1.nextn hF hL hP.2.2.2.2 (by omega) 25 (v := 25) rfl (by decide) (by decide)
      rw [if_neg (nI_ne0 (by omega) (by omega)), q1202_597 hF, j1, bl0 rg, j2, z_ib hp (by omega), z_cl (by omega), (j3 p hp).1, bl0 (rr p hp).1, e2]
      show WP w C A B (F 1202 612 [some (.inr (1, w)), some (.inr (2, 1)), some (.inr (12, b)), some (.inl x3), some (.inl x4), some (.inl x5), some (.inl x6), some (.inl (nI p)), some (.inl (nI o)), none] [.inl (nI n), .inl (nI o), .inr (7, R 6 (g 11) p)] S2)
      obtain ⟨j1, j2, j3⟩ := eg h2
      rw [q1202_612 hF, (j3 p hp).2, z_ib hoQ (by omega), z_cl (by omega)]
      have h3 := h2.row (s := 7) (by decide) (by decide) (by decide) (R 6 (g 11) p) o (nI n)
      have v3 : qr_i (qu_i S2 7 (R 6 (g 11) p) o (nI n)) 7 (R 6 (g 11) p) o = nI n := by rw [qi_i, if_pos ⟨rfl, rfl, rfl⟩]
      generalize qu_i S2 7 (R 6 (g 11) p) o (nI n) = S3 at h3 v3
      have hd := (qt_dg_ok n (by omega)).1
      obtain ⟨S4, e4, h4, k4⟩ := h3.appn hF 11 (n := 22) rfl (by decide) (by (try simp only [List.length_append, List.length_cons, List.length_nil, s0, s1, s2, s3, s4, s5, s6, s7, s8, s9, s10, s11, s12, s13, s14, s15, s16]); omega)
      rw [e4]
      show WP w C A B (F 1202 619 [some (.inr (1, w)), some (.inr (2, 1)), some (.inr (12, b)), some (.inl x3), some (.inl x4), some (.inl x5), some (.inl x6), some (.inl (nI p)), some (.inl (nI o)), none] [.inr (12, b)] S4)
      obtain ⟨S5, e5, h5, k5⟩ := h4.appL hF p (by omega) (by (try simp only [List.length_append, List.length_cons, List.length_nil, s0, s1, s2, s3, s4, s5, s6, s7, s8, s9, s10, s11, s12, s13, s14, s15, s16]); omega)
      rw [q1202_619 hF, e5]
      simp only [qm_k_n, Option.toList_some, Option.toList_none, List.cons_append, List.nil_append, List.append_nil]
      obtain ⟨S6, e6, h6, k6⟩ := h5.appn hF 12 (n := 23) rfl (by decide) (by (try simp only [List.length_append, List.length_cons, List.length_nil, s0, s1, s2, s3, s4, s5, s6, s7, s8, s9, s10, s11, s12, s13, s14, s15, s16]); omega)
      rw [q1202_628 hF, e6]
      simp only [qm_k_n, Option.toList_some, Option.toList_none, List.cons_append, List.nil_append, List.append_nil]
      obtain ⟨S7, e7, h7, k7⟩ := h6.appL hF o (by omega) (by (try simp only [List.length_append, List.length_cons, List.length_nil, s0, s1, s2, s3, s4, s5, s6, s7, s8, s9, s10, s11, s12, s13, s14, s15, s16]); omega)
      rw [q1202_633 hF, e7]
      simp only [qm_k_n, Option.toList_some, Option.toList_none, List.cons_append, List.nil_append, List.append_nil]
      obtain ⟨S8, e8, h8, k8⟩ := h7.appn hF 1 (n := 12) rfl (by decide) (by (try simp only [List.length_append, List.length_cons, List.length_nil, s0, s1, s2, s3, s4, s5, s6, s7, s8, s9, s10, s11, s12, s13, s14, s15, s16]); omega)
      rw [q1202_642 hF, e8]
      simp only [qm_k_n, Option.toList_some, Option.toList_none, List.cons_append, List.nil_append, List.append_nil]
      obtain ⟨j1, j2, j3⟩ := eg h8
      have kk := (((k4.tr k5).tr k6).tr k7).tr k8
      obtain ⟨S9, e9, h9, -⟩ := h8.appIn hF n (v := qr_i S8 7 (R 6 (g 11) p) o) ((kk 7 _ _ (by decide) (by decide) (by decide)).trans v3) (by omega) (by (try simp only [List.length_append, List.length_cons, List.length_nil, s0, s1, s2, s3, s4, s5, s6, s7, s8, s9, s10, s11, s12, s13, s14, s15, s16]); omega)
      rw [q1202_647 hF, j1, bl0 rg, j2, z_ib hp (by omega), z_cl (n := p) (by omega), (j3 p hp).1, bl0 (rr p hp).1, (j3 p hp).2, z_ib hoQ (by omega), z_cl (n := o) (by omega), e9]
      show WP w C A B (F 1202 660 [some (.inr (1, w)), some (.inr (2, 1)), some (.inr (12, b)), some (.inl x3), some (.inl x4), some (.inl x5), some (.inl x6), some (.inl (nI p)), some (.inl (nI o)), none] [.inr (12, b)] S9)
      obtain ⟨S10, e10, h10, -⟩ := h9.appn hF 2 (n := 13) rfl (by decide) (by (try simp only [List.length_append, List.length_cons, List.length_nil, s0, s1, s2, s3, s4, s5, s6, s7, s8, s9, s10, s11, s12, s13, s14, s15, s16]); omega)
      rw [q1202_660 hF, e10]
      simp only [qm_k_n, Option.toList_some, Option.toList_none, List.cons_append, List.nil_append, List.append_nil]
      rw [q1202_665 hF, q1202_666 hF, z_1]
      exact ih (by omega) (h10.eqt (by rw [TXT_add]; simp only [ltx, List.append_assoc])) (hT.wor1 (n := n) hp hoQ hn) (by omega)
theorem ph565 (hF : qm_fix O qt_me qt_qs (qt_C L0 xs) J F) (hL : L0 < 2147483648) (hR : RR P Q g R ln) (hP : PQ P Q f g) : ∀ (d : Nat) {S : qm_S} {i p : Nat} {ls : List LN}, p + d = P → WI S w b i (TXT ls) f g R ln A B C → GT P Q 6 p 0 ls → i ≤ 27 + 2 * (5 * p) → WP w C A B (F 1202 565 [some (.inr (1, w)), some (.inr (2, 1)), some (.inr (12, b)), some (.inl x3), some (.inl x4), some (.inl x5), some (.inl x6), some (.inl (nI p)), none, none] [] S) := by
  have hP4 := hP.1.2
  intro d
  induction d with
  | zero =>
    intro S i p ls hp h hT hi
    have : p = P := hp
    subst this
    rw [q1202_565 hF, h.2.2.1 0 (by decide), hP.2.2.1, if_neg (nI_nlt (Nat.le_refl _) (by omega))]
    rw [q1202_678 hF]
    exact ph681 hF hL hR hP p (p := 0) (by omega) h hT.wore (by omega)
  | succ d ih =>
    intro S i p ls hp h hT hi
    have hpP : p < P := by omega
    rw [q1202_565 hF, h.2.2.1 0 (by decide), hP.2.2.1, if_pos (nI_lt hpP (by omega))]
    exact ph577in (o := 0) hF hL hR hP hpP (fun h hT hi => ih (by omega) h hT hi) Q (by omega) h hT (by omega)
end
