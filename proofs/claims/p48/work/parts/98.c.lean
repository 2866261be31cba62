/-! ===== the house grown: offices and parties ===== -/
section
variable {S S' : qm_S} {O : qm_O} {F : qm_F} {J L0 : Nat} {xs : List Int32}
variable {w b i A B P Q : Nat} {t : List Nat} {f : Nat → Int32} {g : Nat → Nat} {R : Nat → Nat → Nat → Nat} {ln : Nat → Nat} {C : pm_S} {ls : List LN} {x3 x4 x5 x6 x7 x8 x9 : Int32}
theorem ph549 (hF : qm_fix O qt_me qt_qs (qt_C L0 xs) J F) {p : Nat} (h : WI S w b i t f g R ln A B C) (hl : t.length ≤ 890)
    (hk : ∀ {S' : qm_S}, WI S' w b i (t ++ qt_sn 2) f g R ln A B C → WP w C A B (F 1202 427 [some (.inr (1, w)), some (.inr (2, 1)), some (.inr (12, b)), some (.inl x3), some (.inl x4), some (.inl x5), some (.inl x6), some (.inl (nI (p + 1))), none, none] [] S')) : WP w C A B (F 1202 549 [some (.inr (1, w)), some (.inr (2, 1)), some (.inr (12, b)), some (.inl x3), some (.inl x4), some (.inl x5), some (.inl x6), some (.inl (nI p)), none, none] [] S) := by
  obtain ⟨S1, e1, h1, -⟩ := h.appn hF 2 (n := 13) rfl (by decide) hl
  rw [q1202_549 hF, e1]
  simp only [qm_k_n, Option.toList_some, Option.toList_none, List.cons_append, List.nil_append, List.append_nil]
  rw [q1202_555 hF, z_1]
  exact hk h1
theorem ph427 (hF : qm_fix O qt_me qt_qs (qt_C L0 xs) J F) (hL : L0 < 2147483648) (hR : RR P Q g R ln) (hP : PQ P Q f g) : ∀ (d : Nat) {S : qm_S} {i p : Nat} {ls : List LN}, p + d = P → WI S w b i (TXT ls) f g R ln A B C → GT P Q 5 p 0 ls → i ≤ 11 + 4 * p → WP w C A B (F 1202 427 [some (.inr (1, w)), some (.inr (2, 1)), some (.inr (12, b)), some (.inl x3), some (.inl x4), some (.inl x5), some (.inl x6), some (.inl (nI p)), none, none] [] S) := by
  obtain ⟨s0, s1, s2, s3, s4, s5, s6, s7, s8, s9, s10, s11, s12, s13, s14, s15, s16⟩ := sn_len
  have hP4 := hP.1.2
  obtain ⟨-, -, -, ⟨r8, n8⟩, ⟨r9, n9⟩, ⟨r10, n10⟩⟩ := id hR
  intro d
  induction d with
  | zero =>
    intro S i p ls hp h hT hi
    have : p = P := hp
    subst this
    rw [q1202_427 hF, h.2.2.1 0 (by decide), hP.2.2.1, if_neg (nI_nlt (Nat.le_refl _) (by omega)), q1202_562 hF]
    exact ph565 hF hL hR hP p (p := 0) (by omega) h hT.pars (by omega)
  | succ d ih =>
    intro S i p ls hp h hT hi
    have hpP : p < P := by omega
    have hl : (TXT ls).length ≤ 838 := by
      have := (GT.len hP.1.2 hP.2.1 hT).1
      unfold LB at this
      simp only at this
      omega
    have eg : ∀ {S' : qm_S} {i' : Nat} {t' : List Nat}, WI S' w b i' t' f g R ln A B C → (qr_g S' 1 w 8 = g 8 ∧ qr_n S' (g 8) = P) ∧ (qr_g S' 1 w 9 = g 9 ∧ qr_n S' (g 9) = P) ∧ qr_g S' 1 w 10 = g 10 ∧ qr_n S' (g 10) = P := fun hS => ⟨⟨hS.2.2.2.2.1 8, ((hS.2.2.2.2.2.2.1 (g 8) (by omega)).2).trans n8⟩, ⟨hS.2.2.2.2.1 9, ((hS.2.2.2.2.2.2.1 (g 9) (by omega)).2).trans n9⟩, hS.2.2.2.2.1 10, ((hS.2.2.2.2.2.2.1 (g 10) (by omega)).2).trans n10⟩
    obtain ⟨⟨j1, j2⟩, -⟩ := eg h
    obtain ⟨S1, x, e1, hx, h1, -⟩ := h.nextn hF hL hP.2.2.2.2 (by omega) 30 (v := 30) rfl (by decide) (by decide)
    rw [q1202_427 hF, h.2.2.1 0 (by decide), hP.2.2.1, if_pos (nI_lt hpP (by omega)), j1, bl0 r8, e1]
    show WP w C A B (F 1202 449 [some (.inr (1, w)), some (.inr (2, 1)), some (.inr (12, b)), some (.inl x3), some (.inl x4), some (.inl x5), some (.inl x6), some (.inl (nI p)), none, none] [.inl (nI x), .inl 1, .inl (nI p), .inr (3, g 8)] S1)
    obtain ⟨⟨j1, j2⟩, ⟨j3, j4⟩, -⟩ := eg h1
    rw [q1202_449 hF, j2, z_ib hpP (by omega), j3, bl0 r9, z_cl (by omega), show (1 : Int32) + nI x = nI (1 + x) from nI_add 1 x]
    have h2 := h1.row (s := 3) (by decide) (by decide) (by decide) (g 8) p (nI (1 + x))
    have v2 : qr_i (qu_i S1 3 (g 8) p (nI (1 + x))) 3 (g 8) p = nI (1 + x) := by rw [qi_i, if_pos ⟨rfl, rfl, rfl⟩]
    generalize qu_i S1 3 (g 8) p (nI (1 + x)) = S2 at h2 v2
    obtain ⟨S3, y, e3, hy, h3, k3⟩ := h2.nextn hF hL hP.2.2.2.2 (by omega) 100 (v := 100) rfl (by decide) (by decide)
    rw [e3]
    show WP w C A B (F 1202 463 [some (.inr (1, w)), some (.inr (2, 1)), some (.inr (12, b)), some (.inl x3), some (.inl x4), some (.inl x5), some (.inl x6), some (.inl (nI p)), none, none] [.inl (nI y), .inl (nI p), .inr (4, g 9)] S3)
    obtain ⟨-, ⟨j3, j4⟩, -⟩ := eg h3
    rw [q1202_463 hF, j4, z_ib hpP (by omega), z_cl (by omega)]
    have v3 := (k3 3 (g 8) p (by decide) (by decide) (by decide)).trans v2
    have h4 := h3.row (s := 4) (by decide) (by decide) (by decide) (g 9) p (nI y)
    have v4 : qr_i (qu_i S3 4 (g 9) p (nI y)) 4 (g 9) p = nI y := by rw [qi_i, if_pos ⟨rfl, rfl, rfl⟩]
    have u4 : qr_i (qu_i S3 4 (g 9) p (nI y)) 3 (g 8) p = nI (1 + x) := by rw [qi_i, if_neg (fun z => by omega)]; exact v3
    generalize qu_i S3 4 (g 9) p (nI y) = S4 at h4 v4 u4
    have hdx := (qt_dg_ok (1 + x) (by omega)).1
    have hdy := (qt_dg_ok y (by omega)).1
    obtain ⟨S5, e5, h5, k5⟩ := h4.appn hF 7 (n := 18) rfl (by decide) (by (try simp only [List.length_append, List.length_cons, List.length_nil, s0, s1, s2, s3, s4, s5, s6, s7, s8, s9, s10, s11, s12, s13, s14, s15, s16]); omega)
    rw [e5]
    show WP w C A B (F 1202 470 [some (.inr (1, w)), some (.inr (2, 1)), some (.inr (12, b)), some (.inl x3), some (.inl x4), some (.inl x5), some (.inl x6), some (.inl (nI p)), none, none] [.inr (12, b)] S5)
    obtain ⟨S6, e6, h6, k6⟩ := h5.appL hF p (by omega) (by (try simp only [List.length_append, List.length_cons, List.length_nil, s0, s1, s2, s3, s4, s5, s6, s7, s8, s9, s10, s11, s12, s13, s14, s15, s16]); omega)
    rw [q1202_470 hF, e6]
    simp only [qm_k_n, Option.toList_some, Option.toList_none, List.cons_append, List.nil_append, List.append_nil]
    obtain ⟨S7, e7, h7, k7⟩ := h6.appn hF 8 (n := 19) rfl (by decide) (by (try simp only [List.length_append, List.length_cons, List.length_nil, s0, s1, s2, s3, s4, s5, s6, s7, s8, s9, s10, s11, s12, s13, s14, s15, s16]); omega)
    rw [q1202_479 hF, e7]
    simp only [qm_k_n, Option.toList_some, Option.toList_none, List.cons_append, List.nil_append, List.append_nil]
    obtain ⟨⟨j1, j2⟩, -⟩ := eg h7
    have kk := (k5.tr k6).tr k7
    obtain ⟨S8, e8, h8, k8⟩ := h7.appIn hF (1 + x) (v := qr_i S7 3 (g 8) p) ((kk 3 _ _ (by decide) (by decide) (by decide)).trans u4) (by omega) (by (try simp only [List.length_append, List.length_cons, List.length_nil, s0, s1, s2, s3, s4, s5, s6, s7, s8, s9, s10, s11, s12, s13, s14, s15, s16]); omega)
    rw [q1202_484 hF, j1, bl0 r8, j2, z_ib hpP (by omega), z_cl (by omega), e8]
    show WP w C A B (F 1202 494 [some (.inr (1, w)), some (.inr (2, 1)), some (.inr (12, b)), some (.inl x3), some (.inl x4), some (.inl x5), some (.inl x6), some (.inl (nI p)), none, none] [.inr (12, b)] S8)
    obtain ⟨S9, e9, h9, k9⟩ := h8.appn hF 9 (n := 20) rfl (by decide) (by (try simp only [List.length_append, List.length_cons, List.length_nil, s0, s1, s2, s3, s4, s5, s6, s7, s8, s9, s10, s11, s12, s13, s14, s15, s16]); omega)
    rw [q1202_494 hF, e9]
    simp only [qm_k_n, Option.toList_some, Option.toList_none, List.cons_append, List.nil_append, List.append_nil]
    obtain ⟨-, ⟨j1, j2⟩, -⟩ := eg h9
    have kk := (kk.tr k8).tr k9
    obtain ⟨Sa, ea, ha, ka⟩ := h9.appIn hF y (v := qr_i S9 4 (g 9) p) ((kk 4 _ _ (by decide) (by decide) (by decide)).trans v4) (by omega) (by (try simp only [List.length_append, List.length_cons, List.length_nil, s0, s1, s2, s3, s4, s5, s6, s7, s8, s9, s10, s11, s12, s13, s14, s15, s16]); omega)
    rw [q1202_499 hF, j1, bl0 r9, j2, z_ib hpP (by omega), z_cl (by omega), ea]
    show WP w C A B (F 1202 509 [some (.inr (1, w)), some (.inr (2, 1)), some (.inr (12, b)), some (.inl x3), some (.inl x4), some (.inl x5), some (.inl x6), some (.inl (nI p)), none, none] [.inr (12, b)] Sa)
    obtain ⟨Sb, z, eb, hz, hb, -⟩ := ha.nextn hF hL hP.2.2.2.2 (by omega) 2 (v := 2) rfl (by decide) (by decide)
    rw [q1202_509 hF, eb]
    simp only [qm_k_n, Option.toList_some, Option.toList_none, List.cons_append, List.nil_append, List.append_nil]
    rw [q1202_515 hF]
    by_cases c : z = 0
    · subst c
      obtain ⟨-, -, j1, j2⟩ := eg hb
      obtain ⟨Sc, v, ec, hv, hc, -⟩ := hb.nextn hF hL hP.2.2.2.2 (by omega) 200 (v := 200) rfl (by decide) (by decide)
      rw [if_pos (show nI 0 = 0 from rfl), j1, bl0 r10, ec]
      show WP w C A B (F 1202 531 [some (.inr (1, w)), some (.inr (2, 1)), some (.inr (12, b)), some (.inl x3), some (.inl x4), some (.inl x5), some (.inl x6), some (.inl (nI p)), none, none] [.inl (nI v), .inl (nI p), .inr (5, g 10)] Sc)
      obtain ⟨-, -, j1, j2⟩ := eg hc
      rw [q1202_531 hF, j2, z_ib hpP (by omega), z_cl (by omega)]
      have hd := hc.row (s := 5) (by decide) (by decide) (by decide) (g 10) p (nI v)
      have vd : qr_i (qu_i Sc 5 (g 10) p (nI v)) 5 (g 10) p = nI v := by rw [qi_i, if_pos ⟨rfl, rfl, rfl⟩]
      generalize qu_i Sc 5 (g 10) p (nI v) = Sd at hd vd
      have hdv := (qt_dg_ok v (by omega)).1
      obtain ⟨Se, ee, he, ke⟩ := hd.appn hF 10 (n := 21) rfl (by decide) (by (try simp only [List.length_append, List.length_cons, List.length_nil, s0, s1, s2, s3, s4, s5, s6, s7, s8, s9, s10, s11, s12, s13, s14, s15, s16]); omega)
      rw [ee]
      show WP w C A B (F 1202 538 [some (.inr (1, w)), some (.inr (2, 1)), some (.inr (12, b)), some (.inl x3), some (.inl x4), some (.inl x5), some (.inl x6), some (.inl (nI p)), none, none] [.inr (12, b)] Se)
      obtain ⟨-, -, j1, j2⟩ := eg he
      obtain ⟨Sf, ef, hf, -⟩ := he.appIn hF v (v := qr_i Se 5 (g 10) p) ((ke 5 _ _ (by decide) (by decide) (by decide)).trans vd) (by omega) (by (try simp only [List.length_append, List.length_cons, List.length_nil, s0, s1, s2, s3, s4, s5, s6, s7, s8, s9, s10, s11, s12, s13, s14, s15, s16]); omega)
      rw [q1202_538 hF, j1, bl0 r10, j2, z_ib hpP (by omega), z_cl (by omega), ef]
      show WP w C A B (F 1202 548 [some (.inr (1, w)), some (.inr (2, 1)), some (.inr (12, b)), some (.inl x3), some (.inl x4), some (.inl x5), some (.inl x6), some (.inl (nI p)), none, none] [.inr (12, b)] Sf)
      rw [q1202_548 hF]
      exact ph549 hF hf (by (try simp only [List.length_append, List.length_cons, List.length_nil, s0, s1, s2, s3, s4, s5, s6, s7, s8, s9, s10, s11, s12, s13, s14, s15, s16]); omega) fun hg => ih (by omega) (hg.eqt (by rw [TXT_add]; simp only [ltx, List.append_assoc])) (hT.par1 (s := 1 + x) (a := y) (w := v) hpP (by omega) hy hv) (by omega)
    · rw [if_neg (nI_ne0 (by omega) (by omega))]
      exact ph549 hF hb (by (try simp only [List.length_append, List.length_cons, List.length_nil, s0, s1, s2, s3, s4, s5, s6, s7, s8, s9, s10, s11, s12, s13, s14, s15, s16]); omega) fun hg => ih (by omega) (hg.eqt (by rw [TXT_add]; simp only [ltx, List.append_assoc])) (hT.par0 (s := 1 + x) (a := y) hpP (by omega) hy) (by omega)
theorem ph388 (hF : qm_fix O qt_me qt_qs (qt_C L0 xs) J F) (hL : L0 < 2147483648) (hR : RR P Q g R ln) (hP : PQ P Q f g) : ∀ (d : Nat) {S : qm_S} {i o : Nat} {ls : List LN}, o + d = Q → WI S w b i (TXT ls) f g R ln A B C → GT P Q 4 0 o ls → i ≤ 11 → WP w C A B (F 1202 388 [some (.inr (1, w)), some (.inr (2, 1)), some (.inr (12, b)), some (.inl x3), some (.inl x4), some (.inl x5), some (.inl x6), some (.inl (nI o)), none, none] [] S) := by
  obtain ⟨s0, s1, s2, s3, s4, s5, s6, s7, s8, s9, s10, s11, s12, s13, s14, s15, s16⟩ := sn_len
  have hQ5 := hP.2.1
  intro d
  induction d with
  | zero =>
    intro S i o ls ho h hT hi
    have : o = Q := ho
    subst this
    rw [q1202_388 hF, h.2.2.1 1 (by decide), hP.2.2.2.1, if_neg (nI_nlt (Nat.le_refl _) (by omega)), q1202_424 hF]
    exact ph427 hF hL hR hP P (p := 0) (by omega) h hT.offs (by omega)
  | succ d ih =>
    intro S i o ls ho h hT hi
    have hl : (TXT ls).length ≤ 838 := by
      have := (GT.len hP.1.2 hP.2.1 hT).1
      unfold LB at this
      simp only at this
      omega
    obtain ⟨S1, e1, h1, -⟩ := h.appn hF 6 (n := 17) rfl (by decide) (by (try simp only [List.length_append, List.length_cons, List.length_nil, s0, s1, s2, s3, s4, s5, s6, s7, s8, s9, s10, s11, s12, s13, s14, s15, s16]); omega)
    rw [q1202_388 hF, h.2.2.1 1 (by decide), hP.2.2.2.1, if_pos (nI_lt (show o < Q by omega) (by omega)), e1]
    simp only [qm_k_n, Option.toList_some, Option.toList_none, List.cons_append, List.nil_append, List.append_nil]
    obtain ⟨S2, e2, h2, -⟩ := h1.appL hF o (by omega) (by (try simp only [List.length_append, List.length_cons, List.length_nil, s0, s1, s2, s3, s4, s5, s6, s7, s8, s9, s10, s11, s12, s13, s14, s15, s16]); omega)
    rw [q1202_403 hF, e2]
    simp only [qm_k_n, Option.toList_some, Option.toList_none, List.cons_append, List.nil_append, List.append_nil]
    obtain ⟨S3, e3, h3, -⟩ := h2.appn hF 2 (n := 13) rfl (by decide) (by (try simp only [List.length_append, List.length_cons, List.length_nil, s0, s1, s2, s3, s4, s5, s6, s7, s8, s9, s10, s11, s12, s13, s14, s15, s16]); omega)
    rw [q1202_412 hF, e3]
    simp only [qm_k_n, Option.toList_some, Option.toList_none, List.cons_append, List.nil_append, List.append_nil]
    rw [q1202_417 hF, z_1]
    exact ih (by omega) (h3.eqt (by rw [TXT_add]; simp only [ltx, List.append_assoc])) (hT.off (show o < Q by omega)) hi
end
