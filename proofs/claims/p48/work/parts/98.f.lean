/-! ===== the house grown: its numbers, from its maker's start ===== -/
section
variable {S S' : qm_S} {O : qm_O} {F : qm_F} {J L0 : Nat} {xs : List Int32}
variable {w b i A B P Q : Nat} {t : List Nat} {f : Nat → Int32} {g : Nat → Nat} {R : Nat → Nat → Nat → Nat} {ln : Nat → Nat} {C : pm_S} {ls : List LN} {x3 x4 x5 x6 x7 x8 x9 : Int32}
theorem ph249 (hF : qm_fix O qt_me qt_qs (qt_C L0 xs) J F) (hL : L0 < 2147483648) (h : WI S w b i (TXT ls) f g R ln A B C) (hP : PQ P Q f g) (hT : GT P Q 3 0 0 ls) (hi : i ≤ 9) : WP w C (A + 100) (B + 200) (F 1202 249 [some (.inr (1, w)), some (.inr (2, 1)), some (.inr (12, b)), some (.inl x3), some (.inl x4), some (.inl x5), none, none, none, none] [] S) := by
  obtain ⟨s0, s1, s2, s3, s4, s5, s6, s7, s8, s9, s10, s11, s12, s13, s14, s15, s16⟩ := sn_len
  have hl : (TXT ls).length ≤ 28 := (GT.len hP.1.2 hP.2.1 hT).1
  obtain ⟨S1, x, e1, hx, h1, -⟩ := h.nextn hF hL hP.2.2.2.2 (by omega) 2 (v := 2) rfl (by decide) (by decide)
  rw [q1202_249 hF, e1]
  simp only [qm_k_n, Option.toList_some, Option.toList_none, List.cons_append, List.nil_append, List.append_nil]
  rw [q1202_254 hF]
  by_cases c : x = 0
  · subst c
    rw [if_pos (show nI 0 = 0 from rfl), q1202_262 hF, if_neg (by decide)]
    obtain ⟨S2, y, e2, hy, h2, -⟩ := h1.nextn hF hL hP.2.2.2.2 (by omega) 40 (v := 40) rfl (by decide) (by decide)
    rw [e2]
    simp only [qm_k_n, Option.toList_some, Option.toList_none, List.cons_append, List.nil_append, List.append_nil]
    rw [q1202_276 hF, q1202_280 hF, if_neg (by decide)]
    have h3 := (h2.put (k := 6) (by decide) (nI y)).1
    have hd := (qt_dg_ok (y) (by omega)).1
    obtain ⟨S4, e4, h4, -⟩ := h3.appn hF 5 (n := 16) rfl (by decide) (by (try simp only [List.length_append, List.length_cons, List.length_nil, s0, s1, s2, s3, s4, s5, s6, s7, s8, s9, s10, s11, s12, s13, s14, s15, s16]); omega)
    rw [e4]
    simp only [qm_k_n, Option.toList_some, Option.toList_none, List.cons_append, List.nil_append, List.append_nil]
    obtain ⟨S5, e5, h5, -⟩ := h4.appIn hF (y) (v := qr_i S4 1 w 6) (by rw [h4.2.2.1 6 (by decide), fu_s]) (by omega) (by (try simp only [List.length_append, List.length_cons, List.length_nil, s0, s1, s2, s3, s4, s5, s6, s7, s8, s9, s10, s11, s12, s13, s14, s15, s16]); omega)
    rw [q1202_294 hF, e5]
    simp only [qm_k_n, Option.toList_some, Option.toList_none, List.cons_append, List.nil_append, List.append_nil]
    obtain ⟨S6, e6, h6, -⟩ := h5.appn hF 2 (n := 13) rfl (by decide) (by (try simp only [List.length_append, List.length_cons, List.length_nil, s0, s1, s2, s3, s4, s5, s6, s7, s8, s9, s10, s11, s12, s13, s14, s15, s16]); omega)
    rw [q1202_301 hF, e6]
    simp only [qm_k_n, Option.toList_some, Option.toList_none, List.cons_append, List.nil_append, List.append_nil]
    rw [q1202_306 hF]
    exact ph307 hF hL (h6.eqt (by rw [TXT_add]; simp only [ltx, List.append_assoc])) (hP.fu (by decide) (by decide)) (hT.tire1 (n := y) (by omega)) (by omega)
  · rw [if_neg (nI_ne0 (by omega) (by omega)), q1202_261 hF, q1202_262 hF, if_pos rfl, q1202_279 hF, q1202_280 hF, if_pos rfl]
    exact ph307 hF hL ((h1.put (k := 6) (by decide) 0).1) (hP.fu (by decide) (by decide)) hT.tire0 (by omega)
theorem ph190 (hF : qm_fix O qt_me qt_qs (qt_C L0 xs) J F) (hL : L0 < 2147483648) (h : WI S w b i (TXT ls) f g R ln A B C) (hP : PQ P Q f g) (hT : GT P Q 2 0 0 ls) (hi : i ≤ 7) : WP w C (A + 100) (B + 200) (F 1202 190 [some (.inr (1, w)), some (.inr (2, 1)), some (.inr (12, b)), some (.inl x3), some (.inl x4), none, none, none, none, none] [] S) := by
  obtain ⟨s0, s1, s2, s3, s4, s5, s6, s7, s8, s9, s10, s11, s12, s13, s14, s15, s16⟩ := sn_len
  have hl : (TXT ls).length ≤ 20 := (GT.len hP.1.2 hP.2.1 hT).1
  obtain ⟨S1, x, e1, hx, h1, -⟩ := h.nextn hF hL hP.2.2.2.2 (by omega) 3 (v := 3) rfl (by decide) (by decide)
  rw [q1202_190 hF, e1]
  simp only [qm_k_n, Option.toList_some, Option.toList_none, List.cons_append, List.nil_append, List.append_nil]
  rw [q1202_195 hF]
  by_cases c : x = 0
  · subst c
    rw [if_pos (show nI 0 ≤ 0 from Int32.le_refl _), q1202_202 hF, q1202_203 hF, if_pos rfl, q1202_221 hF, q1202_222 hF, if_pos rfl]
    exact ph249 hF hL ((h1.put (k := 5) (by decide) 1).1) (hP.fu (by decide) (by decide)) hT.tries0 (by omega)
  · rw [if_neg (nI_nle (by omega) (by omega)), q1202_203 hF, if_neg (by decide)]
    obtain ⟨S2, y, e2, hy, h2, -⟩ := h1.nextn hF hL hP.2.2.2.2 (by omega) 4 (v := 4) rfl (by decide) (by decide)
    rw [e2]
    simp only [qm_k_n, Option.toList_some, Option.toList_none, List.cons_append, List.nil_append, List.append_nil]
    rw [q1202_217 hF, q1202_222 hF, if_neg (by decide)]
    have h3 := (h2.put (k := 5) (by decide) (1 + nI y)).1
    have hd := (qt_dg_ok (1 + y) (by omega)).1
    obtain ⟨S4, e4, h4, -⟩ := h3.appn hF 4 (n := 15) rfl (by decide) (by (try simp only [List.length_append, List.length_cons, List.length_nil, s0, s1, s2, s3, s4, s5, s6, s7, s8, s9, s10, s11, s12, s13, s14, s15, s16]); omega)
    rw [e4]
    simp only [qm_k_n, Option.toList_some, Option.toList_none, List.cons_append, List.nil_append, List.append_nil]
    obtain ⟨S5, e5, h5, -⟩ := h4.appIn hF (1 + y) (v := qr_i S4 1 w 5) (by rw [h4.2.2.1 5 (by decide), fu_s]; exact nI_add 1 y) (by omega) (by (try simp only [List.length_append, List.length_cons, List.length_nil, s0, s1, s2, s3, s4, s5, s6, s7, s8, s9, s10, s11, s12, s13, s14, s15, s16]); omega)
    rw [q1202_236 hF, e5]
    simp only [qm_k_n, Option.toList_some, Option.toList_none, List.cons_append, List.nil_append, List.append_nil]
    obtain ⟨S6, e6, h6, -⟩ := h5.appn hF 2 (n := 13) rfl (by decide) (by (try simp only [List.length_append, List.length_cons, List.length_nil, s0, s1, s2, s3, s4, s5, s6, s7, s8, s9, s10, s11, s12, s13, s14, s15, s16]); omega)
    rw [q1202_243 hF, e6]
    simp only [qm_k_n, Option.toList_some, Option.toList_none, List.cons_append, List.nil_append, List.append_nil]
    rw [q1202_248 hF]
    exact ph249 hF hL (h6.eqt (by rw [TXT_add]; simp only [ltx, List.append_assoc])) (hP.fu (by decide) (by decide)) (hT.tries1 (n := 1 + y) (by omega)) (by omega)
theorem ph132 (hF : qm_fix O qt_me qt_qs (qt_C L0 xs) J F) (hL : L0 < 2147483648) (h : WI S w b i (TXT ls) f g R ln A B C) (hP : PQ P Q f g) (hT : GT P Q 1 0 0 ls) (hi : i ≤ 5) : WP w C (A + 100) (B + 200) (F 1202 132 [some (.inr (1, w)), some (.inr (2, 1)), some (.inr (12, b)), some (.inl x3), none, none, none, none, none, none] [] S) := by
  obtain ⟨s0, s1, s2, s3, s4, s5, s6, s7, s8, s9, s10, s11, s12, s13, s14, s15, s16⟩ := sn_len
  have hl : (TXT ls).length ≤ 13 := (GT.len hP.1.2 hP.2.1 hT).1
  obtain ⟨S1, x, e1, hx, h1, -⟩ := h.nextn hF hL hP.2.2.2.2 (by omega) 3 (v := 3) rfl (by decide) (by decide)
  rw [q1202_132 hF, e1]
  simp only [qm_k_n, Option.toList_some, Option.toList_none, List.cons_append, List.nil_append, List.append_nil]
  rw [q1202_137 hF]
  by_cases c : x = 0
  · subst c
    rw [if_pos (show nI 0 ≤ 0 from Int32.le_refl _), q1202_144 hF, q1202_145 hF, if_pos rfl, q1202_162 hF, q1202_163 hF, if_pos rfl]
    exact ph190 hF hL ((h1.put (k := 4) (by decide) 0).1) (hP.fu (by decide) (by decide)) hT.care0 (by omega)
  · rw [if_neg (nI_nle (by omega) (by omega)), q1202_145 hF, if_neg (by decide)]
    obtain ⟨S2, y, e2, hy, h2, -⟩ := h1.nextn hF hL hP.2.2.2.2 (by omega) 10 (v := 10) rfl (by decide) (by decide)
    rw [e2]
    simp only [qm_k_n, Option.toList_some, Option.toList_none, List.cons_append, List.nil_append, List.append_nil]
    rw [q1202_159 hF, q1202_163 hF, if_neg (by decide)]
    have h3 := (h2.put (k := 4) (by decide) (nI y)).1
    have hd := (qt_dg_ok (y) (by omega)).1
    obtain ⟨S4, e4, h4, -⟩ := h3.appn hF 3 (n := 14) rfl (by decide) (by (try simp only [List.length_append, List.length_cons, List.length_nil, s0, s1, s2, s3, s4, s5, s6, s7, s8, s9, s10, s11, s12, s13, s14, s15, s16]); omega)
    rw [e4]
    simp only [qm_k_n, Option.toList_some, Option.toList_none, List.cons_append, List.nil_append, List.append_nil]
    obtain ⟨S5, e5, h5, -⟩ := h4.appIn hF (y) (v := qr_i S4 1 w 4) (by rw [h4.2.2.1 4 (by decide), fu_s]) (by omega) (by (try simp only [List.length_append, List.length_cons, List.length_nil, s0, s1, s2, s3, s4, s5, s6, s7, s8, s9, s10, s11, s12, s13, s14, s15, s16]); omega)
    rw [q1202_177 hF, e5]
    simp only [qm_k_n, Option.toList_some, Option.toList_none, List.cons_append, List.nil_append, List.append_nil]
    obtain ⟨S6, e6, h6, -⟩ := h5.appn hF 2 (n := 13) rfl (by decide) (by (try simp only [List.length_append, List.length_cons, List.length_nil, s0, s1, s2, s3, s4, s5, s6, s7, s8, s9, s10, s11, s12, s13, s14, s15, s16]); omega)
    rw [q1202_184 hF, e6]
    simp only [qm_k_n, Option.toList_some, Option.toList_none, List.cons_append, List.nil_append, List.append_nil]
    rw [q1202_189 hF]
    exact ph190 hF hL (h6.eqt (by rw [TXT_add]; simp only [ltx, List.append_assoc])) (hP.fu (by decide) (by decide)) (hT.care1 (c := y) (by omega)) (by omega)
theorem ph42 (hF : qm_fix O qt_me qt_qs (qt_C L0 xs) J F) (hL : L0 < 2147483648) (h : WI S w b i [] f g R ln A B C) (hP : PQ P Q f g) (hi : i ≤ 2) : WP w C (A + 100) (B + 200) (F 1202 42 [some (.inr (1, w)), some (.inr (2, 1)), none, none, none, none, none, none, none, none] [.inr (12, b)] S) := by
  obtain ⟨s0, s1, s2, s3, s4, s5, s6, s7, s8, s9, s10, s11, s12, s13, s14, s15, s16⟩ := sn_len
  have hT : GT P Q 0 0 0 [] := GT.start
  obtain ⟨S1, x, e1, hx, h1, -⟩ := h.nextn hF hL hP.2.2.2.2 (by omega) 2 (v := 2) rfl (by decide) (by decide)
  rw [q1202_42 hF, e1]
  simp only [qm_k_n, Option.toList_some, Option.toList_none, List.cons_append, List.nil_append, List.append_nil]
  rw [q1202_48 hF]
  by_cases c : x = 0
  · subst c
    rw [if_pos (show nI 0 = 0 from rfl), q1202_56 hF, if_neg (by decide)]
    obtain ⟨S2, y, e2, hy, h2, -⟩ := h1.nextn hF hL hP.2.2.2.2 (by omega) 9 (v := 9) rfl (by decide) (by decide)
    rw [e2]
    simp only [qm_k_n, Option.toList_some, Option.toList_none, List.cons_append, List.nil_append, List.append_nil]
    rw [q1202_69 hF, q1202_74 hF, if_neg (by decide)]
    have h3 := (h2.put (k := 2) (by decide) (1 + nI y)).1
    obtain ⟨S4, z, e4, hz, h4, -⟩ := h3.nextn hF hL hP.2.2.2.2 (by omega) 9 (v := 9) rfl (by decide) (by decide)
    rw [e4]
    simp only [qm_k_n, Option.toList_some, Option.toList_none, List.cons_append, List.nil_append, List.append_nil]
    rw [q1202_89 hF, q1202_94 hF, if_neg (by decide)]
    have h5 := (h4.put (k := 3) (by decide) (1 + nI z)).1
    have hd := (qt_dg_ok (1 + y) (by omega)).1
    have hd2 := (qt_dg_ok (1 + z) (by omega)).1
    obtain ⟨S6, e6, h6, -⟩ := h5.appn hF 0 (n := 11) rfl (by decide) (by (try simp only [List.length_append, List.length_cons, List.length_nil, s0, s1, s2, s3, s4, s5, s6, s7, s8, s9, s10, s11, s12, s13, s14, s15, s16]); omega)
    rw [e6]
    simp only [qm_k_n, Option.toList_some, Option.toList_none, List.cons_append, List.nil_append, List.append_nil]
    obtain ⟨S7, e7, h7, -⟩ := h6.appIn hF (1 + y) (v := qr_i S6 1 w 2) (by rw [h6.2.2.1 2 (by decide), fu_n (by decide), fu_s]; exact nI_add 1 y) (by omega) (by (try simp only [List.length_append, List.length_cons, List.length_nil, s0, s1, s2, s3, s4, s5, s6, s7, s8, s9, s10, s11, s12, s13, s14, s15, s16]); omega)
    rw [q1202_107 hF, e7]
    simp only [qm_k_n, Option.toList_some, Option.toList_none, List.cons_append, List.nil_append, List.append_nil]
    obtain ⟨S8, e8, h8, -⟩ := h7.appn hF 1 (n := 12) rfl (by decide) (by (try simp only [List.length_append, List.length_cons, List.length_nil, s0, s1, s2, s3, s4, s5, s6, s7, s8, s9, s10, s11, s12, s13, s14, s15, s16]); omega)
    rw [q1202_114 hF, e8]
    simp only [qm_k_n, Option.toList_some, Option.toList_none, List.cons_append, List.nil_append, List.append_nil]
    obtain ⟨S9, e9, h9, -⟩ := h8.appIn hF (1 + z) (v := qr_i S8 1 w 3) (by rw [h8.2.2.1 3 (by decide), fu_s]; exact nI_add 1 z) (by omega) (by (try simp only [List.length_append, List.length_cons, List.length_nil, s0, s1, s2, s3, s4, s5, s6, s7, s8, s9, s10, s11, s12, s13, s14, s15, s16]); omega)
    rw [q1202_119 hF, e9]
    simp only [qm_k_n, Option.toList_some, Option.toList_none, List.cons_append, List.nil_append, List.append_nil]
    obtain ⟨S10, e10, h10, -⟩ := h9.appn hF 2 (n := 13) rfl (by decide) (by (try simp only [List.length_append, List.length_cons, List.length_nil, s0, s1, s2, s3, s4, s5, s6, s7, s8, s9, s10, s11, s12, s13, s14, s15, s16]); omega)
    rw [q1202_126 hF, e10]
    simp only [qm_k_n, Option.toList_some, Option.toList_none, List.cons_append, List.nil_append, List.append_nil]
    rw [q1202_131 hF]
    exact ph132 hF hL (h10.eqt (by rw [TXT_add]; simp only [TXT, List.flatMap_nil, ltx, List.append_assoc])) ((hP.fu (by decide) (by decide)).fu (by decide) (by decide)) (hT.div1 (f := 1 + y) (s := 1 + z) (by omega) (by omega)) (by omega)
  · rw [if_neg (nI_ne0 (by omega) (by omega)), q1202_55 hF, q1202_56 hF, if_pos rfl, q1202_73 hF, q1202_74 hF, if_pos rfl, q1202_93 hF, q1202_94 hF, if_pos rfl]
    exact ph132 hF hL ((h1.put (k := 2) (by decide) 1).1.put (k := 3) (by decide) 1).1 ((hP.fu (by decide) (by decide)).fu (by decide) (by decide)) hT.div0 (by omega)
theorem j_nextn (hF : qm_fix O qt_me qt_qs (qt_C L0 xs) J F) (hL : L0 < 2147483648) (n : Nat) {v : Int32} (hv : v = nI n) (hs : qr_g S 1 w 15 = 1) (hi : qr_i S 1 w 16 = nI i) (hi2 : i < 100000) (h0 : 0 < n) (hn : n < 2147483648) : ∃ x, x < n ∧ F 1201 0 [some (.inr (1, w)), some (.inl v)] [] S = some (some (.inl (nI x)), qu_i S 1 w 16 (nI (i + 1))) := by
  subst hv
  exact ⟨_, wpk_lt h0, j_next hF hL hs hi hi2 h0 hn⟩
theorem ph0 (hF : qm_fix O qt_me qt_qs (qt_C L0 xs) J F) (hL : L0 < 2147483648) (hw : w < S.1) (hz : qr_i S 1 w 16 = 0) : WP w S.2.2.2.2.2.2 (S.1 + 102) (S.2.1 + 204) (F 1202 0 [some (.inr (1, w)), some (.inr (2, 1)), none, none, none, none, none, none, none, none] [] S) := by
  obtain ⟨x, hx, e1⟩ := j_nextn (S := qu_g (qu_i S 1 w 7 (-1)) 1 w 15 1) (w := w) (i := 0) hF hL 4 (v := 4) rfl (by rw [qg_g, if_pos ⟨rfl, rfl, rfl⟩]) (by rw [qi_g, qi_i, if_neg (fun z => by omega)]; exact hz) (by decide) (by decide) (by decide)
  rw [q1202_0 hF, e1]
  simp only [qm_k_n, Option.toList_some, Option.toList_none, List.cons_append, List.nil_append, List.append_nil]
  generalize hS1 : qu_i (qu_g (qu_i S 1 w 7 (-1)) 1 w 15 1) 1 w 16 (nI (0 + 1)) = S1
  have a1 : S1.1 = S.1 ∧ S1.2.1 = S.2.1 ∧ S1.2.2.2.2.2.2 = S.2.2.2.2.2.2 := by subst hS1; exact ⟨rfl, rfl, rfl⟩
  have a2 : qr_g S1 1 w 15 = 1 := by subst hS1; rw [qg_i, qg_g, if_pos ⟨rfl, rfl, rfl⟩]
  have a3 : qr_i S1 1 w 16 = nI 1 := by subst hS1; rw [qi_i, if_pos ⟨rfl, rfl, rfl⟩]
  obtain ⟨y, hy, e2⟩ := j_nextn (S := qu_i S1 1 w 0 (1 + nI x)) (w := w) (i := 1) hF hL 6 (v := 6) rfl (by rw [qg_i]; exact a2) (by rw [qi_i, if_neg (fun z => by omega)]; exact a3) (by decide) (by decide) (by decide)
  rw [q1202_21 hF, e2]
  simp only [qm_k_n, Option.toList_some, Option.toList_none, List.cons_append, List.nil_append, List.append_nil]
  generalize hS2 : qu_i (qu_i S1 1 w 0 (1 + nI x)) 1 w 16 (nI (1 + 1)) = S2
  have b1 : S2.1 = S1.1 ∧ S2.2.1 = S1.2.1 ∧ S2.2.2.2.2.2.2 = S1.2.2.2.2.2.2 := by subst hS2; exact ⟨rfl, rfl, rfl⟩
  have b2 : qr_g S2 1 w 15 = 1 := by subst hS2; rw [qg_i]; exact a2
  have b3 : qr_i S2 1 w 16 = nI 2 := by subst hS2; rw [qi_i, if_pos ⟨rfl, rfl, rfl⟩]
  have b4 : qr_i S2 1 w 0 = 1 + nI x := by subst hS2; rw [qi_i, if_neg (fun z => by omega), qi_i, if_pos ⟨rfl, rfl, rfl⟩]
  rw [q1202_32 hF]
  generalize hS3 : qu_i S2 1 w 1 (nI y) = S3
  have c1 : S3.1 = S2.1 ∧ S3.2.1 = S2.2.1 ∧ S3.2.2.2.2.2.2 = S2.2.2.2.2.2.2 := by subst hS3; exact ⟨rfl, rfl, rfl⟩
  have c2 : qr_g S3 1 w 15 = 1 := by subst hS3; rw [qg_i]; exact b2
  have c3 : qr_i S3 1 w 16 = nI 2 := by subst hS3; rw [qi_i, if_neg (fun z => by omega)]; exact b3
  have c4 : qr_i S3 1 w 0 = 1 + nI x := by subst hS3; rw [qi_i, if_neg (fun z => by omega)]; exact b4
  have c5 : qr_i S3 1 w 1 = nI y := by subst hS3; rw [qi_i, if_pos ⟨rfl, rfl, rfl⟩]
  obtain ⟨S4, d1, d2, d3, d4, d5⟩ := j_sb (S := qm_mk S3 12 4) hF (b := S3.1) (Nat.lt_succ_self _) (fun k => by rw [qi_mk, if_pos ⟨rfl, rfl⟩])
  rw [← c1.1, d1]
  simp only [qm_k_n, Option.toList_some, Option.toList_none, List.cons_append, List.nil_append, List.append_nil]
  obtain ⟨k1, k2, k3, k4, k5⟩ := d3
  have m1 : (qm_mk S3 12 4).1 = S3.1 + 1 := rfl
  have m2 : (qm_mk S3 12 4).2.1 = S3.2.1 + 4 := rfl
  have hw3 : w < S3.1 := by omega
  have e3 : (qm_mk S3 12 4).2.2.2.2.2.2 = S.2.2.2.2.2.2 := c1.2.2.trans (b1.2.2.trans a1.2.2)
  have hWI : WI S4 w S3.1 2 [] (fun k => qr_i S4 1 w k) (fun k => qr_g S4 1 w k) (fun s a k => qr_g S4 s a k) (fun _ => 0) (S.1 + 2) (S.2.1 + 4) S.2.2.2.2.2.2 :=
    ⟨⟨_, 16, d2, by omega, by omega⟩, by omega, fun _ _ => rfl, by rw [k1 1 w 16 (by decide) (by decide), qi_mk, if_neg (fun z => by omega)]; exact c3, fun _ => rfl, fun _ _ _ _ => rfl, fun _ h => absurd h (Nat.lt_irrefl 0), k5.trans e3⟩
  have hP : PQ (1 + x) y (fun k => qr_i S4 1 w k) (fun k => qr_g S4 1 w k) := by
    refine ⟨by omega, by omega, ?_, ?_, ?_⟩
    · show qr_i S4 1 w 0 = _
      rw [k1 1 w 0 (by decide) (by decide), qi_mk, if_neg (fun z => by omega), c4]
      exact nI_add 1 x
    · show qr_i S4 1 w 1 = _
      rw [k1 1 w 1 (by decide) (by decide), qi_mk, if_neg (fun z => by omega), c5]
    · show qr_g S4 1 w 15 = _
      rw [k2 1 w 15 (by decide) (by decide), qg_mk, if_neg (fun z => by omega), c2]
  exact ph42 hF hL hWI hP (by omega)
end
