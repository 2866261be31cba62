/-! ===== one call: what both answer; those that only look ===== -/
section
variable {h : Nat → Nat → Nat} {I I' : Nat → Nat → Int32} {L L' : Nat → Nat → Int64}
variable {q n C a : Nat} {b w : Nat → Nat} {fa pl : Int32} {sn : Nat → SN} {e v : Nat}
variable {F : pm_F} {L0 : Nat} {xs : Nat → Int32}
/-- both answer the same, and all is in order again -/
def NXT (q : Nat) (o1 : pm_R) (o2 : (Nat → Nat → Int32) → (Nat → Nat → Int64) → pm_R) : Prop := ∃ x I1 L1 I2 L2, o1 = some (some (.int x), (81, pt_G, I1, L1)) ∧ o2 I1 L1 = some (some (.int x), (81, pt_G, I2, L2)) ∧ ∃ h n b fa pl C w a sn, GS h n b C w a sn ∧ K1 (q + 1) h n b fa pl C w a sn I2 L2 ∧ K2 h n b fa pl C w a sn I2
theorem NXT.mk {x : Int32} {I1 I2 : Nat → Nat → Int32} {L1 L2 : Nat → Nat → Int64} {o1 : pm_R} {o2 : (Nat → Nat → Int32) → (Nat → Nat → Int64) → pm_R} (h1 : o1 = some (some (.int x), (81, pt_G, I1, L1))) (h2 : o2 I1 L1 = some (some (.int x), (81, pt_G, I2, L2))) (Z : GS h n b C w a sn) (X : K1 q h n b fa pl C w a sn I2 L2) (Y : K2 h n b fa pl C w a sn I2) : NXT q o1 o2 :=
  ⟨x, I1, L1, I2, L2, h1, h2, h, n, b, fa, pl, C, w, a, sn, Z, X.mono (Nat.le_succ q), Y⟩
theorem NXT.same {x : Int32} {o1 : pm_R} {o2 : (Nat → Nat → Int32) → (Nat → Nat → Int64) → pm_R} (Z : GS h n b C w a sn) (X : K1 q h n b fa pl C w a sn I L) (Y : K2 h n b fa pl C w a sn I) (h1 : o1 = some (some (.int x), (81, pt_G, I, L))) (h2 : o2 I L = some (some (.int x), (81, pt_G, I, L))) : NXT q o1 o2 := NXT.mk h1 h2 Z X Y
theorem s_fault (hF : pm_fix pt_me pt_Sg (pt_R L0 xs) F) (Z : GS h n b C w a sn) (X : K1 q h n b fa pl C w a sn I L) (Y : K2 h n b fa pl C w a sn I) (x : Int32) : NXT q (F 105 0 [some (.ref 0), some (.int x)] [] (81, pt_G, I, L)) (fun I L => (F 1239 0 [some (.ref 49), some (.int x)] [] (81, pt_G, I, L))) := by
  obtain ⟨y1, y2, y3, y4, y5, y6⟩ := id Y
  obtain ⟨x0, x1, x2, x3, x4, x5⟩ := id X
  by_cases c : x = 0
  · exact NXT.same Z X Y (x := fa) (by rw [e105_0 hF, if_pos c, x3]) (by show (F 1239 0 [some (.ref 49), some (.int x)] [] (81, pt_G, I, L)) = _; rw [e1239_0 hF, if_pos c, y3])
  · by_cases d : x = 1
    · exact NXT.same Z X Y (x := pl) (by rw [e105_0 hF, if_neg c, if_pos d, x4]) (by show (F 1239 0 [some (.ref 49), some (.int x)] [] (81, pt_G, I, L)) = _; rw [e1239_0 hF, if_neg c, if_pos d, y4])
    · exact NXT.same Z X Y (x := -1) (by rw [e105_0 hF, if_neg c, if_neg d]) (by show (F 1239 0 [some (.ref 49), some (.int x)] [] (81, pt_G, I, L)) = _; rw [e1239_0 hF, if_neg c, if_neg d])
theorem s_party (hF : pm_fix pt_me pt_Sg (pt_R L0 xs) F) (Z : GS h n b C w a sn) (X : K1 q h n b fa pl C w a sn I L) (Y : K2 h n b fa pl C w a sn I) (x y : Int32) : NXT q (F 106 0 [some (.ref 0), some (.int x), some (.int y)] [] (81, pt_G, I, L)) (fun I L => (F 1251 0 [some (.ref 49), some (.int x), some (.int y)] [] (81, pt_G, I, L))) := by
  have W := Z.1
  have hP := W.P
  have hE := ev_lt W
  have hc := Z.2.1
  have hc1 := hc.1
  have H := X.H
  have M := Y.H
  have k0 := X.2
  cases hv : vP (h 0 0) x with
  | false =>
    exact NXT.same Z X Y (x := -1) (by
      rw [e106_0 hF, c_hasParty hF W H]
      simp (disch := omega) only [pm_k_i, Option.toList_some, Option.toList_none, List.cons_append, List.nil_append, cond_true, cond_false, ↓reduceIte, reduceCtorEq, z_1, nI_add, z_cl, z_ib, z_lt, z_le, z_eq, z_eq0, z_le0, z_lt0, z_b0, z_b1, z_m1, z_and7, Int32.add_zero, hv, e106_8 hF]) (by
      try dsimp only
      rw [e1251_0 hF, m_isParty hF W M]
      simp (disch := omega) only [pm_k_i, Option.toList_some, Option.toList_none, List.cons_append, List.nil_append, cond_true, cond_false, ↓reduceIte, reduceCtorEq, z_1, nI_add, z_cl, z_ib, z_lt, z_le, z_eq, z_eq0, z_le0, z_lt0, z_b0, z_b1, z_m1, z_and7, Int32.add_zero, hv, e1251_5 hF])
  | true =>
    obtain ⟨k, kl, rfl⟩ := vP_of (by omega) hv
    have hk : C ≠ 0 → WK h w ∧ I 44 6 = nI (hp w) := fun z => ⟨(hc.2 z).1, k0.2.2.2.2.2.1 z⟩
    have hl : ∀ o, o < h 0 1 → (if C = 0 then 2 ^ h 0 1 - 1 else 0).testBit o = false → w o < 8 := by
      intro o ho z
      by_cases c : C = 0
      · rw [if_pos c, all_tb (h 0 1) (by have := W.O; omega) o (by have := W.O; omega), decide_eq_true ho] at z
        cases z
      · have := (hc.2 c).1.2 o ho
        omega
    by_cases y0 : y = nI 0
    · exact NXT.same Z X Y (x := nI (h 1 k)) (by
        rw [e106_0 hF, c_hasParty hF W H]
        simp (disch := omega) only [pm_k_i, Option.toList_some, Option.toList_none, List.cons_append, List.nil_append, cond_true, cond_false, ↓reduceIte, reduceCtorEq, z_1, nI_add, z_cl, z_ib, z_lt, z_le, z_eq, z_eq0, z_le0, z_lt0, z_b0, z_b1, z_m1, z_and7, Int32.add_zero, hv, e106_8 hF]
        rw [if_pos y0]
        try simp (disch := omega) only [pm_k_i, Option.toList_some, Option.toList_none, List.cons_append, List.nil_append, cond_true, cond_false, ↓reduceIte, reduceCtorEq, z_1, nI_add, z_cl, z_ib, z_lt, z_le, z_eq, z_eq0, z_le0, z_lt0, z_b0, z_b1, z_m1, z_and7, Int32.add_zero, c_seatsOf hF W H, e106_56 hF]) (by
        try dsimp only
        rw [e1251_0 hF, m_isParty hF W M]
        simp (disch := omega) only [pm_k_i, Option.toList_some, Option.toList_none, List.cons_append, List.nil_append, cond_true, cond_false, ↓reduceIte, reduceCtorEq, z_1, nI_add, z_cl, z_ib, z_lt, z_le, z_eq, z_eq0, z_le0, z_lt0, z_b0, z_b1, z_m1, z_and7, Int32.add_zero, hv, e1251_5 hF]
        rw [if_pos y0]
        try simp (disch := omega) only [pm_k_i, Option.toList_some, Option.toList_none, List.cons_append, List.nil_append, cond_true, cond_false, ↓reduceIte, reduceCtorEq, z_1, nI_add, z_cl, z_ib, z_lt, z_le, z_eq, z_eq0, z_le0, z_lt0, z_b0, z_b1, z_m1, z_and7, Int32.add_zero, m_seatsOf hF W M, e1251_49 hF])
    · skip
      by_cases y1 : y = nI 1
      · exact NXT.same Z X Y (x := nI (h 2 k)) (by
          rw [e106_0 hF, c_hasParty hF W H]
          simp (disch := omega) only [pm_k_i, Option.toList_some, Option.toList_none, List.cons_append, List.nil_append, cond_true, cond_false, ↓reduceIte, reduceCtorEq, z_1, nI_add, z_cl, z_ib, z_lt, z_le, z_eq, z_eq0, z_le0, z_lt0, z_b0, z_b1, z_m1, z_and7, Int32.add_zero, hv, e106_8 hF]
          rw [if_neg y0, if_pos y1]
          try simp (disch := omega) only [pm_k_i, Option.toList_some, Option.toList_none, List.cons_append, List.nil_append, cond_true, cond_false, ↓reduceIte, reduceCtorEq, z_1, nI_add, z_cl, z_ib, z_lt, z_le, z_eq, z_eq0, z_le0, z_lt0, z_b0, z_b1, z_m1, z_and7, Int32.add_zero, c_placeOf hF W H, e106_65 hF]) (by
          try dsimp only
          rw [e1251_0 hF, m_isParty hF W M]
          simp (disch := omega) only [pm_k_i, Option.toList_some, Option.toList_none, List.cons_append, List.nil_append, cond_true, cond_false, ↓reduceIte, reduceCtorEq, z_1, nI_add, z_cl, z_ib, z_lt, z_le, z_eq, z_eq0, z_le0, z_lt0, z_b0, z_b1, z_m1, z_and7, Int32.add_zero, hv, e1251_5 hF]
          rw [if_neg y0, if_pos y1]
          try simp (disch := omega) only [pm_k_i, Option.toList_some, Option.toList_none, List.cons_append, List.nil_append, cond_true, cond_false, ↓reduceIte, reduceCtorEq, z_1, nI_add, z_cl, z_ib, z_lt, z_le, z_eq, z_eq0, z_le0, z_lt0, z_b0, z_b1, z_m1, z_and7, Int32.add_zero, M.place])
      · skip
        by_cases y2 : y = nI 2
        · exact NXT.same Z X Y (x := nI (h 3 k)) (by
            rw [e106_0 hF, c_hasParty hF W H]
            simp (disch := omega) only [pm_k_i, Option.toList_some, Option.toList_none, List.cons_append, List.nil_append, cond_true, cond_false, ↓reduceIte, reduceCtorEq, z_1, nI_add, z_cl, z_ib, z_lt, z_le, z_eq, z_eq0, z_le0, z_lt0, z_b0, z_b1, z_m1, z_and7, Int32.add_zero, hv, e106_8 hF]
            rw [if_neg y0, if_neg y1, if_pos y2]
            try simp (disch := omega) only [pm_k_i, Option.toList_some, Option.toList_none, List.cons_append, List.nil_append, cond_true, cond_false, ↓reduceIte, reduceCtorEq, z_1, nI_add, z_cl, z_ib, z_lt, z_le, z_eq, z_eq0, z_le0, z_lt0, z_b0, z_b1, z_m1, z_and7, Int32.add_zero, c_walkOf hF W H, e106_74 hF]) (by
            try dsimp only
            rw [e1251_0 hF, m_isParty hF W M]
            simp (disch := omega) only [pm_k_i, Option.toList_some, Option.toList_none, List.cons_append, List.nil_append, cond_true, cond_false, ↓reduceIte, reduceCtorEq, z_1, nI_add, z_cl, z_ib, z_lt, z_le, z_eq, z_eq0, z_le0, z_lt0, z_b0, z_b1, z_m1, z_and7, Int32.add_zero, hv, e1251_5 hF]
            rw [if_neg y0, if_neg y1, if_pos y2]
            try simp (disch := omega) only [pm_k_i, Option.toList_some, Option.toList_none, List.cons_append, List.nil_append, cond_true, cond_false, ↓reduceIte, reduceCtorEq, z_1, nI_add, z_cl, z_ib, z_lt, z_le, z_eq, z_eq0, z_le0, z_lt0, z_b0, z_b1, z_m1, z_and7, Int32.add_zero, M.walk])
        · skip
          by_cases y3 : y = nI 3
          · exact NXT.same Z X Y (x := nI (pc (hld h C w k))) (by
              rw [e106_0 hF, c_hasParty hF W H]
              simp (disch := omega) only [pm_k_i, Option.toList_some, Option.toList_none, List.cons_append, List.nil_append, cond_true, cond_false, ↓reduceIte, reduceCtorEq, z_1, nI_add, z_cl, z_ib, z_lt, z_le, z_eq, z_eq0, z_le0, z_lt0, z_b0, z_b1, z_m1, z_and7, Int32.add_zero, hv, e106_8 hF]
              rw [if_neg y0, if_neg y1, if_neg y2, if_pos y3]
              try simp (disch := omega) only [pm_k_i, Option.toList_some, Option.toList_none, List.cons_append, List.nil_append, cond_true, cond_false, ↓reduceIte, reduceCtorEq, z_1, nI_add, z_cl, z_ib, z_lt, z_le, z_eq, z_eq0, z_le0, z_lt0, z_b0, z_b1, z_m1, z_and7, Int32.add_zero, c_officesOf hF W H k0.2.2.2.2.1 (show C < 128 by omega) hk (show k < 8 by omega), e106_83 hF]) (by
              try dsimp only
              rw [e1251_0 hF, m_isParty hF W M]
              simp (disch := omega) only [pm_k_i, Option.toList_some, Option.toList_none, List.cons_append, List.nil_append, cond_true, cond_false, ↓reduceIte, reduceCtorEq, z_1, nI_add, z_cl, z_ib, z_lt, z_le, z_eq, z_eq0, z_le0, z_lt0, z_b0, z_b1, z_m1, z_and7, Int32.add_zero, hv, e1251_5 hF]
              rw [if_neg y0, if_neg y1, if_neg y2, if_pos y3]
              try simp (disch := omega) only [pm_k_i, Option.toList_some, Option.toList_none, List.cons_append, List.nil_append, cond_true, cond_false, ↓reduceIte, reduceCtorEq, z_1, nI_add, z_cl, z_ib, z_lt, z_le, z_eq, z_eq0, z_le0, z_lt0, z_b0, z_b1, z_m1, z_and7, Int32.add_zero, m_held hF W M.O hl (Y.2.2.2.2.1.nf W) (show k < 8 by omega), hcl_hld W, e1251_69 hF])
          · skip
            by_cases y4 : y = nI 4
            · exact NXT.same Z X Y (x := nI (h 4 k)) (by
                rw [e106_0 hF, c_hasParty hF W H]
                simp (disch := omega) only [pm_k_i, Option.toList_some, Option.toList_none, List.cons_append, List.nil_append, cond_true, cond_false, ↓reduceIte, reduceCtorEq, z_1, nI_add, z_cl, z_ib, z_lt, z_le, z_eq, z_eq0, z_le0, z_lt0, z_b0, z_b1, z_m1, z_and7, Int32.add_zero, hv, e106_8 hF]
                rw [if_neg y0, if_neg y1, if_neg y2, if_neg y3, if_pos y4]
                try simp (disch := omega) only [pm_k_i, Option.toList_some, Option.toList_none, List.cons_append, List.nil_append, cond_true, cond_false, ↓reduceIte, reduceCtorEq, z_1, nI_add, z_cl, z_ib, z_lt, z_le, z_eq, z_eq0, z_le0, z_lt0, z_b0, z_b1, z_m1, z_and7, Int32.add_zero, c_barredFrom hF W H, e106_92 hF]) (by
                try dsimp only
                rw [e1251_0 hF, m_isParty hF W M]
                simp (disch := omega) only [pm_k_i, Option.toList_some, Option.toList_none, List.cons_append, List.nil_append, cond_true, cond_false, ↓reduceIte, reduceCtorEq, z_1, nI_add, z_cl, z_ib, z_lt, z_le, z_eq, z_eq0, z_le0, z_lt0, z_b0, z_b1, z_m1, z_and7, Int32.add_zero, hv, e1251_5 hF]
                rw [if_neg y0, if_neg y1, if_neg y2, if_neg y3, if_pos y4]
                try simp (disch := omega) only [pm_k_i, Option.toList_some, Option.toList_none, List.cons_append, List.nil_append, cond_true, cond_false, ↓reduceIte, reduceCtorEq, z_1, nI_add, z_cl, z_ib, z_lt, z_le, z_eq, z_eq0, z_le0, z_lt0, z_b0, z_b1, z_m1, z_and7, Int32.add_zero, M.bars])
            · skip
              exact NXT.same Z X Y (x := -1) (by
                rw [e106_0 hF, c_hasParty hF W H]
                simp (disch := omega) only [pm_k_i, Option.toList_some, Option.toList_none, List.cons_append, List.nil_append, cond_true, cond_false, ↓reduceIte, reduceCtorEq, z_1, nI_add, z_cl, z_ib, z_lt, z_le, z_eq, z_eq0, z_le0, z_lt0, z_b0, z_b1, z_m1, z_and7, Int32.add_zero, hv, e106_8 hF]
                rw [if_neg y0, if_neg y1, if_neg y2, if_neg y3, if_neg y4]
                try simp (disch := omega) only [pm_k_i, Option.toList_some, Option.toList_none, List.cons_append, List.nil_append, cond_true, cond_false, ↓reduceIte, reduceCtorEq, z_1, nI_add, z_cl, z_ib, z_lt, z_le, z_eq, z_eq0, z_le0, z_lt0, z_b0, z_b1, z_m1, z_and7, Int32.add_zero, hv]) (by
                try dsimp only
                rw [e1251_0 hF, m_isParty hF W M]
                simp (disch := omega) only [pm_k_i, Option.toList_some, Option.toList_none, List.cons_append, List.nil_append, cond_true, cond_false, ↓reduceIte, reduceCtorEq, z_1, nI_add, z_cl, z_ib, z_lt, z_le, z_eq, z_eq0, z_le0, z_lt0, z_b0, z_b1, z_m1, z_and7, Int32.add_zero, hv, e1251_5 hF]
                rw [if_neg y0, if_neg y1, if_neg y2, if_neg y3, if_neg y4]
                try simp (disch := omega) only [pm_k_i, Option.toList_some, Option.toList_none, List.cons_append, List.nil_append, cond_true, cond_false, ↓reduceIte, reduceCtorEq, z_1, nI_add, z_cl, z_ib, z_lt, z_le, z_eq, z_eq0, z_le0, z_lt0, z_b0, z_b1, z_m1, z_and7, Int32.add_zero, hv])
theorem s_worth (hF : pm_fix pt_me pt_Sg (pt_R L0 xs) F) (Z : GS h n b C w a sn) (X : K1 q h n b fa pl C w a sn I L) (Y : K2 h n b fa pl C w a sn I) (x y : Int32) : NXT q (F 107 0 [some (.ref 0), some (.int x), some (.int y)] [] (81, pt_G, I, L)) (fun I L => (F 1252 0 [some (.ref 49), some (.int x), some (.int y)] [] (81, pt_G, I, L))) := by
  have W := Z.1
  have hP := W.P
  have hO := W.O
  have H := X.H
  have M := Y.H
  cases hv : vP (h 0 0) x with
  | false =>
    exact NXT.same Z X Y (x := -1) (by
      rw [e107_0 hF, c_hasParty hF W H]
      simp (disch := omega) only [pm_k_i, Option.toList_some, Option.toList_none, List.cons_append, List.nil_append, cond_true, cond_false, ↓reduceIte, reduceCtorEq, z_1, nI_add, z_cl, z_ib, z_lt, z_le, z_eq, z_eq0, z_le0, z_lt0, z_b0, z_b1, z_m1, z_and7, Int32.add_zero, hv, e107_8 hF]) (by
      try dsimp only
      rw [e1252_0 hF, m_isParty hF W M]
      simp (disch := omega) only [pm_k_i, Option.toList_some, Option.toList_none, List.cons_append, List.nil_append, cond_true, cond_false, ↓reduceIte, reduceCtorEq, z_1, nI_add, z_cl, z_ib, z_lt, z_le, z_eq, z_eq0, z_le0, z_lt0, z_b0, z_b1, z_m1, z_and7, Int32.add_zero, hv, e1252_5 hF])
  | true =>
    cases hu : vP (h 0 1) y with
    | false =>
      exact NXT.same Z X Y (x := -1) (by
        rw [e107_0 hF, c_hasParty hF W H]
        simp (disch := omega) only [pm_k_i, Option.toList_some, Option.toList_none, List.cons_append, List.nil_append, cond_true, cond_false, ↓reduceIte, reduceCtorEq, z_1, nI_add, z_cl, z_ib, z_lt, z_le, z_eq, z_eq0, z_le0, z_lt0, z_b0, z_b1, z_m1, z_and7, Int32.add_zero, hv, hu, e107_8 hF, c_hasOffice hF W H, e107_19 hF]) (by
        try dsimp only
        rw [e1252_0 hF, m_isParty hF W M]
        simp (disch := omega) only [pm_k_i, Option.toList_some, Option.toList_none, List.cons_append, List.nil_append, cond_true, cond_false, ↓reduceIte, reduceCtorEq, z_1, nI_add, z_cl, z_ib, z_lt, z_le, z_eq, z_eq0, z_le0, z_lt0, z_b0, z_b1, z_m1, z_and7, Int32.add_zero, hv, hu, e1252_5 hF, m_isOffice hF W M, e1252_13 hF])
    | true =>
      obtain ⟨k, kl, rfl⟩ := vP_of (by omega) hv
      obtain ⟨o, ol, rfl⟩ := vP_of (by omega) hu
      exact NXT.same Z X Y (x := nI (h 5 (8 * k + o))) (by
        rw [e107_0 hF, c_hasParty hF W H]
        simp (disch := omega) only [pm_k_i, Option.toList_some, Option.toList_none, List.cons_append, List.nil_append, cond_true, cond_false, ↓reduceIte, reduceCtorEq, z_1, nI_add, z_cl, z_ib, z_lt, z_le, z_eq, z_eq0, z_le0, z_lt0, z_b0, z_b1, z_m1, z_and7, Int32.add_zero, hv, hu, e107_8 hF, c_hasOffice hF W H, e107_19 hF, c_worthTo hF W H, e107_33 hF]) (by
        try dsimp only
        rw [e1252_0 hF, m_isParty hF W M]
        simp (disch := omega) only [pm_k_i, Option.toList_some, Option.toList_none, List.cons_append, List.nil_append, cond_true, cond_false, ↓reduceIte, reduceCtorEq, z_1, nI_add, z_cl, z_ib, z_lt, z_le, z_eq, z_eq0, z_le0, z_lt0, z_b0, z_b1, z_m1, z_and7, Int32.add_zero, hv, hu, e1252_5 hF, m_isOffice hF W M, e1252_13 hF, m_worthOf hF W M, e1252_22 hF])
theorem s_about (hF : pm_fix pt_me pt_Sg (pt_R L0 xs) F) (Z : GS h n b C w a sn) (X : K1 q h n b fa pl C w a sn I L) (Y : K2 h n b fa pl C w a sn I) (y : Int32) : NXT q (F 108 0 [some (.ref 0), some (.int y)] [] (81, pt_G, I, L)) (fun I L => (F 1253 0 [some (.ref 49), some (.int y)] [] (81, pt_G, I, L))) := by
  have W := Z.1
  have hE := ev_lt W
  have H := X.H
  have M := Y.H
  have k0 := X.2
  by_cases y0 : y = nI 0
  · exact NXT.same Z X Y (x := nI (h 0 0)) (by
      rw [e108_0 hF]
      rw [if_pos y0]
      try simp (disch := omega) only [pm_k_i, Option.toList_some, Option.toList_none, List.cons_append, List.nil_append, cond_true, cond_false, ↓reduceIte, reduceCtorEq, z_1, nI_add, z_cl, z_ib, z_lt, z_le, z_eq, z_eq0, z_le0, z_lt0, z_b0, z_b1, z_m1, z_and7, Int32.add_zero, H.P]) (by
      try dsimp only
      rw [e1253_0 hF]
      rw [if_pos y0]
      try simp (disch := omega) only [pm_k_i, Option.toList_some, Option.toList_none, List.cons_append, List.nil_append, cond_true, cond_false, ↓reduceIte, reduceCtorEq, z_1, nI_add, z_cl, z_ib, z_lt, z_le, z_eq, z_eq0, z_le0, z_lt0, z_b0, z_b1, z_m1, z_and7, Int32.add_zero, M.P])
  · skip
    by_cases y1 : y = nI 1
    · exact NXT.same Z X Y (x := nI (h 0 1)) (by
        rw [e108_0 hF]
        rw [if_neg y0, if_pos y1]
        try simp (disch := omega) only [pm_k_i, Option.toList_some, Option.toList_none, List.cons_append, List.nil_append, cond_true, cond_false, ↓reduceIte, reduceCtorEq, z_1, nI_add, z_cl, z_ib, z_lt, z_le, z_eq, z_eq0, z_le0, z_lt0, z_b0, z_b1, z_m1, z_and7, Int32.add_zero, H.O]) (by
        try dsimp only
        rw [e1253_0 hF]
        rw [if_neg y0, if_pos y1]
        try simp (disch := omega) only [pm_k_i, Option.toList_some, Option.toList_none, List.cons_append, List.nil_append, cond_true, cond_false, ↓reduceIte, reduceCtorEq, z_1, nI_add, z_cl, z_ib, z_lt, z_le, z_eq, z_eq0, z_le0, z_lt0, z_b0, z_b1, z_m1, z_and7, Int32.add_zero, M.O])
    · skip
      by_cases y2 : y = nI 2
      · exact NXT.same Z X Y (x := nI (need h)) (by
          rw [e108_0 hF]
          rw [if_neg y0, if_neg y1, if_pos y2]
          try simp (disch := omega) only [pm_k_i, Option.toList_some, Option.toList_none, List.cons_append, List.nil_append, cond_true, cond_false, ↓reduceIte, reduceCtorEq, z_1, nI_add, z_cl, z_ib, z_lt, z_le, z_eq, z_eq0, z_le0, z_lt0, z_b0, z_b1, z_m1, z_and7, Int32.add_zero, c_needNow hF W H, e108_83 hF]) (by
          try dsimp only
          rw [e1253_0 hF]
          rw [if_neg y0, if_neg y1, if_pos y2]
          try simp (disch := omega) only [pm_k_i, Option.toList_some, Option.toList_none, List.cons_append, List.nil_append, cond_true, cond_false, ↓reduceIte, reduceCtorEq, z_1, nI_add, z_cl, z_ib, z_lt, z_le, z_eq, z_eq0, z_le0, z_lt0, z_b0, z_b1, z_m1, z_and7, Int32.add_zero, m_need hF W M, e1253_74 hF])
      · skip
        by_cases y3 : y = nI 3
        · exact NXT.same Z X Y (x := nI (h 0 5)) (by
            rw [e108_0 hF]
            rw [if_neg y0, if_neg y1, if_neg y2, if_pos y3]
            try simp (disch := omega) only [pm_k_i, Option.toList_some, Option.toList_none, List.cons_append, List.nil_append, cond_true, cond_false, ↓reduceIte, reduceCtorEq, z_1, nI_add, z_cl, z_ib, z_lt, z_le, z_eq, z_eq0, z_le0, z_lt0, z_b0, z_b1, z_m1, z_and7, Int32.add_zero, H.care]) (by
            try dsimp only
            rw [e1253_0 hF]
            rw [if_neg y0, if_neg y1, if_neg y2, if_pos y3]
            try simp (disch := omega) only [pm_k_i, Option.toList_some, Option.toList_none, List.cons_append, List.nil_append, cond_true, cond_false, ↓reduceIte, reduceCtorEq, z_1, nI_add, z_cl, z_ib, z_lt, z_le, z_eq, z_eq0, z_le0, z_lt0, z_b0, z_b1, z_m1, z_and7, Int32.add_zero, M.care])
        · skip
          by_cases y4 : y = nI 4
          · exact NXT.same Z X Y (x := nI (h 0 6)) (by
              rw [e108_0 hF]
              rw [if_neg y0, if_neg y1, if_neg y2, if_neg y3, if_pos y4]
              try simp (disch := omega) only [pm_k_i, Option.toList_some, Option.toList_none, List.cons_append, List.nil_append, cond_true, cond_false, ↓reduceIte, reduceCtorEq, z_1, nI_add, z_cl, z_ib, z_lt, z_le, z_eq, z_eq0, z_le0, z_lt0, z_b0, z_b1, z_m1, z_and7, Int32.add_zero, H.tries]) (by
              try dsimp only
              rw [e1253_0 hF]
              rw [if_neg y0, if_neg y1, if_neg y2, if_neg y3, if_pos y4]
              try simp (disch := omega) only [pm_k_i, Option.toList_some, Option.toList_none, List.cons_append, List.nil_append, cond_true, cond_false, ↓reduceIte, reduceCtorEq, z_1, nI_add, z_cl, z_ib, z_lt, z_le, z_eq, z_eq0, z_le0, z_lt0, z_b0, z_b1, z_m1, z_and7, Int32.add_zero, M.tries])
          · skip
            by_cases y5 : y = nI 5
            · exact NXT.same Z X Y (x := nI (h 0 7)) (by
                rw [e108_0 hF]
                rw [if_neg y0, if_neg y1, if_neg y2, if_neg y3, if_neg y4, if_pos y5]
                try simp (disch := omega) only [pm_k_i, Option.toList_some, Option.toList_none, List.cons_append, List.nil_append, cond_true, cond_false, ↓reduceIte, reduceCtorEq, z_1, nI_add, z_cl, z_ib, z_lt, z_le, z_eq, z_eq0, z_le0, z_lt0, z_b0, z_b1, z_m1, z_and7, Int32.add_zero, H.tire]) (by
                try dsimp only
                rw [e1253_0 hF]
                rw [if_neg y0, if_neg y1, if_neg y2, if_neg y3, if_neg y4, if_pos y5]
                try simp (disch := omega) only [pm_k_i, Option.toList_some, Option.toList_none, List.cons_append, List.nil_append, cond_true, cond_false, ↓reduceIte, reduceCtorEq, z_1, nI_add, z_cl, z_ib, z_lt, z_le, z_eq, z_eq0, z_le0, z_lt0, z_b0, z_b1, z_m1, z_and7, Int32.add_zero, M.tire])
            · skip
              by_cases y6 : y = nI 6
              · exact NXT.same Z X Y (x := nI (sIn h (ev h))) (by
                  rw [e108_0 hF]
                  rw [if_neg y0, if_neg y1, if_neg y2, if_neg y3, if_neg y4, if_neg y5, if_pos y6]
                  try simp (disch := omega) only [pm_k_i, Option.toList_some, Option.toList_none, List.cons_append, List.nil_append, cond_true, cond_false, ↓reduceIte, reduceCtorEq, z_1, nI_add, z_cl, z_ib, z_lt, z_le, z_eq, z_eq0, z_le0, z_lt0, z_b0, z_b1, z_m1, z_and7, Int32.add_zero, c_everyone hF W H, e108_119 hF, c_seatsIn hF W H, e108_122 hF]) (by
                  try dsimp only
                  rw [e1253_0 hF]
                  rw [if_neg y0, if_neg y1, if_neg y2, if_neg y3, if_neg y4, if_neg y5, if_pos y6]
                  try simp (disch := omega) only [pm_k_i, Option.toList_some, Option.toList_none, List.cons_append, List.nil_append, cond_true, cond_false, ↓reduceIte, reduceCtorEq, z_1, nI_add, z_cl, z_ib, z_lt, z_le, z_eq, z_eq0, z_le0, z_lt0, z_b0, z_b1, z_m1, z_and7, Int32.add_zero, m_everyone hF W M, e1253_95 hF, m_seatsIn hF W M, e1253_98 hF])
              · skip
                by_cases y7 : y = nI 7
                · exact NXT.same Z X Y (x := nI a) (by
                    rw [e108_0 hF]
                    rw [if_neg y0, if_neg y1, if_neg y2, if_neg y3, if_neg y4, if_neg y5, if_neg y6, if_pos y7]
                    try simp (disch := omega) only [pm_k_i, Option.toList_some, Option.toList_none, List.cons_append, List.nil_append, cond_true, cond_false, ↓reduceIte, reduceCtorEq, z_1, nI_add, z_cl, z_ib, z_lt, z_le, z_eq, z_eq0, z_le0, z_lt0, z_b0, z_b1, z_m1, z_and7, Int32.add_zero, k0.2.2.2.2.2.2.1]) (by
                    try dsimp only
                    rw [e1253_0 hF]
                    rw [if_neg y0, if_neg y1, if_neg y2, if_neg y3, if_neg y4, if_neg y5, if_neg y6, if_pos y7]
                    try simp (disch := omega) only [pm_k_i, Option.toList_some, Option.toList_none, List.cons_append, List.nil_append, cond_true, cond_false, ↓reduceIte, reduceCtorEq, z_1, nI_add, z_cl, z_ib, z_lt, z_le, z_eq, z_eq0, z_le0, z_lt0, z_b0, z_b1, z_m1, z_and7, Int32.add_zero, Y.2.2.2.2.2.1])
                · skip
                  by_cases y8 : y = nI 8
                  · exact NXT.same Z X Y (x := nI n) (by
                      rw [e108_0 hF]
                      rw [if_neg y0, if_neg y1, if_neg y2, if_neg y3, if_neg y4, if_neg y5, if_neg y6, if_neg y7, if_pos y8]
                      try simp (disch := omega) only [pm_k_i, Option.toList_some, Option.toList_none, List.cons_append, List.nil_append, cond_true, cond_false, ↓reduceIte, reduceCtorEq, z_1, nI_add, z_cl, z_ib, z_lt, z_le, z_eq, z_eq0, z_le0, z_lt0, z_b0, z_b1, z_m1, z_and7, Int32.add_zero, c_length hF k0.1, e108_138 hF]) (by
                      try dsimp only
                      rw [e1253_0 hF]
                      rw [if_neg y0, if_neg y1, if_neg y2, if_neg y3, if_neg y4, if_neg y5, if_neg y6, if_neg y7, if_pos y8]
                      try simp (disch := omega) only [pm_k_i, Option.toList_some, Option.toList_none, List.cons_append, List.nil_append, cond_true, cond_false, ↓reduceIte, reduceCtorEq, z_1, nI_add, z_cl, z_ib, z_lt, z_le, z_eq, z_eq0, z_le0, z_lt0, z_b0, z_b1, z_m1, z_and7, Int32.add_zero, Y.2.1.1])
                  · skip
                    by_cases y9 : y = nI 9
                    · exact NXT.same Z X Y (x := nI (h 0 2)) (by
                        rw [e108_0 hF]
                        rw [if_neg y0, if_neg y1, if_neg y2, if_neg y3, if_neg y4, if_neg y5, if_neg y6, if_neg y7, if_neg y8, if_pos y9]
                        try simp (disch := omega) only [pm_k_i, Option.toList_some, Option.toList_none, List.cons_append, List.nil_append, cond_true, cond_false, ↓reduceIte, reduceCtorEq, z_1, nI_add, z_cl, z_ib, z_lt, z_le, z_eq, z_eq0, z_le0, z_lt0, z_b0, z_b1, z_m1, z_and7, Int32.add_zero, H.f]) (by
                        try dsimp only
                        rw [e1253_0 hF]
                        rw [if_neg y0, if_neg y1, if_neg y2, if_neg y3, if_neg y4, if_neg y5, if_neg y6, if_neg y7, if_neg y8, if_pos y9]
                        try simp (disch := omega) only [pm_k_i, Option.toList_some, Option.toList_none, List.cons_append, List.nil_append, cond_true, cond_false, ↓reduceIte, reduceCtorEq, z_1, nI_add, z_cl, z_ib, z_lt, z_le, z_eq, z_eq0, z_le0, z_lt0, z_b0, z_b1, z_m1, z_and7, Int32.add_zero, M.f])
                    · skip
                      by_cases y10 : y = nI 10
                      · exact NXT.same Z X Y (x := nI (h 0 3)) (by
                          rw [e108_0 hF]
                          rw [if_neg y0, if_neg y1, if_neg y2, if_neg y3, if_neg y4, if_neg y5, if_neg y6, if_neg y7, if_neg y8, if_neg y9, if_pos y10]
                          try simp (disch := omega) only [pm_k_i, Option.toList_some, Option.toList_none, List.cons_append, List.nil_append, cond_true, cond_false, ↓reduceIte, reduceCtorEq, z_1, nI_add, z_cl, z_ib, z_lt, z_le, z_eq, z_eq0, z_le0, z_lt0, z_b0, z_b1, z_m1, z_and7, Int32.add_zero, H.s]) (by
                          try dsimp only
                          rw [e1253_0 hF]
                          rw [if_neg y0, if_neg y1, if_neg y2, if_neg y3, if_neg y4, if_neg y5, if_neg y6, if_neg y7, if_neg y8, if_neg y9, if_pos y10]
                          try simp (disch := omega) only [pm_k_i, Option.toList_some, Option.toList_none, List.cons_append, List.nil_append, cond_true, cond_false, ↓reduceIte, reduceCtorEq, z_1, nI_add, z_cl, z_ib, z_lt, z_le, z_eq, z_eq0, z_le0, z_lt0, z_b0, z_b1, z_m1, z_and7, Int32.add_zero, M.s])
                      · skip
                        exact NXT.same Z X Y (x := -1) (by
                          rw [e108_0 hF]
                          rw [if_neg y0, if_neg y1, if_neg y2, if_neg y3, if_neg y4, if_neg y5, if_neg y6, if_neg y7, if_neg y8, if_neg y9, if_neg y10]
                          try simp (disch := omega) only [pm_k_i, Option.toList_some, Option.toList_none, List.cons_append, List.nil_append, cond_true, cond_false, ↓reduceIte, reduceCtorEq, z_1, nI_add, z_cl, z_ib, z_lt, z_le, z_eq, z_eq0, z_le0, z_lt0, z_b0, z_b1, z_m1, z_and7, Int32.add_zero, H.P]) (by
                          try dsimp only
                          rw [e1253_0 hF]
                          rw [if_neg y0, if_neg y1, if_neg y2, if_neg y3, if_neg y4, if_neg y5, if_neg y6, if_neg y7, if_neg y8, if_neg y9, if_neg y10]
                          try simp (disch := omega) only [pm_k_i, Option.toList_some, Option.toList_none, List.cons_append, List.nil_append, cond_true, cond_false, ↓reduceIte, reduceCtorEq, z_1, nI_add, z_cl, z_ib, z_lt, z_le, z_eq, z_eq0, z_le0, z_lt0, z_b0, z_b1, z_m1, z_and7, Int32.add_zero, M.P])
theorem s_middle (hF : pm_fix pt_me pt_Sg (pt_R L0 xs) F) (Z : GS h n b C w a sn) (X : K1 q h n b fa pl C w a sn I L) (Y : K2 h n b fa pl C w a sn I) (x : Int32) : NXT q (F 115 0 [some (.ref 0), some (.int x)] [] (81, pt_G, I, L)) (fun I L => (F 1281 0 [some (.ref 49), some (.int x)] [] (81, pt_G, I, L))) := by
  have W := Z.1
  have hP := W.P
  have hO := W.O
  have hE := ev_lt W
  have H := X.H
  have M := Y.H
  cases hv : vC h x with
  | false =>
    exact NXT.same Z X Y (x := -1) (by
      rw [e115_0 hF, c_hasCoalition hF W H]
      simp (disch := omega) only [pm_k_i, Option.toList_some, Option.toList_none, List.cons_append, List.nil_append, cond_true, cond_false, ↓reduceIte, reduceCtorEq, z_1, nI_add, z_cl, z_ib, z_lt, z_le, z_eq, z_eq0, z_le0, z_lt0, z_b0, z_b1, z_m1, z_and7, Int32.add_zero, hv, e115_8 hF]) (by
      try dsimp only
      rw [e1281_0 hF, m_isCoalition hF W M]
      simp (disch := omega) only [pm_k_i, Option.toList_some, Option.toList_none, List.cons_append, List.nil_append, cond_true, cond_false, ↓reduceIte, reduceCtorEq, z_1, nI_add, z_cl, z_ib, z_lt, z_le, z_eq, z_eq0, z_le0, z_lt0, z_b0, z_b1, z_m1, z_and7, Int32.add_zero, hv, e1281_5 hF])
  | true =>
    obtain ⟨c, c0, cl, rfl⟩ := vC_of W hv
    exact NXT.same Z X Y (x := nI (mid h c)) (by
      rw [e115_0 hF, c_hasCoalition hF W H]
      simp (disch := omega) only [pm_k_i, Option.toList_some, Option.toList_none, List.cons_append, List.nil_append, cond_true, cond_false, ↓reduceIte, reduceCtorEq, z_1, nI_add, z_cl, z_ib, z_lt, z_le, z_eq, z_eq0, z_le0, z_lt0, z_b0, z_b1, z_m1, z_and7, Int32.add_zero, hv, e115_8 hF, c_middleOf hF W H, e115_21 hF]) (by
      try dsimp only
      rw [e1281_0 hF, m_isCoalition hF W M]
      simp (disch := omega) only [pm_k_i, Option.toList_some, Option.toList_none, List.cons_append, List.nil_append, cond_true, cond_false, ↓reduceIte, reduceCtorEq, z_1, nI_add, z_cl, z_ib, z_lt, z_le, z_eq, z_eq0, z_le0, z_lt0, z_b0, z_b1, z_m1, z_and7, Int32.add_zero, hv, e1281_5 hF, m_middleOf hF W M (show c < 128 by omega) (sIn_pos W c0 cl), e1281_13 hF])
theorem s_span (hF : pm_fix pt_me pt_Sg (pt_R L0 xs) F) (Z : GS h n b C w a sn) (X : K1 q h n b fa pl C w a sn I L) (Y : K2 h n b fa pl C w a sn I) (x : Int32) : NXT q (F 128 0 [some (.ref 0), some (.int x)] [] (81, pt_G, I, L)) (fun I L => (F 1302 0 [some (.ref 49), some (.int x), none, none, none] [] (81, pt_G, I, L))) := by
  have W := Z.1
  have hP := W.P
  have hO := W.O
  have hE := ev_lt W
  have H := X.H
  have M := Y.H
  cases hv : vC h x with
  | false =>
    exact NXT.same Z X Y (x := -1) (by
      rw [e128_0 hF, c_hasCoalition hF W H]
      simp (disch := omega) only [pm_k_i, Option.toList_some, Option.toList_none, List.cons_append, List.nil_append, cond_true, cond_false, ↓reduceIte, reduceCtorEq, z_1, nI_add, z_cl, z_ib, z_lt, z_le, z_eq, z_eq0, z_le0, z_lt0, z_b0, z_b1, z_m1, z_and7, Int32.add_zero, hv, e128_8 hF]) (by
      try dsimp only
      rw [e1302_0 hF, m_isCoalition hF W M]
      simp (disch := omega) only [pm_k_i, Option.toList_some, Option.toList_none, List.cons_append, List.nil_append, cond_true, cond_false, ↓reduceIte, reduceCtorEq, z_1, nI_add, z_cl, z_ib, z_lt, z_le, z_eq, z_eq0, z_le0, z_lt0, z_b0, z_b1, z_m1, z_and7, Int32.add_zero, hv, e1302_5 hF])
  | true =>
    obtain ⟨c, c0, cl, rfl⟩ := vC_of W hv
    exact NXT.same Z X Y (x := nI (gpv h c) - nI (lpi h c 999)) (by
      rw [e128_0 hF, c_hasCoalition hF W H]
      simp (disch := omega) only [pm_k_i, Option.toList_some, Option.toList_none, List.cons_append, List.nil_append, cond_true, cond_false, ↓reduceIte, reduceCtorEq, z_1, nI_add, z_cl, z_ib, z_lt, z_le, z_eq, z_eq0, z_le0, z_lt0, z_b0, z_b1, z_m1, z_and7, Int32.add_zero, hv, e128_8 hF, c_greatestPlace hF W H c0 cl, e128_21 hF, c_leastPlace hF W H (show c < 128 by omega), e128_29 hF]) (by
      try dsimp only
      rw [e1302_0 hF, m_isCoalition hF W M]
      simp (disch := omega) only [pm_k_i, Option.toList_some, Option.toList_none, List.cons_append, List.nil_append, cond_true, cond_false, ↓reduceIte, reduceCtorEq, z_1, nI_add, z_cl, z_ib, z_lt, z_le, z_eq, z_eq0, z_le0, z_lt0, z_b0, z_b1, z_m1, z_and7, Int32.add_zero, hv, e1302_5 hF]
      exact m_span_run hF W M c0 cl)
theorem s_median (hF : pm_fix pt_me pt_Sg (pt_R L0 xs) F) (Z : GS h n b C w a sn) (X : K1 q h n b fa pl C w a sn I L) (Y : K2 h n b fa pl C w a sn I) : NXT q (F 129 0 [some (.ref 0)] [] (81, pt_G, I, L)) (fun I L => (F 1303 0 [some (.ref 49), none, none, none, none] [] (81, pt_G, I, L))) := by
  have W := Z.1
  exact NXT.same Z X Y (x := oI (med h)) (by
    rw [e129_0 hF, c_medianParty hF W X.H]
    simp (disch := omega) only [pm_k_i, Option.toList_some, Option.toList_none, List.cons_append, List.nil_append, cond_true, cond_false, ↓reduceIte, reduceCtorEq, z_1, nI_add, z_cl, z_ib, z_lt, z_le, z_eq, z_eq0, z_le0, z_lt0, z_b0, z_b1, z_m1, z_and7, Int32.add_zero, e129_7 hF]) (m_median hF W Y.H)
end
