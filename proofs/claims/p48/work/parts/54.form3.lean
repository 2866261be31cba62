/-! ===== forming: rounds ===== -/
section
variable {h : Nat → Nat → Nat} {I I' : Nat → Nat → Int32} {L L' : Nat → Nat → Int64} {e v : Nat}
variable {F : pm_F} {L0 : Nat} {xs : Nat → Int32}
def FS0 (s : fst') (J : Nat → Nat → Int32) : Prop := J 41 4 = nI s.2.1 ∧ J 41 6 = nI s.2.2.2 ∧ (s.2.2.2 < 128) ∧ ∀ i, i < s.2.1 → J 42 i = nI (pkt (s.2.2.1 i)) ∧ (s.2.2.1 i).1 < 7 ∧ (s.2.2.1 i).2.1 < 128 ∧ (s.2.2.1 i).2.2 < 128
theorem rnd_done {r n m : Nat} {s : fst'} (hn : n ≤ m) (hs : (rnd h r n s).2.2.2 ≠ 0) : rnd h r m s = rnd h r n s := lp_fix hn rfl (fun _ _ _ => trs_done hs)
theorem c_goRound (hF : pm_fix pt_me pt_Sg (pt_R L0 xs) F) (W : WF h) (X : FR h e v I L) (A : AL h I) {s : fst'} (hs : FS0 s I) {r : Nat} (hc : s.2.1 + 63 ≤ 567) : ∃ I', (F 403 0 [some (.ref 41), some (.int (nI r)), none, none, none] [] (49, pt_G, I, L)) = some (none, (49, pt_G, I', L)) ∧ (∀ x k, (x = 41 → k ≠ 4 ∧ k ≠ 6) → x ≠ 42 → x ≠ 43 → I' x k = I x k) ∧ FS0 (rnd h r (h 0 0) s) I' ∧ (rnd h r (h 0 0) s).2.1 ≤ s.2.1 + 63 := by
  have hE := ev_lt W
  have hP := W.P
  have ht := W.tries
  rw [e403_0 hF]
  refine wl (Q := fun x => ∃ I', x = some (none, (49, pt_G, I', L)) ∧ (∀ x k, (x = 41 → k ≠ 4 ∧ k ≠ 6) → x ≠ 42 → x ≠ 43 → I' x k = I x k) ∧ FS0 (rnd h r (h 0 0) s) I' ∧ (rnd h r (h 0 0) s).2.1 ≤ s.2.1 + 63) (G := fun k J => (F 403 2 [some (.ref 41), some (.int (nI r)), some (.int (nI k)), none, none] [] (49, pt_G, J, L))) (P := fun k J => (∀ x k, x ≠ 43 → J x k = I x k) ∧ ∀ x, x < k → J 43 x = 0) (n := 128) (fun k J hk hJ go => ?_) (fun J hJ => ?_) 0 I (Nat.zero_le _) ⟨fun _ _ _ => rfl, fun x hx => by omega⟩
  · rw [e403_2 hF, show (128 : Int32) = nI 128 from rfl]
    simp (disch := omega) only [pm_k_i, Option.toList_some, Option.toList_none, List.cons_append, List.nil_append, cond_true, cond_false, ↓reduceIte, reduceCtorEq, z_1, nI_add, z_cl, z_ib, z_lt, z_le, z_eq, z_eq0, z_le0, z_lt0, z_b0, z_b1, z_m1, z_and7, Int32.add_zero, hk, vb0]
    refine go _ ⟨fun x j a => by rw [z_ur a]; exact hJ.1 x j a, fun x hx => ?_⟩
    by_cases q : x = k
    · subst q; rw [z_ue]
    · rw [z_uk q]; exact hJ.2 x (by omega)
  · obtain ⟨j1, j2⟩ := hJ
    rw [e403_2 hF, if_neg (by decide)]
    refine wl (Q := fun x => ∃ I', x = some (none, (49, pt_G, I', L)) ∧ (∀ x k, (x = 41 → k ≠ 4 ∧ k ≠ 6) → x ≠ 42 → x ≠ 43 → I' x k = I x k) ∧ FS0 (rnd h r (h 0 0) s) I' ∧ (rnd h r (h 0 0) s).2.1 ≤ s.2.1 + 63) (G := fun f N => (F 403 26 [some (.ref 41), some (.int (nI r)), some (.int (nI (dnf h f))), some (.int (nI f)), none] [] (49, pt_G, N, L))) (P := fun f N => (∀ x k, (x = 41 → k ≠ 4 ∧ k ≠ 6) → x ≠ 42 → x ≠ 43 → N x k = I x k) ∧ FS (rnd h r f s) N ∧ (rnd h r f s).2.1 ≤ s.2.1 + f * h 0 6) (n := h 0 0) (fun f N hf hN go => ?_) (fun N hN => ?_) 0 J (Nat.zero_le _) ⟨fun x k a b c => j1 x k c, ⟨fun x hx => j2 x hx, ?_⟩, by show s.2.1 ≤ _; omega⟩
    · obtain ⟨n1, n2, n3⟩ := hN
      obtain ⟨s1, s2, s3, s4, s5⟩ := id n2
      have XN : FR h e v N L := X.of2 (fun x k a => n1 x k (fun q => by omega) (by omega) (by omega))
      have AN : AL h N := A.of (fun k => n1 33 k (fun q => by omega) (by omega) (by omega))
      have m1 : f * h 0 6 + h 0 6 ≤ 63 := by
        have : (f + 1) * h 0 6 ≤ 7 * 9 := Nat.mul_le_mul (by omega) ht.2
        rw [Nat.succ_mul] at this
        omega
      try dsimp only
      rw [e403_26 hF, s3, XN.1.H.P]
      simp (disch := omega) only [pm_k_i, Option.toList_some, Option.toList_none, List.cons_append, List.nil_append, cond_true, cond_false, ↓reduceIte, reduceCtorEq, z_1, nI_add, z_cl, z_ib, z_lt, z_le, z_eq, z_eq0, z_le0, z_lt0, z_b0, z_b1, z_m1, z_and7, Int32.add_zero, hf]
      by_cases q : (rnd h r f s).2.2.2 = 0
      · rw [if_pos q]
        obtain ⟨d1, d2⟩ := dnf_ok W (n := f) (by omega)
        obtain ⟨f1, f2, f3, f4, f5⟩ := fo_ok W hf
        have l7 : 2 ^ h 0 0 ≤ 2 ^ 7 := Nat.pow_le_pow_right (by decide) hP
        obtain ⟨M, w1, w2, w3, w4⟩ := c_letForm (L := L) hF W XN AN n2 f2 (r := r) (by omega)
        simp (disch := omega) only [pm_k_i, Option.toList_some, Option.toList_none, List.cons_append, List.nil_append, cond_true, cond_false, ↓reduceIte, reduceCtorEq, z_1, nI_add, z_cl, z_ib, z_lt, z_le, z_eq, z_eq0, z_le0, z_lt0, z_b0, z_b1, z_m1, z_and7, Int32.add_zero, c_nextFormer hF W XN.1.H, f1, oI, e403_49 hF, w1, e403_65 hF, z_ad]
        rw [← f4]
        refine go M ⟨fun x k a b c => by rw [w2 x k a b c]; exact n1 x k a b c, w3, ?_⟩
        rw [Nat.succ_mul]
        have w4 : (rnd h r (f + 1) s).2.1 ≤ (rnd h r f s).2.1 + h 0 6 := w4
        omega
      · rw [if_neg q, rnd_done (show f ≤ h 0 0 by omega) q]
        exact ⟨N, rfl, n1, ⟨s2, s3, s4, s5⟩, by omega⟩
    · obtain ⟨n1, n2, n3⟩ := hN
      obtain ⟨s1, s2, s3, s4, s5⟩ := id n2
      have HP : N 3 0 = nI (h 0 0) := by rw [n1 3 0 (fun q => by omega) (by omega) (by omega)]; exact X.1.H.P
      have m1 : h 0 0 * h 0 6 ≤ 7 * 9 := Nat.mul_le_mul hP ht.2
      try dsimp only
      rw [e403_26 hF, HP]
      simp (disch := omega) only [pm_k_i, Option.toList_some, Option.toList_none, List.cons_append, List.nil_append, cond_true, cond_false, ↓reduceIte, reduceCtorEq, z_1, nI_add, z_cl, z_ib, z_lt, z_le, z_eq, z_eq0, z_le0, z_lt0, z_b0, z_b1, z_m1, z_and7, Int32.add_zero, Nat.lt_irrefl]
      exact ⟨N, rfl, n1, ⟨s2, s3, s4, s5⟩, by omega⟩
    · obtain ⟨a1, a2, a3, a4⟩ := hs
      refine ⟨by rw [j1 41 4 (by omega)]; exact a1, by rw [j1 41 6 (by omega)]; exact a2, a3, fun i hi => ?_⟩
      rw [j1 42 i (by omega)]
      exact a4 i hi
/-- what was formed is kept -/
def FT (h : Nat → Nat → Nat) (J : Nat → Nat → Int32) : Prop := J 41 5 = nI (fmr h 9).1 ∧ FS0 (fmr h 9).2 J
def FO (h : Nat → Nat → Nat) (v : Nat) (J : Nat → Nat → Int32) : Prop := OLD (J 41 7) v ∧ (J 41 7 = nI v → FT h J)
theorem fmr_b {n : Nat} : (fmr h n).1 ≤ n := by
  refine lpP (P := fun k (a : Nat × fst') => a.1 ≤ k) (Nat.le_refl _) (fun k a hk ha => ?_)
  show (bif Nat.beq a.2.2.2.2 0 then (a.1 + 1, rnd h k (h 0 0) a.2) else a).1 ≤ k + 1
  cases Nat.beq a.2.2.2.2 0
  · show a.1 ≤ _; omega
  · show a.1 + 1 ≤ _; omega
theorem fmr_done {n m : Nat} (hn : n ≤ m) (hs : (fmr h n).2.2.2.2 ≠ 0) : fmr h m = fmr h n := lp_fix hn rfl (fun k _ _ => by
  show (bif Nat.beq (fmr h n).2.2.2.2 0 then _ else _) = _
  rw [beq_f hs]
  rfl)
theorem c_run (hF : pm_fix pt_me pt_Sg (pt_R L0 xs) F) (W : WF h) (X : FR h e v I L) (A : AL h I) (O : FO h v I) : ∃ I', (F 402 0 [some (.ref 41), none] [] (49, pt_G, I, L)) = some (none, (49, pt_G, I', L)) ∧ (∀ x k, (x = 41 → k < 4) → x ≠ 42 → x ≠ 43 → I' x k = I x k) ∧ FT h I' ∧ I' 41 7 = nI v := by
  have hE := ev_lt W
  have hP := W.P
  rw [e402_0 hF, X.1.v9]
  by_cases c : I 41 7 = nI v
  · rw [if_pos c]
    exact ⟨I, rfl, fun _ _ _ _ _ => rfl, O.2 c, c⟩
  · rw [if_neg c]
    refine wl (Q := fun x => ∃ I', x = some (none, (49, pt_G, I', L)) ∧ (∀ x k, (x = 41 → k < 4) → x ≠ 42 → x ≠ 43 → I' x k = I x k) ∧ FT h I' ∧ I' 41 7 = nI v) (G := fun r J => (F 402 43 [some (.ref 41), some (.int (nI r))] [] (49, pt_G, J, L))) (P := fun r J => (∀ x k, (x = 41 → k < 4) → x ≠ 42 → x ≠ 43 → J x k = I x k) ∧ J 41 5 = nI (fmr h r).1 ∧ FS0 (fmr h r).2 J ∧ (fmr h r).2.2.1 ≤ 63 * r ∧ J 41 7 = nI v) (n := 9) (fun r J hr hJ go => ?_) (fun J hJ => ?_) 0 _ (Nat.zero_le _) ⟨fun x k a b d => ?_, ?_, ⟨?_, ?_, Nat.zero_lt_succ 127, fun i hi => absurd hi (Nat.not_lt_zero i)⟩, Nat.zero_le _, ?_⟩
    · obtain ⟨j1, j2, j3, j4, j5⟩ := hJ
      obtain ⟨s2, s3, s4, s5⟩ := id j3
      have fb := fmr_b (h := h) (n := r)
      try dsimp only
      rw [e402_43 hF, s3, show (9 : Int32) = nI 9 from rfl]
      simp (disch := omega) only [pm_k_i, Option.toList_some, Option.toList_none, List.cons_append, List.nil_append, cond_true, cond_false, ↓reduceIte, reduceCtorEq, z_1, nI_add, z_cl, z_ib, z_lt, z_le, z_eq, z_eq0, z_le0, z_lt0, z_b0, z_b1, z_m1, z_and7, Int32.add_zero, hr]
      by_cases q : (fmr h r).2.2.2.2 = 0
      · rw [if_pos q, j2, z_1]
        have XJ : FR h e v (pm_ui J 41 5 (nI ((fmr h r).1 + 1))) L := X.of2 (fun x k a => by rw [z_ur (by omega)]; exact j1 x k (fun q => by omega) (by omega) (by omega))
        have AJ : AL h (pm_ui J 41 5 (nI ((fmr h r).1 + 1))) := A.of (fun k => by rw [z_ur (by omega)]; exact j1 33 k (fun q => by omega) (by omega) (by omega))
        have SJ : FS0 (fmr h r).2 (pm_ui J 41 5 (nI ((fmr h r).1 + 1))) := ⟨by rw [z_uk (by omega)]; exact s2, by rw [z_uk (by omega)]; exact s3, s4, fun i hi => by rw [z_ur (by omega)]; exact s5 i hi⟩
        obtain ⟨M, w1, w2, w3, w4⟩ := c_goRound (L := L) hF W XJ AJ SJ (r := r) (by omega)
        have e1 : fmr h (r + 1) = ((fmr h r).1 + 1, rnd h r (h 0 0) (fmr h r).2) := by
          show (bif Nat.beq (fmr h r).2.2.2.2 0 then _ else _) = _
          rw [q]
          rfl
        rw [w1]
        simp (disch := omega) only [pm_k_i, Option.toList_some, Option.toList_none, List.cons_append, List.nil_append, cond_true, cond_false, ↓reduceIte, reduceCtorEq, z_1, nI_add, z_cl, z_ib, z_lt, z_le, z_eq, z_eq0, z_le0, z_lt0, z_b0, z_b1, z_m1, z_and7, Int32.add_zero, e402_71 hF]
        refine go M ⟨fun x k a b d => ?_, ?_, ?_, ?_, ?_⟩
        · rw [w2 x k (fun q => by have := a q; omega) b d]
          by_cases y : x = 41
          · have := a y
            rw [y, z_uk (by omega)]
            exact j1 41 k (fun _ => by omega) (by omega) (by omega)
          · rw [z_ur y]; exact j1 x k a b d
        · rw [w2 41 5 (fun _ => by omega) (by omega) (by omega), z_ue, e1]
        · rw [e1]; exact w3
        · rw [e1]
          show (rnd h r (h 0 0) (fmr h r).2).2.1 ≤ _
          omega
        · rw [w2 41 7 (fun _ => by omega) (by omega) (by omega), z_uk (by omega)]; exact j5
      · rw [if_neg q]
        refine ⟨J, rfl, j1, ?_, j5⟩
        unfold FT
        rw [fmr_done (show r ≤ 9 by omega) q]
        exact ⟨j2, j3⟩
    · obtain ⟨j1, j2, j3, j4, j5⟩ := hJ
      try dsimp only
      rw [e402_43 hF, if_neg (by decide)]
      exact ⟨J, rfl, j1, ⟨j2, j3⟩, j5⟩
    · by_cases y : x = 41
      · have := a y
        rw [y, z_uk (by omega), z_uk (by omega), z_uk (by omega), z_uk (by omega)]
      · rw [z_ur y, z_ur y, z_ur y, z_ur y]
    · rw [z_uk (by omega), z_ue]; rfl
    · rw [z_uk (by omega), z_uk (by omega), z_ue]; rfl
    · rw [z_ue]; rfl
    · rw [z_uk (by omega), z_uk (by omega), z_uk (by omega), z_ue]
/-! what is told of tries -/
def vT (n : Nat) (x : Int32) : Bool := vP n x
theorem c_wasMade (hF : pm_fix pt_me pt_Sg (pt_R L0 xs) F) {n : Nat} (hn : n ≤ 567) (h4 : I 41 4 = nI n) (x : Int32) : (F 410 0 [some (.ref 41), some (.int x)] [] (49, pt_G, I, L)) = some (some (.int (nI (vP n x).toNat)), (49, pt_G, I, L)) := by
  rw [e410_0 hF, h4]
  simp only [z_lti, i0, nI_toInt (show n < 2147483648 by omega), show (567 : Int32).toInt = 567 from rfl]
  unfold vP
  by_cases c : x.toInt < 0
  · rw [if_pos c, decide_eq_false (by omega)]; rfl
  · rw [if_neg c]
    by_cases d : x.toInt < (n : Int)
    · rw [if_pos d, decide_eq_true (by omega), if_pos (by omega)]; rfl
    · rw [if_neg d, decide_eq_false (by omega)]; rfl
theorem pkt_get {t : Nat × Nat × Nat} (h1 : t.1 < 7) (h2 : t.2.1 < 128) (h3 : t.2.2 < 128) : pm_us (nI (pkt t)) 14 = nI t.1 ∧ nI (pkt t) &&& 127 = nI t.2.1 ∧ pm_us (nI (pkt t)) 7 &&& 127 = nI t.2.2 := by
  have hp : pkt t < 4294967296 := by unfold pkt; omega
  refine ⟨?_, ?_, ?_⟩
  · rw [show (14 : Int32) = nI 14 from rfl, z_us2 hp (by omega), Nat.shiftRight_eq_div_pow]
    congr 1
    unfold pkt
    omega
  · rw [show (127 : Int32) = nI 127 from rfl, nx_and, show (127 : Nat) = 2 ^ 7 - 1 from rfl, Nat.and_two_pow_sub_one_eq_mod]
    congr 1
    unfold pkt
    omega
  · rw [show (7 : Int32) = nI 7 from rfl, z_us2 hp (by omega), Nat.shiftRight_eq_div_pow, show (127 : Int32) = nI 127 from rfl, nx_and, show (127 : Nat) = 2 ^ 7 - 1 from rfl, Nat.and_two_pow_sub_one_eq_mod]
    congr 1
    unfold pkt
    omega
theorem c_formerOf (hF : pm_fix pt_me pt_Sg (pt_R L0 xs) F) {s : fst'} (hs : FS0 s I) (hn : s.2.1 ≤ 567) (x : Int32) : (F 411 0 [some (.ref 41), some (.int x)] [] (49, pt_G, I, L)) = some (some (.int (bif vP s.2.1 x then nI (s.2.2.1 x.toNatClampNeg).1 else -1)), (49, pt_G, I, L)) := by
  obtain ⟨s1, s2, s3, s4⟩ := hs
  rw [e411_0 hF, c_wasMade hF hn s1]
  simp only [pm_k_i, Option.toList_some, List.cons_append, List.nil_append, e411_5 hF, z_b0]
  cases q : vP s.2.1 x with
  | false => rfl
  | true =>
    obtain ⟨i, i1, i2⟩ := vP_of (by omega) q
    subst i2
    obtain ⟨g1, g2, g3, g4⟩ := s4 i i1
    simp (disch := omega) only [pm_k_i, Option.toList_some, Option.toList_none, List.cons_append, List.nil_append, cond_true, cond_false, ↓reduceIte, reduceCtorEq, z_1, nI_add, z_cl, z_ib, z_lt, z_le, z_eq, z_eq0, z_le0, z_lt0, z_b0, z_b1, z_m1, z_and7, Int32.add_zero, g1, (pkt_get g2 g3 g4).1]
theorem c_coalitionOf (hF : pm_fix pt_me pt_Sg (pt_R L0 xs) F) {s : fst'} (hs : FS0 s I) (hn : s.2.1 ≤ 567) (x : Int32) : (F 412 0 [some (.ref 41), some (.int x)] [] (49, pt_G, I, L)) = some (some (.int (bif vP s.2.1 x then nI (s.2.2.1 x.toNatClampNeg).2.1 else -1)), (49, pt_G, I, L)) := by
  obtain ⟨s1, s2, s3, s4⟩ := hs
  rw [e412_0 hF, c_wasMade hF hn s1]
  simp only [pm_k_i, Option.toList_some, List.cons_append, List.nil_append, e412_5 hF, z_b0]
  cases q : vP s.2.1 x with
  | false => rfl
  | true =>
    obtain ⟨i, i1, i2⟩ := vP_of (by omega) q
    subst i2
    obtain ⟨g1, g2, g3, g4⟩ := s4 i i1
    simp (disch := omega) only [pm_k_i, Option.toList_some, Option.toList_none, List.cons_append, List.nil_append, cond_true, cond_false, ↓reduceIte, reduceCtorEq, z_1, nI_add, z_cl, z_ib, z_lt, z_le, z_eq, z_eq0, z_le0, z_lt0, z_b0, z_b1, z_m1, z_and7, Int32.add_zero, g1, (pkt_get g2 g3 g4).2.1]
theorem c_walkersOf (hF : pm_fix pt_me pt_Sg (pt_R L0 xs) F) {s : fst'} (hs : FS0 s I) (hn : s.2.1 ≤ 567) (x : Int32) : (F 413 0 [some (.ref 41), some (.int x)] [] (49, pt_G, I, L)) = some (some (.int (bif vP s.2.1 x then nI (s.2.2.1 x.toNatClampNeg).2.2 else -1)), (49, pt_G, I, L)) := by
  obtain ⟨s1, s2, s3, s4⟩ := hs
  rw [e413_0 hF, c_wasMade hF hn s1]
  simp only [pm_k_i, Option.toList_some, List.cons_append, List.nil_append, e413_5 hF, z_b0]
  cases q : vP s.2.1 x with
  | false => rfl
  | true =>
    obtain ⟨i, i1, i2⟩ := vP_of (by omega) q
    subst i2
    obtain ⟨g1, g2, g3, g4⟩ := s4 i i1
    simp (disch := omega) only [pm_k_i, Option.toList_some, Option.toList_none, List.cons_append, List.nil_append, cond_true, cond_false, ↓reduceIte, reduceCtorEq, z_1, nI_add, z_cl, z_ib, z_lt, z_le, z_eq, z_eq0, z_le0, z_lt0, z_b0, z_b1, z_m1, z_and7, Int32.add_zero, g1, (pkt_get g2 g3 g4).2.2]
theorem tr1_cnt (r p : Nat) (s : fst') : (tr1 h r p s).2.1 ≤ s.2.1 + 1 := by
  unfold tr1
  cases (Nat.beq s.2.2.2 0 && !Nat.beq (bch h s.1 p) 0)
  · exact Nat.le_succ _
  · exact Nat.le_refl _
theorem trs_cnt (r p n : Nat) (s : fst') : (trs h r p n s).2.1 ≤ s.2.1 + n :=
  lpP (f := fun _ s => tr1 h r p s) (P := fun k a => a.2.1 ≤ s.2.1 + k) (Nat.le_refl _) (fun k a _ ha => by have := tr1_cnt (h := h) r p a; omega)
theorem rnd_cnt (r n : Nat) (s : fst') : (rnd h r n s).2.1 ≤ s.2.1 + n * h 0 6 :=
  lpP (f := fun f s => trs h r (fo h f) (h 0 6) s) (P := fun k a => a.2.1 ≤ s.2.1 + k * h 0 6) (by show s.2.1 ≤ _; omega) (fun k a _ ha => by have := trs_cnt (h := h) r (fo h k) (h 0 6) a; rw [Nat.succ_mul]; omega)
theorem fmr_cnt (W : WF h) (n : Nat) : (fmr h n).2.2.1 ≤ 63 * n := by
  have hP := W.P
  have ht := W.tries
  have m1 : h 0 0 * h 0 6 ≤ 7 * 9 := Nat.mul_le_mul hP ht.2
  refine lpP (P := fun k (a : Nat × fst') => a.2.2.1 ≤ 63 * k) (Nat.le_refl _) (fun k a _ ha => ?_)
  show (bif Nat.beq a.2.2.2.2 0 then (a.1 + 1, rnd h k (h 0 0) a.2) else a).2.2.1 ≤ 63 * (k + 1)
  cases Nat.beq a.2.2.2.2 0
  · show a.2.2.1 ≤ _; omega
  · have := rnd_cnt (h := h) k (h 0 0) a.2
    show (rnd h k (h 0 0) a.2).2.1 ≤ _
    omega
end
