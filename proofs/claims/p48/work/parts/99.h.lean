/-! ===== all that is looked at ===== -/
section
variable {S S' S0 : qm_S} {F : qm_F} {J L0 : Nat} {xs : List Int32}
variable {h : Nat → Nat → Nat} {q n C a c : Nat} {b w : Nat → Nat} {sn : Nat → SN}
def AVl (h : Nat → Nat → Nat) : Nat := 4 + 2 * h 0 0 + h 0 1 + ev h
def AV (h : Nat → Nat → Nat) (k : Nat) : Int32 := if k < 4 then (if k = 0 then nI (need h) else if k = 1 then nI (sIn h (ev h)) else if k = 2 then 0 else nI (fmr h 9).2.2.2.2) else if k < 4 + 2 * h 0 0 then (if (k - 4) % 2 = 0 then nI (h 1 ((k - 4) / 2)) else 0) else if k < 4 + 2 * h 0 0 + h 0 1 then -1 else nI (kin h (k - (4 + 2 * h 0 0 + h 0 1) + 1))
/-- so much of it is written -/
def AI (q : Nat) (h : Nat → Nat → Nat) (n : Nat) (b w : Nat → Nat) (a : Nat) (sn : Nat → SN) (S0 : qm_S) (m : Nat) (S : qm_S) : Prop := KQ q h n b 0 w a sn S ∧ FRM S0.1 S0 S ∧ S.1 = S0.1 + 1 ∧ S.2.1 = S0.2.1 + AVl h ∧ qr_n S S0.1 = AVl h ∧ ∀ k, k < m → qr_i S 22 S0.1 k = AV h k
theorem AI.st {m : Nat} {Y : pm_S} {v : Int32} (A : AI q h n b w a sn S0 m S) (X : KS q h n b 0 w a sn Y) (e : v = AV h m) : AI q h n b w a sn S0 (m + 1) (qu_i (qm_sC S Y) 22 S0.1 m v) := by
  obtain ⟨a1, a2, a3, a4, a5, a6⟩ := A
  refine ⟨X, a2.sC.i (Nat.le_refl _), a3, a4, a5, fun k hk => ?_⟩
  rw [qi_i]
  by_cases z : k = m
  · rw [if_pos ⟨rfl, z, rfl⟩, z, e]
  · rw [if_neg (fun y => z y.2.1)]
    exact a6 k (by omega)
theorem AI.sC {m : Nat} {Y : pm_S} (A : AI q h n b w a sn S0 m S) (X : KS q h n b 0 w a sn Y) : AI q h n b w a sn S0 m (qm_sC S Y) := ⟨X, A.2⟩
theorem AI.P {m y : Nat} (A : AI q h n b w a sn S0 m S) (hy : y < S0.1) {k : Nat} {v : Int32} (e : qr_i S0 1 y k = v) : qr_i S 1 y k = v := (A.2.1.1 1 y k hy).trans e
theorem al_len : ∀ p, p ≤ 4 → ∀ o, o ≤ 5 → 4 + nI p * 2 + nI o + nI (2 ^ p - 1) = nI (4 + 2 * p + o + (2 ^ p - 1)) := by decide +kernel
theorem j_al4 (hF : qm_fix cO qt_me qt_qs (qt_C L0 xs) J F) (h4 : h 0 0 ≤ 4) (h5 : h 0 1 ≤ 5) {y z : Nat} (hy : y < S0.1) (hP : qr_i S0 1 y 0 = nI (h 0 0)) : ∀ (d c : Nat) (S : qm_S), 1 ≤ c → c + d = ev h + 1 → AI q h n b w a sn S0 (4 + 2 * h 0 0 + h 0 1 + (c - 1)) S → ∃ S', F 5 167 [some (.inr (0, z)), some (.inr (1, y)), some (.inr (22, S0.1)), some (.inl (nI (4 + 2 * h 0 0 + h 0 1 + (c - 1)))), some (.inl (nI c))] [] S = some (some (.inr (22, S0.1)), S') ∧ AI q h n b w a sn S0 (AVl h) S' := by
  have hE := ev16 h4
  intro d
  induction d with
  | zero =>
    intro c S c1 cd A
    rw [q5_167 hF, j_all1 hF (A.P hy hP) h4]
    show ∃ S', F 5 173 [some (.inr (0, z)), some (.inr (1, y)), some (.inr (22, S0.1)), some (.inl (nI (4 + 2 * h 0 0 + h 0 1 + (c - 1)))), some (.inl (nI c))] [.inl (nI (ev h)), .inl (nI c)] S = _ ∧ _
    rw [q5_173 hF, if_neg (by rw [z_le (by omega) (by omega)]; omega)]
    refine ⟨S, rfl, ?_⟩
    unfold AVl
    rw [show ev h = c - 1 by omega]
    exact A
  | succ d ih =>
    intro c S c1 cd A
    obtain ⟨Y, X, e⟩ := qa_kind (J := J) (z := z) (c := c) A.1 (by omega) (by omega)
    have al : AVl h = 4 + 2 * h 0 0 + h 0 1 + ev h := rfl
    have st := A.st X (v := nI (kin h c)) (by
      unfold AV
      rw [if_neg (by omega), if_neg (by omega), if_neg (by omega), show 4 + 2 * h 0 0 + h 0 1 + (c - 1) - (4 + 2 * h 0 0 + h 0 1) + 1 = c by omega])
    obtain ⟨S', i1, i2⟩ := ih (c + 1) _ (by omega) (by omega) (show AI q h n b w a sn S0 (4 + 2 * h 0 0 + h 0 1 + (c + 1 - 1)) _ by rw [show 4 + 2 * h 0 0 + h 0 1 + (c + 1 - 1) = 4 + 2 * h 0 0 + h 0 1 + (c - 1) + 1 by omega]; exact st)
    rw [q5_167 hF, j_all1 hF (A.P hy hP) h4]
    show ∃ S', F 5 173 [some (.inr (0, z)), some (.inr (1, y)), some (.inr (22, S0.1)), some (.inl (nI (4 + 2 * h 0 0 + h 0 1 + (c - 1)))), some (.inl (nI c))] [.inl (nI (ev h)), .inl (nI c)] S = _ ∧ _
    rw [q5_173 hF, if_pos (by rw [z_le (by omega) (by omega)]; omega), e]
    simp only [Option.toList_some, Option.toList_none, List.cons_append, List.nil_append, List.append_nil]
    rw [q5_184 hF, show qr_n (qm_sC S Y) S0.1 = AVl h from A.2.2.2.2.1, z_ib (by omega) (by omega), z_cl (by omega), z_1, z_1]
    rw [show 4 + 2 * h 0 0 + h 0 1 + (c + 1 - 1) = 4 + 2 * h 0 0 + h 0 1 + (c - 1) + 1 by omega] at i1
    exact ⟨S', i1, i2⟩
theorem j_al3 (hF : qm_fix cO qt_me qt_qs (qt_C L0 xs) J F) (h1 : 1 ≤ h 0 0) (h4 : h 0 0 ≤ 4) (h5 : h 0 1 ≤ 5) {y z : Nat} (hy : y < S0.1) (hP : qr_i S0 1 y 0 = nI (h 0 0)) (hQ : qr_i S0 1 y 1 = nI (h 0 1)) : ∀ (d o : Nat) (S : qm_S), o + d = h 0 1 → AI q h n b w a sn S0 (4 + 2 * h 0 0 + o) S → ∃ S', F 5 137 [some (.inr (0, z)), some (.inr (1, y)), some (.inr (22, S0.1)), some (.inl (nI (4 + 2 * h 0 0 + o))), some (.inl (nI o))] [] S = some (some (.inr (22, S0.1)), S') ∧ AI q h n b w a sn S0 (AVl h) S' := by
  have hE := ev16 h4
  have e1 : 1 ≤ ev h := by
    have : 2 ^ 1 ≤ 2 ^ h 0 0 := Nat.pow_le_pow_right (by decide) h1
    unfold ev
    omega
  intro d
  induction d with
  | zero =>
    intro o S od A
    have oq : o = h 0 1 := by omega
    subst oq
    rw [q5_137 hF, A.P hy hQ, if_neg (by rw [z_lt (by omega) (by omega)]; omega)]
    exact j_al4 hF h4 h5 hy hP (ev h) 1 S (Nat.le_refl _) (by omega) A
  | succ d ih =>
    intro o S od A
    obtain ⟨Y, X, e⟩ := qa_now (J := J) (z := z) (o := o) A.1 (by omega)
    have al : AVl h = 4 + 2 * h 0 0 + h 0 1 + ev h := rfl
    have st := A.st X (v := if (0 : Nat) = 0 then -1 else nI (w o)) (by
      unfold AV
      rw [if_pos rfl, if_neg (by omega), if_neg (by omega), if_pos (by omega)])
    obtain ⟨S', i1, i2⟩ := ih (o + 1) _ (by omega) st
    rw [q5_137 hF, A.P hy hQ, if_pos (by rw [z_lt (by omega) (by omega)]; omega), e]
    simp only [Option.toList_some, Option.toList_none, List.cons_append, List.nil_append, List.append_nil]
    rw [q5_154 hF, show qr_n (qm_sC S Y) S0.1 = AVl h from A.2.2.2.2.1, z_ib (by omega) (by omega), z_cl (by omega), z_1, z_1]
    exact ⟨S', i1, i2⟩
theorem hld0 (w : Nat → Nat) (p : Nat) : nI (pc (hld h 0 w p)) = 0 := by
  show nI (pc 0) = 0
  decide +kernel
theorem j_al2 (hF : qm_fix cO qt_me qt_qs (qt_C L0 xs) J F) (h1 : 1 ≤ h 0 0) (h4 : h 0 0 ≤ 4) (h5 : h 0 1 ≤ 5) {y z : Nat} (hy : y < S0.1) (hP : qr_i S0 1 y 0 = nI (h 0 0)) (hQ : qr_i S0 1 y 1 = nI (h 0 1)) : ∀ (d p : Nat) (S : qm_S), p + d = h 0 0 → AI q h n b w a sn S0 (4 + 2 * p) S → ∃ S', F 5 94 [some (.inr (0, z)), some (.inr (1, y)), some (.inr (22, S0.1)), some (.inl (nI (4 + 2 * p))), some (.inl (nI p))] [] S = some (some (.inr (22, S0.1)), S') ∧ AI q h n b w a sn S0 (AVl h) S' := by
  have hE := ev16 h4
  intro d
  induction d with
  | zero =>
    intro p S pd A
    have pq : p = h 0 0 := by omega
    subst pq
    rw [q5_94 hF, A.P hy hP, if_neg (by rw [z_lt (by omega) (by omega)]; omega)]
    exact j_al3 hF h1 h4 h5 hy hP hQ (h 0 1) 0 S (by omega) A
  | succ d ih =>
    intro p S pd A
    have al : AVl h = 4 + 2 * h 0 0 + h 0 1 + ev h := rfl
    obtain ⟨Y, X, e⟩ := qa_party0 (J := J) (z := z) (p := p) A.1 (by omega)
    have st := A.st X (v := nI (h 1 p)) (by
      unfold AV
      rw [if_neg (by omega), if_pos (by omega), if_pos (by omega), show (4 + 2 * p - 4) / 2 = p by omega])
    obtain ⟨Y2, X2, e2⟩ := qa_party3 (J := J) (z := z) (p := p) st.1 (by omega)
    have st2 := st.st X2 (v := nI (pc (hld h 0 w p))) (by
      unfold AV
      rw [if_neg (by omega), if_pos (by omega), if_neg (by omega)]
      exact hld0 w p)
    obtain ⟨S', i1, i2⟩ := ih (p + 1) _ (by omega) (show AI q h n b w a sn S0 (4 + 2 * (p + 1)) _ by rw [show 4 + 2 * (p + 1) = 4 + 2 * p + 1 + 1 by omega]; exact st2)
    rw [q5_94 hF, A.P hy hP, if_pos (by rw [z_lt (by omega) (by omega)]; omega), e]
    simp only [Option.toList_some, Option.toList_none, List.cons_append, List.nil_append, List.append_nil]
    rw [q5_112 hF, show qr_n (qm_sC S Y) S0.1 = AVl h from A.2.2.2.2.1, z_ib (by omega) (by omega), z_cl (by omega), z_1, e2]
    simp only [Option.toList_some, Option.toList_none, List.cons_append, List.nil_append, List.append_nil]
    rw [q5_124 hF, show qr_n (qm_sC (qu_i (qm_sC S Y) 22 S0.1 (4 + 2 * p) (nI (h 1 p))) Y2) S0.1 = AVl h from A.2.2.2.2.1, z_ib (by omega) (by omega), z_cl (by omega), z_1, show nI (4 + 2 * p) + 2 = nI (4 + 2 * p + 2) from nI_add (4 + 2 * p) 2]
    exact ⟨S', i1, i2⟩
theorem j_all (hF : qm_fix cO qt_me qt_qs (qt_C L0 xs) J F) (h1 : 1 ≤ h 0 0) (h4 : h 0 0 ≤ 4) (h5 : h 0 1 ≤ 5) {y z : Nat} (X : KQ q h n b 0 w a sn S) (hy : y < S.1) (hP : qr_i S 1 y 0 = nI (h 0 0)) (hQ : qr_i S 1 y 1 = nI (h 0 1)) : ∃ S', F 5 0 [some (.inr (0, z)), some (.inr (1, y)), none, none, none] [] S = some (some (.inr (22, S.1)), S') ∧ AI q h n b w a sn S (AVl h) S' := by
  have hE := ev16 h4
  have al : AVl h = 4 + 2 * h 0 0 + h 0 1 + (2 ^ h 0 0 - 1) := rfl
  have al2 : AVl h = 4 + 2 * h 0 0 + h 0 1 + ev h := rfl
  have A0 : AI q h n b w a sn S 0 (qm_mk S 22 (AVl h)) := ⟨X, FRM.rf.mk (Nat.le_refl _), rfl, rfl, by rw [qn_mk, if_pos rfl], fun k hk => absurd hk (Nat.not_lt_zero _)⟩
  obtain ⟨Y1, X1, e1⟩ := qa_about2 (J := J) (z := z) A0.1
  have A1 := A0.st X1 (v := nI (need h)) (by unfold AV; rw [if_pos (by omega), if_pos rfl])
  obtain ⟨Y2, X2, e2⟩ := qa_about6 (J := J) (z := z) A1.1
  have A2 := A1.st X2 (v := nI (sIn h (ev h))) (by unfold AV; rw [if_pos (by omega), if_neg (by omega), if_pos rfl])
  obtain ⟨Y3, X3, e3⟩ := qa_nowc (J := J) (z := z) A2.1
  have A3 := A2.st X3 (v := nI 0) (by unfold AV; rw [if_pos (by omega), if_neg (by omega), if_neg (by omega), if_pos rfl]; rfl)
  obtain ⟨Y4, X4, e4⟩ := qa_formed0 (J := J) (z := z) A3.1 (by omega)
  have A4 := A3.st X4 (v := nI (fmr h 9).2.2.2.2) (by unfold AV; rw [if_pos (by omega), if_neg (by omega), if_neg (by omega), if_neg (by omega)])
  obtain ⟨S', i1, i2⟩ := j_al2 hF h1 h4 h5 (z := z) hy hP hQ (h 0 0) 0 _ (by omega) A4
  rw [q5_0 hF, j_all1 hF hP h4]
  show ∃ S', F 5 17 [some (.inr (0, z)), some (.inr (1, y)), none, none, none] [.inl (nI (2 ^ h 0 0 - 1)), .inl (4 + qr_i S 1 y 0 * 2 + qr_i S 1 y 1)] S = _ ∧ _
  rw [q5_17 hF, hP, hQ, al_len _ h4 _ h5, ← al, dlt0 (by omega), z_cl (by omega), show Nat.ble (AVl h) 100000 = true from Nat.ble_eq_true_of_le (by omega)]
  show ∃ S', F 5 26 [some (.inr (0, z)), some (.inr (1, y)), some (.inr (22, S.1)), some (.inl (nI 0)), some (.inl (nI 0))] [] (qm_mk S 22 (AVl h)) = _ ∧ _
  rw [q5_26 hF, if_pos (by decide), if_pos (by decide), e1]
  simp only [Option.toList_some, Option.toList_none, List.cons_append, List.nil_append, List.append_nil]
  rw [q5_44 hF, q5_81 hF, show qr_n (qm_sC (qm_mk S 22 (AVl h)) Y1) S.1 = AVl h from A0.2.2.2.2.1, z_ib (by omega) (by omega), z_cl (by omega), z_1]
  show ∃ S', F 5 26 [some (.inr (0, z)), some (.inr (1, y)), some (.inr (22, S.1)), some (.inl (nI 1)), some (.inl (nI 1))] [] (qu_i (qm_sC (qm_mk S 22 (AVl h)) Y1) 22 S.1 0 (nI (need h))) = _ ∧ _
  generalize qu_i (qm_sC (qm_mk S 22 (AVl h)) Y1) 22 S.1 0 (nI (need h)) = U1 at A1 e2 A2 e3 A3 e4 A4 i1 ⊢
  rw [q5_26 hF, if_pos (by decide), if_neg (by decide), if_pos (by decide), e2]
  simp only [Option.toList_some, Option.toList_none, List.cons_append, List.nil_append, List.append_nil]
  rw [q5_59 hF, q5_81 hF, show qr_n (qm_sC U1 Y2) S.1 = AVl h from A1.2.2.2.2.1, z_ib (by omega) (by omega), z_cl (by omega), z_1]
  show ∃ S', F 5 26 [some (.inr (0, z)), some (.inr (1, y)), some (.inr (22, S.1)), some (.inl (nI 2)), some (.inl (nI 2))] [] (qu_i (qm_sC U1 Y2) 22 S.1 1 (nI (sIn h (ev h)))) = _ ∧ _
  generalize qu_i (qm_sC U1 Y2) 22 S.1 (0 + 1) (nI (sIn h (ev h))) = U2 at A2 e3 A3 e4 A4 i1 ⊢
  rw [q5_26 hF, if_pos (by decide), if_neg (by decide), if_neg (by decide), if_pos (by decide), e3]
  simp only [Option.toList_some, Option.toList_none, List.cons_append, List.nil_append, List.append_nil]
  rw [q5_73 hF, q5_81 hF, show qr_n (qm_sC U2 Y3) S.1 = AVl h from A2.2.2.2.2.1, z_ib (by omega) (by omega), z_cl (by omega), z_1]
  show ∃ S', F 5 26 [some (.inr (0, z)), some (.inr (1, y)), some (.inr (22, S.1)), some (.inl (nI 3)), some (.inl (nI 3))] [] (qu_i (qm_sC U2 Y3) 22 S.1 2 (nI 0)) = _ ∧ _
  generalize qu_i (qm_sC U2 Y3) 22 S.1 (0 + 1 + 1) (nI 0) = U3 at A3 e4 A4 i1 ⊢
  rw [q5_26 hF, if_pos (by decide), if_neg (by decide), if_neg (by decide), if_neg (by decide), e4]
  simp only [Option.toList_some, Option.toList_none, List.cons_append, List.nil_append, List.append_nil]
  rw [q5_81 hF, show qr_n (qm_sC U3 Y4) S.1 = AVl h from A3.2.2.2.2.1, z_ib (by omega) (by omega), z_cl (by omega), z_1]
  show ∃ S', F 5 26 [some (.inr (0, z)), some (.inr (1, y)), some (.inr (22, S.1)), some (.inl (nI 4)), some (.inl (nI 4))] [] (qu_i (qm_sC U3 Y4) 22 S.1 3 (nI (fmr h 9).2.2.2.2)) = _ ∧ _
  rw [q5_26 hF, if_neg (by decide)]
  exact ⟨S', i1, i2⟩
end
