/-! ===== the law asks the class ===== -/
section
variable {S S' : qm_S} {F : qm_F} {J L0 : Nat} {xs : List Int32}
variable {h : Nat → Nat → Nat} {q n C a c : Nat} {b w : Nat → Nat} {sn : Nat → SN}
noncomputable def cQ : pm_F := pm_sem pt_me pt_Sg (pt_R 8 pt_ord)
theorem cQ_fix : pm_fix pt_me pt_Sg (pt_R 8 pt_ord) cQ := pm_sem_fix _ _ _
/-- the class, asked -/
noncomputable def cO : qm_O := fun mj as X => bif Nat.ble (pm_wd as) (pt_me mj).2.2.1 then cQ mj 0 (pm_en (pt_me mj).2.2.1 as) [] X else none
/-- the class is another one -/
def qm_sC (S : qm_S) (X : pm_S) : qm_S := (S.1, S.2.1, S.2.2.1, S.2.2.2.1, S.2.2.2.2.1, S.2.2.2.2.2.1, X)
theorem ask {mj : Nat} {as : List qm_V} {x : Int32} {X : pm_S → Prop} (h49 : S.2.2.2.2.2.2.1 = 49) (hc : as.all qm_cls = true) (hX : ∀ Y, X Y → Y.1 = 49) (hr : RS (cO mj (as.map qm_av) S.2.2.2.2.2.2) x X) : ∃ Y, X Y ∧ ∀ k, qm_o cO J mj as S k = k (some (.inl x)) (qm_sC S Y) := by
  obtain ⟨Y, e, p⟩ := hr
  refine ⟨Y, p, fun k => ?_⟩
  unfold qm_o
  rw [h49, hc, e]
  show k (some (.inl x)) (S.1 + (Y.1 - 49), S.2.1 + (pm_ss pt_Sg Y.1 - pm_ss pt_Sg 49), S.2.2.1, S.2.2.2.1, S.2.2.2.2.1, S.2.2.2.2.2.1, Y) = _
  rw [hX Y p, Nat.sub_self, Nat.sub_self]
  rfl
/-- what is there of the class -/
abbrev KQ (q : Nat) (h : Nat → Nat → Nat) (n : Nat) (b : Nat → Nat) (C : Nat) (w : Nat → Nat) (a : Nat) (sn : Nat → SN) (S : qm_S) : Prop := KS q h n b C w a sn S.2.2.2.2.2.2
theorem qa_kind {z : Nat} (X : KQ q h n b C w a sn S) (c0 : 0 < c) (cl : c ≤ ev h) : ∃ Y, (KS q h n b C w a sn) Y ∧ ∀ k, qm_o cO J 121 [.inr (0, z), .inl (nI c)] S k = k (some (.inl (nI (kin h c)))) (qm_sC S Y) := ask (X := KS q h n b C w a sn) X.one.1 rfl (fun _ z => z.one.1) (ca_kind cQ_fix X c0 cl)
theorem qa_kind0 {z : Nat} {x : Int32} (X : KQ q h n b C w a sn S) (hv : vC h x = false) : ∃ Y, (KS q h n b C w a sn) Y ∧ ∀ k, qm_o cO J 121 [.inr (0, z), .inl x] S k = k (some (.inl (-1))) (qm_sC S Y) := ask (X := KS q h n b C w a sn) X.one.1 rfl (fun _ z => z.one.1) (ca_kind0 cQ_fix X hv)
theorem qa_rival {z : Nat} (X : KQ q h n b C w a sn S) (c0 : 0 < c) (cl : c ≤ ev h) : ∃ Y, (KS q h n b C w a sn) Y ∧ ∀ k, qm_o cO J 124 [.inr (0, z), .inl (nI c)] S k = k (some (.inl (nI (rvl h c)))) (qm_sC S Y) := ask (X := KS q h n b C w a sn) X.one.1 rfl (fun _ z => z.one.1) (ca_rival cQ_fix X c0 cl)
theorem qa_joins {z : Nat} (X : KQ q h n b C w a sn S) (c0 : 0 < c) (cl : c ≤ ev h) : ∃ Y, (KS q h n b C w a sn) Y ∧ ∀ k, qm_o cO J 132 [.inr (0, z), .inl (nI c)] S k = k (some (.inl (bif can h c then 0 else oI (joi h c)))) (qm_sC S Y) := ask (X := KS q h n b C w a sn) X.one.1 rfl (fun _ z => z.one.1) (ca_joins cQ_fix X c0 cl)
theorem qa_pivot {z : Nat} {p : Nat} (X : KQ q h n b C w a sn S) (pP : p < h 0 0) : ∃ Y, (KS q h n b C w a sn) Y ∧ ∀ k, qm_o cO J 131 [.inr (0, z), .inl (nI p)] S k = k (some (.inl (nI (pvC h p)))) (qm_sC S Y) := ask (X := KS q h n b C w a sn) X.one.1 rfl (fun _ z => z.one.1) (ca_pivot cQ_fix X pP)
theorem qa_pay {z : Nat} {p : Nat} (X : KQ q h n b C w a sn S) (c0 : 0 < c) (cl : c ≤ ev h) (pP : p < h 0 0) : ∃ Y, (KS q h n b C w a sn) Y ∧ ∀ k, qm_o cO J 116 [.inr (0, z), .inl (nI c), .inl (nI p)] S k = k (some (.inl (pyc h c p))) (qm_sC S Y) := ask (X := KS q h n b C w a sn) X.one.1 rfl (fun _ z => z.one.1) (ca_pay cQ_fix X c0 cl pP)
theorem qa_many {z : Nat} (X : KQ q h n b C w a sn S) : ∃ Y, (KS q h n b C w a sn) Y ∧ ∀ k, qm_o cO J 122 [.inr (0, z), .inl 0] S k = k (some (.inl (nI (cntP h (kp h 0))))) (qm_sC S Y) := ask (X := KS q h n b C w a sn) X.one.1 rfl (fun _ z => z.one.1) (ca_many cQ_fix X)
theorem qa_drift {z : Nat} (X : KQ q h n b C w a sn S) (c0 : 0 < c) (cl : c ≤ ev h) : ∃ Y, (KS q h n b C w a sn) Y ∧ ∀ k, qm_o cO J 134 [.inr (0, z), .inl (nI c), .inl 1] S k = k (some (.inl (bif Nat.beq (rvl h (drS h c (drN h c)).1) 0 then nI (drS h c (drN h c)).1 else 0))) (qm_sC S Y) := ask (X := KS q h n b C w a sn) X.one.1 rfl (fun _ z => z.one.1) (ca_drift cQ_fix X c0 cl)
theorem qa_turn {z : Nat} {i : Nat} (X : KQ q h n b C w a sn S) (c0 : 0 < c) (cl : c ≤ ev h) (hi : i < h 0 1) : ∃ Y, (KS q h n b C w a sn) Y ∧ ∀ k, qm_o cO J 109 [.inr (0, z), .inl (nI c), .inl (nI i)] S k = k (some (.inl (nI (du h c i)))) (qm_sC S Y) := ask (X := KS q h n b C w a sn) X.one.1 rfl (fun _ z => z.one.1) (ca_turn cQ_fix X c0 cl hi)
theorem qa_gets {z : Nat} {y i : Nat} (X : KQ q h n b C w a sn S) (c0 : 0 < c) (cl : c ≤ ev h) (yl : y < 3) (hi : i < h 0 1) : ∃ Y, (KS q h n b C w a sn) Y ∧ ∀ k, qm_o cO J 111 [.inr (0, z), .inl (nI c), .inl (nI y), .inl (nI i)] S k = k (some (.inl (nI (pw h c y i)))) (qm_sC S Y) := ask (X := KS q h n b C w a sn) X.one.1 rfl (fun _ z => z.one.1) (ca_gets cQ_fix X c0 cl yl hi)
theorem qa_has {z : Nat} {y p : Nat} (X : KQ q h n b C w a sn S) (c0 : 0 < c) (cl : c ≤ ev h) (yl : y < 3) (pP : p < h 0 0) : ∃ Y, (KS q h n b C w a sn) Y ∧ ∀ k, qm_o cO J 112 [.inr (0, z), .inl (nI c), .inl (nI y), .inl (nI p)] S k = k (some (.inl (nI (own h (pw h c y) p p)))) (qm_sC S Y) := ask (X := KS q h n b C w a sn) X.one.1 rfl (fun _ z => z.one.1) (ca_has cQ_fix X c0 cl yl pP)
theorem qa_instead {z : Nat} {i o : Nat} (X : KQ q h n b C w a sn S) (c0 : 0 < c) (cl : c ≤ ev h) (hi : i < h 0 1) (ho : o < h 0 1) : ∃ Y, (KS q h n b C w a sn) Y ∧ ∀ k, qm_o cO J 114 [.inr (0, z), .inl (nI c), .inl (nI i), .inl (nI o)] S k = k (some (.inl (inv h (du h c) i o))) (qm_sC S Y) := ask (X := KS q h n b C w a sn) X.one.1 rfl (fun _ z => z.one.1) (ca_instead cQ_fix X c0 cl hi ho)
theorem qa_about2 {z : Nat} (X : KQ q h n b C w a sn S) : ∃ Y, (KS q h n b C w a sn) Y ∧ ∀ k, qm_o cO J 108 [.inr (0, z), .inl 2] S k = k (some (.inl (nI (need h)))) (qm_sC S Y) := ask (X := KS q h n b C w a sn) X.one.1 rfl (fun _ z => z.one.1) (ca_about2 cQ_fix X)
theorem qa_about6 {z : Nat} (X : KQ q h n b C w a sn S) : ∃ Y, (KS q h n b C w a sn) Y ∧ ∀ k, qm_o cO J 108 [.inr (0, z), .inl 6] S k = k (some (.inl (nI (sIn h (ev h))))) (qm_sC S Y) := ask (X := KS q h n b C w a sn) X.one.1 rfl (fun _ z => z.one.1) (ca_about6 cQ_fix X)
theorem qa_about7 {z : Nat} (X : KQ q h n b C w a sn S) : ∃ Y, (KS q h n b C w a sn) Y ∧ ∀ k, qm_o cO J 108 [.inr (0, z), .inl 7] S k = k (some (.inl (nI a))) (qm_sC S Y) := ask (X := KS q h n b C w a sn) X.one.1 rfl (fun _ z => z.one.1) (ca_about7 cQ_fix X)
theorem qa_party0 {z : Nat} {p : Nat} (X : KQ q h n b C w a sn S) (pP : p < h 0 0) : ∃ Y, (KS q h n b C w a sn) Y ∧ ∀ k, qm_o cO J 106 [.inr (0, z), .inl (nI p), .inl 0] S k = k (some (.inl (nI (h 1 p)))) (qm_sC S Y) := ask (X := KS q h n b C w a sn) X.one.1 rfl (fun _ z => z.one.1) (ca_party0 cQ_fix X pP)
theorem qa_party3 {z : Nat} {p : Nat} (X : KQ q h n b C w a sn S) (pP : p < h 0 0) : ∃ Y, (KS q h n b C w a sn) Y ∧ ∀ k, qm_o cO J 106 [.inr (0, z), .inl (nI p), .inl 3] S k = k (some (.inl (nI (pc (hld h C w p))))) (qm_sC S Y) := ask (X := KS q h n b C w a sn) X.one.1 rfl (fun _ z => z.one.1) (ca_party3 cQ_fix X pP)
theorem qa_nowc {z : Nat} (X : KQ q h n b C w a sn S) : ∃ Y, (KS q h n b C w a sn) Y ∧ ∀ k, qm_o cO J 138 [.inr (0, z), .inl (-1)] S k = k (some (.inl (nI C))) (qm_sC S Y) := ask (X := KS q h n b C w a sn) X.one.1 rfl (fun _ z => z.one.1) (ca_nowc cQ_fix X)
theorem qa_now {z : Nat} {o : Nat} (X : KQ q h n b C w a sn S) (ol : o < h 0 1) : ∃ Y, (KS q h n b C w a sn) Y ∧ ∀ k, qm_o cO J 138 [.inr (0, z), .inl (nI o)] S k = k (some (.inl (if C = 0 then -1 else nI (w o)))) (qm_sC S Y) := ask (X := KS q h n b C w a sn) X.one.1 rfl (fun _ z => z.one.1) (ca_now cQ_fix X ol)
theorem qa_formed0 {z : Nat} (X : KQ q h n b C w a sn S) (p0 : 0 < h 0 0) : ∃ Y, (KS q h n b C w a sn) Y ∧ ∀ k, qm_o cO J 135 [.inr (0, z), .inl 0] S k = k (some (.inl (nI (fmr h 9).2.2.2.2))) (qm_sC S Y) := ask (X := KS q h n b C w a sn) X.one.1 rfl (fun _ z => z.one.1) (ca_formed cQ_fix X p0 (k := 0) (by decide))
theorem qa_formed1 {z : Nat} (X : KQ q h n b C w a sn S) (p0 : 0 < h 0 0) : ∃ Y, (KS q h n b C w a sn) Y ∧ ∀ k, qm_o cO J 135 [.inr (0, z), .inl 1] S k = k (some (.inl (nI (fmr h 9).2.2.1))) (qm_sC S Y) := ask (X := KS q h n b C w a sn) X.one.1 rfl (fun _ z => z.one.1) (ca_formed cQ_fix X p0 (k := 1) (by decide))
theorem qa_formed2 {z : Nat} (X : KQ q h n b C w a sn S) (p0 : 0 < h 0 0) : ∃ Y, (KS q h n b C w a sn) Y ∧ ∀ k, qm_o cO J 135 [.inr (0, z), .inl 2] S k = k (some (.inl (nI (fmr h 9).1))) (qm_sC S Y) := ask (X := KS q h n b C w a sn) X.one.1 rfl (fun _ z => z.one.1) (ca_formed cQ_fix X p0 (k := 2) (by decide))
theorem qa_tried1 {z : Nat} {i : Nat} (X : KQ q h n b C w a sn S) (hi : i < (fmr h 9).2.2.1) : ∃ Y, (KS q h n b C w a sn) Y ∧ ∀ k, qm_o cO J 136 [.inr (0, z), .inl (nI i), .inl 1] S k = k (some (.inl (nI ((fmr h 9).2.2.2.1 i).2.1))) (qm_sC S Y) := ask (X := KS q h n b C w a sn) X.one.1 rfl (fun _ z => z.one.1) (ca_tried cQ_fix X (k := 1) (Or.inl rfl) hi)
theorem qa_tried2 {z : Nat} {i : Nat} (X : KQ q h n b C w a sn S) (hi : i < (fmr h 9).2.2.1) : ∃ Y, (KS q h n b C w a sn) Y ∧ ∀ k, qm_o cO J 136 [.inr (0, z), .inl (nI i), .inl 2] S k = k (some (.inl (nI ((fmr h 9).2.2.2.1 i).2.2))) (qm_sC S Y) := ask (X := KS q h n b C w a sn) X.one.1 rfl (fun _ z => z.one.1) (ca_tried cQ_fix X (k := 2) (Or.inr rfl) hi)
theorem qa_hold {z : Nat} {y : Nat} (X : KQ q h n b C w a sn S) (c0 : 0 < c) (cl : c ≤ ev h) (yl : y < 3) : ∃ Y, (KS q h n b c (pw h c y) (acm a + 1) (psh a sn (C, w, h 1))) Y ∧ ∀ k, qm_o cO J 137 [.inr (0, z), .inl (nI c), .inl (nI y)] S k = k (some (.inl (nI (hct h (pw h c y))))) (qm_sC S Y) := ask (X := KS q h n b c (pw h c y) (acm a + 1) (psh a sn (C, w, h 1))) X.one.1 rfl (fun _ z => z.one.1) (ca_hold cQ_fix X c0 cl yl)
theorem qa_hold0 {z : Nat} {x y : Int32} (X : KQ q h n b C w a sn S) (hv : vC h x = false) : ∃ Y, (KS q h n b C w a sn) Y ∧ ∀ k, qm_o cO J 137 [.inr (0, z), .inl x, .inl y] S k = k (some (.inl (-1))) (qm_sC S Y) := ask (X := KS q h n b C w a sn) X.one.1 rfl (fun _ z => z.one.1) (ca_hold0 cQ_fix X hv)
theorem qa_leave {z : Nat} {p : Nat} (X : KQ q h n b C w a sn S) (pP : p < h 0 0) (hb : C.testBit p = true) : ∃ Y, (KS q h n b (rm C p) (lgw h C w p) (acm a + 1) (psh a sn (C, w, h 1))) Y ∧ ∀ k, qm_o cO J 139 [.inr (0, z), .inl (nI p)] S k = k (some (.inl (nI (pc (fro h w p))))) (qm_sC S Y) := ask (X := KS q h n b (rm C p) (lgw h C w p) (acm a + 1) (psh a sn (C, w, h 1))) X.one.1 rfl (fun _ z => z.one.1) (ca_leave cQ_fix X pP hb)
theorem qa_leave1 {z : Nat} {p : Nat} (X : KQ q h n b C w a sn S) (pP : p < h 0 0) (hb : C.testBit p = false) : ∃ Y, (KS q h n b C w a sn) Y ∧ ∀ k, qm_o cO J 139 [.inr (0, z), .inl (nI p)] S k = k (some (.inl (-1))) (qm_sC S Y) := ask (X := KS q h n b C w a sn) X.one.1 rfl (fun _ z => z.one.1) (ca_leave1 cQ_fix X pP hb)
theorem qa_leave0 {z : Nat} {x : Int32} (X : KQ q h n b C w a sn S) (hv : vP (h 0 0) x = false) : ∃ Y, (KS q h n b C w a sn) Y ∧ ∀ k, qm_o cO J 139 [.inr (0, z), .inl x] S k = k (some (.inl (-1))) (qm_sC S Y) := ask (X := KS q h n b C w a sn) X.one.1 rfl (fun _ z => z.one.1) (ca_leave0 cQ_fix X hv)
theorem qa_crisis {z : Nat} (X : KQ q h n b C w a sn S) : ∃ Y, (if cgo h C w = 0 then KS q h n b (crn h C w (cgo h C w)).1 (crn h C w (cgo h C w)).2 a sn Y else KS q h n b (crn h C w (cgo h C w)).1 (crn h C w (cgo h C w)).2 (acm a + 1) (psh a sn (C, w, h 1)) Y) ∧ ∀ k, qm_o cO J 141 [.inr (0, z)] S k = k (some (.inl (nI (cgo h C w)))) (qm_sC S Y) := ask (X := fun Y => if cgo h C w = 0 then KS q h n b (crn h C w (cgo h C w)).1 (crn h C w (cgo h C w)).2 a sn Y else KS q h n b (crn h C w (cgo h C w)).1 (crn h C w (cgo h C w)).2 (acm a + 1) (psh a sn (C, w, h 1)) Y) X.one.1 rfl (fun _ z => by
  try dsimp only at z
  split at z
  · exact z.one.1
  · exact z.one.1) (ca_crisis cQ_fix X)
theorem qa_trade0 {z : Nat} {x y : Int32} (X : KQ q h n b C w a sn S) (hh : vP (h 0 1) x = true → vP (h 0 1) y = true → C ≠ 0 → w x.toNatClampNeg = w y.toNatClampNeg) : ∃ Y, (KS q h n b C w a sn) Y ∧ ∀ k, qm_o cO J 142 [.inr (0, z), .inl x, .inl y] S k = k (some (.inl (-1000000))) (qm_sC S Y) := ask (X := KS q h n b C w a sn) X.one.1 rfl (fun _ z => z.one.1) (ca_trade0 cQ_fix X hh)
theorem qa_trade {z : Nat} {o p : Nat} (X : KQ q h n b C w a sn S) (ol : o < h 0 1) (pl : p < h 0 1) (z0 : C ≠ 0) (d : w o ≠ w p) : ∃ Y, (KS q h n b C (xw w o p) (acm a + 1) (psh a sn (C, w, h 1))) Y ∧ ∀ k, qm_o cO J 142 [.inr (0, z), .inl (nI o), .inl (nI p)] S k = k (some (.inl (xch h w o p))) (qm_sC S Y) := ask (X := KS q h n b C (xw w o p) (acm a + 1) (psh a sn (C, w, h 1))) X.one.1 rfl (fun _ z => z.one.1) (ca_trade cQ_fix X ol pl z0 d)
theorem qa_seats0 {z : Nat} {x y : Int32} (X : KQ q h n b C w a sn S) (hn : (vP (h 0 0) x && vS y) = false) : ∃ Y, (KS q h n b C w a sn) Y ∧ ∀ k, qm_o cO J 143 [.inr (0, z), .inl x, .inl y] S k = k (some (.inl (-1))) (qm_sC S Y) := ask (X := KS q h n b C w a sn) X.one.1 rfl (fun _ z => z.one.1) (ca_seats0 cQ_fix X hn)
theorem qa_seats1 {z : Nat} {p s : Nat} (X : KQ q h n b C w a sn S) (pP : p < h 0 0) (s1 : 1 ≤ s) (s9 : s ≤ 999) (e : h 1 p = s) : ∃ Y, (KS q h n b C w a sn) Y ∧ ∀ k, qm_o cO J 143 [.inr (0, z), .inl (nI p), .inl (nI s)] S k = k (some (.inl (-1))) (qm_sC S Y) := ask (X := KS q h n b C w a sn) X.one.1 rfl (fun _ z => z.one.1) (ca_seats1 cQ_fix X pP s1 s9 e)
theorem qa_seats {z : Nat} {p s : Nat} (X : KQ q h n b C w a sn S) (hq : q < 1000000) (pP : p < h 0 0) (s1 : 1 ≤ s) (s9 : s ≤ 999) (e : h 1 p ≠ s) : ∃ Y, (KS (q + 1) (sS h (up (h 1) p s)) n b C w (acm a + 1) (psh a sn (C, w, h 1))) Y ∧ ∀ k, qm_o cO J 143 [.inr (0, z), .inl (nI p), .inl (nI s)] S k = k (some (.inl (nI (h 1 p)))) (qm_sC S Y) := ask (X := KS (q + 1) (sS h (up (h 1) p s)) n b C w (acm a + 1) (psh a sn (C, w, h 1))) X.one.1 rfl (fun _ z => z.one.1) (ca_seats cQ_fix X hq pP s1 s9 e)
theorem qa_undo0 {z : Nat} (X : KQ q h n b C w 0 sn S) : ∃ Y, KS q h n b C w 0 sn Y ∧ ∀ k, qm_o cO J 145 [.inr (0, z)] S k = k (some (.inl (-1))) (qm_sC S Y) := ask (X := KS q h n b C w 0 sn) X.one.1 rfl (fun _ z => z.one.1) (ca_undo0 cQ_fix X)
theorem qa_undo {z : Nat} (X : KQ q h n b C w (a + 1) sn S) (hq : q < 1000000) : ∃ Y, KS (q + 1) (sS h (sn a).2.2) n b (sn a).1 (sn a).2.1 a sn Y ∧ ∀ k, qm_o cO J 145 [.inr (0, z)] S k = k (some (.inl (nI a))) (qm_sC S Y) := ask (X := KS (q + 1) (sS h (sn a).2.2) n b (sn a).1 (sn a).2.1 a sn) X.one.1 rfl (fun _ z => z.one.1) (ca_undo cQ_fix X hq)
theorem qa_feed {z : Nat} {x1 x2 x3 x4 x5 : Int32} (X : KQ q h n b C w a sn S) (hc : n + 20 ≤ 900) : ∃ Y, (KS q h (n + 20) (put4 (put4 (put4 (put4 (put4 b n x1) (n + 4) x2) (n + 4 + 4) x3) (n + 4 + 4 + 4) x4) (n + 4 + 4 + 4 + 4) x5) C w a sn) Y ∧ ∀ k, qm_o cO J 102 [.inr (0, z), .inl x1, .inl x2, .inl x3, .inl x4, .inl x5] S k = k (some (.inl (nI (n + 20)))) (qm_sC S Y) := ask (X := KS q h (n + 20) (put4 (put4 (put4 (put4 (put4 b n x1) (n + 4) x2) (n + 4 + 4) x3) (n + 4 + 4 + 4) x4) (n + 4 + 4 + 4 + 4) x5) C w a sn) X.one.1 rfl (fun _ z => z.one.1) (ca_feed cQ_fix X hc x1 x2 x3 x4 x5)
theorem qa_end {z : Nat} {j : Nat} (X : KQ q h n b C w a sn S) (kl : j ≤ n) : ∃ Y, (KS q h j b C w a sn) Y ∧ ∀ k, qm_o cO J 103 [.inr (0, z), .inl (nI j)] S k = k (some (.inl (nI j))) (qm_sC S Y) := ask (X := KS q h j b C w a sn) X.one.1 rfl (fun _ z => z.one.1) (ca_end cQ_fix X kl)
theorem qa_house {z : Nat} (X : KQ q h n b C w a sn S) (hq : q < 1000000) (e : (rdn n b 900).2.1 = 0) : ∃ Y, (KS (q + 1) (rdn n b 900).2.2 0 b 0 (fun _ => 0) 0 sn) Y ∧ ∀ k, qm_o cO J 104 [.inr (0, z)] S k = k (some (.inl (nI ((rdn n b 900).2.2 0 0)))) (qm_sC S Y) := ask (X := KS (q + 1) (rdn n b 900).2.2 0 b 0 (fun _ => 0) 0 sn) X.one.1 rfl (fun _ z => z.one.1) (ca_house cQ_fix X hq e)
theorem qa_judge {z : Nat} (X : KQ q h n b C w a sn S) (c0 : 0 < c) (cl : c ≤ ev h) (jb : JB h n b c) : ∃ Y, (KS q h 0 b C w a sn) Y ∧ ∀ k, qm_o cO J 146 [.inr (0, z), .inl (nI c), .inl 0] S k = k (some (.inl (nI (scn h (tol b (h 0 1)) (h 0 1))))) (qm_sC S Y) := ask (X := KS q h 0 b C w a sn) X.one.1 rfl (fun _ z => z.one.1) (ca_judge cQ_fix X c0 cl jb)
/-- cells that were there are as they were -/
def FRM (m : Nat) (S S' : qm_S) : Prop := (∀ s x k, x < m → qr_i S' s x k = qr_i S s x k) ∧ (∀ s x k, x < m → qr_g S' s x k = qr_g S s x k) ∧ (∀ x, x < m → qr_n S' x = qr_n S x) ∧ S.1 ≤ S'.1 ∧ S.2.1 ≤ S'.2.1
theorem FRM.rf {m : Nat} : FRM m S S := ⟨fun _ _ _ _ => rfl, fun _ _ _ _ => rfl, fun _ _ => rfl, Nat.le_refl _, Nat.le_refl _⟩
theorem FRM.tr {m : Nat} {S2 : qm_S} (g1 : FRM m S S') (g2 : FRM m S' S2) : FRM m S S2 := ⟨fun s x k hx => (g2.1 s x k hx).trans (g1.1 s x k hx), fun s x k hx => (g2.2.1 s x k hx).trans (g1.2.1 s x k hx), fun x hx => (g2.2.2.1 x hx).trans (g1.2.2.1 x hx), Nat.le_trans g1.2.2.2.1 g2.2.2.2.1, Nat.le_trans g1.2.2.2.2 g2.2.2.2.2⟩
theorem FRM.mono {m m' : Nat} (g : FRM m S S') (l : m' ≤ m) : FRM m' S S' := ⟨fun s x k hx => g.1 s x k (by omega), fun s x k hx => g.2.1 s x k (by omega), fun x hx => g.2.2.1 x (by omega), g.2.2.2⟩
theorem FRM.sC {m : Nat} {Y : pm_S} (g : FRM m S S') : FRM m S (qm_sC S' Y) := g
theorem FRM.i {m s x k : Nat} {v : Int32} (g : FRM m S S') (hx : m ≤ x) : FRM m S (qu_i S' s x k v) := ⟨fun t y j hy => by rw [qi_i, if_neg (fun z => by omega)]; exact g.1 t y j hy, g.2.1, g.2.2.1, g.2.2.2⟩
theorem FRM.g {m s x k v : Nat} (g : FRM m S S') (hx : m ≤ x) : FRM m S (qu_g S' s x k v) := ⟨g.1, fun t y j hy => by rw [qg_g, if_neg (fun z => by omega)]; exact g.2.1 t y j hy, g.2.2.1, g.2.2.2⟩
theorem FRM.mk {m s l : Nat} (g : FRM m S S') (hx : m ≤ S'.1) : FRM m S (qm_mk S' s l) := ⟨fun t y j hy => by rw [qi_mk, if_neg (fun z => by omega)]; exact g.1 t y j hy, fun t y j hy => by rw [qg_mk, if_neg (fun z => by omega)]; exact g.2.1 t y j hy, fun y hy => by rw [qn_mk, if_neg (by omega)]; exact g.2.2.1 y hy, Nat.le_succ_of_le g.2.2.2.1, Nat.le_trans g.2.2.2.2 (Nat.le_add_right _ _)⟩
theorem tb_shr : ∀ c, c < 16 → ∀ p, p < 8 → ((nI c >>> (nI p &&& 31)) &&& 1) = nI (c.testBit p).toNat := by decide +kernel
theorem ev16 {h : Nat → Nat → Nat} (h4 : h 0 0 ≤ 4) : ev h < 16 := by
  have : 2 ^ h 0 0 ≤ 2 ^ 4 := Nat.pow_le_pow_right (by decide) h4
  unfold ev
  omega
theorem allq : ∀ p, p ≤ 4 → (1 : Int32) <<< (nI p &&& 31) - 1 = nI (2 ^ p - 1) := by decide +kernel
theorem j_all1 (hF : qm_fix cO qt_me qt_qs (qt_C L0 xs) J F) {y P : Nat} (hP : qr_i S 1 y 0 = nI P) (h4 : P ≤ 4) : F 1203 0 [some (.inr (1, y))] [] S = some (some (.inl (nI (2 ^ P - 1))), S) := by
  rw [q1203_0 hF, hP]
  exact congrArg (fun v => some (some (Sum.inl v), S)) (allq P h4)
/-- in office: each office by one of the coalition, or none -/
theorem j_off (hF : qm_fix cO qt_me qt_qs (qt_C L0 xs) J F) (h4 : h 0 0 ≤ 4) (h5 : h 0 1 ≤ 5) {y z : Nat} : ∀ (m o : Nat) (S : qm_S), o + m = h 0 1 → KQ q h n b C w a sn S → qr_i S 1 y 1 = nI (h 0 1) → ∃ Y, F 7 8 [some (.inr (0, z)), some (.inr (1, y)), some (.inl (nI C)), some (.inl (nI o)), none] [] S = some (some (.inl 1), qm_sC S Y) ∧ KS q h n b C w a sn Y := by
  intro m
  induction m with
  | zero =>
    intro o S ho X hQ
    rw [q7_8 hF, hQ, if_neg (by rw [z_lt (by omega) (by omega)]; omega)]
    exact ⟨_, rfl, X⟩
  | succ m ih =>
    intro o S ho X hQ
    have hc := X.CAB
    have hE := ev16 h4
    have hc1 := hc.1
    obtain ⟨Y, X', e⟩ := qa_now (J := J) (z := z) (o := o) X (by omega)
    rw [q7_8 hF, hQ, if_pos (by rw [z_lt (by omega) (by omega)]; omega), e]
    simp only [Option.toList_some, Option.toList_none, List.cons_append, List.nil_append, List.append_nil]
    obtain ⟨Y2, i1, i2⟩ := ih (o + 1) (qm_sC S Y) (by omega) X' hQ
    by_cases c0 : C = 0
    · rw [if_pos c0, q7_21 hF, if_pos (show nI C = 0 by rw [c0]; rfl), if_pos rfl, z_1]
      exact ⟨Y2, i1, i2⟩
    · have k := hc.2 c0
      have wo := k.1.2 o (by omega)
      have tb := k.2 o (by omega)
      rw [if_neg c0, q7_21 hF, if_neg (nI_ne0 (by omega) (by omega)), if_neg (nI_pos (by omega)), tb_shr C (by omega) _ (by omega), tb, if_neg (by decide), z_1]
      exact ⟨Y2, i1, i2⟩
theorem j_office (hF : qm_fix cO qt_me qt_qs (qt_C L0 xs) J F) (h4 : h 0 0 ≤ 4) (h5 : h 0 1 ≤ 5) {y z : Nat} (X : KQ q h n b C w a sn S) (hQ : qr_i S 1 y 1 = nI (h 0 1)) : ∃ Y, F 7 0 [some (.inr (0, z)), some (.inr (1, y)), none, none, none] [] S = some (some (.inl 1), qm_sC S Y) ∧ KS q h n b C w a sn Y := by
  obtain ⟨Y, X', e⟩ := qa_nowc (J := J) (z := z) X
  obtain ⟨Y2, i1, i2⟩ := j_off hF h4 h5 (y := y) (z := z) (h 0 1) 0 (qm_sC S Y) (by omega) X' hQ
  rw [q7_0 hF, e]
  simp only [Option.toList_some, Option.toList_none, List.cons_append, List.nil_append, List.append_nil]
  rw [q7_5 hF]
  exact ⟨Y2, i1, i2⟩
end
