/-! ===== the grown text is read without a fault ===== -/
section
variable {n : Nat} {b : Nat → Nat} {q : Nat} {d : Nat → Nat → Nat}
/-- what stands from there on -/
def RM (n : Nat) (b : Nat → Nat) (q : Nat) (r : List Nat) : Prop := q + r.length = n ∧ ∀ i, cb n b (q + i) = r.getD i 256
theorem app_l {u r : List Nat} {i : Nat} (hi : i < u.length) : (u ++ r).getD i 256 = u.getD i 256 := by
  rw [List.getD_eq_getElem?_getD, List.getD_eq_getElem?_getD, List.getElem?_append_left hi]
theorem app_r {u r : List Nat} (i : Nat) : (u ++ r).getD (u.length + i) 256 = r.getD i 256 := by
  rw [List.getD_eq_getElem?_getD, List.getD_eq_getElem?_getD, List.getElem?_append_right (Nat.le_add_right _ _), Nat.add_sub_cancel_left]
theorem getD_in {u : List Nat} {i : Nat} (hi : i < u.length) : u.getD i 256 ∈ u := by
  rw [List.getD_eq_getElem?_getD, List.getElem?_eq_getElem hi]
  exact List.getElem_mem hi
theorem RM.skip {u r : List Nat} (h : RM n b q (u ++ r)) : RM n b (q + u.length) r := by
  refine ⟨?_, fun i => ?_⟩
  · have := h.1
    rw [List.length_append] at this
    omega
  · rw [Nat.add_assoc, h.2, app_r]
theorem RM.hd {r : List Nat} (h : RM n b q r) : cb n b q = r.getD 0 256 := h.2 0
theorem RM.at {u r : List Nat} (h : RM n b q (u ++ r)) {i : Nat} (hi : i < u.length) : cb n b (q + i) = u.getD i 256 := (h.2 i).trans (app_l hi)
theorem rn_w {P : Nat → Bool} {u r : List Nat} (h : RM n b q (u ++ r)) (hn : n ≤ 900) (hu : u.all P = true) (hr : P (r.getD 0 256) = false) : rn P n b q = u.length := by
  have hl := h.1
  rw [List.length_append] at hl
  unfold rn
  rw [ff_of (j := u.length) (by omega) (by rw [h.skip.hd, hr]; rfl) (fun i hi => by rw [h.at hi, List.all_eq_true.mp hu _ (getD_in hi)]; rfl)]
  rfl
def cdw (u : List Nat) : Nat := lp (fun k a => 32 * a + (u.getD k 256 - 96)) u.length 0
def nvl (u : List Nat) : Nat := lp (fun k a => 10 * a + (u.getD k 256 - 48)) u.length 0
def kwd (u : List Nat) : Option Nat := ff (fun k => Nat.beq (c5 k) (cdw u)) 13
theorem isD_L {c : Nat} (h : isD c = true) : isL c = false := by
  unfold isD at h
  rw [Bool.and_eq_true, decide_eq_true_eq, decide_eq_true_eq] at h
  unfold isL
  rw [decide_eq_false (by omega)]
  rfl
theorem aq_s {u s r : List Nat} (h : RM n b q (u ++ (s ++ r))) (hn : n ≤ 900) (he : en n b q = q + u.length) (hs : s.all isB = true) (h2 : isB (r.getD 0 256) = false) : ∃ q', aq n b q 0 = q' ∧ RM n b q' r := by
  refine ⟨_, rfl, ?_⟩
  unfold aq skp
  rw [if_pos rfl, he, rn_w h.skip hn hs h2]
  exact h.skip.skip
/-- a word -/
theorem TW {u s r : List Nat} (h : RM n b q (u ++ (s ++ r))) (hn : n ≤ 900) (w0 : 0 < u.length) (w8 : u.length ≤ 8) (hu : u.all isL = true) (hs : s.all isB = true) (h1 : isL ((s ++ r).getD 0 256) = false) (h2 : isB (r.getD 0 256) = false) :
    kd n b q = 1 ∧ wln n b q = u.length ∧ e5 n b q = cdw u ∧ kw n b q = kwd u ∧ ∃ q', aq n b q 0 = q' ∧ RM n b q' r := by
  have hl := h.1
  rw [List.length_append] at hl
  have e1 : isL (cb n b q) = true := by
    have := h.at (i := 0) w0
    rw [Nat.add_zero] at this
    rw [this]
    exact List.all_eq_true.mp hu _ (getD_in w0)
  have e2 : wln n b q = u.length := rn_w h hn hu h1
  have e3 : e5 n b q = cdw u := by
    unfold e5 cdw
    rw [e2]
    exact lp_congr (fun k a hk => by rw [h.at hk]) 0
  refine ⟨?_, e2, e3, ?_, aq_s h hn ?_ hs h2⟩
  · unfold kd
    rw [if_neg (by omega), e1, e2]
    exact if_pos w8
  · unfold kw kwd
    rw [e3]
  · unfold en
    rw [if_neg (by omega), e1, e2]
    rfl
/-- a number -/
theorem TN {u s r : List Nat} (h : RM n b q (u ++ (s ++ r))) (hn : n ≤ 900) (w0 : 0 < u.length) (w3 : u.length ≤ 3) (hu : u.all isD = true) (hs : s.all isB = true) (h0 : isD ((s ++ r).getD 0 256) = false) (h1 : isL ((s ++ r).getD 0 256) = false) (h2 : isB (r.getD 0 256) = false) :
    kd n b q = 2 ∧ vl n b q = nvl u ∧ ∃ q', aq n b q 0 = q' ∧ RM n b q' r := by
  have hl := h.1
  rw [List.length_append] at hl
  have e1 : isD (cb n b q) = true := by
    have := h.at (i := 0) w0
    rw [Nat.add_zero] at this
    rw [this]
    exact List.all_eq_true.mp hu _ (getD_in w0)
  have e0 := isD_L e1
  have e2 : dln n b q = u.length := rn_w h hn hu h0
  refine ⟨?_, ?_, aq_s h hn ?_ hs h2⟩
  · unfold kd
    rw [if_neg (by omega), e0, e1, e2, h.skip.hd, h1]
    exact if_pos w3
  · unfold vl nvl
    rw [e2]
    exact lp_congr (fun k a hk => by rw [h.at hk]) 0
  · unfold en
    rw [if_neg (by omega), e0, e1, e2]
    rfl
/-- the sign -/
theorem TS {r : List Nat} (h : RM n b q ([59] ++ r)) (hn : n ≤ 900) (h2 : isB (r.getD 0 256) = false) : kd n b q = 3 ∧ ∃ q', aq n b q 0 = q' ∧ RM n b q' r := by
  have hl := h.1
  rw [List.length_append] at hl
  have e : cb n b q = 59 := h.hd
  have l1 : ([59] : List Nat).length = 1 := rfl
  refine ⟨?_, aq_s (u := [59]) (s := []) h hn ?_ rfl h2⟩
  · unfold kd
    rw [if_neg (by omega), e]
    rfl
  · unfold en
    rw [if_neg (by omega), e]
    rfl
theorem sn_v : qt_sn 0 = [100, 105, 118, 105, 115, 111, 114, 115, 32] ∧ qt_sn 1 = [32] ∧ qt_sn 2 = [59] ∧ qt_sn 3 = [99, 97, 114, 101, 32] ∧ qt_sn 4 = [116, 114, 105, 101, 115, 32] ∧ qt_sn 5 = [116, 105, 114, 101, 32] ∧ qt_sn 6 = [111, 102, 102, 105, 99, 101, 32, 111] ∧ qt_sn 7 = [112, 97, 114, 116, 121, 32, 112] ∧ qt_sn 8 = [32, 115, 101, 97, 116, 115, 32] ∧ qt_sn 9 = [32, 97, 116, 32] ∧ qt_sn 10 = [32, 119, 97, 108, 107, 32] ∧ qt_sn 11 = [119, 111, 114, 116, 104, 32, 112] ∧ qt_sn 12 = [32, 111] ∧ qt_sn 13 = [115, 116, 97, 110, 99, 101, 32, 112] ∧ qt_sn 14 = [98, 97, 114, 32, 112] ∧ qt_sn 15 = [32, 112] ∧ qt_sn 16 = [110, 101, 101, 100, 32] := by decide +kernel
theorem dg_v : ∀ x, x < 200 → (qt_dg x).all isD = true ∧ nvl (qt_dg x) = x ∧ 0 < (qt_dg x).length ∧ (qt_dg x).length ≤ 3 := by decide +kernel
theorem dg_h0 : ∀ x, x < 200 → isB ((qt_dg x).getD 0 256) = false ∧ isL ((qt_dg x).getD 0 256) = false := by decide +kernel
theorem nm_v : ∀ x, x < 8 → [112, 97 + x].all isL = true ∧ kwd [112, 97 + x] = none ∧ [111, 97 + x].all isL = true ∧ kwd [111, 97 + x] = none := by decide +kernel
theorem nm_i : ∀ x, x < 8 → ∀ y, y < 8 → Nat.beq (cdw [112, 97 + x]) (cdw [112, 97 + y]) = Nat.beq x y ∧ Nat.beq (cdw [111, 97 + x]) (cdw [111, 97 + y]) = Nat.beq x y ∧ Nat.beq (cdw [112, 97 + x]) (cdw [111, 97 + y]) = false ∧ Nat.beq (cdw [111, 97 + x]) (cdw [112, 97 + y]) = false := by decide +kernel
/-- what is told so far: how many parties and offices, which lines that come once may come, which worths, which stances are not told -/
def IV (np no : Nat) (A : Nat → Prop) (T9 T10 : Nat → Nat → Prop) (n : Nat) (b : Nat → Nat) (d : Nat → Nat → Nat) : Prop := d 0 0 = np ∧ d 0 1 = no ∧ (∀ k, k < 5 → A k → (d 0 8).testBit k = false) ∧ d 0 8 < 32 ∧ (∀ p, p < np → e5 n b (d 7 p) = cdw [112, 97 + p]) ∧ (∀ o, o < no → e5 n b (d 8 o) = cdw [111, 97 + o]) ∧ (∀ x y, T9 x y → (d 9 x).testBit y = false) ∧ (∀ x y, T10 x y → (d 10 x).testBit y = false) ∧ ∀ x, d 9 x < 256 ∧ d 10 x < 256
section
variable {np no : Nat} {A A' : Nat → Prop} {T9 T10 T9' T10' : Nat → Nat → Prop} {rest : List Nat}
theorem IV.mono (h : IV np no A T9 T10 n b d) (a : ∀ k, A' k → A k) (t : ∀ x y, T9' x y → T9 x y) (s : ∀ x y, T10' x y → T10 x y) : IV np no A' T9' T10' n b d := by
  obtain ⟨h1, h2, h3, h4, h5, h6, h7, h8, h9⟩ := h
  exact ⟨h1, h2, fun k hk z => h3 k hk (a k z), h4, h5, h6, fun x y z => h7 x y (t x y z), fun x y z => h8 x y (s x y z), h9⟩
theorem IV.pf (h : IV np no A T9 T10 n b d) (hp : np ≤ 8) {x : Nat} (hx : x < 8) (e : e5 n b q = cdw [112, 97 + x]) : pfn n b d q = (if x < np then some x else none) ∧ ofn n b d q = (if no ≤ 8 then none else ofn n b d q) := by
  obtain ⟨h1, h2, h3, h4, h5, h6, h7, h8, h9⟩ := h
  constructor
  · unfold pfn
    rw [h1, e]
    by_cases c : x < np
    · rw [if_pos c]
      exact ff_of c (by rw [h5 x c]; exact Nat.beq_refl _) (fun i hi => by rw [h5 i (by omega), (nm_i i (by omega) x hx).1]; exact beq_f (by omega))
    · rw [if_neg c]
      exact ff_of_none (fun i hi => by rw [h5 i hi, (nm_i i (by omega) x hx).1]; exact beq_f (by omega))
  · by_cases c : no ≤ 8
    · rw [if_pos c]
      unfold ofn
      rw [h2, e]
      exact ff_of_none (fun i hi => by rw [h6 i hi]; exact (nm_i i (by omega) x hx).2.2.2)
    · rw [if_neg c]
theorem IV.of (h : IV np no A T9 T10 n b d) (ho : no ≤ 8) (hp : np ≤ 8) {x : Nat} (hx : x < 8) (e : e5 n b q = cdw [111, 97 + x]) : ofn n b d q = (if x < no then some x else none) ∧ pfn n b d q = none := by
  obtain ⟨h1, h2, h3, h4, h5, h6, h7, h8, h9⟩ := h
  constructor
  · unfold ofn
    rw [h2, e]
    by_cases c : x < no
    · rw [if_pos c]
      exact ff_of c (by rw [h6 x c]; exact Nat.beq_refl _) (fun i hi => by rw [h6 i (by omega), (nm_i i (by omega) x hx).2.1]; exact beq_f (by omega))
    · rw [if_neg c]
      exact ff_of_none (fun i hi => by rw [h6 i hi, (nm_i i (by omega) x hx).2.1]; exact beq_f (by omega))
  · unfold pfn
    rw [h1, e]
    exact ff_of_none (fun i hi => by rw [h5 i hi]; exact (nm_i i (by omega) x hx).2.2.1)
theorem ad_tb5 {c k j : Nat} (hc : c < 32) (hk : k < 5) (hj : j < 5) : (ad c k).testBit j = (c.testBit j || Nat.beq j k) := z_adb c (by omega) k (by omega) j (by omega)
/-- the flag of a line that comes once -/
theorem IV.once (h : IV np no A T9 T10 n b d) {k v : Nat} (hk : k < 5) : IV np no (fun j => A j ∧ j ≠ k) T9 T10 n b (ud (ud d 0 8 (ad (d 0 8) k)) 0 (3 + k) v) := by
  obtain ⟨h1, h2, h3, h4, h5, h6, h7, h8, h9⟩ := h
  refine ⟨h1 ▸ ?_, h2 ▸ ?_, fun j hj z => ?_, ?_, fun p hp => ?_, fun o ho => ?_, fun x y z => ?_, fun x y z => ?_, fun x => ?_⟩
  · show (if 0 = 0 ∧ 0 = 3 + k then v else if 0 = 0 ∧ 0 = 8 then _ else d 0 0) = d 0 0
    rw [if_neg (by omega), if_neg (by omega)]
  · show (if 0 = 0 ∧ 1 = 3 + k then v else if 0 = 0 ∧ 1 = 8 then _ else d 0 1) = d 0 1
    rw [if_neg (by omega), if_neg (by omega)]
  · show Nat.testBit (if 0 = 0 ∧ 8 = 3 + k then v else if 0 = 0 ∧ 8 = 8 then ad (d 0 8) k else d 0 8) j = false
    rw [if_neg (by omega), if_pos ⟨rfl, rfl⟩, ad_tb5 h4 hk hj, h3 j hj z.1, beq_f z.2]
    rfl
  · show (if 0 = 0 ∧ 8 = 3 + k then v else if 0 = 0 ∧ 8 = 8 then ad (d 0 8) k else d 0 8) < 32
    rw [if_neg (by omega), if_pos ⟨rfl, rfl⟩]
    exact ad_32 _ h4 k hk
  · exact h5 p hp
  · exact h6 o ho
  · exact h7 x y z
  · exact h8 x y z
  · exact h9 x
theorem IV.div (h : IV np no A T9 T10 n b d) {u v : Nat} : IV np no (fun j => A j ∧ j ≠ 0) T9 T10 n b (ud (ud (ud d 0 8 (ad (d 0 8) 0)) 0 2 u) 0 3 v) := by
  obtain ⟨h1, h2, h3, h4, h5, h6, h7, h8, h9⟩ := h
  refine ⟨h1, h2, fun j hj z => ?_, ?_, h5, h6, h7, h8, h9⟩
  · show Nat.testBit (ad (d 0 8) 0) j = false
    rw [ad_tb5 h4 (by decide) hj, h3 j hj z.1, beq_f z.2]
    rfl
  · exact ad_32 _ h4 0 (by decide)
theorem IV.office (h : IV np no A T9 T10 n b d) {q1 : Nat} (e : e5 n b q1 = cdw [111, 97 + no]) : IV np (no + 1) A T9 T10 n b (ud (ud d 8 (d 0 1) q1) 0 1 (d 0 1 + 1)) := by
  obtain ⟨h1, h2, h3, h4, h5, h6, h7, h8, h9⟩ := h
  refine ⟨h1, by show d 0 1 + 1 = _; rw [h2], h3, h4, h5, fun o ho => ?_, h7, h8, h9⟩
  show e5 n b (if 8 = 8 ∧ o = d 0 1 then q1 else d 8 o) = _
  rw [h2]
  by_cases c : o = no
  · rw [if_pos ⟨rfl, c⟩, c]
    exact e
  · rw [if_neg (fun z => c z.2)]
    exact h6 o (by omega)
theorem IV.party (h : IV np no A T9 T10 n b d) {q1 v1 v2 v3 : Nat} (e : e5 n b q1 = cdw [112, 97 + np]) : IV (np + 1) no A T9 T10 n b (ud (ud (ud (ud (ud d 7 (d 0 0) q1) 1 (d 0 0) v1) 2 (d 0 0) v2) 3 (d 0 0) v3) 0 0 (d 0 0 + 1)) := by
  obtain ⟨h1, h2, h3, h4, h5, h6, h7, h8, h9⟩ := h
  refine ⟨by show d 0 0 + 1 = _; rw [h1], h2, h3, h4, fun p hp => ?_, h6, h7, h8, h9⟩
  show e5 n b (if 7 = 7 ∧ p = d 0 0 then q1 else d 7 p) = _
  rw [h1]
  by_cases c : p = np
  · rw [if_pos ⟨rfl, c⟩, c]
    exact e
  · rw [if_neg (fun z => c z.2)]
    exact h5 p (by omega)
theorem IV.worth (h : IV np no A T9 T10 n b d) {p o v : Nat} (hp : p < 8) (ho : o < 8) : IV np no A (fun x y => T9 x y ∧ y < 8 ∧ ¬ (x = p ∧ y = o)) T10 n b (ud (ud d 9 p (ad (d 9 p) o)) 5 (8 * p + o) v) := by
  obtain ⟨h1, h2, h3, h4, h5, h6, h7, h8, h9⟩ := h
  refine ⟨h1, h2, h3, h4, h5, h6, fun x y z => ?_, h8, fun x => ⟨?_, (h9 x).2⟩⟩
  · show Nat.testBit (if 9 = 9 ∧ x = p then ad (d 9 p) o else d 9 x) y = false
    by_cases c : x = p
    · rw [if_pos ⟨rfl, c⟩, z_adb _ (h9 p).1 o ho y z.2.1, ← c, h7 x y z.1, beq_f (fun e => z.2.2 ⟨c, e⟩)]
      rfl
    · rw [if_neg (fun e => c e.2)]
      exact h7 x y z.1
  · show (if 9 = 9 ∧ x = p then ad (d 9 p) o else d 9 x) < 256
    split
    · exact (ad_lt _ (h9 p).1 o ho).1
    · exact (h9 x).1
theorem IV.stance (h : IV np no A T9 T10 n b d) {p o v : Nat} (hp : p < 8) (ho : o < 8) : IV np no A T9 (fun x y => T10 x y ∧ y < 8 ∧ ¬ (x = p ∧ y = o)) n b (ud (ud d 10 p (ad (d 10 p) o)) 6 (8 * p + o) v) := by
  obtain ⟨h1, h2, h3, h4, h5, h6, h7, h8, h9⟩ := h
  refine ⟨h1, h2, h3, h4, h5, h6, h7, fun x y z => ?_, fun x => ⟨(h9 x).1, ?_⟩⟩
  · show Nat.testBit (if 10 = 10 ∧ x = p then ad (d 10 p) o else d 10 x) y = false
    by_cases c : x = p
    · rw [if_pos ⟨rfl, c⟩, z_adb _ (h9 p).2 o ho y z.2.1, ← c, h8 x y z.1, beq_f (fun e => z.2.2 ⟨c, e⟩)]
      rfl
    · rw [if_neg (fun e => c e.2)]
      exact h8 x y z.1
  · show (if 10 = 10 ∧ x = p then ad (d 10 p) o else d 10 x) < 256
    split
    · exact (ad_lt _ (h9 p).2 o ho).1
    · exact (h9 x).2
theorem IV.bar (h : IV np no A T9 T10 n b d) {x y u v : Nat} : IV np no A T9 T10 n b (ud (ud d 4 x u) 4 y v) := h

theorem kw_v : kwd [100, 105, 118, 105, 115, 111, 114, 115] = some 0 ∧ kwd [110, 101, 101, 100] = some 1 ∧ kwd [99, 97, 114, 101] = some 2 ∧ kwd [116, 114, 105, 101, 115] = some 3 ∧ kwd [116, 105, 114, 101] = some 4 ∧ kwd [111, 102, 102, 105, 99, 101] = some 5 ∧ kwd [112, 97, 114, 116, 121] = some 6 ∧ kwd [115, 101, 97, 116, 115] = some 7 ∧ kwd [97, 116] = some 8 ∧ kwd [119, 97, 108, 107] = some 9 ∧ kwd [119, 111, 114, 116, 104] = some 10 ∧ kwd [115, 116, 97, 110, 99, 101] = some 11 ∧ kwd [98, 97, 114] = some 12 := by decide +kernel
theorem f_oN {lo hi q1 : Nat} (k : kd n b q1 = 2) (v : lo ≤ vl n b q1 ∧ vl n b q1 ≤ hi) : oN n b lo hi q1 0 = 0 := by unfold oN; rw [if_pos rfl, if_pos k, if_pos v]
theorem f_oS {q1 : Nat} (k : kd n b q1 = 3) : oS n b q1 0 = 0 := by unfold oS; rw [if_pos rfl, if_pos k]
theorem f_oW {j q1 : Nat} (k : kd n b q1 = 1) (e : kw n b q1 = some j) : oW n b j q1 0 = 0 := by unfold oW; rw [if_pos rfl, if_pos ⟨k, e⟩]
theorem f_oA {q1 : Nat} (k : kd n b q1 = 1) (e : kw n b q1 = none) (l : wln n b q1 ≤ 6) : oA n b q1 0 = 0 := by unfold oA; rw [if_pos rfl, if_pos ⟨k, e, l⟩]
theorem f_oF {q1 : Nat} (e1 : pfn n b d q1 = none) (e2 : ofn n b d q1 = none) : oF n b d q1 0 = 0 := by unfold oF; rw [if_pos rfl, e1, e2]; rfl
theorem f_oK {j : Nat} : oK (some j) 0 = 0 := rfl
theorem LN_divisors {f s : Nat} (h : RM n b q (ltx (0, f, s, 0, 0) ++ rest)) (hr : isB (rest.getD 0 256) = false) (hn : n ≤ 900) (V : IV np no A T9 T10 n b d) (p8 : np ≤ 6) (o8 : no ≤ 7) (hk : A 0) (hf : 1 ≤ f ∧ f ≤ 9) (hs : 1 ≤ s ∧ s ≤ 9) : ∃ q' d', kd n b q = 1 ∧ lin n b d q = (q', 0, d') ∧ RM n b q' rest ∧ IV np no (fun j => A j ∧ j ≠ 0) T9 T10 n b d' := by
  obtain ⟨v0, v1, v2, v3, v4, v5, v6, v7, v8, v9, v10, v11, v12, v13, v14, v15, v16⟩ := sn_v
  obtain ⟨w0, w1, w2, w3, w4, w5, w6, w7, w8, w9, w10, w11, w12⟩ := kw_v
  have e : ltx (0, f, s, 0, 0) ++ rest = ([100, 105, 118, 105, 115, 111, 114, 115] ++ ([32] ++ (qt_dg f ++ ([32] ++ (qt_dg s ++ ([] ++ ([59] ++ rest))))))) := by simp only [ltx, v0, v1, v2, v3, v4, v5, v6, v7, v8, v9, v10, v11, v12, v13, v14, v15, v16, List.append_assoc, List.cons_append, List.nil_append]
  rw [e] at h
  obtain ⟨k0, l0, c0, z0, q1, a1, r1⟩ := TW h hn (by show 0 < 8; omega) (by show 8 ≤ 8; omega) (by decide) (by decide) (by rfl) (by rw [app_l (dg_v f (by omega)).2.2.1]; exact (dg_h0 f (by omega)).1)
  obtain ⟨k1, v1', q2, a2, r2⟩ := TN r1 hn (dg_v f (by omega)).2.2.1 (dg_v f (by omega)).2.2.2 (dg_v f (by omega)).1 (by decide) (by rfl) (by rfl) (by rw [app_l (dg_v s (by omega)).2.2.1]; exact (dg_h0 s (by omega)).1)
  rw [(dg_v f (by omega)).2.1] at v1'
  obtain ⟨k2, v2', q3, a3, r3⟩ := TN r2 hn (dg_v s (by omega)).2.2.1 (dg_v s (by omega)).2.2.2 (dg_v s (by omega)).1 (by decide) (by rfl) (by rfl) (by rfl)
  rw [(dg_v s (by omega)).2.1] at v2'
  obtain ⟨k3, q4, a4, r4⟩ := TS r3 hn hr
  have f1 : oO d 0 = 0 := by unfold oO; rw [V.2.2.1 0 (by decide) hk]; rfl
  refine ⟨q4, _, k0, ?_, r4, V.div (u := vl n b q1) (v := vl n b q2)⟩
  unfold lin
  rw [if_pos k0, z0, w0]
  show ln0 n b d q = _
  unfold ln0
  simp only [f1, a1, f_oN (lo := 1) (hi := 99) k1 (by omega), a2, f_oN (lo := 1) (hi := 99) k2 (by omega), a3, f_oS k3, a4]
theorem LN_care {c : Nat} (h : RM n b q (ltx (1, c, 0, 0, 0) ++ rest)) (hr : isB (rest.getD 0 256) = false) (hn : n ≤ 900) (V : IV np no A T9 T10 n b d) (p8 : np ≤ 6) (o8 : no ≤ 7) (hk : A 2) (hc : c < 10) : ∃ q' d', kd n b q = 1 ∧ lin n b d q = (q', 0, d') ∧ RM n b q' rest ∧ IV np no (fun j => A j ∧ j ≠ 2) T9 T10 n b d' := by
  obtain ⟨v0, v1, v2, v3, v4, v5, v6, v7, v8, v9, v10, v11, v12, v13, v14, v15, v16⟩ := sn_v
  obtain ⟨w0, w1, w2, w3, w4, w5, w6, w7, w8, w9, w10, w11, w12⟩ := kw_v
  have e : ltx (1, c, 0, 0, 0) ++ rest = ([99, 97, 114, 101] ++ ([32] ++ (qt_dg c ++ ([] ++ ([59] ++ rest))))) := by simp only [ltx, v0, v1, v2, v3, v4, v5, v6, v7, v8, v9, v10, v11, v12, v13, v14, v15, v16, List.append_assoc, List.cons_append, List.nil_append]
  rw [e] at h
  obtain ⟨k0, l0, c0, z0, q1, a1, r1⟩ := TW h hn (by show 0 < 4; omega) (by show 4 ≤ 8; omega) (by decide) (by decide) (by rfl) (by rw [app_l (dg_v c (by omega)).2.2.1]; exact (dg_h0 c (by omega)).1)
  obtain ⟨k1, v1', q2, a2, r2⟩ := TN r1 hn (dg_v c (by omega)).2.2.1 (dg_v c (by omega)).2.2.2 (dg_v c (by omega)).1 (by decide) (by rfl) (by rfl) (by rfl)
  rw [(dg_v c (by omega)).2.1] at v1'
  obtain ⟨k2, q3, a3, r3⟩ := TS r2 hn hr
  have f1 : oO d 2 = 0 := by unfold oO; rw [V.2.2.1 2 (by decide) hk]; rfl
  refine ⟨q3, _, k0, ?_, r3, V.once (k := 2) (v := vl n b q1) (by decide)⟩
  unfold lin
  rw [if_pos k0, z0, w2]
  show ln1 n b d 0 9 2 q = _
  unfold ln1
  simp only [f1, a1, f_oN (lo := 0) (hi := 9) k1 (by omega), a2, f_oS k2, a3]
theorem LN_tries {c : Nat} (h : RM n b q (ltx (2, c, 0, 0, 0) ++ rest)) (hr : isB (rest.getD 0 256) = false) (hn : n ≤ 900) (V : IV np no A T9 T10 n b d) (p8 : np ≤ 6) (o8 : no ≤ 7) (hk : A 3) (hc : 1 ≤ c ∧ c ≤ 4) : ∃ q' d', kd n b q = 1 ∧ lin n b d q = (q', 0, d') ∧ RM n b q' rest ∧ IV np no (fun j => A j ∧ j ≠ 3) T9 T10 n b d' := by
  obtain ⟨v0, v1, v2, v3, v4, v5, v6, v7, v8, v9, v10, v11, v12, v13, v14, v15, v16⟩ := sn_v
  obtain ⟨w0, w1, w2, w3, w4, w5, w6, w7, w8, w9, w10, w11, w12⟩ := kw_v
  have e : ltx (2, c, 0, 0, 0) ++ rest = ([116, 114, 105, 101, 115] ++ ([32] ++ (qt_dg c ++ ([] ++ ([59] ++ rest))))) := by simp only [ltx, v0, v1, v2, v3, v4, v5, v6, v7, v8, v9, v10, v11, v12, v13, v14, v15, v16, List.append_assoc, List.cons_append, List.nil_append]
  rw [e] at h
  obtain ⟨k0, l0, c0, z0, q1, a1, r1⟩ := TW h hn (by show 0 < 5; omega) (by show 5 ≤ 8; omega) (by decide) (by decide) (by rfl) (by rw [app_l (dg_v c (by omega)).2.2.1]; exact (dg_h0 c (by omega)).1)
  obtain ⟨k1, v1', q2, a2, r2⟩ := TN r1 hn (dg_v c (by omega)).2.2.1 (dg_v c (by omega)).2.2.2 (dg_v c (by omega)).1 (by decide) (by rfl) (by rfl) (by rfl)
  rw [(dg_v c (by omega)).2.1] at v1'
  obtain ⟨k2, q3, a3, r3⟩ := TS r2 hn hr
  have f1 : oO d 3 = 0 := by unfold oO; rw [V.2.2.1 3 (by decide) hk]; rfl
  refine ⟨q3, _, k0, ?_, r3, V.once (k := 3) (v := vl n b q1) (by decide)⟩
  unfold lin
  rw [if_pos k0, z0, w3]
  show ln1 n b d 1 9 3 q = _
  unfold ln1
  simp only [f1, a1, f_oN (lo := 1) (hi := 9) k1 (by omega), a2, f_oS k2, a3]
theorem LN_tire {c : Nat} (h : RM n b q (ltx (3, c, 0, 0, 0) ++ rest)) (hr : isB (rest.getD 0 256) = false) (hn : n ≤ 900) (V : IV np no A T9 T10 n b d) (p8 : np ≤ 6) (o8 : no ≤ 7) (hk : A 4) (hc : c < 40) : ∃ q' d', kd n b q = 1 ∧ lin n b d q = (q', 0, d') ∧ RM n b q' rest ∧ IV np no (fun j => A j ∧ j ≠ 4) T9 T10 n b d' := by
  obtain ⟨v0, v1, v2, v3, v4, v5, v6, v7, v8, v9, v10, v11, v12, v13, v14, v15, v16⟩ := sn_v
  obtain ⟨w0, w1, w2, w3, w4, w5, w6, w7, w8, w9, w10, w11, w12⟩ := kw_v
  have e : ltx (3, c, 0, 0, 0) ++ rest = ([116, 105, 114, 101] ++ ([32] ++ (qt_dg c ++ ([] ++ ([59] ++ rest))))) := by simp only [ltx, v0, v1, v2, v3, v4, v5, v6, v7, v8, v9, v10, v11, v12, v13, v14, v15, v16, List.append_assoc, List.cons_append, List.nil_append]
  rw [e] at h
  obtain ⟨k0, l0, c0, z0, q1, a1, r1⟩ := TW h hn (by show 0 < 4; omega) (by show 4 ≤ 8; omega) (by decide) (by decide) (by rfl) (by rw [app_l (dg_v c (by omega)).2.2.1]; exact (dg_h0 c (by omega)).1)
  obtain ⟨k1, v1', q2, a2, r2⟩ := TN r1 hn (dg_v c (by omega)).2.2.1 (dg_v c (by omega)).2.2.2 (dg_v c (by omega)).1 (by decide) (by rfl) (by rfl) (by rfl)
  rw [(dg_v c (by omega)).2.1] at v1'
  obtain ⟨k2, q3, a3, r3⟩ := TS r2 hn hr
  have f1 : oO d 4 = 0 := by unfold oO; rw [V.2.2.1 4 (by decide) hk]; rfl
  refine ⟨q3, _, k0, ?_, r3, V.once (k := 4) (v := vl n b q1) (by decide)⟩
  unfold lin
  rw [if_pos k0, z0, w4]
  show ln1 n b d 0 99 4 q = _
  unfold ln1
  simp only [f1, a1, f_oN (lo := 0) (hi := 99) k1 (by omega), a2, f_oS k2, a3]
theorem LN_need {c : Nat} (h : RM n b q (ltx (10, c, 0, 0, 0) ++ rest)) (hr : isB (rest.getD 0 256) = false) (hn : n ≤ 900) (V : IV np no A T9 T10 n b d) (p8 : np ≤ 6) (o8 : no ≤ 7) (hk : A 1) (hc : 1 ≤ c ∧ c ≤ 60) : ∃ q' d', kd n b q = 1 ∧ lin n b d q = (q', 0, d') ∧ RM n b q' rest ∧ IV np no (fun j => A j ∧ j ≠ 1) T9 T10 n b d' := by
  obtain ⟨v0, v1, v2, v3, v4, v5, v6, v7, v8, v9, v10, v11, v12, v13, v14, v15, v16⟩ := sn_v
  obtain ⟨w0, w1, w2, w3, w4, w5, w6, w7, w8, w9, w10, w11, w12⟩ := kw_v
  have e : ltx (10, c, 0, 0, 0) ++ rest = ([110, 101, 101, 100] ++ ([32] ++ (qt_dg c ++ ([] ++ ([59] ++ rest))))) := by simp only [ltx, v0, v1, v2, v3, v4, v5, v6, v7, v8, v9, v10, v11, v12, v13, v14, v15, v16, List.append_assoc, List.cons_append, List.nil_append]
  rw [e] at h
  obtain ⟨k0, l0, c0, z0, q1, a1, r1⟩ := TW h hn (by show 0 < 4; omega) (by show 4 ≤ 8; omega) (by decide) (by decide) (by rfl) (by rw [app_l (dg_v c (by omega)).2.2.1]; exact (dg_h0 c (by omega)).1)
  obtain ⟨k1, v1', q2, a2, r2⟩ := TN r1 hn (dg_v c (by omega)).2.2.1 (dg_v c (by omega)).2.2.2 (dg_v c (by omega)).1 (by decide) (by rfl) (by rfl) (by rfl)
  rw [(dg_v c (by omega)).2.1] at v1'
  obtain ⟨k2, q3, a3, r3⟩ := TS r2 hn hr
  have f1 : oO d 1 = 0 := by unfold oO; rw [V.2.2.1 1 (by decide) hk]; rfl
  refine ⟨q3, _, k0, ?_, r3, V.once (k := 1) (v := vl n b q1) (by decide)⟩
  unfold lin
  rw [if_pos k0, z0, w1]
  show ln1 n b d 1 999 1 q = _
  unfold ln1
  simp only [f1, a1, f_oN (lo := 1) (hi := 999) k1 (by omega), a2, f_oS k2, a3]
theorem LN_office (h : RM n b q (ltx (4, no, 0, 0, 0) ++ rest)) (hr : isB (rest.getD 0 256) = false) (hn : n ≤ 900) (V : IV np no A T9 T10 n b d) (p8 : np ≤ 6) (o8 : no ≤ 7)  : ∃ q' d', kd n b q = 1 ∧ lin n b d q = (q', 0, d') ∧ RM n b q' rest ∧ IV np (no + 1) A T9 T10 n b d' := by
  obtain ⟨v0, v1, v2, v3, v4, v5, v6, v7, v8, v9, v10, v11, v12, v13, v14, v15, v16⟩ := sn_v
  obtain ⟨w0, w1, w2, w3, w4, w5, w6, w7, w8, w9, w10, w11, w12⟩ := kw_v
  have e : ltx (4, no, 0, 0, 0) ++ rest = ([111, 102, 102, 105, 99, 101] ++ ([32] ++ ([111, 97 + no] ++ ([] ++ ([59] ++ rest))))) := by simp only [ltx, v0, v1, v2, v3, v4, v5, v6, v7, v8, v9, v10, v11, v12, v13, v14, v15, v16, List.append_assoc, List.cons_append, List.nil_append]
  rw [e] at h
  obtain ⟨k0, l0, c0, z0, q1, a1, r1⟩ := TW h hn (by show 0 < 6; omega) (by show 6 ≤ 8; omega) (by decide) (by decide) (by rfl) (by rfl)
  obtain ⟨k1, l1, c1, z1, q2, a2, r2⟩ := TW r1 hn (by show 0 < 2; omega) (by show 2 ≤ 8; omega) (nm_v no (by omega)).2.2.1 (by decide) (by rfl) (by rfl)
  obtain ⟨k2, q3, a3, r3⟩ := TS r2 hn hr
  have g := V.of (by omega) (by omega) (show no < 8 by omega) c1
  rw [if_neg (Nat.lt_irrefl _)] at g
  refine ⟨q3, _, k0, ?_, r3, V.office (q1 := q1) c1⟩
  unfold lin
  rw [if_pos k0, z0, w5]
  show lnO n b d q = _
  unfold lnO
  simp only [V.2.1, show (no < 8) = True from eq_true (by omega), if_true, a1, f_oA k1 (z1.trans (nm_v no (by omega)).2.2.2) (by rw [l1]; show 2 ≤ 6; omega), f_oF g.2 g.1, a2, f_oS k2, a3]
theorem LN_party {s a : Nat} (h : RM n b q (ltx (5, np, s, a, 0) ++ rest)) (hr : isB (rest.getD 0 256) = false) (hn : n ≤ 900) (V : IV np no A T9 T10 n b d) (p8 : np ≤ 6) (o8 : no ≤ 7) (hs : 1 ≤ s ∧ s ≤ 30) (ha : a < 100)  : ∃ q' d', kd n b q = 1 ∧ lin n b d q = (q', 0, d') ∧ RM n b q' rest ∧ IV (np + 1) no A T9 T10 n b d' := by
  obtain ⟨v0, v1, v2, v3, v4, v5, v6, v7, v8, v9, v10, v11, v12, v13, v14, v15, v16⟩ := sn_v
  obtain ⟨w0, w1, w2, w3, w4, w5, w6, w7, w8, w9, w10, w11, w12⟩ := kw_v
  have e : ltx (5, np, s, a, 0) ++ rest = ([112, 97, 114, 116, 121] ++ ([32] ++ ([112, 97 + np] ++ ([32] ++ ([115, 101, 97, 116, 115] ++ ([32] ++ (qt_dg s ++ ([32] ++ ([97, 116] ++ ([32] ++ (qt_dg a ++ ([] ++ ([59] ++ rest))))))))))))) := by simp only [ltx, v0, v1, v2, v3, v4, v5, v6, v7, v8, v9, v10, v11, v12, v13, v14, v15, v16, List.append_assoc, List.cons_append, List.nil_append]
  rw [e] at h
  obtain ⟨k0, l0, c0, z0, q1, a1, r1⟩ := TW h hn (by show 0 < 5; omega) (by show 5 ≤ 8; omega) (by decide) (by decide) (by rfl) (by rfl)
  obtain ⟨k1, l1, c1, z1, q2, a2, r2⟩ := TW r1 hn (by show 0 < 2; omega) (by show 2 ≤ 8; omega) (nm_v np (by omega)).1 (by decide) (by rfl) (by rfl)
  obtain ⟨k2, l2, c2, z2, q3, a3, r3⟩ := TW r2 hn (by show 0 < 5; omega) (by show 5 ≤ 8; omega) (by decide) (by decide) (by rfl) (by rw [app_l (dg_v s (by omega)).2.2.1]; exact (dg_h0 s (by omega)).1)
  obtain ⟨k3, v3', q4, a4, r4⟩ := TN r3 hn (dg_v s (by omega)).2.2.1 (dg_v s (by omega)).2.2.2 (dg_v s (by omega)).1 (by decide) (by rfl) (by rfl) (by rfl)
  rw [(dg_v s (by omega)).2.1] at v3'
  obtain ⟨k4, l4, c4, z4, q5, a5, r5⟩ := TW r4 hn (by show 0 < 2; omega) (by show 2 ≤ 8; omega) (by decide) (by decide) (by rfl) (by rw [app_l (dg_v a (by omega)).2.2.1]; exact (dg_h0 a (by omega)).1)
  obtain ⟨k5, v5', q6, a6, r6⟩ := TN r5 hn (dg_v a (by omega)).2.2.1 (dg_v a (by omega)).2.2.2 (dg_v a (by omega)).1 (by decide) (by rfl) (by rfl) (by rfl)
  rw [(dg_v a (by omega)).2.1] at v5'
  obtain ⟨k6, q7, a7, r7⟩ := TS r6 hn hr
  have g := V.pf (by omega) (show np < 8 by omega) c1
  rw [if_neg (Nat.lt_irrefl _), if_pos (by omega)] at g
  have hw : lnw n b q6 0 = (q6, 0, 0) := by
    unfold lnw
    rw [if_neg (fun z => by have := z.1; rw [k6] at this; cases this)]
  refine ⟨q7, _, k0, ?_, r7, V.party (q1 := q1) (v1 := vl n b q3) (v2 := vl n b q5) (v3 := (lnw n b q6 0).2.2) c1⟩
  unfold lin
  rw [if_pos k0, z0, w6]
  show lnP n b d q = _
  unfold lnP
  simp only [V.1, show (np < 7) = True from eq_true (by omega), if_true, a1, f_oA k1 (z1.trans (nm_v np (by omega)).2.1) (by rw [l1]; show 2 ≤ 6; omega), f_oF g.1 g.2, a2, f_oW k2 (z2.trans w7), a3, f_oN (lo := 1) (hi := 999) k3 (by omega), a4, f_oW k4 (z4.trans w8), a5, f_oN (lo := 0) (hi := 99) k5 (by omega), a6, hw, f_oS k6, a7]
theorem LN_partyw {s a y : Nat} (h : RM n b q (ltx (6, np, s, a, y) ++ rest)) (hr : isB (rest.getD 0 256) = false) (hn : n ≤ 900) (V : IV np no A T9 T10 n b d) (p8 : np ≤ 6) (o8 : no ≤ 7) (hs : 1 ≤ s ∧ s ≤ 30) (ha : a < 100) (hy : y < 200) : ∃ q' d', kd n b q = 1 ∧ lin n b d q = (q', 0, d') ∧ RM n b q' rest ∧ IV (np + 1) no A T9 T10 n b d' := by
  obtain ⟨v0, v1, v2, v3, v4, v5, v6, v7, v8, v9, v10, v11, v12, v13, v14, v15, v16⟩ := sn_v
  obtain ⟨w0, w1, w2, w3, w4, w5, w6, w7, w8, w9, w10, w11, w12⟩ := kw_v
  have e : ltx (6, np, s, a, y) ++ rest = ([112, 97, 114, 116, 121] ++ ([32] ++ ([112, 97 + np] ++ ([32] ++ ([115, 101, 97, 116, 115] ++ ([32] ++ (qt_dg s ++ ([32] ++ ([97, 116] ++ ([32] ++ (qt_dg a ++ ([32] ++ ([119, 97, 108, 107] ++ ([32] ++ (qt_dg y ++ ([] ++ ([59] ++ rest))))))))))))))))) := by simp only [ltx, v0, v1, v2, v3, v4, v5, v6, v7, v8, v9, v10, v11, v12, v13, v14, v15, v16, List.append_assoc, List.cons_append, List.nil_append]
  rw [e] at h
  obtain ⟨k0, l0, c0, z0, q1, a1, r1⟩ := TW h hn (by show 0 < 5; omega) (by show 5 ≤ 8; omega) (by decide) (by decide) (by rfl) (by rfl)
  obtain ⟨k1, l1, c1, z1, q2, a2, r2⟩ := TW r1 hn (by show 0 < 2; omega) (by show 2 ≤ 8; omega) (nm_v np (by omega)).1 (by decide) (by rfl) (by rfl)
  obtain ⟨k2, l2, c2, z2, q3, a3, r3⟩ := TW r2 hn (by show 0 < 5; omega) (by show 5 ≤ 8; omega) (by decide) (by decide) (by rfl) (by rw [app_l (dg_v s (by omega)).2.2.1]; exact (dg_h0 s (by omega)).1)
  obtain ⟨k3, v3', q4, a4, r4⟩ := TN r3 hn (dg_v s (by omega)).2.2.1 (dg_v s (by omega)).2.2.2 (dg_v s (by omega)).1 (by decide) (by rfl) (by rfl) (by rfl)
  rw [(dg_v s (by omega)).2.1] at v3'
  obtain ⟨k4, l4, c4, z4, q5, a5, r5⟩ := TW r4 hn (by show 0 < 2; omega) (by show 2 ≤ 8; omega) (by decide) (by decide) (by rfl) (by rw [app_l (dg_v a (by omega)).2.2.1]; exact (dg_h0 a (by omega)).1)
  obtain ⟨k5, v5', q6, a6, r6⟩ := TN r5 hn (dg_v a (by omega)).2.2.1 (dg_v a (by omega)).2.2.2 (dg_v a (by omega)).1 (by decide) (by rfl) (by rfl) (by rfl)
  rw [(dg_v a (by omega)).2.1] at v5'
  obtain ⟨k6, l6, c6, z6, q7, a7, r7⟩ := TW r6 hn (by show 0 < 4; omega) (by show 4 ≤ 8; omega) (by decide) (by decide) (by rfl) (by rw [app_l (dg_v y (by omega)).2.2.1]; exact (dg_h0 y (by omega)).1)
  obtain ⟨k7, v7', q8, a8, r8⟩ := TN r7 hn (dg_v y (by omega)).2.2.1 (dg_v y (by omega)).2.2.2 (dg_v y (by omega)).1 (by decide) (by rfl) (by rfl) (by rfl)
  rw [(dg_v y (by omega)).2.1] at v7'
  obtain ⟨k8, q9, a9, r9⟩ := TS r8 hn hr
  have g := V.pf (by omega) (show np < 8 by omega) c1
  rw [if_neg (Nat.lt_irrefl _), if_pos (by omega)] at g
  have hw : lnw n b q6 0 = (q8, 0, vl n b q7) := by
    unfold lnw
    rw [if_pos ⟨k6, z6.trans w9⟩]
    simp only [a7, f_oN (lo := 0) (hi := 999) k7 (by omega), a8]
  refine ⟨q9, _, k0, ?_, r9, V.party (q1 := q1) (v1 := vl n b q3) (v2 := vl n b q5) (v3 := (lnw n b q6 0).2.2) c1⟩
  unfold lin
  rw [if_pos k0, z0, w6]
  show lnP n b d q = _
  unfold lnP
  simp only [V.1, show (np < 7) = True from eq_true (by omega), if_true, a1, f_oA k1 (z1.trans (nm_v np (by omega)).2.1) (by rw [l1]; show 2 ≤ 6; omega), f_oF g.1 g.2, a2, f_oW k2 (z2.trans w7), a3, f_oN (lo := 1) (hi := 999) k3 (by omega), a4, f_oW k4 (z4.trans w8), a5, f_oN (lo := 0) (hi := 99) k5 (by omega), a6, hw, f_oS k8, a9]
theorem LN_worth {p o c : Nat} (h : RM n b q (ltx (7, p, o, c, 0) ++ rest)) (hr : isB (rest.getD 0 256) = false) (hn : n ≤ 900) (V : IV np no A T9 T10 n b d) (p8 : np ≤ 6) (o8 : no ≤ 7) (hp : p < np) (ho : o < no) (hT : T9 p o) (hc : c < 25) : ∃ q' d', kd n b q = 1 ∧ lin n b d q = (q', 0, d') ∧ RM n b q' rest ∧ IV np no A (fun x y => T9 x y ∧ y < 8 ∧ ¬ (x = p ∧ y = o)) T10 n b d' := by
  obtain ⟨v0, v1, v2, v3, v4, v5, v6, v7, v8, v9, v10, v11, v12, v13, v14, v15, v16⟩ := sn_v
  obtain ⟨w0, w1, w2, w3, w4, w5, w6, w7, w8, w9, w10, w11, w12⟩ := kw_v
  have e : ltx (7, p, o, c, 0) ++ rest = ([119, 111, 114, 116, 104] ++ ([32] ++ ([112, 97 + p] ++ ([32] ++ ([111, 97 + o] ++ ([32] ++ (qt_dg c ++ ([] ++ ([59] ++ rest))))))))) := by simp only [ltx, v0, v1, v2, v3, v4, v5, v6, v7, v8, v9, v10, v11, v12, v13, v14, v15, v16, List.append_assoc, List.cons_append, List.nil_append]
  rw [e] at h
  obtain ⟨k0, l0, c0, z0, q1, a1, r1⟩ := TW h hn (by show 0 < 5; omega) (by show 5 ≤ 8; omega) (by decide) (by decide) (by rfl) (by rfl)
  obtain ⟨k1, l1, c1, z1, q2, a2, r2⟩ := TW r1 hn (by show 0 < 2; omega) (by show 2 ≤ 8; omega) (nm_v p (by omega)).1 (by decide) (by rfl) (by rfl)
  obtain ⟨k2, l2, c2, z2, q3, a3, r3⟩ := TW r2 hn (by show 0 < 2; omega) (by show 2 ≤ 8; omega) (nm_v o (by omega)).2.2.1 (by decide) (by rfl) (by rw [app_l (dg_v c (by omega)).2.2.1]; exact (dg_h0 c (by omega)).1)
  obtain ⟨k3, v3', q4, a4, r4⟩ := TN r3 hn (dg_v c (by omega)).2.2.1 (dg_v c (by omega)).2.2.2 (dg_v c (by omega)).1 (by decide) (by rfl) (by rfl) (by rfl)
  rw [(dg_v c (by omega)).2.1] at v3'
  obtain ⟨k4, q5, a5, r5⟩ := TS r4 hn hr
  have g1 := V.pf (by omega) (show p < 8 by omega) c1
  have g2 := V.of (by omega) (by omega) (show o < 8 by omega) c2
  rw [if_pos hp] at g1
  rw [if_pos ho] at g2
  have t0 : (d 9 p).testBit o = false := V.2.2.2.2.2.2.1 p o hT
  refine ⟨q5, _, k0, ?_, r5, V.worth (p := p) (o := o) (v := vl n b q3) (by omega) (by omega)⟩
  unfold lin
  rw [if_pos k0, z0, w10]
  show lnT n b d 9 5 99 q = _
  unfold lnT
  simp only [a1, f_oA k1 (z1.trans (nm_v p (by omega)).2.1) (by rw [l1]; show 2 ≤ 6; omega), g1.1, f_oK, a2, f_oA k2 (z2.trans (nm_v o (by omega)).2.2.2) (by rw [l2]; show 2 ≤ 6; omega), g2.1, Option.getD_some, t0, cond_false, if_true, a3, f_oN (lo := 0) (hi := 99) k3 (by omega), a4, f_oS k4, a5]
theorem LN_stance {p o c : Nat} (h : RM n b q (ltx (8, p, o, c, 0) ++ rest)) (hr : isB (rest.getD 0 256) = false) (hn : n ≤ 900) (V : IV np no A T9 T10 n b d) (p8 : np ≤ 6) (o8 : no ≤ 7) (hp : p < np) (ho : o < no) (hT : T10 p o) (hc : c < 10) : ∃ q' d', kd n b q = 1 ∧ lin n b d q = (q', 0, d') ∧ RM n b q' rest ∧ IV np no A T9 (fun x y => T10 x y ∧ y < 8 ∧ ¬ (x = p ∧ y = o)) n b d' := by
  obtain ⟨v0, v1, v2, v3, v4, v5, v6, v7, v8, v9, v10, v11, v12, v13, v14, v15, v16⟩ := sn_v
  obtain ⟨w0, w1, w2, w3, w4, w5, w6, w7, w8, w9, w10, w11, w12⟩ := kw_v
  have e : ltx (8, p, o, c, 0) ++ rest = ([115, 116, 97, 110, 99, 101] ++ ([32] ++ ([112, 97 + p] ++ ([32] ++ ([111, 97 + o] ++ ([32] ++ (qt_dg c ++ ([] ++ ([59] ++ rest))))))))) := by simp only [ltx, v0, v1, v2, v3, v4, v5, v6, v7, v8, v9, v10, v11, v12, v13, v14, v15, v16, List.append_assoc, List.cons_append, List.nil_append]
  rw [e] at h
  obtain ⟨k0, l0, c0, z0, q1, a1, r1⟩ := TW h hn (by show 0 < 6; omega) (by show 6 ≤ 8; omega) (by decide) (by decide) (by rfl) (by rfl)
  obtain ⟨k1, l1, c1, z1, q2, a2, r2⟩ := TW r1 hn (by show 0 < 2; omega) (by show 2 ≤ 8; omega) (nm_v p (by omega)).1 (by decide) (by rfl) (by rfl)
  obtain ⟨k2, l2, c2, z2, q3, a3, r3⟩ := TW r2 hn (by show 0 < 2; omega) (by show 2 ≤ 8; omega) (nm_v o (by omega)).2.2.1 (by decide) (by rfl) (by rw [app_l (dg_v c (by omega)).2.2.1]; exact (dg_h0 c (by omega)).1)
  obtain ⟨k3, v3', q4, a4, r4⟩ := TN r3 hn (dg_v c (by omega)).2.2.1 (dg_v c (by omega)).2.2.2 (dg_v c (by omega)).1 (by decide) (by rfl) (by rfl) (by rfl)
  rw [(dg_v c (by omega)).2.1] at v3'
  obtain ⟨k4, q5, a5, r5⟩ := TS r4 hn hr
  have g1 := V.pf (by omega) (show p < 8 by omega) c1
  have g2 := V.of (by omega) (by omega) (show o < 8 by omega) c2
  rw [if_pos hp] at g1
  rw [if_pos ho] at g2
  have t0 : (d 10 p).testBit o = false := V.2.2.2.2.2.2.2.1 p o hT
  refine ⟨q5, _, k0, ?_, r5, V.stance (p := p) (o := o) (v := vl n b q3) (by omega) (by omega)⟩
  unfold lin
  rw [if_pos k0, z0, w11]
  show lnT n b d 10 6 9 q = _
  unfold lnT
  simp only [a1, f_oA k1 (z1.trans (nm_v p (by omega)).2.1) (by rw [l1]; show 2 ≤ 6; omega), g1.1, f_oK, a2, f_oA k2 (z2.trans (nm_v o (by omega)).2.2.2) (by rw [l2]; show 2 ≤ 6; omega), g2.1, Option.getD_some, t0, cond_false, if_true, a3, f_oN (lo := 0) (hi := 9) k3 (by omega), a4, f_oS k4, a5]
theorem LN_bar {x y : Nat} (h : RM n b q (ltx (9, x, y, 0, 0) ++ rest)) (hr : isB (rest.getD 0 256) = false) (hn : n ≤ 900) (V : IV np no A T9 T10 n b d) (p8 : np ≤ 6) (o8 : no ≤ 7) (hx : x < np) (hy : y < np) (hxy : x ≠ y) : ∃ q' d', kd n b q = 1 ∧ lin n b d q = (q', 0, d') ∧ RM n b q' rest ∧ IV np no A T9 T10 n b d' := by
  obtain ⟨v0, v1, v2, v3, v4, v5, v6, v7, v8, v9, v10, v11, v12, v13, v14, v15, v16⟩ := sn_v
  obtain ⟨w0, w1, w2, w3, w4, w5, w6, w7, w8, w9, w10, w11, w12⟩ := kw_v
  have e : ltx (9, x, y, 0, 0) ++ rest = ([98, 97, 114] ++ ([32] ++ ([112, 97 + x] ++ ([32] ++ ([112, 97 + y] ++ ([] ++ ([59] ++ rest))))))) := by simp only [ltx, v0, v1, v2, v3, v4, v5, v6, v7, v8, v9, v10, v11, v12, v13, v14, v15, v16, List.append_assoc, List.cons_append, List.nil_append]
  rw [e] at h
  obtain ⟨k0, l0, c0, z0, q1, a1, r1⟩ := TW h hn (by show 0 < 3; omega) (by show 3 ≤ 8; omega) (by decide) (by decide) (by rfl) (by rfl)
  obtain ⟨k1, l1, c1, z1, q2, a2, r2⟩ := TW r1 hn (by show 0 < 2; omega) (by show 2 ≤ 8; omega) (nm_v x (by omega)).1 (by decide) (by rfl) (by rfl)
  obtain ⟨k2, l2, c2, z2, q3, a3, r3⟩ := TW r2 hn (by show 0 < 2; omega) (by show 2 ≤ 8; omega) (nm_v y (by omega)).1 (by decide) (by rfl) (by rfl)
  obtain ⟨k3, q4, a4, r4⟩ := TS r3 hn hr
  have g1 := V.pf (by omega) (show x < 8 by omega) c1
  have g2 := V.pf (by omega) (show y < 8 by omega) c2
  rw [if_pos hx] at g1
  rw [if_pos hy] at g2
  refine ⟨q4, _, k0, ?_, r4, V.bar (x := x) (y := y) (u := ad (d 4 x) y) (v := ad (d 4 y) x)⟩
  unfold lin
  rw [if_pos k0, z0, w12]
  show lnB n b d q = _
  unfold lnB
  simp only [a1, f_oA k1 (z1.trans (nm_v x (by omega)).2.1) (by rw [l1]; show 2 ≤ 6; omega), g1.1, f_oK, a2, f_oA k2 (z2.trans (nm_v y (by omega)).2.1) (by rw [l2]; show 2 ≤ 6; omega), g2.1, Option.getD_some, hxy, if_true, if_false, a3, f_oS k3, a4]
end
end
