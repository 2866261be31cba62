/-! ===== the text is fed ===== -/
section
variable {S S' S0 S1 : qm_S} {F : qm_F} {J L0 : Nat} {xs : List Int32} {G : qm_R → Prop}
variable {h : Nat → Nat → Nat} {q n C a x s y z e4 k : Nat} {b w : Nat → Nat} {sn : Nat → SN} {t : List Nat} {x2 : Int32}
def pad (t : List Nat) (i : Nat) : Nat := if i < t.length then t.getD i 0 else 32
/-- bytes as one number, the highest first -/
def wn (cs : Nat → Nat) (j : Nat) : Nat → Nat
  | 0 => 0
  | m + 1 => wn cs j m * 256 + cs (4 * j + m)
theorem wn_lt {cs : Nat → Nat} (hc : ∀ i, cs i < 128) (j : Nat) : wn cs j 1 < 128 ∧ wn cs j 2 < 32768 ∧ wn cs j 3 < 8388608 ∧ wn cs j 4 < 2147483648 := by
  have h0 := hc (4 * j + 0)
  have h1 := hc (4 * j + 1)
  have h2 := hc (4 * j + 2)
  have h3 := hc (4 * j + 3)
  have e1 : wn cs j 1 = 0 * 256 + cs (4 * j + 0) := rfl
  have e2 : wn cs j 2 = wn cs j 1 * 256 + cs (4 * j + 1) := rfl
  have e3 : wn cs j 3 = wn cs j 2 * 256 + cs (4 * j + 2) := rfl
  have e4 : wn cs j 4 = wn cs j 3 * 256 + cs (4 * j + 3) := rfl
  omega
theorem sh8 {N : Nat} (hN : N < 8388608) : nI N <<< ((8 : Int32) &&& 31) = nI (N * 256) := pk_shlN _ 8 (by decide +kernel) (by omega)
theorem or8 {N c : Nat} (hc : c < 128) : nI (N * 256) ||| nI c = nI (N * 256 + c) := by
  rw [nx_or]
  have := Nat.shiftLeft_add_eq_or_of_lt (i := 8) (show c < 2 ^ 8 by omega) N
  rw [Nat.shiftLeft_eq] at this
  rw [show N * 256 = N * 2 ^ 8 from rfl, ← this]
/-- one byte more -/
theorem wn_st {cs : Nat → Nat} (hc : ∀ i, cs i < 128) {i : Nat} : ((nI (wn cs (i / 4) (min 4 (i - 4 * (i / 4)))) : Int32) <<< ((8 : Int32) &&& 31)) ||| nI (cs i) = nI (wn cs (i / 4) (min 4 (i + 1 - 4 * (i / 4)))) := by
  obtain ⟨l1, l2, l3, l4⟩ := wn_lt hc (i / 4)
  have hm : i - 4 * (i / 4) = 0 ∨ i - 4 * (i / 4) = 1 ∨ i - 4 * (i / 4) = 2 ∨ i - 4 * (i / 4) = 3 := by omega
  have e0 : wn cs (i / 4) 0 = 0 := rfl
  have key : ∀ m, i = 4 * (i / 4) + m → m < 4 → wn cs (i / 4) m < 8388608 → ((nI (wn cs (i / 4) m) : Int32) <<< ((8 : Int32) &&& 31)) ||| nI (cs i) = nI (wn cs (i / 4) (m + 1)) := fun m hi hm hl => by
    rw [sh8 hl, or8 (hc i)]
    show _ = nI (wn cs (i / 4) m * 256 + cs (4 * (i / 4) + m))
    rw [← hi]
  have ml : min 4 (i - 4 * (i / 4)) = i - 4 * (i / 4) := by omega
  have mr : min 4 (i + 1 - 4 * (i / 4)) = i - 4 * (i / 4) + 1 := by omega
  rw [ml, mr]
  refine key _ (by omega) (by omega) ?_
  rcases hm with e | e | e | e <;> rw [e] <;> omega
theorem wn_o {cs : Nat → Nat} {i j : Nat} (hj : j ≠ i / 4) : wn cs j (min 4 (i + 1 - 4 * j)) = wn cs j (min 4 (i - 4 * j)) := by
  rw [show min 4 (i + 1 - 4 * j) = min 4 (i - 4 * j) by omega]
theorem byt_n {N u : Nat} (hN : N < 2147483648) (hu : u = 0 ∨ u = 8 ∨ u = 16 ∨ u = 24) : byt (nI N) u = N / 2 ^ u % 256 := by
  have e : nI N >>> (nI u &&& 31) = nI (N / 2 ^ u) := pk_shrN (by omega) _ u (by rcases hu with rfl | rfl | rfl | rfl <;> decide +kernel)
  have l : N / 2 ^ u ≤ N := Nat.div_le_self _ _
  unfold byt
  rw [e]
  show (BitVec.ofNat 32 (N / 2 ^ u)).toNat % 256 = _
  rw [BitVec.toNat_ofNat, Nat.mod_eq_of_lt (a := N / 2 ^ u) (by omega)]
theorem byt_w {cs : Nat → Nat} (hc : ∀ i, cs i < 128) (j : Nat) : byt (nI (wn cs j 4)) 24 = cs (4 * j) ∧ byt (nI (wn cs j 4)) 16 = cs (4 * j + 1) ∧ byt (nI (wn cs j 4)) 8 = cs (4 * j + 2) ∧ byt (nI (wn cs j 4)) 0 = cs (4 * j + 3) := by
  obtain ⟨l1, l2, l3, l4⟩ := wn_lt hc j
  have h0 := hc (4 * j + 0)
  have h1 := hc (4 * j + 1)
  have h2 := hc (4 * j + 2)
  have h3 := hc (4 * j + 3)
  have e1 : wn cs j 1 = 0 * 256 + cs (4 * j) := rfl
  have e2 : wn cs j 2 = wn cs j 1 * 256 + cs (4 * j + 1) := rfl
  have e3 : wn cs j 3 = wn cs j 2 * 256 + cs (4 * j + 2) := rfl
  have e4 : wn cs j 4 = wn cs j 3 * 256 + cs (4 * j + 3) := rfl
  rw [byt_n l4 (by omega), byt_n l4 (by omega), byt_n l4 (by omega), byt_n l4 (by omega)]
  rw [show (2 : Nat) ^ 24 = 16777216 from rfl, show (2 : Nat) ^ 16 = 65536 from rfl, show (2 : Nat) ^ 8 = 256 from rfl, show (2 : Nat) ^ 0 = 1 from rfl]
  refine ⟨?_, ?_, ?_, ?_⟩ <;> omega
theorem put4_lo {n i : Nat} {v : Int32} (hi : i < n) : put4 b n v i = b i := by rw [put4_at, if_neg (by omega), if_neg (by omega), if_neg (by omega), if_neg (by omega)]
theorem put4_hi {n i : Nat} {v : Int32} (hi : n + 4 ≤ i) : put4 b n v i = b i := by rw [put4_at, if_neg (by omega), if_neg (by omega), if_neg (by omega), if_neg (by omega)]
theorem put4_in {cs : Nat → Nat} (hc : ∀ i, cs i < 128) {n j m : Nat} (hm : m < 4) : put4 b n (nI (wn cs j 4)) (n + m) = cs (4 * j + m) := by
  obtain ⟨b0, b1, b2, b3⟩ := byt_w hc j
  have h4 : m = 0 ∨ m = 1 ∨ m = 2 ∨ m = 3 := by omega
  rcases h4 with rfl | rfl | rfl | rfl
  · rw [put4_at, if_neg (by omega), if_neg (by omega), if_neg (by omega), if_pos (by omega)]; exact b0
  · rw [put4_at, if_neg (by omega), if_neg (by omega), if_pos (by omega)]; exact b1
  · rw [put4_at, if_neg (by omega), if_pos (by omega)]; exact b2
  · rw [put4_at, if_pos (by omega)]; exact b3
def p20 (b : Nat → Nat) (n : Nat) (cs : Nat → Nat) : Nat → Nat := put4 (put4 (put4 (put4 (put4 b n (nI (wn cs 0 4))) (n + 4) (nI (wn cs 1 4))) (n + 4 + 4) (nI (wn cs 2 4))) (n + 4 + 4 + 4) (nI (wn cs 3 4))) (n + 4 + 4 + 4 + 4) (nI (wn cs 4 4))
theorem p20_lo {cs : Nat → Nat} {i : Nat} (hi : i < n) : p20 b n cs i = b i := by
  unfold p20
  rw [put4_lo (by omega), put4_lo (by omega), put4_lo (by omega), put4_lo (by omega), put4_lo hi]
theorem p20_in {cs : Nat → Nat} (hc : ∀ i, cs i < 128) {e : Nat} (he : e < 20) : p20 b n cs (n + e) = cs e := by
  unfold p20
  have hj : e / 4 = 0 ∨ e / 4 = 1 ∨ e / 4 = 2 ∨ e / 4 = 3 ∨ e / 4 = 4 := by omega
  rcases hj with ej | ej | ej | ej | ej
  · rw [put4_lo (by omega), put4_lo (by omega), put4_lo (by omega), put4_lo (by omega), put4_in hc (by omega), show 4 * 0 + e = e by omega]
  · rw [put4_lo (by omega), put4_lo (by omega), put4_lo (by omega), show n + e = n + 4 + (e - 4) by omega, put4_in hc (by omega), show 4 * 1 + (e - 4) = e by omega]
  · rw [put4_lo (by omega), put4_lo (by omega), show n + e = n + 4 + 4 + (e - 8) by omega, put4_in hc (by omega), show 4 * 2 + (e - 8) = e by omega]
  · rw [put4_lo (by omega), show n + e = n + 4 + 4 + 4 + (e - 12) by omega, put4_in hc (by omega), show 4 * 3 + (e - 12) = e by omega]
  · rw [show n + e = n + 4 + 4 + 4 + 4 + (e - 16) by omega, put4_in hc (by omega), show 4 * 4 + (e - 16) = e by omega]
/-- the class is so, cells that were there are as they were, so much was made -/
def FZ (q : Nat) (h : Nat → Nat → Nat) (n : Nat) (b : Nat → Nat) (C : Nat) (w : Nat → Nat) (a : Nat) (sn : Nat → SN) (S0 : qm_S) (x s : Nat) (S : qm_S) : Prop := KQ q h n b C w a sn S ∧ FRM S0.1 S0 S ∧ S.1 ≤ S0.1 + x ∧ S.2.1 ≤ S0.2.1 + s
theorem STR.frm {m : Nat} (T : STR S x t) (g : FRM m S S') (hm : m = S.1) : STR S' x t := by
  obtain ⟨v, h1, h2, h3, h4, h5, h6, h7, h8, h9⟩ := T
  have f := g.2.2.2.1
  exact ⟨v, (g.2.1 13 x 0 (by omega)).trans h1, h2, by omega, by omega, (g.1 13 x 1 (by omega)).trans h5, (g.2.2.1 v (by omega)).trans h6, h7, fun j hj => (g.1 15 v j (by omega)).trans (h8 j hj), h9⟩
theorem pad_lt (T : STR S x t) (i : Nat) : pad t i < 128 := by
  obtain ⟨v, h1, h2, h3, h4, h5, h6, h7, h8, h9⟩ := T
  unfold pad
  split
  · exact h9 _ (gdm (by assumption))
  · decide
theorem d20 : ∀ i, i < 20 → nI i / 4 = nI (i / 4) ∧ nI i < 20 := by decide +kernel
/-- twenty bytes -/
theorem f_20 (hF : qm_fix cO qt_me qt_qs (qt_C L0 xs) J F) (T : STR S0 y t) (hk : k + 20 ≤ 900) (he : S0.1 ≤ e4) (hG : ∀ S Y, FZ q h k b C w a sn S0 (x + 1) (s + 5) S → KS q h (k + 20) (p20 b k (fun i => pad t (k + i))) C w a sn Y → G (F 4 99 [some (.inr (0, z)), some (.inr (13, y)), some (.inl x2), some (.inl (nI k)), some (.inr (21, e4)), some (.inl (nI 20))] [.inl (nI (k + 20))] (qm_sC S Y))) : ∀ (d i : Nat) (S : qm_S), i + d = 20 → FZ q h k b C w a sn S0 (x + 1) (s + 5) S → qr_n S e4 = 5 → (∀ j, j < 5 → qr_i S 21 e4 j = nI (wn (fun i => pad t (k + i)) j (min 4 (i - 4 * j)))) → G (F 4 20 [some (.inr (0, z)), some (.inr (13, y)), some (.inl x2), some (.inl (nI k)), some (.inr (21, e4)), some (.inl (nI i))] [] S) := by
  have hc : ∀ i, (fun i => pad t (k + i)) i < 128 := fun i => pad_lt T (k + i)
  obtain ⟨z0, z1, z2, z3, z4, z5⟩ := CC5
  have dz : decide ((4 : Int32) = 0) = false := by decide
  have t9 : t.length ≤ 900 := by
    obtain ⟨v, h1, h2, h3, h4, h5, h6, h7, h8, h9⟩ := T
    exact h7
  intro d
  induction d with
  | zero =>
    intro i S jd H hn hr
    have ie : i = 20 := by omega
    subst ie
    obtain ⟨X, f1, f2, f3⟩ := id H
    have r4 : ∀ j, j < 5 → qr_i S 21 e4 j = nI (wn (fun i => pad t (k + i)) j 4) := fun j hj => by rw [hr j hj, show min 4 (20 - 4 * j) = 4 by omega]
    obtain ⟨Y, X1, e1⟩ := qa_feed (J := J) (z := z) (x1 := nI (wn (fun i => pad t (k + i)) 0 4)) (x2 := nI (wn (fun i => pad t (k + i)) 1 4)) (x3 := nI (wn (fun i => pad t (k + i)) 2 4)) (x4 := nI (wn (fun i => pad t (k + i)) 3 4)) (x5 := nI (wn (fun i => pad t (k + i)) 4 4)) X hk
    rw [q4_20 hF, if_neg (by decide), hn, show pm_ib 0 5 = true from ib5 0 (by decide), show pm_ib 1 5 = true from ib5 1 (by decide), show pm_ib 2 5 = true from ib5 2 (by decide), show pm_ib 3 5 = true from ib5 3 (by decide), show pm_ib 4 5 = true from ib5 4 (by decide), z0, z1, z2, z3, z4, r4 0 (by decide), r4 1 (by decide), r4 2 (by decide), r4 3 (by decide), r4 4 (by decide), e1]
    simp only [Option.toList_some, Option.toList_none, List.cons_append, List.nil_append, List.append_nil]
    exact hG S Y H X1
  | succ d ih =>
    intro i S jd H hn hr
    obtain ⟨X, f1, f2, f3⟩ := id H
    obtain ⟨d1, d2⟩ := d20 i (by omega)
    have T' := T.frm f1 rfl
    have i5 : i / 4 < 5 := by omega
    have nx := ih (i + 1) (qu_i S 21 e4 (i / 4) (nI (wn (fun i => pad t (k + i)) (i / 4) (min 4 (i + 1 - 4 * (i / 4)))))) (by omega) ⟨X, f1.i (by omega), f2, f3⟩ hn (fun j hj => by
      rw [qi_i]
      by_cases c : j = i / 4
      · rw [if_pos ⟨rfl, c, rfl⟩, c]
      · rw [if_neg (fun y => c y.2.1), wn_o c]
        exact hr j hj)
    have st := wn_st hc (i := i)
    rw [q4_20 hF, if_pos d2, dz, d1, hn, ib5 _ i5, z_cl (by omega), hr _ i5, j_slen hF T', nI_add]
    show G (F 4 51 [some (.inr (0, z)), some (.inr (13, y)), some (.inl x2), some (.inl (nI k)), some (.inr (21, e4)), some (.inl (nI i))] [.inl (nI t.length), .inl (nI (k + i)), .inl (nI (wn (fun i => pad t (k + i)) (i / 4) (min 4 (i - 4 * (i / 4)))) <<< ((8 : Int32) &&& 31)), .inl (nI (i / 4)), .inr (21, e4)] S)
    rw [q4_51 hF]
    by_cases c : k + i < t.length
    · have pe : pad t (k + i) = t.getD (k + i) 0 := if_pos c
      rw [if_pos (by rw [z_lt (by omega) (by omega)]; exact c), nI_add, j_at hF T' c]
      simp only [qm_k_n, Option.toList_some, Option.toList_none, List.cons_append, List.nil_append, List.append_nil]
      rw [q4_62 hF, hn, ib5 _ i5, z_cl (by omega), z_1, ← pe, st]
      exact nx
    · have pe : pad t (k + i) = 32 := if_neg c
      rw [if_neg (by rw [z_lt (by omega) (by omega)]; exact c), hn, ib5 _ i5, z_cl (by omega), z_1, show (32 : Int32) = nI (pad t (k + i)) by rw [pe]; rfl, st]
      exact nx
theorem f_4 (hF : qm_fix cO qt_me qt_qs (qt_C L0 xs) J F) (T : STR S0 y t) (ht : t.length ≤ 870) : ∀ (d r : Nat) (S : qm_S) (b : Nat → Nat), r + d = 50 → FZ q h (20 * r) b C w a sn S0 r (5 * r) S → 20 * r < t.length + 20 → (∀ i, i < 20 * r → b i = pad t i) → ∃ S' b', F 4 4 [some (.inr (0, z)), some (.inr (13, y)), some (.inl (nI (20 * r))), some (.inl (nI (20 * r))), none, none] [] S = some (some (.inl 1), S') ∧ FZ q h t.length b' C w a sn S0 50 250 S' ∧ ∀ i, i < t.length → b' i = t.getD i 0 := by
  have hc : ∀ i, pad t i < 128 := fun i => pad_lt T i
  intro d
  induction d with
  | zero => intro r S b rd H hr hb; omega
  | succ d ih =>
    intro r S b rd H hr hb
    obtain ⟨X, f1, f2, f3⟩ := id H
    have T' := T.frm f1 rfl
    rw [q4_4 hF, j_slen hF T']
    simp only [qm_k_n, Option.toList_some, Option.toList_none, List.cons_append, List.nil_append, List.append_nil]
    rw [q4_9 hF]
    by_cases c : 20 * r < t.length
    · rw [if_pos (by rw [z_lt (by omega) (by omega)]; exact c), show decide ((5 : Int32) < 0) = false by decide, CC5.2.2.2.2.2, show Nat.ble 5 100000 = true by decide]
      refine f_20 (G := fun r' => ∃ S' b', r' = some (some (.inl 1), S') ∧ FZ q h t.length b' C w a sn S0 50 250 S' ∧ ∀ i, i < t.length → b' i = t.getD i 0) (b := b) hF T (k := 20 * r) (x := r) (s := 5 * r) (e4 := S.1) (by omega) ?_ (fun S1 Y H1 X1 => ?_) 20 0 (qm_mk S 21 5) (by omega) ⟨X, f1.mk f1.2.2.2.1, by show S.1 + 1 ≤ _; omega, by show S.2.1 + 5 ≤ _; omega⟩ (by rw [qn_mk, if_pos rfl]) (fun j hj => by rw [qi_mk, if_pos ⟨rfl, rfl⟩, Nat.zero_sub]; rfl)
      · exact f1.2.2.2.1
      · rw [q4_99 hF, show nI (20 * r) + 20 = nI (20 * r + 20) from nI_add (20 * r) 20]
        obtain ⟨X0, g1, g2, g3⟩ := H1
        exact ih (r + 1) (qm_sC S1 Y) _ (by omega) ⟨X1, g1, by show S1.1 ≤ _; omega, by show S1.2.1 ≤ _; omega⟩ (by omega) (fun i hi => by
          by_cases c2 : i < 20 * r
          · rw [p20_lo c2]; exact hb i c2
          · have := p20_in (b := b) (n := 20 * r) (cs := fun i => pad t (20 * r + i)) (fun i => hc (20 * r + i)) (e := i - 20 * r) (by omega)
            rw [show 20 * r + (i - 20 * r) = i by omega] at this
            exact this)
    · obtain ⟨Y, X1, e1⟩ := qa_end (J := J) (z := z) (j := t.length) X (by omega)
      have T2 : STR (qm_sC S Y) y t := T'
      rw [if_neg (by rw [z_lt (by omega) (by omega)]; exact c), j_slen hF T']
      simp only [qm_k_n, Option.toList_some, Option.toList_none, List.cons_append, List.nil_append, List.append_nil]
      rw [q4_111 hF, if_neg (by rw [z_lt (by omega) (by omega)]; exact c), j_slen hF T']
      simp only [qm_k_n, Option.toList_some, Option.toList_none, List.cons_append, List.nil_append, List.append_nil]
      rw [q4_119 hF, e1]
      simp only [Option.toList_some, Option.toList_none, List.cons_append, List.nil_append, List.append_nil]
      rw [q4_122 hF, j_slen hF T2]
      simp only [qm_k_n, Option.toList_some, Option.toList_none, List.cons_append, List.nil_append, List.append_nil]
      rw [q4_126 hF, if_pos rfl]
      exact ⟨_, b, rfl, ⟨X1, f1, by show S.1 ≤ _; omega, by show S.2.1 ≤ _; omega⟩, fun i hi => (hb i (by omega)).trans (if_pos hi)⟩
theorem j_feeds (hF : qm_fix cO qt_me qt_qs (qt_C L0 xs) J F) (T : STR S y t) (ht : t.length ≤ 870) (X : KQ q h 0 b C w a sn S) : ∃ S' b', F 4 0 [some (.inr (0, z)), some (.inr (13, y)), none, none, none, none] [] S = some (some (.inl 1), S') ∧ FZ q h t.length b' C w a sn S 50 250 S' ∧ ∀ i, i < t.length → b' i = t.getD i 0 := by
  rw [q4_0 hF]
  exact f_4 hF T ht 50 0 S b (by omega) ⟨X, FRM.rf, Nat.le_refl _, Nat.le_refl _⟩ (by omega) (fun i hi => absurd hi (by omega))
end
