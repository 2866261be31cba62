/-! ===== one call: forming; what is now; the tape ===== -/
section
variable {h : Nat → Nat → Nat} {I I' : Nat → Nat → Int32} {L L' : Nat → Nat → Int64}
variable {q n C a : Nat} {b w : Nat → Nat} {fa pl : Int32} {sn : Nat → SN} {e v : Nat}
variable {F : pm_F} {L0 : Nat} {xs : Nat → Int32}
theorem c_form_k (hF : pm_fix pt_me pt_Sg (pt_R L0 xs) F) (W : WF h) (X : K1 q h n b fa pl C w a sn I L) : ∃ A1 K A, (F 304 0 [some (.ref 30), none] [] (49, pt_G, I, L)) = some (none, (49, pt_G, A1, K)) ∧ (F 402 0 [some (.ref 41), none] [] (49, pt_G, A1, K)) = some (none, (49, pt_G, A, K)) ∧ FT h A ∧ K1 q h n b fa pl C w a sn A K ∧ HI I A ∧ CH h A := by
  obtain ⟨⟨e, v, e1, v1, cx, fo⟩, k0⟩ := X
  obtain ⟨A1, K, a1, a2, a3, a4, a5⟩ := c_learnAll hF W cx
  have fo1 := fo.of (fun r k p q => a2.1 r k (by unfold xc; omega))
  obtain ⟨A, d1, d2, d3, d4⟩ := c_run hF W a3 a4 fo1
  have f40 : ∀ r k, r < 40 → A r k = A1 r k := fun r k hr => d2 r k (by omega) (by omega) (by omega)
  have frA : FR h e v A K := a3.of2 f40
  have k1 : K0 h n b fa pl C w a sn A1 K := k0.of (fun r k p => a2.1 r k (by unfold xc; omega)) (fun k => a2.2 18 k (by omega))
  have k2 : K0 h n b fa pl C w a sn A K := k1.of (fun r k p => d2 r k (by omega) (by omega) (by omega)) (fun _ => rfl)
  exact ⟨A1, K, A, a1, d1, d3, ⟨⟨e, v, e1, v1, frA.1, Or.inr ⟨v, Nat.le_refl _, d4⟩, fun _ => d3⟩, k2⟩, fun r k hr => by rw [d2 r k (by omega) (by omega) (by omega)]; exact a2.hi r k hr, frA.1.1⟩
theorem fmr_0 (hP : h 0 0 = 0) : ∀ n, (fmr h n).2.2.1 = 0 := by
  intro n
  refine lpP (P := fun _ (a : Nat × fst') => a.2.2.1 = 0) rfl (fun k a _ ha => ?_)
  show (bif Nat.beq a.2.2.2.2 0 then (a.1 + 1, rnd h k (h 0 0) a.2) else a).2.2.1 = 0
  cases Nat.beq a.2.2.2.2 0
  · exact ha
  · have := rnd_cnt (h := h) k (h 0 0) a.2
    rw [hP] at this ⊢
    show (rnd h k 0 a.2).2.1 = 0
    have ha : a.2.2.1 = 0 := ha
    omega
theorem K0.tape {n' : Nat} {b' : Nat → Nat} (X : K0 h n b fa pl C w a sn I L) (T : TC n' b' I') (f : ∀ r k, r = 10 ∨ (44 ≤ r ∧ r ≤ 48) → I' r k = I r k) : K0 h n' b' fa pl C w a sn I' L := by
  obtain ⟨x1, x2, x3, x4, x5, x6, x7⟩ := X
  exact ⟨T, x2, by rw [f 10 8 (by omega)]; exact x3, by rw [f 10 9 (by omega)]; exact x4, by rw [f 44 5 (by omega)]; exact x5, fun z => by rw [f 44 6 (by omega)]; exact x6 z, x7.of (f 44 7 (by omega)) (fun r j p q => f r j (by omega))⟩
theorem CX.fr1 (X : CX h e v I L) (f : ∀ r k, (r = 1 → k ≠ 1) → r ≠ 2 → I' r k = I r k) : CX h e v I' L := by
  have g : LO (fun r k => if r = 1 ∨ r = 2 then I' r k else I r k) I' := fun r k _ => by
    by_cases c : r = 1 ∨ r = 2
    · exact (if_pos c).symm
    · exact (f r k (by omega) (by omega)).trans (if_neg c).symm
  exact (show CX h e v (fun r k => if r = 1 ∨ r = 2 then I' r k else I r k) L from X).lo g (fun _ _ _ => rfl)
theorem K1.tape {n' : Nat} {b' : Nat → Nat} (X : K1 q h n b fa pl C w a sn I L) (T : TC n' b' I') (f : ∀ r k, (r = 1 → k ≠ 1) → r ≠ 2 → I' r k = I r k) : K1 q h n' b' fa pl C w a sn I' L := by
  obtain ⟨⟨e, v, e1, v1, cx, fo⟩, k0⟩ := X
  exact ⟨⟨e, v, e1, v1, cx.fr1 f, fo.of (fun r k p q => f r k (by omega) (by omega))⟩, k0.tape T (fun r k p => f r k (by omega) (by omega))⟩
theorem K2.tape {n' : Nat} {b' : Nat → Nat} (X : K2 h n b fa pl C w a sn I) (W : WF h) (T : TM n' b' I') (f : ∀ r k, (r = 49 → k ≠ 1) → r ≠ 50 → I' r k = I r k) : K2 h n' b' fa pl C w a sn I' := by
  obtain ⟨⟨x0, x1⟩, x2, x3, x4, x5, x6⟩ := X
  refine ⟨⟨x0.of (fun k _ _ => f 49 k (by omega) (by omega)) (fun r p q k => f r k (by omega) (by omega)) (fun k _ => f 64 k (by omega) (by omega)), ?_⟩, T, by rw [f 49 10 (by omega) (by omega)]; exact x3, by rw [f 49 11 (by omega) (by omega)]; exact x4, x5.of (fun k _ => f 64 k (by omega) (by omega)) W, x6.of (f 49 45 (by omega) (by omega)) (fun j => f 65 j (by omega) (by omega))⟩
  rw [f 49 57 (by omega) (by omega)]
  rcases x1 with x1 | ⟨x1, y1, y2⟩
  · exact Or.inl x1
  · exact Or.inr ⟨x1, y1.of (fun r k p => f r k (by omega) (by omega)), fun c c0 c1 => by rw [f 75 c (by omega) (by omega)]; exact y2 c c0 c1⟩
theorem put4_lt {x : Int32} (hb : ∀ i, b i < 256) : ∀ i, put4 b n x i < 256 := by
  have u : ∀ (f : Nat → Nat) k s, (∀ i, f i < 256) → ∀ i, up f k (byt x s) i < 256 := fun f k s hf i => by
    unfold up
    split
    · exact byt_lt x s
    · exact hf i
  exact u _ _ _ (u _ _ _ (u _ _ _ (u _ _ _ hb)))
end
