/-! ===== one instruction of the law's machine: those that make cells, copy them, write references ===== -/
section
variable {p : Program} {l : Launch} {e : Env} {R : Room} {s : State} {m : MethodId} {args : Array Value} {below : List Frame} {meth : Method} {c : Code} {Q : State → Prop}
variable {me : Nat → pm_Me} {D : va_G} {cl : List vw_C} {cA : Nat → ClassId} {qs : Nat → qm_K} {T : qm_T} {J base : Nat} {so : Nat → Nat → Prop} {sx : qm_X} {Rt : pm_T} {st : Nat → Nat → Nat} {fv : Value} {ρ : Nat → Nat} {tx : String} {mi c0 : Nat}
theorem qm_wd1 (r : List qm_V) : (r.map fun _ => 1).sum = r.length := by
  induction r with
  | nil => rfl
  | cons a r ih => rw [List.map_cons, List.sum_cons, ih, List.length_cons, Nat.add_comm]
/-- the one that was pushed lies behind all others -/
theorem qm_pq {S : qm_S} {H1 : Heap} {locs : List Loc} {sl q : Nat} {en : va_E} {g : JFrame} (hs : s.heap.size + 1001 = base + c0) (h1 : 1001 ≤ c0) (hc0 : c0 ≤ S.1) (hP1 : va_P D cl (qm_ws qs cA st base J ρ fv S ++ [(q, en)]) H1) (hD1 : va_D (fun q : Nat => base ≤ q) (qm_ws qs cA st base J ρ fv S ++ [(q, en)]))
    (k : q = base + (S.1 - 1001) → W p l e R s m args below meth c H1 locs (S.1 - c0 + 1) sl Q g) : W p l e R s m args below meth c H1 locs (S.1 - c0 + 1) sl Q g := by
  intro T hT X
  refine k ?_ T hT X
  obtain ⟨-, h1', h2, -⟩ := X.same
  have h3 : (T.setVm s.vm).heap = H1 := hT
  rw [h3] at h1' h2
  have hlen : (qm_ws qs cA st base J ρ fv S).length = S.1 - 1001 := by simp [qm_ws]
  have hlast : (qm_ws qs cA st base J ρ fv S ++ [(q, en)])[S.1 - 1001]? = some (q, en) := by
    rw [List.getElem?_append_right (by omega), hlen, Nat.sub_self]
    rfl
  have g1 : q < H1.size := (hP1 _ _ hlast).lt
  have g2 : base ≤ q := hD1.2 _ _ hlast
  have g3 : ¬ q < base + (S.1 - 1001) := by
    intro hq
    have h5 : (qm_ws qs cA st base J ρ fv S ++ [(q, en)])[q - base]? = some (base + (q - base), qm_cell qs cA st base J ρ fv S (1001 + (q - base))) := by
      rw [List.getElem?_append_left (by omega)]
      have := qm_ws_at (qs := qs) (cA := cA) (st := st) (base := base) (J := J) (ρ := ρ) (fv := fv) (S := S) (a := 1001 + (q - base)) (by omega) (by omega)
      rwa [Nat.add_sub_cancel_left] at this
    have := hD1.1 _ _ _ _ h5 hlast (by show base + (q - base) = q; omega)
    omega
  omega
theorem qm_Pq {S S' : qm_S} {H1 : Heap} {q : Nat} {en : va_E} (h1 : 1001 ≤ S.1) (hP1 : va_P D cl (qm_ws qs cA st base J ρ fv S ++ [(q, en)]) H1) (hq : q = base + (S.1 - 1001)) (hn : S'.1 = S.1 + 1) (hrow : ∀ b, 1001 ≤ b → b < S.1 → qm_cell qs cA st base J ρ fv S' b = qm_cell qs cA st base J ρ fv S b) (hnew : qm_cell qs cA st base J ρ fv S' S.1 = en) : va_P D cl (qm_ws qs cA st base J ρ fv S') H1 := by
  have e : qm_ws qs cA st base J ρ fv S' = qm_ws qs cA st base J ρ fv S ++ [(q, en)] := by
    have hlen : (qm_ws qs cA st base J ρ fv S).length = S.1 - 1001 := by simp [qm_ws]
    apply List.ext_getElem?
    intro k
    by_cases hk : k < S.1 - 1001
    · rw [List.getElem?_append_left (by omega)]
      have e1 := qm_ws_at (qs := qs) (cA := cA) (st := st) (base := base) (J := J) (ρ := ρ) (fv := fv) (S := S') (a := 1001 + k) (by omega) (by omega)
      have e2 := qm_ws_at (qs := qs) (cA := cA) (st := st) (base := base) (J := J) (ρ := ρ) (fv := fv) (S := S) (a := 1001 + k) (by omega) (by omega)
      rw [Nat.add_sub_cancel_left] at e1 e2
      rw [e1, e2, hrow _ (by omega) (by omega)]
    · by_cases hk2 : k = S.1 - 1001
      · have e1 := qm_ws_at (qs := qs) (cA := cA) (st := st) (base := base) (J := J) (ρ := ρ) (fv := fv) (S := S') (a := S.1) (by omega) (by omega)
        rw [hk2, e1, hnew, List.getElem?_append_right (by omega), hlen, Nat.sub_self, ← hq]
        rfl
      · rw [List.getElem?_eq_none (by simp [qm_ws]; omega), List.getElem?_eq_none (by simp [qm_ws]; omega)]
  rw [e]
  exact hP1
theorem qm_ci_at {f : Nat → Nat → Nat → Int32} {s0 n a : Nat} (h : a ≠ n) (s' : Nat) : qm_ci f s0 n s' a = f s' a := by
  funext j
  unfold qm_ci
  rw [pm_bf h, Bool.and_false]
  rfl
theorem qm_ci_s {f : Nat → Nat → Nat → Int32} {s0 n : Nat} (j : Nat) : qm_ci f s0 n s0 n j = 0 := by
  unfold qm_ci
  rw [pm_bt, pm_bt]
  rfl
theorem qm_cw_at {f : Nat → Nat → Nat → Int32} {s0 a0 t n a : Nat} (h : a ≠ n) (s' : Nat) : qm_cw f s0 a0 t n s' a = f s' a := by
  funext j
  unfold qm_cw
  rw [pm_bf h, Bool.and_false]
  rfl
/-- the cells that were there -/
theorem qm_mk_old {S : qm_S} {s0 w0 : Nat} {I' : Nat → Nat → Nat → Int32} {wl : Nat} (hI' : ∀ a s', a ≠ S.1 → I' s' a = S.2.2.2.2.2.1 s' a) (b : Nat) (hb : b < S.1) : qm_cell qs cA st base J ρ fv (S.1 + 1, S.2.1 + w0, qm_un S.2.2.1 S.1 s0, qm_un S.2.2.2.1 S.1 wl, qm_cg S.2.2.2.2.1 s0 S.1, I', S.2.2.2.2.2.2) b = qm_cell qs cA st base J ρ fv S b :=
  qm_cell_eq rfl (qm_un_at (Nat.ne_of_lt hb)) (qm_un_at (Nat.ne_of_lt hb)) (fun s' => qm_cg_at (Nat.ne_of_lt hb) s') (fun s' => hI' b s' (Nat.ne_of_lt hb))
theorem qm_conz {S : qm_S} {s0 t u : Nat} {w0 wl : Nat} (ht : t < 4) : qm_con st base (S.1 + 1, S.2.1 + w0, qm_un S.2.2.1 S.1 s0, qm_un S.2.2.2.1 S.1 wl, qm_cg S.2.2.2.2.1 s0 S.1, qm_ci S.2.2.2.2.2.1 s0 S.1, S.2.2.2.2.2.2) s0 S.1 t u = .inl (fun _ => 0) := by
  unfold qm_con
  rw [if_neg (by omega)]
  refine congrArg Sum.inl (funext fun j => ?_)
  exact qm_ci_s j
set_option maxHeartbeats 2000000 in
theorem qm_s_newarray (h1 : qm_E1 me qs T sx cl) (h2 : qm_E2 me mi p s m args meth c R D cl cA qs T so sx Rt st ρ fv base tx c0) (h3 : qm_E3 qs T so base J st fv ρ) {pc nx w : Nat} {a : ArrayType} {xs : List Nat} {ci : Int32} {cj : Int64} (hq : qm_chk cl qs sx me mi (pc, .newarray a, nx, w, xs, ci, cj) = true) {pl pl' : qm_L} {sk sk' : List qm_V} {S S' : qm_S} {pc' m0 : Nat}
    (h : qm_x qs T J (me mi).2.2.2.1 (pc, .newarray a, nx, w, xs, ci, cj) pl sk S = some (true, .inl (pc', pl', sk', S'))) {H : Heap} {locs : List Loc} {ls : Array Slot} (hc0 : c0 ≤ S.1) (hm0 : m0 ≤ S.2.1) (hok : qm_ok qs T so J S) (hsv : qm_sv so J S sk) (hI : qm_I D cl cA qs st ρ fv base J S s H locs) (hlsz : ls.size = (me mi).2.2.1) (hR1 : S'.1 - c0 ≤ R.cells) (hR2 : S'.2.1 - m0 ≤ R.slots)
    (kk : ∀ (H' : Heap) (locs' : List Loc), qm_I D cl cA qs st ρ fv base J S' s H' locs' → W p l e R s m args below meth c H' locs' (S'.1 - c0) (S'.2.1 - m0) Q (F0 m pc' ls (sk'.map (qm_rl st base fv)))) : pl' = pl ∧ W p l e R s m args below meth c H locs (S.1 - c0) (S.2.1 - m0) Q (F0 m pc ls (sk.map (qm_rl st base fv))) := by
  obtain ⟨hx, hb, hml, hown, hmn, hts, hfr, hlo, hK, hZ, hN, hsz, h1001⟩ := h2
  obtain ⟨⟨hρ, hfv, h06⟩, e2, e3, ⟨e4, e4'⟩, e5, e6, e7, ⟨t14, t15, q14, q15, q0, so06⟩, e9⟩ := id h3
  obtain ⟨hP, hS⟩ := id hI
  have hD := qm_ws_D (qs := qs) (cA := cA) (st := st) (base := base) (J := J) (ρ := ρ) (fv := fv) (S := S)
  simp only [qm_chk, Bool.and_eq_true] at hq
  obtain ⟨hd0, hw, hty0, ht3⟩ := hq
  obtain ⟨hd, rfl⟩ := pm_d_of hd0
  have hty0 := of_decide_eq_true hty0
  have ht3 := Nat.le_of_ble_eq_true ht3
  simp only [qm_x] at h
  split at h
  · rename_i x r
    split at h
    · rename_i t u hqs
      replace h := pm_cond h
      obtain ⟨hc, h⟩ := h
      rw [Bool.and_eq_true] at hc
      have ht := Nat.eq_of_beq_eq_true hc.1
      have hT : T.2.2 (xs.getD 0 99) = false := by simpa using hc.2
      obtain ⟨hg, rfl, rfl, rfl, rfl⟩ := qm_n_inj h
      refine ⟨rfl, ?_⟩
      rw [Bool.and_eq_true] at hg
      have hx0 : ¬ x < 0 := by simpa using hg.1
      have hxl := Nat.le_of_ble_eq_true hg.2
      rw [← ht] at hty0 ht3
      have hR1 : S.1 + 1 - c0 ≤ R.cells := hR1
      have hR2 : S.2.1 + x.toNatClampNeg - m0 ≤ R.slots := hR2
      have ht1 : t ≠ 1 := by
        have := (e7 _ hT).2.2
        rw [hqs] at this
        exact this.2.1
      obtain ⟨k1, k2, k3⟩ := hok.mk (s := xs.getD 0 99) (w := x.toNatClampNeg) (N' := qm_un S.2.2.2.1 S.1 x.toNatClampNeg) (I' := qm_ci S.2.2.2.2.2.1 (xs.getD 0 99) S.1) hT
      refine va_newa (ty := qm_ty t) (a0 := (x.toNatClampNeg, .inl fun _ => 0)) hx hb (hts _ (qm_wk_of hw)) hty0 hK hP hD hS (fun q hq => by show base ≤ q; omega) ?_ hx0 rfl ?_ (by omega) (by omega) hd (fun q cA2 H1 hK1 hP1 hD1 hS1 => ?_)
      · intro cA2
        match t, ht3, ht1 with
        | 0, _, _ => rfl
        | 2, _, _ => rfl
        | 3, _, _ => rfl
      · have : componentBytes (qm_ty t) ≤ 8 := (by match t, ht3 with | 0, _ => decide | 1, _ => decide | 2, _ => decide | 3, _ => decide)
        calc x.toNatClampNeg * componentBytes (qm_ty t) ≤ 100000 * 8 := Nat.mul_le_mul hxl this
          _ ≤ _ := by decide
      · have hcA : cA2 = cA t := by
          have g1 : ((qm_tys cA) ++ [(cA2, qm_ty t)])[7]? = some (cA2, qm_ty t) := rfl
          have g2 := (hK1.2 7 _ g1).2
          have g3 := (hK.2 t _ (qm_tys_at (by omega))).2
          match t, ht3, ht1, g2, g3 with
          | 0, _, _, g2, g3 => exact Option.some.inj (g2.symm.trans g3)
          | 2, _, _, g2, g3 => exact Option.some.inj (g2.symm.trans g3)
          | 3, _, _, g2, g3 => exact Option.some.inj (g2.symm.trans g3)
        subst hcA
        refine qm_pq hsz h1001 hc0 hP1 hD1 fun hqe => ?_
        have hk := kk H1 locs ⟨qm_Pq (S' := qm_mk S (xs.getD 0 99) x.toNatClampNeg) hok.1 hP1 hqe rfl (fun b _ hb => qm_mk_old (fun a s' ha => qm_ci_at ha s') b hb) ?_, hS1⟩
        · rw [List.map_cons, qm_rl_dv k3 (e7 _ hT).2.1, ← hqe] at hk
          rw [show S.1 - c0 + 1 = S.1 + 1 - c0 by omega, show S.2.1 - m0 + x.toNatClampNeg = S.2.1 + x.toNatClampNeg - m0 by omega]
          exact hk
        · refine (qm_cell_dv k3).trans ?_
          unfold qm_lc
          rw [hqs]
          show Sum.inl (cA t, qm_un S.2.2.2.1 S.1 x.toNatClampNeg S.1, _) = _
          rw [qm_un_s, qm_conz (by omega)]
    · cases h
  · cases h
set_option maxHeartbeats 2000000 in
theorem qm_s_anewarray (h1 : qm_E1 me qs T sx cl) (h2 : qm_E2 me mi p s m args meth c R D cl cA qs T so sx Rt st ρ fv base tx c0) (h3 : qm_E3 qs T so base J st fv ρ) {pc nx w : Nat} {idx : Nat} {xs : List Nat} {ci : Int32} {cj : Int64} (hq : qm_chk cl qs sx me mi (pc, .anewarray idx, nx, w, xs, ci, cj) = true) {pl pl' : qm_L} {sk sk' : List qm_V} {S S' : qm_S} {pc' m0 : Nat}
    (h : qm_x qs T J (me mi).2.2.2.1 (pc, .anewarray idx, nx, w, xs, ci, cj) pl sk S = some (true, .inl (pc', pl', sk', S'))) {H : Heap} {locs : List Loc} {ls : Array Slot} (hc0 : c0 ≤ S.1) (hm0 : m0 ≤ S.2.1) (hok : qm_ok qs T so J S) (hsv : qm_sv so J S sk) (hI : qm_I D cl cA qs st ρ fv base J S s H locs) (hlsz : ls.size = (me mi).2.2.1) (hR1 : S'.1 - c0 ≤ R.cells) (hR2 : S'.2.1 - m0 ≤ R.slots)
    (kk : ∀ (H' : Heap) (locs' : List Loc), qm_I D cl cA qs st ρ fv base J S' s H' locs' → W p l e R s m args below meth c H' locs' (S'.1 - c0) (S'.2.1 - m0) Q (F0 m pc' ls (sk'.map (qm_rl st base fv)))) : pl' = pl ∧ W p l e R s m args below meth c H locs (S.1 - c0) (S.2.1 - m0) Q (F0 m pc ls (sk.map (qm_rl st base fv))) := by
  obtain ⟨hx, hb, hml, hown, hmn, hts, hfr, hlo, hK, hZ, hN, hsz, h1001⟩ := h2
  obtain ⟨⟨hρ, hfv, h06⟩, e2, e3, ⟨e4, e4'⟩, e5, e6, e7, ⟨t14, t15, q14, q15, q0, so06⟩, e9⟩ := id h3
  obtain ⟨hP, hS⟩ := id hI
  have hD := qm_ws_D (qs := qs) (cA := cA) (st := st) (base := base) (J := J) (ρ := ρ) (fv := fv) (S := S)
  simp only [qm_chk, Bool.and_eq_true] at hq
  obtain ⟨hd0, hw⟩ := hq
  obtain ⟨hd, rfl⟩ := pm_d_of hd0
  simp only [qm_x] at h
  split at h
  · rename_i x r
    split at h
    · rename_i t u hqs
      replace h := pm_cond h
      obtain ⟨hc, h⟩ := h
      rw [Bool.and_eq_true] at hc
      have ht := Nat.eq_of_beq_eq_true hc.1
      have hT : T.2.2 (xs.getD 0 99) = false := by simpa using hc.2
      obtain ⟨hg, rfl, rfl, rfl, rfl⟩ := qm_n_inj h
      refine ⟨rfl, ?_⟩
      rw [Bool.and_eq_true] at hg
      have hx0 : ¬ x < 0 := by simpa using hg.1
      have hxl := Nat.le_of_ble_eq_true hg.2
      subst ht
      have hR1 : S.1 + 1 - c0 ≤ R.cells := hR1
      have hR2 : S.2.1 + x.toNatClampNeg - m0 ≤ R.slots := hR2
      obtain ⟨k1, k2, k3⟩ := hok.mk (s := xs.getD 0 99) (w := x.toNatClampNeg) (N' := qm_un S.2.2.2.1 S.1 x.toNatClampNeg) (I' := qm_ci S.2.2.2.2.2.1 (xs.getD 0 99) S.1) hT
      refine va_newq hx hb hown (hts _ (qm_wk_of hw)) hN.2.2.1 hK hP hD hS (fun q hq => by show base ≤ q; omega) hx0 rfl (by omega) (by omega) (by omega) hd (fun q cA2 H1 hK1 hP1 hD1 hS1 => ?_)
      have hcA : cA2 = cA 6 := by
        have g1 : ((qm_tys cA) ++ [(cA2, .object "java/lang/Object")])[7]? = some (cA2, .object "java/lang/Object") := rfl
        obtain ⟨-, -, -, -, -, g2⟩ := (hK1.2 7 _ g1).2
        obtain ⟨-, -, -, -, -, g3⟩ := (hK.2 6 _ (qm_tys_at (by omega))).2
        exact Option.some.inj (g2.symm.trans g3)
      subst hcA
      refine qm_pq hsz h1001 hc0 hP1 hD1 fun hqe => ?_
      have hk := kk H1 locs ⟨qm_Pq (S' := qm_mk S (xs.getD 0 99) x.toNatClampNeg) hok.1 hP1 hqe rfl (fun b _ hb => qm_mk_old (fun a s' ha => qm_ci_at ha s') b hb) ?_, hS1⟩
      · rw [List.map_cons, qm_rl_dv k3 (e7 _ hT).2.1, ← hqe] at hk
        rw [show S.1 - c0 + 1 = S.1 + 1 - c0 by omega, show S.2.1 - m0 + x.toNatClampNeg = S.2.1 + x.toNatClampNeg - m0 by omega]
        exact hk
      · refine (qm_cell_dv k3).trans ?_
        unfold qm_lc
        rw [hqs]
        show Sum.inl (cA 6, qm_un S.2.2.2.1 S.1 x.toNatClampNeg S.1, _) = _
        rw [qm_un_s]
        unfold qm_con
        rw [if_pos (by decide)]
        have hz : (fun j => qm_rf st base u ((qm_mk S (xs.getD 0 99) x.toNatClampNeg).2.2.2.2.1 (xs.getD 0 99) S.1 j)) = fun _ => none := by
          funext j
          show qm_rf st base u (qm_cg S.2.2.2.2.1 (xs.getD 0 99) S.1 (xs.getD 0 99) S.1 j) = none
          rw [qm_cg_s]
          rfl
        exact congrArg (fun z => Sum.inl (cA 6, x.toNatClampNeg, Sum.inr (Sum.inr (Sum.inr (Sum.inr z))))) hz
    · cases h
  · cases h
set_option maxHeartbeats 2000000 in
theorem qm_s_clone (h1 : qm_E1 me qs T sx cl) (h2 : qm_E2 me mi p s m args meth c R D cl cA qs T so sx Rt st ρ fv base tx c0) (h3 : qm_E3 qs T so base J st fv ρ) {pc nx w : Nat} {idx : Nat} {xs : List Nat} {ci : Int32} {cj : Int64} (hq : qm_chk cl qs sx me mi (pc, .invokevirtual idx, nx, w, xs, ci, cj) = true) {pl pl' : qm_L} {sk sk' : List qm_V} {S S' : qm_S} {pc' m0 : Nat}
    (h : qm_x qs T J (me mi).2.2.2.1 (pc, .invokevirtual idx, nx, w, xs, ci, cj) pl sk S = some (true, .inl (pc', pl', sk', S'))) {H : Heap} {locs : List Loc} {ls : Array Slot} (hc0 : c0 ≤ S.1) (hm0 : m0 ≤ S.2.1) (hok : qm_ok qs T so J S) (hsv : qm_sv so J S sk) (hI : qm_I D cl cA qs st ρ fv base J S s H locs) (hlsz : ls.size = (me mi).2.2.1) (hR1 : S'.1 - c0 ≤ R.cells) (hR2 : S'.2.1 - m0 ≤ R.slots)
    (kk : ∀ (H' : Heap) (locs' : List Loc), qm_I D cl cA qs st ρ fv base J S' s H' locs' → W p l e R s m args below meth c H' locs' (S'.1 - c0) (S'.2.1 - m0) Q (F0 m pc' ls (sk'.map (qm_rl st base fv)))) : pl' = pl ∧ W p l e R s m args below meth c H locs (S.1 - c0) (S.2.1 - m0) Q (F0 m pc ls (sk.map (qm_rl st base fv))) := by
  obtain ⟨hx, hb, hml, hown, hmn, hts, hfr, hlo, hK, hZ, hN, hsz, h1001⟩ := h2
  obtain ⟨⟨hρ, hfv, h06⟩, e2, e3, ⟨e4, e4'⟩, e5, e6, e7, ⟨t14, t15, q14, q15, q0, so06⟩, e9⟩ := id h3
  obtain ⟨hP, hS⟩ := id hI
  have hD := qm_ws_D (qs := qs) (cA := cA) (st := st) (base := base) (J := J) (ρ := ρ) (fv := fv) (S := S)
  simp only [qm_chk, Bool.and_eq_true] at hq
  obtain ⟨hd0, hcv⟩ := hq
  obtain ⟨hd, rfl⟩ := pm_d_of hd0
  simp only [qm_x] at h
  cases h9 : Nat.beq (xs.getD 0 0) 9002 with
  | false =>
    rw [h9] at h
    exact (qm_callV_ne h).elim
  | true =>
    rw [h9] at h hcv
    simp only [cond_true, Bool.and_eq_true] at h hcv
    obtain ⟨c1, c2, c3, c4, c5, c6, c7⟩ := hcv
    have c6 := Nat.le_of_ble_eq_true c6
    have c7 := Nat.le_of_ble_eq_true c7
    split at h
    · rename_i s0 a r
      rw [qm_sv_c] at hsv
      replace h := pm_cond h
      obtain ⟨hc, h⟩ := h
      rw [Bool.and_eq_true] at hc
      have hs0 := Nat.eq_of_beq_eq_true hc.1
      have hr8 := Nat.le_of_ble_eq_true hc.2
      subst hs0
      obtain ⟨hg, rfl, rfl, rfl, rfl⟩ := qm_n_inj h
      refine ⟨rfl, ?_⟩
      rw [Bool.and_eq_true] at hg
      have hxl := Nat.le_of_ble_eq_true hg.1
      have hby := qm_bytes_of hg.2
      have hR1 : S.1 + 1 - c0 ≤ R.cells := hR1
      have hR2 : S.2.1 + S.2.2.2.1 a - m0 ≤ R.slots := hR2
      obtain ⟨h30, hcase⟩ := qm_arr h3 hok hsv.1 q14 (by decide)
      rcases hcase with ⟨hT, -, -⟩ | ⟨-, hT, -, -⟩ | ⟨hT, h0, hrl⟩
      · rw [t14] at hT; cases hT
      · cases hT
      have hat := qm_at_dv (qs := qs) (cA := cA) (st := st) (base := base) (ρ := ρ) (fv := fv) h0
      have hlc : qm_lc qs cA st base S 14 a = .inl (cA 2, S.2.2.2.1 a, .inl (S.2.2.2.2.2.1 14 a)) := by
        unfold qm_lc
        rw [q14]
        rfl
      rw [hlc] at hat
      obtain ⟨k1, k2, k3⟩ := hok.mk (s := 15) (w := S.2.2.2.1 a) (N' := qm_un S.2.2.2.1 S.1 (S.2.2.2.1 a)) (I' := qm_cw S.2.2.2.2.2.1 14 a 15 S.1) t15
      rw [List.map_cons, hrl]
      have hwd : ((r.map (qm_rl st base fv)).map fun v => v.category).sum = r.length := by
        rw [List.map_map]
        have : ((fun v => v.category) ∘ qm_rl st base fv) = fun _ => 1 := funext fun v => qm_rl_cat hfv v
        rw [this]
        exact qm_wd1 r
      refine va_clone (ad := "[B") hx hb (hml.trans hlsz.symm) hown (hts _ (qm_wk_of c1)) (hts _ (qm_ct_of c2)) (hts _ (qm_ct_of c3)) (hts _ (qm_ct_of c4)) (hts _ (qm_ct_of c5)) hN.2.2.2.2.2.2.1 hK hP hD hS (fun q hq => by show base ≤ q; omega) (a - 1001) 2 hat (qm_tys_at (t := 2) (by decide)) (hK.2 2 _ (qm_tys_at (t := 2) (by decide))).2 ?_ (Nat.le_trans c6 hfr) (by rw [hwd]; omega) (by omega) (by show _ + S.2.2.2.1 a ≤ _; omega) hd (fun q H1 hK1 hP1 hD1 hS1 => ?_)
      · intro i v hv
        have hi : i < S.2.2.2.1 a := by
          have := (Array.getElem?_eq_some_iff.mp hv).1
          have e : (vp_cell (cA 2) (S.2.2.2.1 a, Sum.inl (S.2.2.2.2.2.1 14 a))).slots.size = S.2.2.2.1 a := arrV_size _ _ _
          omega
        have e : (vp_cell (cA 2) (S.2.2.2.1 a, Sum.inl (S.2.2.2.2.2.1 14 a))).slots[i]? = some (.int (S.2.2.2.2.2.1 14 a i)) := by
          show (arrV (cA 2) (S.2.2.2.1 a) fun j => Value.int (S.2.2.2.2.2.1 14 a j)).slots[i]? = _
          rw [arrV_read _ _ hi]
        rw [e] at hv
        cases hv
        have := hby i hi
        rwa [Nat.zero_add] at this
      · refine qm_pq hsz h1001 hc0 hP1 hD1 fun hqe => ?_
        have hk := kk H1 locs ⟨qm_Pq hok.1 hP1 hqe rfl (fun b _ hb => qm_mk_old (fun a s' ha => qm_cw_at ha s') b hb) ?_, hS1⟩
        · rw [List.map_cons, qm_rl_dv k3 (by decide), ← hqe] at hk
          show W p l e R s m args below meth c H1 locs (S.1 - c0 + 1) (S.2.1 - m0 + S.2.2.2.1 a) Q _
          rw [show S.1 - c0 + 1 = S.1 + 1 - c0 by omega, show S.2.1 - m0 + S.2.2.2.1 a = S.2.1 + S.2.2.2.1 a - m0 by omega]
          exact hk
        · refine (qm_cell_dv k3).trans ?_
          unfold qm_lc
          rw [q15]
          show Sum.inl (cA 2, qm_un S.2.2.2.1 S.1 (S.2.2.2.1 a) S.1, Sum.inl (qm_cw S.2.2.2.2.2.1 14 a 15 S.1 15 S.1)) = _
          have e : qm_cw S.2.2.2.2.2.1 14 a 15 S.1 15 S.1 = S.2.2.2.2.2.1 14 a := by
            funext j
            unfold qm_cw
            rw [pm_bt, pm_bt]
            rfl
          rw [qm_un_s, e]
    · cases h
set_option maxHeartbeats 2000000 in
theorem qm_s_copy (h1 : qm_E1 me qs T sx cl) (h2 : qm_E2 me mi p s m args meth c R D cl cA qs T so sx Rt st ρ fv base tx c0) (h3 : qm_E3 qs T so base J st fv ρ) {pc nx w : Nat} {idx : Nat} {xs : List Nat} {ci : Int32} {cj : Int64} (hq : qm_chk cl qs sx me mi (pc, .invokestatic idx, nx, w, xs, ci, cj) = true) {pl pl' : qm_L} {sk sk' : List qm_V} {S S' : qm_S} {pc' m0 : Nat}
    (h : qm_x qs T J (me mi).2.2.2.1 (pc, .invokestatic idx, nx, w, xs, ci, cj) pl sk S = some (true, .inl (pc', pl', sk', S'))) {H : Heap} {locs : List Loc} {ls : Array Slot} (hc0 : c0 ≤ S.1) (hm0 : m0 ≤ S.2.1) (hok : qm_ok qs T so J S) (hsv : qm_sv so J S sk) (hI : qm_I D cl cA qs st ρ fv base J S s H locs) (hlsz : ls.size = (me mi).2.2.1) (hR1 : S'.1 - c0 ≤ R.cells) (hR2 : S'.2.1 - m0 ≤ R.slots)
    (kk : ∀ (H' : Heap) (locs' : List Loc), qm_I D cl cA qs st ρ fv base J S' s H' locs' → W p l e R s m args below meth c H' locs' (S'.1 - c0) (S'.2.1 - m0) Q (F0 m pc' ls (sk'.map (qm_rl st base fv)))) : pl' = pl ∧ W p l e R s m args below meth c H locs (S.1 - c0) (S.2.1 - m0) Q (F0 m pc ls (sk.map (qm_rl st base fv))) := by
  obtain ⟨hx, hb, hml, hown, hmn, hts, hfr, hlo, hK, hZ, hN, hsz, h1001⟩ := h2
  obtain ⟨⟨hρ, hfv, h06⟩, e2, e3, ⟨e4, e4'⟩, e5, e6, e7, ⟨t14, t15, q14, q15, q0, so06⟩, e9⟩ := id h3
  obtain ⟨hP, hS⟩ := id hI
  have hD := qm_ws_D (qs := qs) (cA := cA) (st := st) (base := base) (J := J) (ρ := ρ) (fv := fv) (S := S)
  simp only [qm_chk, Bool.and_eq_true] at hq
  obtain ⟨hd0, hcv⟩ := hq
  obtain ⟨hd, rfl⟩ := pm_d_of hd0
  simp only [qm_x] at h
  cases h9 : Nat.beq (xs.getD 0 0) 9001 with
  | false =>
    rw [h9] at h
    exact (qm_call_ne h).elim
  | true =>
    rw [h9] at h hcv
    simp only [cond_true, Bool.and_eq_true] at h hcv
    obtain ⟨c1, c2, c3, c4, c5, c6⟩ := hcv
    have c5 := Nat.le_of_ble_eq_true c5
    have c6 := Nat.le_of_ble_eq_true c6
    split at h
    · rename_i n dp t0 b sp s0 a r
      simp only [qm_sv_c, qm_vv_i, true_and] at hsv
      replace h := pm_cond h
      obtain ⟨hc, h⟩ := h
      rw [Bool.and_eq_true] at hc
      have hr8 := Nat.le_of_ble_eq_true hc.1
      have hTt : T.2.2 t0 = false := by simpa using hc.2
      have hwd : ((r.map (qm_rl st base fv)).map fun v => v.category).sum = r.length := by
        rw [List.map_map]
        have : ((fun v => v.category) ∘ qm_rl st base fv) = fun _ => 1 := funext fun v => qm_rl_cat hfv v
        rw [this]
        exact qm_wd1 r
      split at h
      · rename_i us ut hqs hqt
        obtain ⟨ht30, hcase⟩ := qm_arr h3 hok hsv.1 hqt (by decide)
        rcases hcase with ⟨hT, -, -⟩ | ⟨-, hT, -, -⟩ | ⟨-, hb0, hrlb⟩
        · rw [hTt] at hT; cases hT
        · rw [hT, e4'] at hqt; cases hqt
        have hatb := qm_at_dv (qs := qs) (cA := cA) (st := st) (base := base) (ρ := ρ) (fv := fv) hb0
        have hlcb : qm_lc qs cA st base S t0 b = .inl (cA 2, S.2.2.2.1 b, .inl (S.2.2.2.2.2.1 t0 b)) := by
          unfold qm_lc
          rw [hqt]
          rfl
        rw [hlcb] at hatb
        obtain ⟨hs30, hcase⟩ := qm_arr h3 hok hsv.2.1 hqs (by decide)
        cases hT : T.2.2 s0 with
        | true =>
          rw [hT] at h
          simp only [cond_true] at h
          obtain ⟨hg, rfl, rfl, rfl, rfl⟩ := qm_n_inj h
          refine ⟨rfl, ?_⟩
          simp only [Bool.and_eq_true] at hg
          obtain ⟨g1, g2, g3, g4, g5, g6⟩ := hg
          rcases hcase with ⟨-, ha0, hrl⟩ | ⟨hT', -, -, -⟩ | ⟨hT', -, -⟩
          rotate_left
          · rw [hT] at hT'; cases hT'
          · rw [hT] at hT'; cases hT'
          simp only [List.map_cons]
          rw [hrl, hrlb]
          have hwI := qm_wsI (qs := qs) (cA := cA) (st := st) (base := base) (ρ := ρ) (fv := fv) (I' := qm_ct (T.1 s0 a) S.2.2.2.2.2.1 t0 b sp.toNatClampNeg dp.toNatClampNeg n.toNatClampNeg) hb0 (fun x hx s' => by
            funext j
            unfold qm_ct
            rw [pm_bf hx, Bool.and_false]
            rfl)
          refine vk_copyt hx hb (hml.trans hlsz.symm) hown (hts _ (qm_wk_of c1)) (hts _ (qm_ct_of c2)) (hts _ (qm_ct_of c3)) (hts _ (qm_ct_of c4)) hK hP hD hS (hZ.2.2.2.2.2.2.1 s0 a 2 _ ha0 hqs hT (by decide)) (b - 1001) 2 hatb (qm_tys_at (t := 2) (by decide)) (by simpa using g2) (by simpa using g3) (by simpa using g1) (Nat.le_of_ble_eq_true g4) (Nat.le_of_ble_eq_true g5) (qm_bytes_of g6) (Nat.le_trans c5 hfr) (by rw [hwd]; omega) hd (fun H1 locs1 hP1 hD1 hS1 => ?_)
          refine kk H1 locs1 ⟨?_, hS1⟩
          rw [← hwI]
          have e : qm_lc qs cA st base (qm_sI S (qm_ct (T.1 s0 a) S.2.2.2.2.2.1 t0 b sp.toNatClampNeg dp.toNatClampNeg n.toNatClampNeg)) t0 b = .inl (cA 2, S.2.2.2.1 b, .inl (va_cpy (T.1 s0 a) (S.2.2.2.2.2.1 t0 b) sp.toNatClampNeg dp.toNatClampNeg n.toNatClampNeg)) := by
            unfold qm_lc
            rw [hqt]
            show Sum.inl (cA 2, S.2.2.2.1 b, Sum.inl (qm_ct (T.1 s0 a) S.2.2.2.2.2.1 t0 b sp.toNatClampNeg dp.toNatClampNeg n.toNatClampNeg t0 b)) = _
            refine congrArg (fun z => Sum.inl (cA 2, S.2.2.2.1 b, Sum.inl z)) (funext fun j => ?_)
            unfold qm_ct
            rw [pm_bt, pm_bt]
            rfl
          rw [e]
          exact hP1
        | false =>
          rw [hT] at h
          simp only [cond_false] at h
          obtain ⟨hg, rfl, rfl, rfl, rfl⟩ := qm_n_inj h
          refine ⟨rfl, ?_⟩
          simp only [Bool.and_eq_true] at hg
          obtain ⟨g1, g2, g3, g4, g5, g6⟩ := hg
          rcases hcase with ⟨hT', -, -⟩ | ⟨-, hT', -, -⟩ | ⟨-, ha0, hrl⟩
          · rw [hT] at hT'; cases hT'
          · rw [hT', e4'] at hqs; cases hqs
          have hata := qm_at_dv (qs := qs) (cA := cA) (st := st) (base := base) (ρ := ρ) (fv := fv) ha0
          have hlca : qm_lc qs cA st base S s0 a = .inl (cA 2, S.2.2.2.1 a, .inl (S.2.2.2.2.2.1 s0 a)) := by
            unfold qm_lc
            rw [hqs]
            rfl
          rw [hlca] at hata
          simp only [List.map_cons]
          rw [hrl, hrlb]
          have hwI := qm_wsI (qs := qs) (cA := cA) (st := st) (base := base) (ρ := ρ) (fv := fv) (I' := qm_cp S.2.2.2.2.2.1 s0 a t0 b sp.toNatClampNeg dp.toNatClampNeg n.toNatClampNeg) hb0 (fun x hx s' => by
            funext j
            unfold qm_cp
            rw [pm_bf hx, Bool.and_false]
            rfl)
          refine va_copyi hx hb (hml.trans hlsz.symm) hown (hts _ (qm_wk_of c1)) (hts _ (qm_ct_of c2)) (hts _ (qm_ct_of c3)) (hts _ (qm_ct_of c4)) hK hP hD hS (a - 1001) (b - 1001) 2 2 hata hatb (qm_tys_at (t := 2) (by decide)) (qm_tys_at (t := 2) (by decide)) rfl (by simpa using g2) (by simpa using g3) (by simpa using g1) (Nat.le_of_ble_eq_true g4) (Nat.le_of_ble_eq_true g5) (qm_bytes_of g6) (Nat.le_trans c5 hfr) (by rw [hwd]; omega) hd (fun H1 locs1 hP1 hD1 hS1 => ?_)
          refine kk H1 locs1 ⟨?_, hS1⟩
          rw [← hwI]
          have e : qm_lc qs cA st base (qm_sI S (qm_cp S.2.2.2.2.2.1 s0 a t0 b sp.toNatClampNeg dp.toNatClampNeg n.toNatClampNeg)) t0 b = .inl (cA 2, S.2.2.2.1 b, .inl (va_cpy (S.2.2.2.2.2.1 s0 a) (S.2.2.2.2.2.1 t0 b) sp.toNatClampNeg dp.toNatClampNeg n.toNatClampNeg)) := by
            unfold qm_lc
            rw [hqt]
            show Sum.inl (cA 2, S.2.2.2.1 b, Sum.inl (qm_cp S.2.2.2.2.2.1 s0 a t0 b sp.toNatClampNeg dp.toNatClampNeg n.toNatClampNeg t0 b)) = _
            refine congrArg (fun z => Sum.inl (cA 2, S.2.2.2.1 b, Sum.inl z)) (funext fun j => ?_)
            unfold qm_cp
            rw [pm_bt, pm_bt]
            rfl
          rw [e]
          exact hP1
      · cases h
    · cases h
set_option maxHeartbeats 2000000 in
theorem qm_s_aastore (h1 : qm_E1 me qs T sx cl) (h2 : qm_E2 me mi p s m args meth c R D cl cA qs T so sx Rt st ρ fv base tx c0) (h3 : qm_E3 qs T so base J st fv ρ) {pc nx w : Nat}  {xs : List Nat} {ci : Int32} {cj : Int64} (hq : qm_chk cl qs sx me mi (pc, .aastore, nx, w, xs, ci, cj) = true) {pl pl' : qm_L} {sk sk' : List qm_V} {S S' : qm_S} {pc' m0 : Nat}
    (h : qm_x qs T J (me mi).2.2.2.1 (pc, .aastore, nx, w, xs, ci, cj) pl sk S = some (true, .inl (pc', pl', sk', S'))) {H : Heap} {locs : List Loc} {ls : Array Slot} (hc0 : c0 ≤ S.1) (hm0 : m0 ≤ S.2.1) (hok : qm_ok qs T so J S) (hsv : qm_sv so J S sk) (hI : qm_I D cl cA qs st ρ fv base J S s H locs) (hlsz : ls.size = (me mi).2.2.1) (hR1 : S'.1 - c0 ≤ R.cells) (hR2 : S'.2.1 - m0 ≤ R.slots)
    (kk : ∀ (H' : Heap) (locs' : List Loc), qm_I D cl cA qs st ρ fv base J S' s H' locs' → W p l e R s m args below meth c H' locs' (S'.1 - c0) (S'.2.1 - m0) Q (F0 m pc' ls (sk'.map (qm_rl st base fv)))) : pl' = pl ∧ W p l e R s m args below meth c H locs (S.1 - c0) (S.2.1 - m0) Q (F0 m pc ls (sk.map (qm_rl st base fv))) := by
  obtain ⟨hx, hb, hml, hown, hmn, hts, hfr, hlo, hK, hZ, hN, hsz, h1001⟩ := h2
  obtain ⟨⟨hρ, hfv, h06⟩, e2, e3, ⟨e4, e4'⟩, e5, e6, e7, ⟨t14, t15, q14, q15, q0, so06⟩, e9⟩ := id h3
  obtain ⟨hP, hS⟩ := id hI
  have hD := qm_ws_D (qs := qs) (cA := cA) (st := st) (base := base) (J := J) (ρ := ρ) (fv := fv) (S := S)
  obtain ⟨hd, rfl⟩ := pm_d_of (show pm_d _ _ _ _ 1 = true from hq)
  simp only [qm_x] at h
  split at h
  · rename_i u b i s0 a r
    simp only [qm_sv_c, qm_vv_i, true_and] at hsv
    cases hT : T.2.2 s0 with
    | true => rw [hT] at h; cases h
    | false =>
      rw [hT] at h
      simp only [cond_false] at h
      split at h
      · rename_i v hqs
        replace h := pm_cond h
        obtain ⟨hc, h⟩ := h
        rw [Bool.and_eq_true] at hc
        have g1 := Nat.eq_of_beq_eq_true hc.1
        have g2 := Nat.eq_of_beq_eq_true hc.2
        subst g1 g2
        obtain ⟨hg, rfl, rfl, rfl, rfl⟩ := qm_n_inj h
        refine ⟨rfl, ?_⟩
        obtain ⟨h30, hcase⟩ := qm_arr h3 hok hsv.2.1 hqs (by decide)
        rcases hcase with ⟨hT', -, -⟩ | ⟨-, g1, g2, -⟩ | ⟨-, h0, hrl⟩
        · rw [hT] at hT'; cases hT'
        · have hin := pm_ib_of hg
          rw [g1, g2, qm_len_e e4] at hin
          exact absurd (Or.inr (Nat.zero_le _)) hin
        have hin := pm_ib_of hg
        rw [qm_len_d hT h0] at hin
        obtain ⟨t25, n25⟩ := h1.2.2.1
        have hso : so 25 b := by
          rcases qm_vr_of hsv.1 (by decide) with h | h
          · exact h
          · have := qm_dvs hok h
            rw [t25] at this; cases this
        have hblt := (e2 _ _ hso).2.1
        have hat := qm_at_dv (qs := qs) (cA := cA) (st := st) (base := base) (ρ := ρ) (fv := fv) h0
        have hlc : ∀ S1 : qm_S, qm_lc qs cA st base S1 s0 a = .inl (cA 6, S1.2.2.2.1 a, .inr (.inr (.inr (.inr fun j => qm_rf st base 25 (S1.2.2.2.2.1 s0 a j))))) := by
          intro S1
          unfold qm_lc
          rw [hqs]
          rfl
        rw [hlc] at hat
        have hr : ∃ cellV : Cell, H[st 25 b]? = some cellV ∧ cellV.vm.isStatics = false ∧ s.vm.findClass "java/lang/Integer" = some cellV.cls := by
          have hc25 := n25
          unfold qm_cn at hc25
          split at hc25
          · rename_i c2 ks hq25
            split at hc25
            · rename_i C T' N hcl
              obtain ⟨g, -⟩ := hZ.2.2.2.2.2.2.2.2.2 25 b _ ks C T' N hso (by decide) t25 hq25 hcl
              have hc25 : C = "java/lang/Integer" := hc25
              obtain ⟨cell, q1, q2, q3, -⟩ := g.kept hS.2.1
              rw [hc25] at q3
              exact ⟨cell, q1, q2, q3⟩
            · exact absurd (show ("" : String) = "java/lang/Integer" from hc25) (by decide)
          · exact absurd (show ("" : String) = "java/lang/Integer" from hc25) (by decide)
        simp only [List.map_cons]
        rw [hrl, qm_rl_so hblt (by decide)]
        refine vb_astq hx hb hK hP hD hS (a - 1001) 6 hat (qm_tys_at (t := 6) (by decide)) hr (fun comp c1 g1 g2 => ?_) hin hd (fun H1 locs1 hP1 hD1 hS1 => ?_)
        · obtain ⟨c2, t2, f1, f2, f3⟩ := Cond.castable_spec (va_Nw.use (A := args) rfl hN.2.2.2.2.2.1)
          cases g2.symm.trans f1
          cases g1.symm.trans f2
          exact f3
        · refine kk H1 locs1 ⟨?_, hS1⟩
          rw [← qm_wsG (qs := qs) (cA := cA) (st := st) (base := base) (ρ := ρ) (fv := fv) (G' := qm_ug S.2.2.2.2.1 s0 a i.toNatClampNeg b) h0 (fun x hx s' => qm_ug_at hx s'), hlc]
          have e : (fun j => qm_rf st base 25 ((qm_sG S (qm_ug S.2.2.2.2.1 s0 a i.toNatClampNeg b)).2.2.2.2.1 s0 a j)) = va_up (fun j => qm_rf st base 25 (S.2.2.2.2.1 s0 a j)) i.toNatClampNeg (some (st 25 b)) := by
            funext j
            show qm_rf st base 25 (qm_ug S.2.2.2.2.1 s0 a i.toNatClampNeg b s0 a j) = _
            rw [qm_ug_row]
            unfold va_up
            by_cases e : j = i.toNatClampNeg
            · rw [if_pos e, if_pos e]
              unfold qm_rf qm_ad
              rw [if_neg (by have := (e2 _ _ hso).1; omega), if_pos hblt]
            · rw [if_neg e, if_neg e]
          rw [e]
          exact hP1
      · cases h
  · cases h
set_option maxHeartbeats 2000000 in
theorem qm_s_new (h1 : qm_E1 me qs T sx cl) (h2 : qm_E2 me mi p s m args meth c R D cl cA qs T so sx Rt st ρ fv base tx c0) (h3 : qm_E3 qs T so base J st fv ρ) {pc nx w : Nat} {idx : Nat} {xs : List Nat} {ci : Int32} {cj : Int64} (hq : qm_chk cl qs sx me mi (pc, .new idx, nx, w, xs, ci, cj) = true) {pl pl' : qm_L} {sk sk' : List qm_V} {S S' : qm_S} {pc' m0 : Nat}
    (h : qm_x qs T J (me mi).2.2.2.1 (pc, .new idx, nx, w, xs, ci, cj) pl sk S = some (true, .inl (pc', pl', sk', S'))) {H : Heap} {locs : List Loc} {ls : Array Slot} (hc0 : c0 ≤ S.1) (hm0 : m0 ≤ S.2.1) (hok : qm_ok qs T so J S) (hsv : qm_sv so J S sk) (hI : qm_I D cl cA qs st ρ fv base J S s H locs) (hlsz : ls.size = (me mi).2.2.1) (hR1 : S'.1 - c0 ≤ R.cells) (hR2 : S'.2.1 - m0 ≤ R.slots)
    (kk : ∀ (H' : Heap) (locs' : List Loc), qm_I D cl cA qs st ρ fv base J S' s H' locs' → W p l e R s m args below meth c H' locs' (S'.1 - c0) (S'.2.1 - m0) Q (F0 m pc' ls (sk'.map (qm_rl st base fv)))) : pl' = pl ∧ W p l e R s m args below meth c H locs (S.1 - c0) (S.2.1 - m0) Q (F0 m pc ls (sk.map (qm_rl st base fv))) := by
  obtain ⟨hx, hb, hml, hown, hmn, hts, hfr, hlo, hK, hZ, hN, hsz, h1001⟩ := h2
  obtain ⟨⟨hρ, hfv, h06⟩, e2, e3, ⟨e4, e4'⟩, e5, e6, e7, ⟨t14, t15, q14, q15, q0, so06⟩, e9⟩ := id h3
  obtain ⟨hP, hS⟩ := id hI
  have hD := qm_ws_D (qs := qs) (cA := cA) (st := st) (base := base) (J := J) (ρ := ρ) (fv := fv) (S := S)
  simp only [qm_chk, Bool.and_eq_true] at hq
  obtain ⟨hd0, hq⟩ := hq
  obtain ⟨hd, rfl⟩ := pm_d_of hd0
  split at hq
  · rename_i C T' N hcl
    simp only [Bool.and_eq_true] at hq
    obtain ⟨q1, q2, q3, q4⟩ := hq
    obtain ⟨ty, hin, hnm, hty, hkt, hkt0⟩ := h1.2.1 _ _ _ _ hcl
    have hKn := hK.1 _ _ hcl
    simp only [qm_x] at h
    cases hz0 : Nat.beq (xs.getD 0 99) 0 with
    | true =>
      rw [hz0] at h q4
      simp only [cond_true] at h q4
      have q4 := Nat.eq_of_beq_eq_true q4
      obtain ⟨hg, rfl, rfl, rfl, rfl⟩ := qm_n_inj h
      refine ⟨rfl, ?_⟩
      rw [Bool.and_eq_true] at hg
      have hgn := Nat.eq_of_beq_eq_true hg.1
      have hgc := Nat.eq_of_beq_eq_true hg.2
      · have hsg : pt_Sg 0 = .inr (0, pt_K0) := rfl
        obtain ⟨hlen, hkt⟩ := hkt0 q4 _ hsg
        rw [q4] at hcl hKn
        have hw : pm_sz (pt_Sg 0) = N := by rw [hsg]; exact hlen
        have hR1 : S.1 + 1 - c0 ≤ R.cells := hR1
        have hR2 : S.2.1 + pm_sz (pt_Sg 0) - m0 ≤ R.slots := hR2
        rw [hw] at hR2 kk
        refine qm_siz hsz h1001 hc0 hI fun hz => ?_
        refine W.newcK hx hb hown (hts _ (qm_wk_of q1)) (hts _ (qm_wk_of q2)) (hts _ (qm_wk_of q3)) rfl hd (by omega) (by omega) hKn.2.1 hz (fun H1 kC hkC e1 z1 o1 => ?_)
        obtain ⟨k1, k2⟩ := hok.c0 (w := N) (C := (1, pm_cg S.2.2.2.2.2.2.2.1 0, pm_ci S.2.2.2.2.2.2.2.2.1 0, pm_cl S.2.2.2.2.2.2.2.2.2 0)) hgn hgc rfl
        have hold : ∀ b, 1001 ≤ b → b < S.1 → qm_cell qs cA st base J ρ fv (S.1 + 1, S.2.1 + N, S.2.2.1, S.2.2.2.1, S.2.2.2.2.1, S.2.2.2.2.2.1, ((1, pm_cg S.2.2.2.2.2.2.2.1 0, pm_ci S.2.2.2.2.2.2.2.2.1 0, pm_cl S.2.2.2.2.2.2.2.2.2 0) : pm_S)) b = qm_cell qs cA st base J ρ fv S b := by
          intro b _ hb
          have hbk : qm_bk J S b = false := by
            unfold qm_bk
            rw [show Nat.ble (1001 + J) b = false from by
              cases hb2 : Nat.ble (1001 + J) b with
              | false => rfl
              | true => have := Nat.le_of_ble_eq_true hb2; omega]
            rfl
          unfold qm_cell
          rw [(k2.2.2 b hb).2, hbk, if_neg (by decide), if_neg (by decide)]
          exact qm_lc_eq rfl rfl rfl
        have hk := kk H1 locs ⟨qm_P_push hok.1 hP (fun q hq => o1 q (by omega)) rfl hold ?_, ⟨Nat.le_trans hS.1 (by omega), fun x g1 g2 => (o1 x (by have := hS.1; omega)).trans (hS.2.1 x g1 g2), hS.2.2⟩⟩
        · rw [List.map_cons, qm_rl_so (by decide) (by decide), h06] at hk
          rw [show S.1 - c0 + 1 = S.1 + 1 - c0 by omega, show S.2.1 - m0 + N = S.2.1 + N - m0 by omega, show base + (S.1 - 1001) = base + J by omega]
          exact hk
        · have hbk : qm_bk J (S.1 + 1, S.2.1 + N, S.2.2.1, S.2.2.2.1, S.2.2.2.2.1, S.2.2.2.2.2.1, ((1, pm_cg S.2.2.2.2.2.2.2.1 0, pm_ci S.2.2.2.2.2.2.2.2.1 0, pm_cl S.2.2.2.2.2.2.2.2.2 0) : pm_S)) S.1 = true := by
            show (Nat.ble (1001 + J) S.1 && Nat.blt S.1 (1001 + J + 1)) = true
            rw [hgn, show Nat.ble (1001 + J) (1001 + J) = true from Nat.ble_eq_true_of_le (Nat.le_refl _), show Nat.blt (1001 + J) (1001 + J + 1) = true from by simp [Nat.blt_eq]]
            rfl
          unfold qm_cell
          rw [if_pos hbk, show S.1 - (1001 + J) = 0 by omega, hsg]
          refine ⟨_, hcl, ?_⟩
          have hb0 := (u_born ty hts (fun w hw => hin w hw) hKn hkC e1 hty)
          refine hb0.to fun j hj => ?_
          have hjk : j < pt_K0.length := by omega
          show _ = List.getD (List.mapIdx _ pt_K0) j Value.null
          rw [List.getD_eq_getElem?_getD, List.getElem?_mapIdx, List.getElem?_eq_getElem hjk]
          have g := hkt j hj
          rw [List.getD_eq_getElem?_getD, List.getElem?_eq_getElem hjk] at g
          simp only [Option.getD_some, Option.map_some] at g ⊢
          match hkd : pt_K0[j], g with
          | 0, g => rw [show ty j = .int from g]; exact congrArg Value.int (show (0 : Int32) = pm_ci S.2.2.2.2.2.2.2.2.1 0 0 j from pm_ci_row.symm)
          | 1, g => rw [show ty j = .long from g]; exact congrArg Value.long (show (0 : Int64) = pm_cl S.2.2.2.2.2.2.2.2.2 0 0 j from pm_cl_row.symm)
          | 2, g => rw [show ty j = .boolean from g]; exact congrArg Value.int (show (0 : Int32) = pm_ci S.2.2.2.2.2.2.2.2.1 0 0 j from pm_ci_row.symm)
          | 3, g =>
            have e0 : pm_val ρ fv ((1, pm_cg S.2.2.2.2.2.2.2.1 0, pm_ci S.2.2.2.2.2.2.2.2.1 0, pm_cl S.2.2.2.2.2.2.2.2.2 0) : pm_S) 0 j 3 = .null := by
              show (match pm_cg S.2.2.2.2.2.2.2.1 0 0 j with | 0 => Value.null | j + 1 => pm_rl ρ fv (.ref j)) = _
              rw [pm_cg_row]
            rw [e0]
            rcases (show (∃ n, ty j = .object n) ∨ ∃ t, ty j = .array t from g) with ⟨n, hn⟩ | ⟨n, hn⟩ <;> rw [hn] <;> rfl
          | (n + 4), g => exact absurd g (by intro h; exact h)
    | false =>
      rw [hz0] at h
      simp only [cond_false] at h
      split at h
      · rename_i c2 ks hqs
        replace h := pm_cond h
        obtain ⟨hc, h⟩ := h
        rw [Bool.and_eq_true] at hc
        have hc2 := Nat.eq_of_beq_eq_true hc.1
        have hT : T.2.2 (xs.getD 0 99) = false := by simpa using hc.2
        obtain ⟨hg, rfl, rfl, rfl, rfl⟩ := qm_n_inj h
        refine ⟨rfl, ?_⟩
        subst hc2
        obtain ⟨hlen, hkt⟩ := hkt _ _ hqs hT
        have hR1 : S.1 + 1 - c0 ≤ R.cells := hR1
        have hR2 : S.2.1 + ks.length - m0 ≤ R.slots := hR2
        refine qm_siz hsz h1001 hc0 hI fun hz => ?_
        refine W.newcK hx hb hown (hts _ (qm_wk_of q1)) (hts _ (qm_wk_of q2)) (hts _ (qm_wk_of q3)) rfl hd (by omega) (by omega) hKn.2.1 hz (fun H1 kC hkC e1 z1 o1 => ?_)
        obtain ⟨k1, k2, k3⟩ := hok.mk (s := xs.getD 0 99) (w := ks.length) (N' := qm_un S.2.2.2.1 S.1 ks.length) (I' := qm_ci S.2.2.2.2.2.1 (xs.getD 0 99) S.1) hT
        have hk := kk H1 locs ⟨qm_P_push (S' := qm_mk S (xs.getD 0 99) ks.length) hok.1 hP (fun q hq => o1 q (by omega)) rfl (fun b _ hb => qm_mk_old (fun a s' ha => qm_ci_at ha s') b hb) ?_, ⟨Nat.le_trans hS.1 (by omega), fun x g1 g2 => (o1 x (by have := hS.1; omega)).trans (hS.2.1 x g1 g2), hS.2.2⟩⟩
        · rw [List.map_cons, qm_rl_dv k3 (e7 _ hT).2.1] at hk
          have hk : W p l e R s m args below meth c H1 locs (S.1 + 1 - c0) (S.2.1 + ks.length - m0) Q (F0 m (pc + 3) ls (.ref (base + (S.1 - 1001)) :: sk.map (qm_rl st base fv))) := hk
          rw [hlen] at hk
          rw [show S.1 - c0 + 1 = S.1 + 1 - c0 by omega, show S.2.1 - m0 + N = S.2.1 + N - m0 by omega]
          exact hk
        · have hcell : qm_cell qs cA st base J ρ fv (qm_mk S (xs.getD 0 99) ks.length) S.1 = .inr (xs.getD 1 99, ks.mapIdx fun k kd => qm_val st base (qm_mk S (xs.getD 0 99) ks.length) (xs.getD 0 99) S.1 k kd) := by
            refine (qm_cell_dv k3).trans ?_
            unfold qm_lc
            rw [hqs]
            rfl
          rw [hcell]
          refine ⟨_, hcl, (u_born ty hts hin hKn hkC e1 hty).to fun j hj => ?_⟩
          have hjk : j < ks.length := by omega
          show _ = List.getD (List.mapIdx _ ks) j Value.null
          rw [List.getD_eq_getElem?_getD, List.getElem?_mapIdx, List.getElem?_eq_getElem hjk]
          have g := hkt j hj
          rw [List.getD_eq_getElem?_getD, List.getElem?_eq_getElem hjk] at g
          simp only [Option.getD_some, Option.map_some] at g ⊢
          unfold qm_val
          have hI0 : (qm_mk S (xs.getD 0 99) ks.length).2.2.2.2.2.1 (xs.getD 0 99) S.1 j = 0 := qm_ci_s j
          have hG0 : (qm_mk S (xs.getD 0 99) ks.length).2.2.2.2.1 (xs.getD 0 99) S.1 j = 0 := qm_cg_s j
          by_cases e3 : (ks[j]).1 = 3
          · rw [if_pos e3, hG0]
            rw [e3] at g
            rcases (show (∃ n, ty j = .object n) ∨ ∃ t, ty j = .array t from g) with ⟨n, hn⟩ | ⟨n, hn⟩ <;> rw [hn] <;> rfl
          · rw [if_neg e3, hI0]
            generalize (ks[j]).1 = kd at g e3
            match kd, g, e3 with
            | 0, g, _ => rw [show ty j = .int from g]; rfl
            | 2, g, _ => rw [show ty j = .boolean from g]; rfl
            | 4, g, _ => rw [show ty j = .byte from g]; rfl
            | 3, _, e3 => exact absurd rfl e3
            | 1, g, _ => exact absurd g (by intro h; exact h)
            | (n + 5), g, _ => exact absurd g (by intro h; exact h)
      · cases h
  · cases hq
end
