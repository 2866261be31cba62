/-! ===== the law's machine's runs are the machine's: the class called, all together ===== -/
section
variable {p : Program} {l : Launch} {e : Env} {R : Room} {s : State} {m : MethodId} {args : Array Value} {below : List Frame} {meth : Method} {c : Code} {Q : State → Prop}
variable {me : Nat → pm_Me} {D : va_G} {cl : List vw_C} {cA : Nat → ClassId} {qs : Nat → qm_K} {T : qm_T} {J base : Nat} {so : Nat → Nat → Prop} {sx : qm_X} {Rt : pm_T} {st : Nat → Nat → Nat} {fv : Value} {ρ : Nat → Nat} {tx : String} {mi c0 : Nat}
set_option maxHeartbeats 2000000 in
theorem qm_clc (h1 : qm_E1 me qs T sx cl) (h2 : qm_E2 me mi p s m args meth c R D cl cA qs T so sx Rt st ρ fv base tx c0) (h3 : qm_E3 qs T so base J st fv ρ) {pc nx w : Nat} {ins : Instr} {xs : List Nat} {ci : Int32} {cj : Int64} (hq : qm_chk cl qs sx me mi (pc, ins, nx, w, xs, ci, cj) = true) {pl pl' : qm_L} {sk sk' as : List qm_V} {S S1 S2 : qm_S} {mj nx' m0 : Nat} {v1 : Option qm_V}
    (h : qm_x qs T J (me mi).2.2.2.1 (pc, ins, nx, w, xs, ci, cj) pl sk S = some (true, .inr (.inr (.inr (.inl (true, mj, as, nx', pl', sk', S1)))))) {H : Heap} {locs : List Loc} {ls : Array Slot} (hc0 : c0 ≤ S.1) (hm0 : m0 ≤ S.2.1) (hok : qm_ok qs T so J S) (hsv : qm_sv so J S sk) (hI : qm_I D cl cA qs st ρ fv base J S s H locs) (hlsz : ls.size = (me mi).2.2.1)
    (hE1 : pm_E1 pt_me pt_Sg cl) (hRt : ∀ r x, Rt r = some x → 200 ≤ r ∧ r ≠ 204 ∧ x.1 ≤ 3) {n : Nat} {v : Option Value} {C' : pm_S} (hg : (Nat.beq S.2.2.2.2.2.2.1 49 || (Nat.beq S.2.2.2.2.2.2.1 1 && Nat.beq S.1 (1002 + J))) = true) (hcls : as.all qm_cls = true) (hwd0 : Nat.ble (pm_wd (as.map qm_av)) (pt_me mj).2.2.1 = true) (hrun : pm_run pt_me pt_Sg Rt n mj 0 (pm_en (pt_me mj).2.2.1 (as.map qm_av)) [] S.2.2.2.2.2.2 = some (v, C')) (hv1 : (v = none ∧ v1 = none) ∨ ∃ x, v = some (.int x) ∧ v1 = some (.inl x)) (hsv2 : qm_sv so J S as) (hS2 : S2 = qm_oS S C')
    (hR1 : S2.1 - c0 ≤ R.cells) (hR2 : S2.2.1 - m0 ≤ R.slots)
    (kk : ∀ (H1 : Heap) (locs1 : List Loc), qm_I D cl cA qs st ρ fv base J S2 s H1 locs1 → W p l e R s m args below meth c H1 locs1 (S2.1 - c0) (S2.2.1 - m0) Q (F0 m nx' ls ((v1.toList ++ sk').map (qm_rl st base fv)))) :
    W p l e R s m args below meth c H locs (S.1 - c0) (S.2.1 - m0) Q (F0 m pc ls (sk.map (qm_rl st base fv))) := by
  obtain ⟨hx, hb, hml, hown, hmn, hts, hfr, hlo, hK, hZ, hN, hsz, h1001⟩ := h2
  obtain ⟨⟨hρ, hfv, h06⟩, e2, e3, ⟨e4, e4'⟩, e5, e6, e7, ⟨t14, t15, q14, q15, q0, so06⟩, e9⟩ := id h3
  obtain ⟨hP, hS⟩ := id hI
  subst hS2
  have hcnt := pm_cnt n hrun
  have h49 := pm_cnt49 n hrun hok.2.1
  obtain ⟨hok2, hmo2⟩ := hok.oS hg hcnt h49
  have hcase : (S.2.2.2.2.2.2.1 = 49 ∧ C'.1 = 49 ∧ 1050 + J ≤ S.1) ∨ (S.2.2.2.2.2.2.1 = 1 ∧ S.1 = 1002 + J) := by
    rw [Bool.or_eq_true, Bool.and_eq_true] at hg
    rcases hg with hg | ⟨g1, g2⟩
    · have h1 := Nat.eq_of_beq_eq_true hg
      have := hok.2.2.1 (by omega)
      exact Or.inl ⟨h1, by omega, by omega⟩
    · exact Or.inr ⟨Nat.eq_of_beq_eq_true g1, Nat.eq_of_beq_eq_true g2⟩
  have hmono := pm_ss_mono pt_Sg hcnt
  have ec : S.1 - c0 + (C'.1 - S.2.2.2.2.2.2.1) = (qm_oS S C').1 - c0 := by show _ = S.1 + (C'.1 - S.2.2.2.2.2.2.1) - c0; omega
  have es : S.2.1 - m0 + (pm_ss pt_Sg C'.1 - pm_ss pt_Sg S.2.2.2.2.2.2.1) = (qm_oS S C').2.1 - m0 := by show _ = S.2.1 + (pm_ss pt_Sg C'.1 - pm_ss pt_Sg S.2.2.2.2.2.2.1) - m0; omega
  have hf : S.1 - c0 + (C'.1 - S.2.2.2.2.2.2.1) ≤ R.cells ∧ S.2.1 - m0 + (pm_ss pt_Sg C'.1 - pm_ss pt_Sg S.2.2.2.2.2.2.1) ≤ R.slots := by rw [ec, es]; exact ⟨hR1, hR2⟩
  have hwd : ∀ r : List qm_V, ((r.map (qm_rl st base fv)).map fun v => v.category).sum = r.length := by
    intro r
    rw [List.map_map]
    have : ((fun v => v.category) ∘ qm_rl st base fv) = fun _ => 1 := funext fun v => qm_rl_cat hfv v
    rw [this]
    exact qm_wd1 r
  -- the class' world
  generalize hAA : (fun q : Nat => base + J ≤ q ∧ q < base + J + 49 ∨ (base + (S.1 - 1001) ≤ q ∧ base + J ≤ q)) = AA
  have hAA1 : ∀ a, a < 49 → AA (base + J + a) := fun a ha => by rw [← hAA]; exact Or.inl ⟨by omega, by omega⟩
  have hAA2 : ∀ q, AA q → base ≤ q := fun q hq => by rw [← hAA] at hq; rcases hq with hq | hq <;> omega
  have h3p : pm_E3 Rt ρ fv ((base + J, base + (S.1 - 1001) - S.2.2.2.2.2.2.1, AA) : pm_B) := ⟨⟨hρ, hAA1⟩, hfv, hRt⟩
  have hargs : (as.map qm_av).map (pm_rl ρ fv) = as.map (qm_rl st base fv) := by
    rw [List.map_map]
    refine List.map_congr_left fun x hx => ?_
    have h1 := List.all_eq_true.mp hcls x hx
    have h2 := hsv2 x hx
    rcases x with x | ⟨s0, a⟩
    · rfl
    · have hs0 := Nat.eq_of_beq_eq_true (show Nat.beq s0 0 = true from h1)
      subst hs0
      have ha : a = 6 := by
        rcases qm_vr_of h2 (by decide) with g | g
        · exact so06 a g
        · have := e7 0 (qm_dvs hok g)
          exact absurd rfl this.1
      subst ha
      show pm_rl ρ fv (.ref 0) = qm_rl st base fv (.inr (0, 6))
      rw [qm_rl_so (by decide) (by decide), h06]
      show (if (0 : Nat) = 204 then fv else Value.ref (ρ 0)) = _
      rw [if_neg (by decide), hρ 0 (by decide)]
      rfl
  have hpc : H.size = base + (S.1 - 1001) → ∀ U : State, U.heap = H → s.WarmedH U.vm → pm_Pc D cl cA pt_Sg Rt ρ fv ((base + J, base + (S.1 - 1001) - S.2.2.2.2.2.2.1, AA) : pm_B) tx (as.map qm_av) S.2.2.2.2.2.2 (as.map (qm_rl st base fv)).toArray U := by
    intro hz U hU hW
    refine ⟨by rw [hargs], ?_, ?_, ?_, ?_, hN.1.warm hW, hok.2.1⟩
    · rw [hU, hz]
      refine ⟨?_, ?_⟩
      · show base + (S.1 - 1001) = base + (S.1 - 1001) - S.2.2.2.2.2.2.1 + S.2.2.2.2.2.2.1
        rcases hcase with h | h <;> omega
      · show base + (S.1 - 1001) - S.2.2.2.2.2.2.1 = base + J ∨ 49 ≤ S.2.2.2.2.2.2.1
        rcases hcase with h | h
        · exact Or.inr (by omega)
        · exact Or.inl (by omega)
    · rw [hU]
      intro k q hk
      obtain ⟨hk1, rfl⟩ := pm_ws_mem hk
      have hlt : 1001 + J + k < S.1 := by
        have := hok.2.2.1 (by omega)
        omega
      have hat := qm_ws_at (qs := qs) (cA := cA) (st := st) (base := base) (J := J) (ρ := ρ) (fv := fv) (S := S) (a := 1001 + J + k) (by omega) hlt
      have hbk : qm_bk J S (1001 + J + k) = true := by
        unfold qm_bk
        rw [show Nat.ble (1001 + J) (1001 + J + k) = true from Nat.ble_eq_true_of_le (by omega), show Nat.blt (1001 + J + k) (1001 + J + S.2.2.2.2.2.2.1) = true from by simp [Nat.blt_eq]; omega]
        rfl
      have hcell : qm_cell qs cA st base J ρ fv S (1001 + J + k) = pm_cell ρ fv cA (pt_Sg k) S.2.2.2.2.2.2 k := by
        unfold qm_cell
        rw [if_pos hbk, Nat.add_sub_cancel_left]
      rw [hcell] at hat
      have := hP _ _ hat
      rw [show base + (1001 + J + k - 1001) = ρ k by rw [hρ k (by have := hok.2.1; omega)]; omega] at this
      exact this
    · exact va_K.moved hW.alike (hK.sub [0, 1, 2, 3] rfl)
    · rw [hU]
      exact ((hZ.1.kept hS.2.1).narrow hAA2).moved hW.alike
  have hMet := fun (hpl : plainFor (pt_me mj).1 = true) => pm_Met (l := l) (D := D) (cA := cA) (tx := tx) hE1 h3p hwd0 hrun hpl
  have hst : ∀ {rest : List Value} {st0 : List Value} {a : Array Value} {pc0 : Nat}, rest = sk'.map (qm_rl st base fv) → nx' = pc0 + 3 → va_Run p l e R s m args below meth c H locs (S.1 - c0) (S.2.1 - m0) (C'.1 - S.2.2.2.2.2.2.1) (pm_ss pt_Sg C'.1 - pm_ss pt_Sg S.2.2.2.2.2.2.1) (F0 m pc0 ls st0) rest (pm_Qc D cl cA pt_Sg ρ fv ((base + J, base + (S.1 - 1001) - S.2.2.2.2.2.2.1, AA) : pm_B) v C' a) AA → H.size = base + (S.1 - 1001) → W p l e R s m args below meth c H locs (S.1 - c0) (S.2.1 - m0) Q (F0 m pc0 ls st0) := by
    intro rest st0 a pc0 hrest hnx hr hz T0 hT X
    obtain ⟨v2, st₀, t, T', L, h0, X', hL, e1', e2', ⟨hv, hP1, ⟨hz1, hk1⟩, hn⟩, stp⟩ := hr T0 hT X
    cases hv
    rw [h0] at hz1 hk1
    have hnew : va_P D cl (qm_ws qs cA st base J ρ fv (qm_oS S C')) T'.heap := by
      rw [e1']
      intro k q hk
      obtain ⟨hkl, rfl⟩ := qm_ws_mem hk
      have hkl : k < S.1 + (C'.1 - S.2.2.2.2.2.2.1) - 1001 := hkl
      have hS1 := hok.1
      cases hbk : qm_bk J (qm_oS S C') (1001 + k) with
      | true =>
        have hcell : qm_cell qs cA st base J ρ fv (qm_oS S C') (1001 + k) = pm_cell ρ fv cA (pt_Sg (1001 + k - (1001 + J))) C' (1001 + k - (1001 + J)) := by
          unfold qm_cell
          rw [if_pos hbk]
          rfl
        unfold qm_bk at hbk
        rw [Bool.and_eq_true] at hbk
        have b1 := Nat.le_of_ble_eq_true hbk.1
        have b2 := hbk.2
        rw [Nat.blt_eq] at b2
        have b2 : 1001 + k < 1001 + J + C'.1 := b2
        rw [hcell]
        have hat := pm_ws_at (ρ := ρ) (fv := fv) (cA := cA) (Sg := pt_Sg) (S := C') (r := 1001 + k - (1001 + J)) (by omega)
        have := hP1 _ _ hat
        rw [hρ _ (by omega), show base + J + (1001 + k - (1001 + J)) = base + k by omega] at this
        exact this
      | false =>
        have hlt : 1001 + k < S.1 := by
          rcases hcase with ⟨h1, h2, -⟩ | ⟨h1, h2⟩
          · omega
          · apply Decidable.byContradiction
            intro hc
            unfold qm_bk at hbk
            rw [show Nat.ble (1001 + J) (1001 + k) = true from Nat.ble_eq_true_of_le (by omega), show Nat.blt (1001 + k) (1001 + J + (qm_oS S C').2.2.2.2.2.2.1) = true from by
              have : 1001 + k < 1001 + J + (qm_oS S C').2.2.2.2.2.2.1 := by
                show 1001 + k < 1001 + J + C'.1
                omega
              exact Nat.blt_eq.mpr this] at hbk
            cases hbk
        have hcell : qm_cell qs cA st base J ρ fv (qm_oS S C') (1001 + k) = qm_cell qs cA st base J ρ fv S (1001 + k) := by
          have hb0 := (hmo2.2.2 _ hlt).2
          unfold qm_cell
          rw [hbk, ← hb0, hbk, if_neg (by decide), if_neg (by decide)]
          exact qm_lc_eq rfl rfl rfl
        rw [hcell]
        have hat := qm_ws_at (qs := qs) (cA := cA) (st := st) (base := base) (J := J) (ρ := ρ) (fv := fv) (S := S) (a := 1001 + k) (by omega) hlt
        rw [Nat.add_sub_cancel_left] at hat
        have h2 := hP _ _ hat
        have hltH : base + k < H.size := h2.lt
        refine h2.kept (hk1 _ hltH ?_)
        rw [← hAA]
        have hb0 : qm_bk J S (1001 + k) = false := by rw [← (hmo2.2.2 _ hlt).2]; exact hbk
        have hnb : ¬ (1001 + J ≤ 1001 + k ∧ 1001 + k < 1001 + J + S.2.2.2.2.2.2.1) := by
          intro ⟨q1, q2⟩
          unfold qm_bk at hb0
          rw [show Nat.ble (1001 + J) (1001 + k) = true from Nat.ble_eq_true_of_le q1, show Nat.blt (1001 + k) (1001 + J + S.2.2.2.2.2.2.1) = true from by simpa [Nat.blt_eq] using q2] at hb0
          cases hb0
        intro hq
        rcases hcase with ⟨h1, h2, h3⟩ | ⟨h1, h2⟩ <;> rcases hq with hq | hq <;> omega
    obtain ⟨t2, a1, b1⟩ := kk T'.heap (locs ++ L) ⟨hnew, ⟨Nat.le_trans hS.1 (by rw [e1']; exact hz1), fun q h1 h2 => by rw [e1', hk1 q (Nat.lt_of_lt_of_le h1 hS.1) (fun hq => h2 (hAA2 q hq))]; exact hS.2.1 q h1 h2, fun q hq => by
        rcases List.mem_append.mp hq with h | h
        · exact hS.2.2 q h
        · exact hAA2 _ (hL q h)⟩⟩ T' rfl (by rw [← ec, ← es]; exact X')
    refine ⟨t2, stp t2 ?_, b1⟩
    have hvv : (v.map (pm_rl ρ fv)).toList ++ rest = (v1.toList ++ sk').map (qm_rl st base fv) := by
      rw [List.map_append, hrest]
      rcases hv1 with ⟨rfl, rfl⟩ | ⟨x, rfl, rfl⟩ <;> rfl
    rw [hnx] at a1
    show Steps p.tables e below (T'.setTop (F0 m (pc0 + 3) ls ((v.map (pm_rl ρ fv)).toList ++ rest))) t2
    rw [hvv]
    exact a1
  have hrecv : ∃ cellB : Cell, H[base + J]? = some cellB ∧ cellB.vm.isStatics = false ∧ s.vm.findClass "TurnCabinet" = some cellB.cls := by
    obtain ⟨T0, N0, hc0'⟩ := h1.2.2.2.1
    have hpos : 0 < S.2.2.2.2.2.2.1 := by rcases hcase with h | h <;> omega
    have hlt : 1001 + J < S.1 := by have := hok.2.2.1 hpos; omega
    have hat := qm_ws_at (qs := qs) (cA := cA) (st := st) (base := base) (J := J) (ρ := ρ) (fv := fv) (S := S) (a := 1001 + J) (by omega) hlt
    have hbk : qm_bk J S (1001 + J) = true := by
      unfold qm_bk
      rw [show Nat.ble (1001 + J) (1001 + J) = true from Nat.ble_eq_true_of_le (Nat.le_refl _), show Nat.blt (1001 + J) (1001 + J + S.2.2.2.2.2.2.1) = true from by simp [Nat.blt_eq]; omega]
      rfl
    have hcell : qm_cell qs cA st base J ρ fv S (1001 + J) = .inr (0, pt_K0.mapIdx fun k kd => pm_val ρ fv S.2.2.2.2.2.2 0 k kd) := by
      unfold qm_cell
      rw [if_pos hbk, Nat.sub_self]
      rfl
    rw [hcell, show base + (1001 + J - 1001) = base + J by omega] at hat
    exact va_recv hK hP hc0' hat
  rcases qm_calls h with ⟨idx, rfl, h9, h⟩ | ⟨idx, rfl, hxs, h⟩ | ⟨idx, rfl, h9, h⟩ | ⟨idx, cnt, rfl, h⟩
  · simp only [qm_chk, Bool.and_eq_true] at hq
    obtain ⟨hd0, hq⟩ := hq
    obtain ⟨hd, rfl⟩ := pm_d_of hd0
    rw [h9] at hq
    obtain ⟨rfl, rfl, rfl, rfl, hcl, hpop, h8, s0, a, as0, rfl, hpl⟩ := qm_callV_of h
    obtain ⟨e1, e2'⟩ := qm_lst (st := st) (base := base) (fv := fv) hpop
    have e3' : (as0.map (qm_rl st base fv)).length = xs.getD 1 0 - 1 := by
      rw [List.length_map]
      exact Nat.eq_sub_of_add_eq e2'
    refine qm_siz hsz h1001 hc0 hI fun hz => ?_
    have hpc2 := hpc hz
    have hmr : 2 * (F0 m pc ls (sk.map (qm_rl st base fv))).monitorRoom + ((sk'.map (qm_rl st base fv)).map fun v => v.category).sum ≤ 8 := lv_room (by rw [hwd]; exact h8)
    rcases qm_ck0 hq with ⟨ht, hq⟩ | ⟨ht, hq⟩ | ⟨ht, hq⟩
    · rw [qm_gd99 ht (by decide)] at hcl
      cases hcl
    · rw [qm_gd99 ht (by decide)] at hcl
      cases hcl
    · simp only [qm_kC, Bool.and_eq_true] at hq
      obtain ⟨q1, q2, q3, q4, q5⟩ := hq
      obtain ⟨c1, c2, c3, c4, c5, c6, c7, c8⟩ := qm_ccc_of q4
      have hs0 : s0 = 0 := by
        split at q5
        · rename_i hdr
          rw [hdr] at hpl
          rw [List.any_cons, List.any_nil, Bool.or_false] at hpl
          exact Nat.eq_of_beq_eq_true hpl
        · cases q5
      subst hs0
      have ha : a = 6 := by
        rcases qm_vr_of (qm_sv_c.mp hsv2).1 (by decide) with g | g
        · exact so06 a g
        · have := e7 0 (qm_dvs hok g)
          exact absurd rfl this.1
      subst ha
      have hr1 : qm_rl st base fv (.inr (0, 6)) = .ref (base + J) := by rw [qm_rl_so (by decide) (by decide), h06]
      have hm : List.map (qm_rl st base fv) (.inr (0, 6) :: as0) = .ref (base + J) :: as0.map (qm_rl st base fv) := by rw [List.map_cons, hr1]
      rw [hm] at hpc2 e1
      rw [List.reverse_cons, List.append_assoc] at e1
      exact hst (a := (Value.ref (base + J) :: as0.map (qm_rl st base fv)).toArray) rfl rfl (va_runV (As := as0.map (qm_rl st base fv)) (rest := sk'.map (qm_rl st base fv)) ⟨hx, hb, hml, hown, hts⟩ (hMet c8) ⟨callB_of (Ts := qm_G) (xs.getD 1 0 - 1) hts (qm_goodL (fun w hw => (List.mem_cons.mp hw).elim (fun e => e ▸ pm_sub c2) pm_sub)) rfl rfl rfl (hts _ (pm_sub c1)) (hts _ (qm_wk_of q1)) ⟨c3, c4, c5⟩ ⟨Nat.le_trans c6 hfr, Nat.le_trans c7 hlo⟩, hts _ (qm_wk_of q3), hts _ (qm_wk_of q2)⟩ ⟨pm_blind, hrecv, hpc2⟩ rfl e3' hlsz e1 hmr hd hf) hz
  · simp only [qm_chk, Bool.and_eq_true] at hq
    obtain ⟨hd0, hq⟩ := hq
    obtain ⟨hd, rfl⟩ := pm_d_of hd0
    obtain ⟨rfl, rfl, rfl, rfl, hcl, hpop, h8, s0, a, as0, rfl, hpl⟩ := qm_callV_of h
    have hq : qm_ck cl qs me mi idx w 1 xs = true := by
      cases xs with
      | nil => exact absurd rfl hxs
      | cons x0 xt => exact hq
    obtain ⟨e1, e2'⟩ := qm_lst (st := st) (base := base) (fv := fv) hpop
    have e3' : (as0.map (qm_rl st base fv)).length = xs.getD 1 0 - 1 := by
      rw [List.length_map]
      exact Nat.eq_sub_of_add_eq e2'
    refine qm_siz hsz h1001 hc0 hI fun hz => ?_
    have hpc2 := hpc hz
    have hmr : 2 * (F0 m pc ls (sk.map (qm_rl st base fv))).monitorRoom + ((sk'.map (qm_rl st base fv)).map fun v => v.category).sum ≤ 8 := lv_room (by rw [hwd]; exact h8)
    rcases qm_ck1 hq with ⟨ht, hq⟩ | ⟨ht, hq⟩ | ⟨ht, hq⟩
    · rw [qm_gd99 ht (by decide)] at hcl
      cases hcl
    · rw [qm_gd99 ht (by decide)] at hcl
      cases hcl
    · simp only [qm_kCI, Bool.and_eq_true] at hq
      obtain ⟨q1, q2, q3, q4, q5, q6⟩ := hq
      obtain ⟨c1, c2, c3, c4, c5, c6, c7, c8⟩ := qm_ccc_of q5
      have hs0 : s0 = 0 := by
        split at q6
        · rename_i hdr
          rw [hdr] at hpl
          rw [List.any_cons, List.any_nil, Bool.or_false] at hpl
          exact Nat.eq_of_beq_eq_true hpl
        · cases q6
      subst hs0
      have ha : a = 6 := by
        rcases qm_vr_of (qm_sv_c.mp hsv2).1 (by decide) with g | g
        · exact so06 a g
        · have := e7 0 (qm_dvs hok g)
          exact absurd rfl this.1
      subst ha
      have hr1 : qm_rl st base fv (.inr (0, 6)) = .ref (base + J) := by rw [qm_rl_so (by decide) (by decide), h06]
      have hm : List.map (qm_rl st base fv) (.inr (0, 6) :: as0) = .ref (base + J) :: as0.map (qm_rl st base fv) := by rw [List.map_cons, hr1]
      rw [hm] at hpc2 e1
      rw [List.reverse_cons, List.append_assoc] at e1
      have q4 := of_decide_eq_true q4
      have hwo : pm_wo (pt_me (xs.getD 0 0)) = Cond.code (pt_me (xs.getD 0 0)).1 (pt_me (xs.getD 0 0)).2.1 (pt_me (xs.getD 0 0)).2.2.1 none :: pm_G := by
        unfold pm_wo
        rw [q4]
      exact hst (a := (Value.ref (base + J) :: as0.map (qm_rl st base fv)).toArray) rfl rfl (va_runI (As := as0.map (qm_rl st base fv)) (rest := sk'.map (qm_rl st base fv)) ⟨hx, hb, hml, hown, hts⟩ (hMet c8) (cwI (Ts := qm_G) (xs.getD 1 0 - 1) hts (qm_goodL (fun w hw => (List.mem_cons.mp hw).elim (fun e => e ▸ pm_sub c2) pm_sub)) hwo rfl rfl (hts _ (pm_sub c1)) (hts _ (qm_wk_of q1)) (hts _ (qm_wk_of q2)) (of_decide_eq_true q3) ⟨c3, c4, c5⟩ ⟨Nat.le_trans c6 hfr, Nat.le_trans c7 hlo⟩) ⟨pm_blind, hpc2⟩ rfl e3' hlsz e1 hmr hd hf) hz
  · obtain ⟨-, -, -, -, hcl, -⟩ := qm_call_of h
    cases hcl
  · simp only [qm_chk, Bool.and_eq_true] at hq
    obtain ⟨hd0, hq⟩ := hq
    obtain ⟨rfl, rfl, rfl, rfl, hcl, hpop, h8, s0, a, as0, rfl, hpl⟩ := qm_callV_of h
    have hq := qm_ck3 hq
    unfold qm_kF at hq
    rw [Bool.and_eq_true] at hq
    have h40 := Nat.le_of_ble_eq_true hq.1
    exfalso
    rcases (Bool.or_eq_true _ _).mp hcl.symm with h | h
    · have := Nat.eq_of_beq_eq_true h
      rw [List.getD_eq_getElem?_getD] at this h40
      cases hx2 : xs[2]? with
      | none => rw [hx2] at this; cases this
      | some z => rw [hx2] at this h40; simp only [Option.getD_some] at this h40; omega
    · have := Nat.eq_of_beq_eq_true h
      rw [List.getD_eq_getElem?_getD] at this h40
      cases hx2 : xs[2]? with
      | none => rw [hx2] at this; cases this
      | some z => rw [hx2] at this h40; simp only [Option.getD_some] at this h40; omega
set_option maxHeartbeats 1000000 in
/-- what the law's machine answers, the machine answers -/
theorem qm_W {O : qm_O} (h1 : qm_E1 me qs T sx cl) (h3 : qm_E3 qs T so base J st fv ρ) (HO : qm_HO O Rt) (hE1 : pm_E1 pt_me pt_Sg cl) (hRt : ∀ r x, Rt r = some x → 200 ≤ r ∧ r ≠ 204 ∧ x.1 ≤ 3) : ∀ (n : Nat) {mi pc : Nat} {pl : qm_L} {sk : List qm_V} {S S' : qm_S} {v : Option qm_V}, qm_run O me qs T J n mi pc pl sk S = some (v, S') →
    ∀ {p : Program} {l : Launch} {e : Env} {R : Room} {s : State} {m : MethodId} {args : Array Value} {below : List Frame} {meth : Method} {c : Code} {Q : State → Prop} {c0 m0 : Nat}, qm_E2 me mi p s m args meth c R D cl cA qs T so sx Rt st ρ fv base tx c0 → c0 ≤ S.1 → m0 ≤ S.2.1 → qm_ok qs T so J S → qm_sv so J S sk → qm_lv so J S pl → S'.1 - c0 ≤ R.cells → S'.2.1 - m0 ≤ R.slots →
    (∀ (H : Heap) (locs : List Loc) (ls : Array Slot) (pc : Nat) (i : Instr), decode (me mi).2.1 pc = .ok (i, 1) → qm_rt (me mi).2.2.2.1 v i → qm_I D cl cA qs st ρ fv base J S' s H locs → W p l e R s m args below meth c H locs (S'.1 - c0) (S'.2.1 - m0) Q (F0 m pc ls (v.map (qm_rl st base fv)).toList)) →
    ∀ {H : Heap} {locs : List Loc} {ls : Array Slot}, qm_I D cl cA qs st ρ fv base J S s H locs → qm_LH st base fv (me mi).2.2.1 ls pl → W p l e R s m args below meth c H locs (S.1 - c0) (S.2.1 - m0) Q (F0 m pc ls (sk.map (qm_rl st base fv))) := by
  intro n
  induction n with
  | zero => intro mi pc pl sk S S' v h; cases h
  | succ n ih =>
    intro mi pc pl sk S S' v h p l e R s m args below meth c Q c0 m0 h2 hc0 hm0 hok hsv hlv hR1 hR2 hend H locs ls hI hL
    replace h : qm_body O me qs T J (qm_run O me qs T J n) mi pc pl sk S = some (v, S') := h
    unfold qm_body at h
    split at h
    · rename_i q hqa
      obtain ⟨hqm, hqp⟩ := pm_at_mem hqa
      have hq := h1.1 mi q hqm
      subst hqp
      cases hz : qm_x qs T J (me mi).2.2.2.1 q pl sk S with
      | none => rw [hz] at h; cases h
      | some gc =>
        obtain ⟨g, k⟩ := gc
        rw [hz] at h
        replace h := pm_cond (show (bif g then qm_dc O J me (qm_run O me qs T J n) mi k else none) = some (v, S') from h)
        obtain ⟨rfl, h⟩ := h
        have hko := qm_x_ok h3 hok hsv hlv hz
        rcases k with ⟨pc', ls', st', S1⟩ | ⟨o, x, y, t, e', ls', st', S1⟩ | ⟨x, d, ts, ls', st', S1⟩ | ⟨b, mj, as, nx, ls', st', S1⟩ | ⟨v1, S1⟩
        · obtain ⟨k1, k2, k3, k4⟩ := hko
          obtain ⟨g1, g2, g3⟩ := qm_run_ok h3 HO n h k2 k3 k4
          have := g1.1
          have := g1.2.1
          have := k1.1
          have := k1.2.1
          exact qm_next h1 h2 h3 hq hz hc0 hm0 hok hsv hI hL (by omega) (by omega) (fun H' locs' ls2 hI' hL' => ih h h2 (by omega) (by omega) k2 k3 k4 hR1 hR2 hend hI' hL')
        · obtain ⟨rfl, rfl, k3⟩ := hko
          have hb2 : qm_run O me qs T J n mi (pm_pick o x y t e') ls' st' S1 = some (v, S') := by
            rcases o with _ | _ | o
            · show qm_run O me qs T J n mi (if x = y then t else e') ls' st' S1 = _
              have h : (if x = y then qm_run O me qs T J n mi t ls' st' S1 else qm_run O me qs T J n mi e' ls' st' S1) = some (v, S') := h
              by_cases c1 : x = y
              · rw [if_pos c1] at h ⊢; exact h
              · rw [if_neg c1] at h ⊢; exact h
            · show qm_run O me qs T J n mi (if x < y then t else e') ls' st' S1 = _
              have h : (if x < y then qm_run O me qs T J n mi t ls' st' S1 else qm_run O me qs T J n mi e' ls' st' S1) = some (v, S') := h
              by_cases c1 : x < y
              · rw [if_pos c1] at h ⊢; exact h
              · rw [if_neg c1] at h ⊢; exact h
            · show qm_run O me qs T J n mi (if x ≤ y then t else e') ls' st' S1 = _
              have h : (if x ≤ y then qm_run O me qs T J n mi t ls' st' S1 else qm_run O me qs T J n mi e' ls' st' S1) = some (v, S') := h
              by_cases c1 : x ≤ y
              · rw [if_pos c1] at h ⊢; exact h
              · rw [if_neg c1] at h ⊢; exact h
          exact qm_br h2.1 h2.2.1 hq hz (ih hb2 h2 hc0 hm0 hok k3 hlv hR1 hR2 hend hI hL)
        · obtain ⟨rfl, rfl, k3⟩ := hko
          have hb2 : qm_run O me qs T J n mi (pm_wh x d ts 0) ls' st' S1 = some (v, S') := by
            have : ∀ (ts : List Nat) (j : Nat), qm_sw (fun t => qm_run O me qs T J n mi t ls' st' S1) x d ts j = qm_run O me qs T J n mi (pm_wh x d ts j) ls' st' S1 := by
              intro ts
              induction ts with
              | nil => intro j; rfl
              | cons t ts ih2 =>
                intro j
                unfold qm_sw pm_wh
                by_cases c1 : x = nI j
                · rw [if_pos c1, if_pos c1]
                · rw [if_neg c1, if_neg c1]; exact ih2 _
            exact (this ts 0).symm.trans h
          exact qm_swc h2.1 h2.2.1 hq hz (ih hb2 h2 hc0 hm0 hok k3 hlv hR1 hR2 hend hI hL)
        · obtain ⟨rfl, rfl, k3, k4⟩ := hko
          obtain ⟨pc, ins, nx0, w, xs, ci, cj⟩ := q
          cases b with
          | false =>
            obtain ⟨v1, S2, g1, g2⟩ := qm_k_some (show qm_k (qm_c me (qm_run O me qs T J n) mj as S1) (fun v S' => qm_run O me qs T J n mi nx ls' (v.toList ++ st') S') = some (v, S') from h)
            obtain ⟨g3, g4⟩ := qm_c_some g1
            obtain ⟨f1, f2, f3⟩ := qm_run_ok h3 HO n g4 hok (fun _ hv => by cases hv) (qm_en_lv k3)
            have hsv2 : qm_sv so J S2 (v1.toList ++ st') := by
              intro x hx
              rcases List.mem_append.mp hx with hx | hx
              · exact f3 x (Option.mem_toList.mp hx)
              · exact f1.vv (k4 x hx)
            obtain ⟨f4, f5, f6⟩ := qm_run_ok h3 HO n g2 f2 hsv2 (f1.lv hlv)
            have i1 := f1.1
            have i2 := f1.2.1
            have i3 := f4.1
            have i4 := f4.2.1
            have hM : plainFor (me mj).1 = true → Met l (me mj).1 (qm_wo (me mj)) (qm_rm (me mj) S1 S2) (qm_Pc D cl cA qs T so sx Rt st ρ fv base J tx as S1) (qm_Qc D cl cA qs st ρ fv base J v1 S2) (S2.1 - S1.1) (S2.2.1 - S1.2.1) (fun q : Nat => base ≤ q) := by
              intro hpl
              refine va_MetF (cc := (me mj).2.1) (maxL := (me mj).2.2.1) (ret := (me mj).2.2.2.1) hpl rfl ?_
              intro p e s m args below meth c s₁ B hml hv
              obtain ⟨rfl, hsz, hP, hK, hZ, hN⟩ := hv
              have hts := atoms_spec (ws := qm_wo (me mj)) B.pre
              have hE2 : qm_E2 me mj p s m (as.map (qm_rl st base fv)).toArray meth c (headSpec (qm_wo (me mj)) (qm_rm (me mj) S1 S2)).room D cl cA qs T so sx Rt st ρ fv base tx S1.1 := ⟨B.exec, B.bytes, hml, findClass_of_methodNamed B.named, fun hn => (name_of_methodNamed B.named B.method).1.trans hn, fun w hw => hts w (List.mem_cons_of_mem _ hw), Nat.le_refl _, Nat.le_refl _, hK, hZ, hN, hsz, hok.1⟩
              rw [lg_entry_eq]
              have := ih (l := l) (e := e) (m0 := S1.2.1) (Q := MQ below (qm_Qc D cl cA qs st ρ fv base J v1 S2) (as.map (qm_rl st base fv)).toArray s (S2.1 - S1.1) (S2.2.1 - S1.2.1) (fun q : Nat => base ≤ q)) (below := below) g4 hE2 (Nat.le_refl _) (Nat.le_refl _) hok (fun _ hv => by cases hv) (qm_en_lv k3) (Nat.le_refl _) (Nat.le_refl _) (fun H1 locs1 ls1 pc1 i hdi hrt hI1 => ?_) ⟨hP, va_S.rf⟩ (qm_entry h3.1.2.1 (Nat.le_of_ble_eq_true g3))
              · rw [Nat.sub_self, Nat.sub_self] at this
                exact this
              · obtain ⟨hP1, hS1⟩ := hI1
                have hq1 : ∀ t : State, t.heap = H1 → s.WarmedH t.vm → qm_Qc D cl cA qs st ρ fv base J v1 S2 (as.map (qm_rl st base fv)).toArray s (.returned (v1.map (qm_rl st base fv))) t := fun t ht _ => ⟨rfl, by rw [ht]; exact hP1, hS1.F ht⟩
                rcases hrt with ⟨rfl, x, ty, rfl, hret, hnar⟩ | ⟨rfl, s0, a, ty, rfl, h30, hret, hty⟩ | ⟨rfl, rfl, hret⟩
                · exact W.zret B.exec B.bytes (B.returns.trans hret) hnar hq1 hS1.2.2 hdi
                · have hq2 := hq1
                  simp only [Option.map_some] at hq2
                  show W p l e _ s m _ below meth c H1 locs1 _ _ _ (F0 m pc1 ls1 [qm_rl st base fv (.inr (s0, a))])
                  exact W.aret B.exec B.bytes (B.returns.trans hret) hty (Or.inr ⟨_, qm_rl_lt h30⟩) hq2 hS1.2.2 hdi
                · exact W.vret B.exec B.bytes (B.returns.trans hret) hq1 hS1.2.2 hdi
            exact qm_cll h1 h2 h3 hq hz hc0 hm0 hok hsv hI hL.1 hM i1 i2 (by omega) (by omega) (fun H1 locs1 hI1 => ih g2 h2 (by omega) (by omega) f2 hsv2 (f1.lv hlv) hR1 hR2 hend hI1 hL)
          | true =>
            obtain ⟨g1, g2, v1, C, g4, g5⟩ := qm_o_some (k := fun v S' => qm_run O me qs T J n mi nx ls' (v.toList ++ st') S') (show qm_o O J mj as S1 _ = some (v, S') from h)
            obtain ⟨hwd, n2, hr⟩ := HO _ _ _ _ _ g4
            obtain ⟨f2, f1⟩ := hok.oS g1 (pm_cnt n2 hr) (pm_cnt49 n2 hr hok.2.1)
            rcases g5 with ⟨x, rfl, g5⟩ | ⟨rfl, g5⟩
            · have hsv2 : qm_sv so J (qm_oS S1 C) ((some (.inl x) : Option qm_V).toList ++ st') := qm_sv_c.mpr ⟨trivial, f1.sv k4⟩
              obtain ⟨f4, f5, f6⟩ := qm_run_ok h3 HO n g5 f2 hsv2 (f1.lv hlv)
              have i1 := f1.1
              have i2 := f1.2.1
              have i3 := f4.1
              have i4 := f4.2.1
              exact qm_clc h1 h2 h3 hq hz hc0 hm0 hok hsv hI hL.1 hE1 hRt g1 g2 hwd hr (Or.inr ⟨x, rfl, rfl⟩) k3 rfl (by omega) (by omega) (fun H1 locs1 hI1 => ih g5 h2 (by omega) (by omega) f2 hsv2 (f1.lv hlv) hR1 hR2 hend hI1 hL)
            · have hsv2 : qm_sv so J (qm_oS S1 C) ((none : Option qm_V).toList ++ st') := f1.sv k4
              obtain ⟨f4, f5, f6⟩ := qm_run_ok h3 HO n g5 f2 hsv2 (f1.lv hlv)
              have i1 := f1.1
              have i2 := f1.2.1
              have i3 := f4.1
              have i4 := f4.2.1
              exact qm_clc h1 h2 h3 hq hz hc0 hm0 hok hsv hI hL.1 hE1 hRt g1 g2 hwd hr (Or.inl ⟨rfl, rfl⟩) k3 rfl (by omega) (by omega) (fun H1 locs1 hI1 => ih g5 h2 (by omega) (by omega) f2 hsv2 (f1.lv hlv) hR1 hR2 hend hI1 hL)
        · cases h
          obtain ⟨rfl, k2⟩ := hko
          obtain ⟨i, hdi, hrt, hst⟩ := qm_ret hq hz
          have := hend H locs ls q.1 i hdi hrt hI
          rw [hst]
          cases v <;> exact this
    · cases h
end
