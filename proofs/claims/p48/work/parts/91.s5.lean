section
variable {p : Program} {l : Launch} {e : Env} {R : Room} {s : State} {m : MethodId} {args : Array Value} {below : List Frame} {meth : Method} {c : Code} {Q : State → Prop}
variable {me : Nat → pm_Me} {Sg : Nat → pm_K} {Rt : pm_T} {cl : List vw_C} {D : va_G} {cA : Nat → ClassId} {ρ : Nat → Nat} {fv : Value} {base : pm_B} {tx : String} {mi c0 : Nat}
theorem pm_n_nc {g g' : Bool} {pc : Nat} {ls : pm_L} {st : List Value} {S : pm_S} {z} (h : pm_n g pc ls st S = some (g', .inr z)) : False := by unfold pm_n at h; cases h
theorem pm_w_nc {x : Int32} {d : Nat} {ts : List Nat} {ls : pm_L} {st : List Value} {S : pm_S} {g : Bool} {z} (h : pm_w x d ts ls st S = some (g, .inr (.inr (.inr z)))) : False := by unfold pm_w at h; cases h
theorem pm_e_nc {b : Bool} {v : Option Value} {S : pm_S} {g : Bool} {z} (h : pm_e b v S = some (g, .inr (.inr (.inr (.inl z))))) : False := by unfold pm_e at h; cases h
theorem pm_j_inj {mj mj' : Nat} {as as' : List Value} {nx nx' : Nat} {ls ls' : pm_L} {st st' : List Value} {S S' : pm_S} (h : pm_j mj as nx ls st S = some (true, .inr (.inr (.inr (.inl (mj', as', nx', ls', st', S')))))) : mj = mj' ∧ as = as' ∧ nx = nx' ∧ ls = ls' ∧ st = st' ∧ S = S' := by
  unfold pm_j at h
  cases h
  exact ⟨rfl, rfl, rfl, rfl, rfl, rfl⟩
theorem pm_goodL {ws : List Cond} (h : ∀ w ∈ ws, w ∈ pm_G) : GoodIn pm_G ws := fun w hw => ⟨h w hw, good_of_word (List.mem_filter.mp (h w hw)).2⟩
theorem pm_cc_of {mj n wi wc : Nat} (h : pm_cc me mi mj n wi wc = true) : Cond.initialized (me mj).1.cls ∈ pm_G ∧ Cond.code (me mj).1 (me mj).2.1 (me mj).2.2.1 (me mj).2.2.2.1 ∈ pm_G ∧ (me mj).1.cls ≠ "java/lang/invoke/MethodHandle" ∧ (me mj).1.cls ≠ "java/lang/invoke/VarHandle" ∧ (parseMethodDescriptor (me mj).1.desc).map (fun d => d.parameters.length) = some n ∧ (me mj).2.2.2.2.1 + 1 ≤ (me mi).2.2.2.2.1 ∧ 8 + ((me mj).2.2.1 + 11) + (me mj).2.2.2.2.2.1 ≤ (me mi).2.2.2.2.2.1 ∧ plainFor (me mj).1 = true := by
  simp only [pm_cc, Bool.and_eq_true] at h
  obtain ⟨h1, h2, h3, h4, h5, h6, h7, h8⟩ := h
  exact ⟨pm_wk_of h1, pm_wk_of h2, of_decide_eq_true h3, of_decide_eq_true h4, of_decide_eq_true h5, Nat.le_of_ble_eq_true h6, Nat.le_of_ble_eq_true h7, h8⟩
theorem pm_lst {st as rest : List Value} {n : Nat} (h : pm_pop n [] st = some (as, rest)) : st.map (pm_rl ρ fv) = (as.map (pm_rl ρ fv)).reverse ++ rest.map (pm_rl ρ fv) ∧ as.length = n := by
  obtain ⟨xs, h1, h2, h3⟩ := pm_pop_eq n h
  rw [h1, h2]
  simp [h3]
theorem pm_catL (hfv : fv = .null ∨ ∃ t, fv = .ref t) (rest : List Value) : ((rest.map (pm_rl ρ fv)).map fun v => v.category).sum = pm_wd rest := by
  rw [List.map_map, ← pm_wd_sum]
  exact congrArg List.sum (List.map_congr_left fun v _ => pm_rl_cat hfv v)
theorem pm_call_same {ret : Option FieldType} {q : pm_Q} {pl pl' : pm_L} {st st' as : List Value} {S S1 : pm_S} {mj nx : Nat} {g : Bool}
    (h : pm_x Sg Rt ret q pl st S = some (g, .inr (.inr (.inr (.inl (mj, as, nx, pl', st', S1)))))) : pl' = pl ∧ S1 = S := by
  obtain ⟨pc, ins, nx0, w, xs, ci, cj⟩ := q
  have hJ : ∀ {mj' nx' : Nat} {as' : List Value} {st2 : List Value}, pm_j mj' as' nx' pl st2 S = some (g, .inr (.inr (.inr (.inl (mj, as, nx, pl', st', S1))))) → pl' = pl ∧ S1 = S := fun h => by unfold pm_j at h; cases h; exact ⟨rfl, rfl⟩
  cases ins
  case ifCond cnd o => cases cnd <;> (simp only [pm_x] at h; split at h <;> first | exact (pm_b_ns h).elim | cases h)
  case if_icmp cnd o => cases cnd <;> (simp only [pm_x] at h; split at h <;> first | exact (pm_b_ns h).elim | cases h)
  case invokespecial idx =>
    simp only [pm_x] at h
    split at h
    · split at h
      · exact (pm_n_nc (pm_cond h).2).elim
      · cases h
    · unfold pm_callI at h
      split at h
      · exact hJ (pm_cond h).2
      · cases h
  case invokevirtual idx =>
    simp only [pm_x] at h
    unfold pm_callV at h
    split at h
    · exact hJ (pm_cond h).2
    · cases h
  case invokestatic idx =>
    simp only [pm_x] at h
    unfold pm_call at h
    split at h
    · exact hJ (pm_cond h).2
    · cases h
  all_goals simp only [pm_x, Bool.cond_eq_ite] at h
  all_goals (repeat' split at h)
  all_goals first
    | exact (pm_n_nc h).elim
    | exact (pm_w_nc h).elim
    | exact (pm_e_nc h).elim
    | cases h
set_option maxHeartbeats 2000000 in
theorem pm_cll (h1 : pm_E1 me Sg cl) (h2 : pm_E2 me mi p s m args meth c R D cl cA Rt ρ fv base tx c0) (h3 : pm_E3 Rt ρ fv base) {q : pm_Q} (hq : pm_chk cl me mi q = true) {pl pl' : pm_L} {st st' as : List Value} {S S1 S2 : pm_S} {mj nx : Nat} {v1 : Option Value}
    (h : pm_x Sg Rt (me mi).2.2.2.1 q pl st S = some (true, .inr (.inr (.inr (.inl (mj, as, nx, pl', st', S1)))))) {H : Heap} {locs : List Loc} {ls : Array Slot} (hc0 : c0 ≤ S.1) (hI : pm_I D cl ρ fv cA Sg base S s H locs) (hL : pm_LH ρ fv (me mi).2.2.1 ls pl)
    (hM : plainFor (me mj).1 = true → S.1 ≤ 49 → Met l (me mj).1 (pm_wo (me mj)) (pm_rm Sg (me mj) S S2) (pm_Pc D cl cA Sg Rt ρ fv base tx as S) (pm_Qc D cl cA Sg ρ fv base v1 S2) (S2.1 - S.1) (pm_ss Sg S2.1 - pm_ss Sg S.1) base.2.2) (hle : S.1 ≤ S2.1) (hR1 : S2.1 - c0 ≤ R.cells) (hR2 : pm_ss Sg S2.1 - pm_ss Sg c0 ≤ R.slots)
    (kk : ∀ (H1 : Heap) (locs1 : List Loc), pm_I D cl ρ fv cA Sg base S2 s H1 locs1 → W p l e R s m args below meth c H1 locs1 (S2.1 - c0) (pm_ss Sg S2.1 - pm_ss Sg c0) Q (F0 m nx ls ((v1.toList ++ st').map (pm_rl ρ fv)))) :
    pl' = pl ∧ S1 = S ∧ W p l e R s m args below meth c H locs (S.1 - c0) (pm_ss Sg S.1 - pm_ss Sg c0) Q (F0 m q.1 ls (st.map (pm_rl ρ fv))) := by
  obtain ⟨hx, hb, hml, hown, hmn, hts, hfr, hlo, hK, hZ, hN, hsz⟩ := h2
  obtain ⟨⟨hρ, hAA⟩, hfv, hRt⟩ := h3
  obtain ⟨hP, hS, hn2⟩ := id hI
  have hm1 := pm_ss_mono Sg hc0
  have hm2 := pm_ss_mono Sg hle
  have ec : S.1 - c0 + (S2.1 - S.1) = S2.1 - c0 := by omega
  have es : pm_ss Sg S.1 - pm_ss Sg c0 + (pm_ss Sg S2.1 - pm_ss Sg S.1) = pm_ss Sg S2.1 - pm_ss Sg c0 := by omega
  have hf : S.1 - c0 + (S2.1 - S.1) ≤ R.cells ∧ pm_ss Sg S.1 - pm_ss Sg c0 + (pm_ss Sg S2.1 - pm_ss Sg S.1) ≤ R.slots := by rw [ec, es]; exact ⟨hR1, hR2⟩
  have hpc : pm_hs base H.size S.1 → ∀ U : State, U.heap = H → s.WarmedH U.vm → pm_Pc D cl cA Sg Rt ρ fv base tx as S (as.map (pm_rl ρ fv)).toArray U := by
    intro hz U hU hW
    refine ⟨rfl, by rw [hU]; exact hz, by rw [hU]; exact hP, va_K.moved hW.alike hK, ?_, hN.warm hW, hn2⟩
    rw [hU]
    exact (hZ.kept hS.2.1).moved hW.alike
  have hst : ∀ (H1 : Heap) (locs1 : List Loc), pm_I D cl ρ fv cA Sg base S2 s H1 locs1 → W p l e R s m args below meth c H1 locs1 (S.1 - c0 + (S2.1 - S.1)) (pm_ss Sg S.1 - pm_ss Sg c0 + (pm_ss Sg S2.1 - pm_ss Sg S.1)) Q (F0 m nx ls ((v1.map (pm_rl ρ fv)).toList ++ st'.map (pm_rl ρ fv))) := by
    intro H1 locs1 hI1
    have := kk H1 locs1 hI1
    rw [List.map_append] at this
    rw [ec, es]
    cases v1 <;> exact this
  have hrl : ∀ r, r ≠ 204 → pm_rl ρ fv (.ref r) = .ref (ρ r) := fun r hr => by
    show (if r = 204 then fv else Value.ref (ρ r)) = _
    rw [if_neg hr]
  obtain ⟨pc, ins, nx0, w, xs, ci, cj⟩ := q
  cases ins
  case ifCond cnd o => cases cnd <;> (simp only [pm_x] at h; split at h <;> first | exact (pm_b_ns h).elim | cases h)
  case if_icmp cnd o => cases cnd <;> (simp only [pm_x] at h; split at h <;> first | exact (pm_b_ns h).elim | cases h)
  case invokestatic idx =>
    simp only [pm_chk, Bool.and_eq_true] at hq
    obtain ⟨hd0, q1, q2, q3⟩ := hq
    obtain ⟨hd, rfl⟩ := pm_d_of hd0
    simp only [pm_x] at h
    unfold pm_call at h
    split at h
    · rename_i as0 rest0 hpop
      replace h := pm_cond h
      obtain ⟨h8, h⟩ := h
      obtain ⟨rfl, rfl, rfl, rfl, rfl, rfl⟩ := pm_j_inj h
      refine ⟨rfl, rfl, ?_⟩
      obtain ⟨e1, e2⟩ := pm_lst (ρ := ρ) (fv := fv) hpop
      obtain ⟨c1, c2, c3, c4, c5, c6, c7, c8⟩ := pm_cc_of q3
      refine pm_siz hρ hsz hc0 hI fun hz => ?_
      have hM := hM c8 hn2
      have h8 := Nat.le_of_ble_eq_true h8
      have hmr : 2 * (F0 m pc ls (st.map (pm_rl ρ fv))).monitorRoom + ((rest0.map (pm_rl ρ fv)).map fun v => v.category).sum ≤ 8 := lv_room (by rw [pm_catL hfv]; exact h8)
      unfold pm_lnk at q1
      split at q1
      · refine pm_after (va_runS (As := as0.map (pm_rl ρ fv)) (rest := rest0.map (pm_rl ρ fv)) ⟨hx, hb, hml, hown, hts⟩ hM (va_cwS (xs.getD 1 0) hts (pm_goodL ?_) rfl rfl rfl ⟨c3, c4, c5⟩ ⟨Nat.le_trans c6 hfr, Nat.le_trans c7 hlo⟩) ⟨pm_blind, hpc hz⟩ rfl (by rw [List.length_map]; exact e2) hL.1 e1 hmr hd hf) hS hst
        intro w hw
        rcases List.mem_append.mp hw with h | h
        · rcases List.mem_cons.mp h with rfl | h
          · exact pm_wk_of q1
          · rcases List.mem_cons.mp h with rfl | h
            · exact pm_wk_of q2
            · rw [List.mem_singleton.mp h]; exact c1
        · rcases List.mem_cons.mp h with rfl | h
          · exact c2
          · exact h
      · exact pm_after (va_runSN (As := as0.map (pm_rl ρ fv)) (rest := rest0.map (pm_rl ρ fv)) ⟨hx, hb, hml, hown, hts⟩ hM ⟨va_cnB (xs.getD 1 0) hts (pm_good c2) rfl rfl rfl (hN.1 _ (pm_wn_of q1) rfl) (hts _ c1) ⟨c3, c4, c5⟩ ⟨Nat.le_trans c6 hfr, Nat.le_trans c7 hlo⟩, hts _ (pm_wk_of q2), trivial⟩ ⟨pm_blind, hpc hz⟩ rfl (by rw [List.length_map]; exact e2) hL.1 e1 hmr hd hf) hS hst
    · cases h
  case invokevirtual idx =>
    simp only [pm_chk, Bool.and_eq_true] at hq
    obtain ⟨hd0, q1, q2, q3, q4, q5⟩ := hq
    obtain ⟨hd, rfl⟩ := pm_d_of hd0
    simp only [pm_x] at h
    unfold pm_callV at h
    split at h
    · rename_i r as0 rest0 hpop
      replace h := pm_cond h
      obtain ⟨hg, h⟩ := h
      rw [Bool.and_eq_true] at hg
      obtain ⟨hrc, h8⟩ := hg
      obtain ⟨rfl, rfl, rfl, rfl, rfl, rfl⟩ := pm_j_inj h
      refine ⟨rfl, rfl, ?_⟩
      obtain ⟨e1, e2⟩ := pm_lst (ρ := ρ) (fv := fv) hpop
      obtain ⟨c1, c2, c3, c4, c5, c6, c7, c8⟩ := pm_cc_of q4
      refine pm_siz hρ hsz hc0 hI fun hz => ?_
      have hM := hM c8 hn2
      have h8 := Nat.le_of_ble_eq_true h8
      have hmr : 2 * (F0 m pc ls (st.map (pm_rl ρ fv))).monitorRoom + ((rest0.map (pm_rl ρ fv)).map fun v => v.category).sum ≤ 8 := lv_room (by rw [pm_catL hfv]; exact h8)
      have hrec : pm_rl ρ fv (.ref r) = .ref (ρ r) ∧ ∃ cellB : Cell, H[ρ r]? = some cellB ∧ cellB.vm.isStatics = false ∧ s.vm.findClass (me (xs.getD 0 0)).1.cls = some cellB.cls := by
        unfold pm_rc at hrc
        cases h99 : Nat.beq (xs.getD 3 0) 99 with
        | true =>
          rw [h99] at hrc q5
          have hr : r = 201 := Nat.eq_of_beq_eq_true hrc
          have hy : (me (xs.getD 0 0)).1.cls = "java/lang/String" := of_decide_eq_true q5
          subst hr
          refine ⟨hrl 201 (by decide), ?_⟩
          obtain ⟨cell, g1, g2, g3, -⟩ := hZ.2.2.2.2.2.1.kept hS.2.1
          exact ⟨cell, g1, g2, by rw [hy]; exact g3⟩
        | false =>
          rw [h99] at hrc q5
          simp only [cond_false, Bool.and_eq_true] at hrc
          have hr : r < S.1 := by simpa [Nat.blt_eq] using hrc.1
          refine ⟨hrl r (Nat.ne_of_lt (Nat.lt_of_lt_of_le hr (Nat.le_trans hn2 (by decide)))), ?_⟩
          have hrc2 := hrc.2
          split at hrc2
          · rename_i c' ks hs
            have hce := Nat.eq_of_beq_eq_true hrc2
            simp only [cond_false] at q5
            split at q5
            · rename_i C T N hcl
              have hy : (me (xs.getD 0 0)).1.cls = C := of_decide_eq_true q5
              have hat : (pm_ws ρ fv cA Sg S)[r]? = some (ρ r, .inr (c', ks.mapIdx (fun k kd => pm_val ρ fv S r k kd))) := by
                rw [pm_ws_at hr, hs]
                rfl
              rw [hce] at hat
              obtain ⟨cell, g1, g2, g3⟩ := va_recv hK hP hcl hat
              exact ⟨cell, g1, g2, by rw [hy]; exact g3⟩
            · cases q5
          · cases hrc2
      obtain ⟨hr1, hr2⟩ := hrec
      have hpc2 := hpc hz
      rw [List.map_cons, hr1] at hpc2 e1
      rw [List.reverse_cons, List.append_assoc] at e1
      have e3 : (as0.map (pm_rl ρ fv)).length = xs.getD 1 0 - 1 := by
        rw [List.length_map]
        exact Nat.eq_sub_of_add_eq e2
      unfold pm_lnk at q1
      split at q1
      · refine pm_after (a := (Value.ref (ρ r) :: as0.map (pm_rl ρ fv)).toArray) (va_runV (As := as0.map (pm_rl ρ fv)) (rest := rest0.map (pm_rl ρ fv)) ⟨hx, hb, hml, hown, hts⟩ hM (cwV (xs.getD 1 0 - 1) hts (pm_goodL ?_) rfl rfl rfl ⟨rfl, c3, c4, c5⟩ ⟨Nat.le_trans c6 hfr, Nat.le_trans c7 hlo⟩) ⟨pm_blind, hr2, hpc2⟩ rfl e3 hL.1 e1 hmr hd hf) hS hst
        intro w hw
        rcases List.mem_append.mp hw with h | h
        · rcases List.mem_cons.mp h with rfl | h
          · exact pm_wk_of q1
          · rcases List.mem_cons.mp h with rfl | h
            · exact pm_wk_of q2
            · rcases List.mem_cons.mp h with rfl | h
              · exact pm_wk_of q3
              · rw [List.mem_singleton.mp h]; exact c1
        · rcases List.mem_cons.mp h with rfl | h
          · exact c2
          · exact h
      · exact pm_after (a := (Value.ref (ρ r) :: as0.map (pm_rl ρ fv)).toArray) (va_runVN (As := as0.map (pm_rl ρ fv)) (rest := rest0.map (pm_rl ρ fv)) ⟨hx, hb, hml, hown, hts⟩ hM ⟨va_cnB (xs.getD 1 0 - 1) hts (pm_good c2) rfl rfl rfl (hN.1 _ (pm_wn_of q1) rfl) (hts _ c1) ⟨c3, c4, c5⟩ ⟨Nat.le_trans c6 hfr, Nat.le_trans c7 hlo⟩, hts _ (pm_wk_of q2), hts _ (pm_wk_of q3)⟩ ⟨pm_blind, hr2, hpc2⟩ rfl e3 hL.1 e1 hmr hd hf) hS hst
    · cases h
  case invokespecial idx =>
    simp only [pm_x] at h
    split at h
    · split at h
      · exact (pm_n_nc (pm_cond h).2).elim
      · cases h
    · rename_i hxs
      simp only [pm_chk, Bool.and_eq_true] at hq
      obtain ⟨hd0, hq⟩ := hq
      obtain ⟨hd, rfl⟩ := pm_d_of hd0
      have hq2 : (pm_lnk (me mi).1.cls idx w (xs.getD 2 0) (me (xs.getD 0 0)).1 && (pm_wk (xs.getD 3 0) (.instanceMethod (me (xs.getD 0 0)).1) && (decide ((me (xs.getD 0 0)).1.name = "<init>") && (decide ((me (xs.getD 0 0)).2.2.2.1 = none) && pm_cc me mi (xs.getD 0 0) (xs.getD 1 0 - 1) (xs.getD 4 0) (xs.getD 5 0))))) = true := by
        cases xs with
        | nil => exact (hxs rfl).elim
        | cons x0 x1 => simp only [Bool.and_eq_true]; exact hq
      simp only [Bool.and_eq_true] at hq2
      obtain ⟨q1, q2, q3, q4, q5⟩ := hq2
      have q3 := of_decide_eq_true q3
      have q4 := of_decide_eq_true q4
      unfold pm_callI at h
      split at h
      · rename_i r as0 rest0 hpop
        replace h := pm_cond h
        obtain ⟨hg, h⟩ := h
        rw [Bool.and_eq_true] at hg
        obtain ⟨hrc, h8⟩ := hg
        have hr : r < S.1 := by simpa [Nat.blt_eq] using hrc
        obtain ⟨rfl, rfl, rfl, rfl, rfl, rfl⟩ := pm_j_inj h
        refine ⟨rfl, rfl, ?_⟩
        obtain ⟨e1, e2⟩ := pm_lst (ρ := ρ) (fv := fv) hpop
        obtain ⟨c1, c2, c3, c4, c5, c6, c7, c8⟩ := pm_cc_of q5
        refine pm_siz hρ hsz hc0 hI fun hz => ?_
        have hM := hM c8 hn2
        have h8 := Nat.le_of_ble_eq_true h8
        have hmr : 2 * (F0 m pc ls (st.map (pm_rl ρ fv))).monitorRoom + ((rest0.map (pm_rl ρ fv)).map fun v => v.category).sum ≤ 8 := lv_room (by rw [pm_catL hfv]; exact h8)
        have hr1 := hrl r (Nat.ne_of_lt (Nat.lt_of_lt_of_le hr (Nat.le_trans hn2 (by decide))))
        have hpc2 := hpc hz
        rw [List.map_cons, hr1] at hpc2 e1
        rw [List.reverse_cons, List.append_assoc] at e1
        have e3 : (as0.map (pm_rl ρ fv)).length = xs.getD 1 0 - 1 := by
          rw [List.length_map]
          exact Nat.eq_sub_of_add_eq e2
        have hwo : pm_wo (me (xs.getD 0 0)) = Cond.code (me (xs.getD 0 0)).1 (me (xs.getD 0 0)).2.1 (me (xs.getD 0 0)).2.2.1 none :: pm_G := by
          unfold pm_wo
          rw [q4]
        unfold pm_lnk at q1
        split at q1
        · exact pm_after (a := (Value.ref (ρ r) :: as0.map (pm_rl ρ fv)).toArray) (va_runI (As := as0.map (pm_rl ρ fv)) (rest := rest0.map (pm_rl ρ fv)) ⟨hx, hb, hml, hown, hts⟩ hM (cwI (xs.getD 1 0 - 1) hts (pm_good c2) hwo rfl rfl (hts _ c1) (hts _ (pm_wk_of q1)) (hts _ (pm_wk_of q2)) q3 ⟨c3, c4, c5⟩ ⟨Nat.le_trans c6 hfr, Nat.le_trans c7 hlo⟩) ⟨pm_blind, hpc2⟩ rfl e3 hL.1 e1 hmr hd hf) hS hst
        · exact pm_after (a := (Value.ref (ρ r) :: as0.map (pm_rl ρ fv)).toArray) (va_runIN (As := as0.map (pm_rl ρ fv)) (rest := rest0.map (pm_rl ρ fv)) ⟨hx, hb, hml, hown, hts⟩ hM ⟨va_cnB (xs.getD 1 0 - 1) hts (pm_good c2) hwo rfl rfl (hN.1 _ (pm_wn_of q1) rfl) (hts _ c1) ⟨c3, c4, c5⟩ ⟨Nat.le_trans c6 hfr, Nat.le_trans c7 hlo⟩, q3, hts _ (pm_wk_of q2)⟩ ⟨pm_blind, hpc2⟩ rfl e3 hL.1 e1 hmr hd hf) hS hst
      · cases h
  all_goals simp only [pm_x, Bool.cond_eq_ite] at h
  all_goals (repeat' split at h)
  all_goals first
    | exact (pm_n_nc h).elim
    | exact (pm_w_nc h).elim
    | exact (pm_e_nc h).elim
    | cases h
end
set_option maxHeartbeats 1000000 in
/-- what the pure machine answers, the machine answers -/
theorem pm_W {me : Nat → pm_Me} {Sg : Nat → pm_K} {Rt : pm_T} {cl : List vw_C} {D : va_G} {cA : Nat → ClassId} {ρ : Nat → Nat} {fv : Value} {base : pm_B} {tx : String} (h1 : pm_E1 me Sg cl) (h3 : pm_E3 Rt ρ fv base) : ∀ (n : Nat) {mi pc : Nat} {pl : pm_L} {st : List Value} {S S' : pm_S} {v : Option Value}, pm_run me Sg Rt n mi pc pl st S = some (v, S') →
    ∀ {p : Program} {l : Launch} {e : Env} {R : Room} {s : State} {m : MethodId} {args : Array Value} {below : List Frame} {meth : Method} {c : Code} {Q : State → Prop} {c0 : Nat}, pm_E2 me mi p s m args meth c R D cl cA Rt ρ fv base tx c0 → c0 ≤ S.1 → S'.1 - c0 ≤ R.cells → pm_ss Sg S'.1 - pm_ss Sg c0 ≤ R.slots →
    (∀ (H : Heap) (locs : List Loc) (ls : Array Slot) (pc : Nat) (i : Instr), decode (me mi).2.1 pc = .ok (i, 1) → pm_rt (me mi).2.2.2.1 v i → pm_I D cl ρ fv cA Sg base S' s H locs → W p l e R s m args below meth c H locs (S'.1 - c0) (pm_ss Sg S'.1 - pm_ss Sg c0) Q (F0 m pc ls (v.map (pm_rl ρ fv)).toList)) →
    ∀ {H : Heap} {locs : List Loc} {ls : Array Slot}, pm_I D cl ρ fv cA Sg base S s H locs → pm_LH ρ fv (me mi).2.2.1 ls pl → W p l e R s m args below meth c H locs (S.1 - c0) (pm_ss Sg S.1 - pm_ss Sg c0) Q (F0 m pc ls (st.map (pm_rl ρ fv))) := by
  intro n
  induction n with
  | zero => intro mi pc pl st S S' v h; cases h
  | succ n ih =>
    intro mi pc pl st S S' v h p l e R s m args below meth c Q c0 h2 hc0 hR1 hR2 hend H locs ls hI hL
    replace h : pm_body me Sg Rt (pm_run me Sg Rt n) mi pc pl st S = some (v, S') := h
    unfold pm_body at h
    split at h
    · rename_i q hqa
      obtain ⟨hqm, hqp⟩ := pm_at_mem hqa
      have hq := h1.1 mi q hqm
      subst hqp
      cases hz : pm_x Sg Rt (me mi).2.2.2.1 q pl st S with
      | none => rw [hz] at h; cases h
      | some gc =>
        obtain ⟨g, k⟩ := gc
        rw [hz] at h
        have hle := pm_x_cnt hz
        replace h := pm_cond (show (bif g then pm_dc me (pm_run me Sg Rt n) mi k else none) = some (v, S') from h)
        obtain ⟨rfl, h⟩ := h
        rcases k with ⟨pc', ls', st', S1⟩ | ⟨o, x, y, t, e', ls', st', S1⟩ | ⟨x, d, ts, ls', st', S1⟩ | ⟨mj, as, nx, ls', st', S1⟩ | ⟨v1, S1⟩
        · have hle2 := pm_cnt n h
          have hm2 := pm_ss_mono Sg hle2
          exact pm_next h1 h2 h3 hq hz hc0 hI hL (by have : S1.1 ≤ S'.1 := hle2; omega) (by omega) (fun H' locs' ls2 hI' hL' => ih h h2 (Nat.le_trans hc0 hle) hR1 hR2 hend hI' hL')
        · have hb2 : pm_run me Sg Rt n mi (pm_pick o x y t e') ls' st' S1 = some (v, S') := by
            rcases o with _ | _ | o
            · show pm_run me Sg Rt n mi (if x = y then t else e') ls' st' S1 = _
              have h : (if x = y then pm_run me Sg Rt n mi t ls' st' S1 else pm_run me Sg Rt n mi e' ls' st' S1) = some (v, S') := h
              by_cases c1 : x = y
              · rw [if_pos c1] at h ⊢; exact h
              · rw [if_neg c1] at h ⊢; exact h
            · show pm_run me Sg Rt n mi (if x < y then t else e') ls' st' S1 = _
              have h : (if x < y then pm_run me Sg Rt n mi t ls' st' S1 else pm_run me Sg Rt n mi e' ls' st' S1) = some (v, S') := h
              by_cases c1 : x < y
              · rw [if_pos c1] at h ⊢; exact h
              · rw [if_neg c1] at h ⊢; exact h
            · show pm_run me Sg Rt n mi (if x ≤ y then t else e') ls' st' S1 = _
              have h : (if x ≤ y then pm_run me Sg Rt n mi t ls' st' S1 else pm_run me Sg Rt n mi e' ls' st' S1) = some (v, S') := h
              by_cases c1 : x ≤ y
              · rw [if_pos c1] at h ⊢; exact h
              · rw [if_neg c1] at h ⊢; exact h
          have key : ls' = pl ∧ S1 = S := by
            obtain ⟨e1, e2, -⟩ := pm_br (p := p) (l := l) (e := e) (R := R) (s := s) (m := m) (args := args) (below := below) (meth := meth) (c := c) (Q := fun _ => True) (ρ := ρ) (fv := fv) (H := H) (locs := locs) (ls := ls) (cells := 0) (slots := 0) h2.1 h2.2.1 hq hz (fun T hT X => ⟨_, Steps.refl _, trivial⟩)
            exact ⟨e1, e2⟩
          obtain ⟨rfl, rfl⟩ := key
          exact (pm_br h2.1 h2.2.1 hq hz (ih hb2 h2 hc0 hR1 hR2 hend hI hL)).2.2
        · have hb2 : pm_run me Sg Rt n mi (pm_wh x d ts 0) ls' st' S1 = some (v, S') := (pm_sw_wh (k := fun t => pm_run me Sg Rt n mi t ls' st' S1) ts 0).symm.trans h
          have key : ls' = pl ∧ S1 = S := by
            obtain ⟨e1, e2, -⟩ := pm_swc (p := p) (l := l) (e := e) (R := R) (s := s) (m := m) (args := args) (below := below) (meth := meth) (c := c) (Q := fun _ => True) (ρ := ρ) (fv := fv) (H := H) (locs := locs) (ls := ls) (cells := 0) (slots := 0) h2.1 h2.2.1 hq hz (fun T hT X => ⟨_, Steps.refl _, trivial⟩)
            exact ⟨e1, e2⟩
          obtain ⟨rfl, rfl⟩ := key
          exact (pm_swc h2.1 h2.2.1 hq hz (ih hb2 h2 hc0 hR1 hR2 hend hI hL)).2.2
        · obtain ⟨v1, S2, g1, g2⟩ := pm_k_some h
          obtain ⟨g3, g4⟩ := pm_c_some g1
          have hle2 := pm_cnt n g4
          have hle3 := pm_cnt n g2
          obtain ⟨hls, hS1⟩ := pm_call_same hz
          subst hS1
          have hm2 := pm_ss_mono Sg hle3
          have hM : plainFor (me mj).1 = true → S1.1 ≤ 49 → Met l (me mj).1 (pm_wo (me mj)) (pm_rm Sg (me mj) S1 S2) (pm_Pc D cl cA Sg Rt ρ fv base tx as S1) (pm_Qc D cl cA Sg ρ fv base v1 S2) (S2.1 - S1.1) (pm_ss Sg S2.1 - pm_ss Sg S1.1) base.2.2 := by
            intro hpl h200
            refine va_MetF (cc := (me mj).2.1) (maxL := (me mj).2.2.1) (ret := (me mj).2.2.2.1) hpl rfl ?_
            intro p e s m args below meth c s₁ B hml hv
            obtain ⟨rfl, hsz, hP, hK, hZ, hN, hn2⟩ := hv
            have hts := atoms_spec (ws := pm_wo (me mj)) B.pre
            have hE2 : pm_E2 me mj p s m (as.map (pm_rl ρ fv)).toArray meth c (headSpec (pm_wo (me mj)) (pm_rm Sg (me mj) S1 S2)).room D cl cA Rt ρ fv base tx S1.1 := ⟨B.exec, B.bytes, hml, findClass_of_methodNamed B.named, fun hn => (name_of_methodNamed B.named B.method).1.trans hn, fun w hw => hts w (List.mem_cons_of_mem _ hw), Nat.le_refl _, Nat.le_refl _, hK, hZ, hN, hsz⟩
            rw [lg_entry_eq]
            have := ih (l := l) (e := e) (Q := MQ below (pm_Qc D cl cA Sg ρ fv base v1 S2) (as.map (pm_rl ρ fv)).toArray s (S2.1 - S1.1) (pm_ss Sg S2.1 - pm_ss Sg S1.1) base.2.2) (below := below) g4 hE2 (Nat.le_refl _) (Nat.le_refl _) (Nat.le_refl _) (fun H1 locs1 ls1 pc1 i hdi hrt hI1 => ?_) ⟨hP, va_S.rf, hn2⟩ (pm_entry h3.2.1 (Nat.le_of_ble_eq_true g3))
            · rw [Nat.sub_self, Nat.sub_self] at this
              exact this
            · obtain ⟨hP1, hS1, hn1⟩ := hI1
              have hq1 : ∀ t : State, t.heap = H1 → s.WarmedH t.vm → pm_Qc D cl cA Sg ρ fv base v1 S2 (as.map (pm_rl ρ fv)).toArray s (.returned (v1.map (pm_rl ρ fv))) t := fun t ht _ => ⟨rfl, by rw [ht]; exact hP1, hS1.F ht, hn1⟩
              rcases hrt with ⟨rfl, x, ty, rfl, hret, hnar⟩ | ⟨rfl, x, rfl, hret⟩ | ⟨rfl, rfl, hret⟩
              · exact W.zret B.exec B.bytes (B.returns.trans hret) hnar hq1 hS1.2.2 hdi
              · exact W.lret B.exec B.bytes (B.returns.trans hret) hq1 hS1.2.2 hdi
              · exact W.vret B.exec B.bytes (B.returns.trans hret) hq1 hS1.2.2 hdi
          subst hls
          exact (pm_cll h1 h2 h3 hq hz hc0 hI hL hM hle2 (by omega) (by omega) (fun H1 locs1 hI1 => ih g2 h2 (Nat.le_trans hc0 hle2) hR1 hR2 hend hI1 hL)).2.2
        · cases h
          obtain ⟨rfl, i, hdi, hrt, hst⟩ := pm_ret (ρ := ρ) (fv := fv) hq hz
          rw [hst]
          exact hend H locs ls q.1 i hdi hrt hI
    · cases h
