/-! ===== the law's machine's runs are the machine's: calls ===== -/
section
variable {p : Program} {l : Launch} {e : Env} {R : Room} {s : State} {m : MethodId} {args : Array Value} {below : List Frame} {meth : Method} {c : Code} {Q : State → Prop}
variable {me : Nat → pm_Me} {D : va_G} {cl : List vw_C} {cA : Nat → ClassId} {qs : Nat → qm_K} {T : qm_T} {J base : Nat} {so : Nat → Nat → Prop} {sx : qm_X} {Rt : pm_T} {st : Nat → Nat → Nat} {fv : Value} {ρ : Nat → Nat} {tx : String} {mi c0 : Nat}
theorem qm_gd99 {xs : List Nat} {k : Nat} (h : xs.getD 2 99 = k) (hk : k ≠ 99) : xs.getD 2 0 = k := by
  rw [List.getD_eq_getElem?_getD] at h ⊢
  cases hx : xs[2]? with
  | none => rw [hx] at h; exact absurd h.symm hk
  | some z => rw [hx] at h; exact h
theorem qm_j_inj {cl cl' : Bool} {mj mj' : Nat} {as as' : List qm_V} {nx nx' : Nat} {ls ls' : qm_L} {st st' : List qm_V} {S S' : qm_S} (h : qm_j cl mj as nx ls st S = some (true, .inr (.inr (.inr (.inl (cl', mj', as', nx', ls', st', S')))))) : cl = cl' ∧ mj = mj' ∧ as = as' ∧ nx = nx' ∧ ls = ls' ∧ st = st' ∧ S = S' := by
  unfold qm_j at h
  cases h
  exact ⟨rfl, rfl, rfl, rfl, rfl, rfl, rfl⟩
theorem qm_callV_of {nx nx' : Nat} {xs : List Nat} {ls ls' : qm_L} {sk sk' as : List qm_V} {S S' : qm_S} {b : Bool} {mj : Nat} (h : qm_callV nx xs ls sk S = some (true, .inr (.inr (.inr (.inl (b, mj, as, nx', ls', sk', S')))))) : ls' = ls ∧ S' = S ∧ nx' = nx ∧ mj = xs.getD 0 0 ∧ b = (Nat.beq (xs.getD 2 0) 9 || Nat.beq (xs.getD 2 0) 10) ∧ qm_pop (xs.getD 1 0) [] sk = some (as, sk') ∧ sk'.length ≤ 8 ∧ ∃ s0 a as0, as = .inr (s0, a) :: as0 ∧ (xs.drop 7).any (Nat.beq s0) = true := by
  unfold qm_callV at h
  split at h
  · rename_i as0 rest hp
    replace h := pm_cond h
    obtain ⟨hg, h⟩ := h
    rw [Bool.and_eq_true] at hg
    obtain ⟨h1, h2⟩ := hg
    obtain ⟨rfl, rfl, rfl, rfl, rfl, rfl, rfl⟩ := qm_j_inj h
    refine ⟨rfl, rfl, rfl, rfl, rfl, hp, Nat.le_of_ble_eq_true h1, ?_⟩
    split at h2
    · rename_i s0 a as1
      exact ⟨s0, a, as1, rfl, h2⟩
    · cases h2
  · cases h
theorem qm_call_of {nx nx' : Nat} {xs : List Nat} {ls ls' : qm_L} {sk sk' as : List qm_V} {S S' : qm_S} {b b0 : Bool} {mj : Nat} (h : qm_call b0 nx xs ls sk S = some (true, .inr (.inr (.inr (.inl (b, mj, as, nx', ls', sk', S')))))) : ls' = ls ∧ S' = S ∧ nx' = nx ∧ mj = xs.getD 0 0 ∧ b = b0 ∧ qm_pop (xs.getD 1 0) [] sk = some (as, sk') ∧ sk'.length ≤ 8 := by
  unfold qm_call at h
  split at h
  · rename_i as0 rest hp
    replace h := pm_cond h
    obtain ⟨h1, h⟩ := h
    obtain ⟨rfl, rfl, rfl, rfl, rfl, rfl, rfl⟩ := qm_j_inj h
    exact ⟨rfl, rfl, rfl, rfl, rfl, hp, Nat.le_of_ble_eq_true h1⟩
  · cases h
/-- which instruction calls -/
theorem qm_calls {ret : Option FieldType} {pc : Nat} {ins : Instr} {nx w : Nat} {xs : List Nat} {ci : Int32} {cj : Int64} {pl pl' : qm_L} {sk sk' as : List qm_V} {S S1 : qm_S} {b : Bool} {mj nx' : Nat}
    (h : qm_x qs T J ret (pc, ins, nx, w, xs, ci, cj) pl sk S = some (true, .inr (.inr (.inr (.inl (b, mj, as, nx', pl', sk', S1)))))) :
    (∃ idx, ins = .invokevirtual idx ∧ Nat.beq (xs.getD 0 0) 9002 = false ∧ qm_callV nx xs pl sk S = some (true, .inr (.inr (.inr (.inl (b, mj, as, nx', pl', sk', S1)))))) ∨ (∃ idx, ins = .invokespecial idx ∧ xs ≠ [] ∧ qm_callV nx xs pl sk S = some (true, .inr (.inr (.inr (.inl (b, mj, as, nx', pl', sk', S1)))))) ∨
    (∃ idx, ins = .invokestatic idx ∧ Nat.beq (xs.getD 0 0) 9001 = false ∧ qm_call false nx xs pl sk S = some (true, .inr (.inr (.inr (.inl (b, mj, as, nx', pl', sk', S1)))))) ∨ (∃ idx cnt, ins = .invokeinterface idx cnt ∧ qm_callV nx xs pl sk S = some (true, .inr (.inr (.inr (.inl (b, mj, as, nx', pl', sk', S1)))))) := by
  cases ins
  case ifCond cnd o => cases cnd <;> (simp only [qm_x] at h; split at h <;> first | exact (qm_b_nc h).elim | cases h)
  case if_icmp cnd o => cases cnd <;> (simp only [qm_x] at h; split at h <;> first | exact (qm_b_nc h).elim | cases h)
  case if_acmp cnd o => cases cnd <;> (simp only [qm_x, Bool.cond_eq_ite] at h; (try split at h) <;> (try split at h) <;> first | exact (qm_n_nc h).elim | cases h)
  case invokespecial idx =>
    simp only [qm_x] at h
    split at h
    · split at h
      · exact (qm_n_nc (pm_cond h).2).elim
      · cases h
    · rename_i hx
      exact Or.inr (Or.inl ⟨idx, rfl, fun e => hx e, h⟩)
  case invokevirtual idx =>
    simp only [qm_x] at h
    cases h9 : Nat.beq (xs.getD 0 0) 9002 with
    | true =>
      rw [h9] at h
      simp only [cond_true] at h
      simp only [Bool.cond_eq_ite] at h
      (repeat' split at h) <;> first | exact (qm_n_nc h).elim | cases h
    | false =>
      rw [h9] at h
      exact Or.inl ⟨idx, rfl, rfl, h⟩
  case invokestatic idx =>
    simp only [qm_x] at h
    cases h9 : Nat.beq (xs.getD 0 0) 9001 with
    | true =>
      rw [h9] at h
      simp only [cond_true] at h
      simp only [Bool.cond_eq_ite] at h
      (repeat' split at h) <;> first | exact (qm_n_nc h).elim | cases h
    | false =>
      rw [h9] at h
      exact Or.inr (Or.inr (Or.inl ⟨idx, rfl, rfl, h⟩))
  case invokeinterface idx cnt =>
    simp only [qm_x] at h
    exact Or.inr (Or.inr (Or.inr ⟨idx, cnt, rfl, h⟩))
  all_goals simp only [qm_x, Bool.cond_eq_ite] at h
  all_goals (try unfold qm_fv at h)
  all_goals (repeat' split at h)
  all_goals first
    | exact (qm_n_nc h).elim
    | exact (qm_w_nc h).elim
    | exact (qm_e_nc h).elim
    | cases h

set_option maxHeartbeats 2000000 in
theorem qm_cll (h1 : qm_E1 me qs T sx cl) (h2 : qm_E2 me mi p s m args meth c R D cl cA qs T so sx Rt st ρ fv base tx c0) (h3 : qm_E3 qs T so base J st fv ρ) {pc nx w : Nat} {ins : Instr} {xs : List Nat} {ci : Int32} {cj : Int64} (hq : qm_chk cl qs sx me mi (pc, ins, nx, w, xs, ci, cj) = true) {pl pl' : qm_L} {sk sk' as : List qm_V} {S S1 S2 : qm_S} {mj nx' m0 : Nat} {v1 : Option qm_V}
    (h : qm_x qs T J (me mi).2.2.2.1 (pc, ins, nx, w, xs, ci, cj) pl sk S = some (true, .inr (.inr (.inr (.inl (false, mj, as, nx', pl', sk', S1)))))) {H : Heap} {locs : List Loc} {ls : Array Slot} (hc0 : c0 ≤ S.1) (hm0 : m0 ≤ S.2.1) (hok : qm_ok qs T so J S) (hsv : qm_sv so J S sk) (hI : qm_I D cl cA qs st ρ fv base J S s H locs) (hlsz : ls.size = (me mi).2.2.1)
    (hM : plainFor (me mj).1 = true → Met l (me mj).1 (qm_wo (me mj)) (qm_rm (me mj) S S2) (qm_Pc D cl cA qs T so sx Rt st ρ fv base J tx as S) (qm_Qc D cl cA qs st ρ fv base J v1 S2) (S2.1 - S.1) (S2.2.1 - S.2.1) (fun q : Nat => base ≤ q)) (hle : S.1 ≤ S2.1) (hle2 : S.2.1 ≤ S2.2.1) (hR1 : S2.1 - c0 ≤ R.cells) (hR2 : S2.2.1 - m0 ≤ R.slots)
    (kk : ∀ (H1 : Heap) (locs1 : List Loc), qm_I D cl cA qs st ρ fv base J S2 s H1 locs1 → W p l e R s m args below meth c H1 locs1 (S2.1 - c0) (S2.2.1 - m0) Q (F0 m nx' ls ((v1.toList ++ sk').map (qm_rl st base fv)))) :
    W p l e R s m args below meth c H locs (S.1 - c0) (S.2.1 - m0) Q (F0 m pc ls (sk.map (qm_rl st base fv))) := by
  obtain ⟨hx, hb, hml, hown, hmn, hts, hfr, hlo, hK, hZ, hN, hsz, h1001⟩ := h2
  obtain ⟨⟨hρ, hfv, h06⟩, -⟩ := id h3
  obtain ⟨hP, hS⟩ := id hI
  have ec : S.1 - c0 + (S2.1 - S.1) = S2.1 - c0 := by omega
  have es : S.2.1 - m0 + (S2.2.1 - S.2.1) = S2.2.1 - m0 := by omega
  have hf : S.1 - c0 + (S2.1 - S.1) ≤ R.cells ∧ S.2.1 - m0 + (S2.2.1 - S.2.1) ≤ R.slots := by rw [ec, es]; exact ⟨hR1, hR2⟩
  have hpc : H.size = base + (S.1 - 1001) → ∀ U : State, U.heap = H → s.WarmedH U.vm → qm_Pc D cl cA qs T so sx Rt st ρ fv base J tx as S (as.map (qm_rl st base fv)).toArray U := by
    intro hz U hU hW
    have := hok.1
    refine ⟨rfl, by rw [hU, hz]; omega, by rw [hU]; exact hP, va_K.moved hW.alike hK, ?_, hN.warm hW⟩
    rw [hU]
    exact (hZ.kept hS.2.1).moved hW.alike
  have hst : ∀ (H1 : Heap) (locs1 : List Loc), qm_I D cl cA qs st ρ fv base J S2 s H1 locs1 → W p l e R s m args below meth c H1 locs1 (S.1 - c0 + (S2.1 - S.1)) (S.2.1 - m0 + (S2.2.1 - S.2.1)) Q (F0 m nx' ls ((v1.map (qm_rl st base fv)).toList ++ sk'.map (qm_rl st base fv))) := by
    intro H1 locs1 hI1
    have := kk H1 locs1 hI1
    rw [List.map_append] at this
    rw [ec, es]
    cases v1 <;> exact this
  have hwd : ∀ r : List qm_V, ((r.map (qm_rl st base fv)).map fun v => v.category).sum = r.length := by
    intro r
    rw [List.map_map]
    have : ((fun v => v.category) ∘ qm_rl st base fv) = fun _ => 1 := funext fun v => qm_rl_cat hfv v
    rw [this]
    exact qm_wd1 r
  rcases qm_calls h with ⟨idx, rfl, h9, h⟩ | ⟨idx, rfl, hxs, h⟩ | ⟨idx, rfl, h9, h⟩ | ⟨idx, cnt, rfl, h⟩
  · -- invokevirtual
    simp only [qm_chk, Bool.and_eq_true] at hq
    obtain ⟨hd0, hq⟩ := hq
    obtain ⟨hd, rfl⟩ := pm_d_of hd0
    rw [h9] at hq
    obtain ⟨rfl, rfl, rfl, rfl, hcl, hpop, h8, s0, a, as0, rfl, hpl⟩ := qm_callV_of h
    obtain ⟨e1, e2⟩ := qm_lst (st := st) (base := base) (fv := fv) hpop
    obtain ⟨hsa, -⟩ := qm_pop_sv hpop hsv
    rw [qm_sv_c] at hsa
    have e3 : (as0.map (qm_rl st base fv)).length = xs.getD 1 0 - 1 := by
      rw [List.length_map]
      exact Nat.eq_sub_of_add_eq e2
    refine qm_siz hsz h1001 hc0 hI fun hz => ?_
    have hpc2 := hpc hz
    have hmr : 2 * (F0 m pc ls (sk.map (qm_rl st base fv))).monitorRoom + ((sk'.map (qm_rl st base fv)).map fun v => v.category).sum ≤ 8 := lv_room (by rw [hwd]; exact h8)
    rcases qm_ck0 hq with ⟨ht, hq⟩ | ⟨ht, hq⟩ | ⟨ht, hq⟩
    · simp only [qm_kV, Bool.and_eq_true] at hq
      obtain ⟨q1, q2, q3, q4, q5⟩ := hq
      obtain ⟨c1, c2, c3, c4, c5, c6, c7, c8⟩ := qm_cc_of q4
      obtain ⟨p1, p2, p3, p4⟩ := qm_pl_of q5 hpl
      have hr1 := qm_rl_lt (st := st) (base := base) (fv := fv) (a := a) p1
      rw [List.map_cons, hr1] at hpc2 e1
      rw [List.reverse_cons, List.append_assoc] at e1
      obtain ⟨hrec, -⟩ := qm_recv h3 hok hK hZ hI hsa.1 p4 p2 p3
      exact qm_after (a := (Value.ref (qm_ad st base s0 a) :: as0.map (qm_rl st base fv)).toArray) (va_runV (As := as0.map (qm_rl st base fv)) (rest := sk'.map (qm_rl st base fv)) ⟨hx, hb, hml, hown, hts⟩ (hM c8) ⟨callB_of (xs.getD 1 0 - 1) hts (qm_good c2) rfl rfl rfl (hts _ c1) (hts _ (qm_wk_of q1)) ⟨c3, c4, c5⟩ ⟨Nat.le_trans c6 hfr, Nat.le_trans c7 hlo⟩, hts _ (qm_wk_of q3), hts _ (qm_wk_of q2)⟩ ⟨qm_blind, hrec, hpc2⟩ rfl e3 hlsz e1 hmr hd hf) hS hst
    · simp only [qm_kU, Bool.and_eq_true] at hq
      obtain ⟨q1, q2, q3, q4, q5, q6, q7, q8, q9⟩ := hq
      obtain ⟨c1, c2, c3, c4, c5, c6, c7, c8⟩ := qm_cc_of q7
      obtain ⟨p1, p2, p3, p4⟩ := qm_pl_of q9 hpl
      have hr1 := qm_rl_lt (st := st) (base := base) (fv := fv) (a := a) p1
      rw [List.map_cons, hr1] at hpc2 e1
      rw [List.reverse_cons, List.append_assoc] at e1
      have q8 := Nat.eq_of_beq_eq_true q8
      obtain ⟨hrec, -⟩ := qm_recv h3 hok hK hZ hI hsa.1 p4 p2 p3
      refine qm_after (a := (Value.ref (qm_ad st base s0 a) :: as0.map (qm_rl st base fv)).toArray) (va_runU (As := as0.map (qm_rl st base fv)) (rest := sk'.map (qm_rl st base fv)) ⟨hx, hb, hml, hown, hts⟩ (hM c8) (va_cwO (owner := qm_xl.cls) (x := qm_xl) (xs.getD 1 0 - 1) hts (qm_goodL ?_) rfl rfl rfl (qm_ct_of q4) ⟨by decide, by decide, by rw [q8]; decide⟩ ⟨Nat.le_trans c6 hfr, Nat.le_trans c7 hlo⟩) ⟨qm_blind, hrec, hpc2⟩ rfl e3 hlsz e1 hmr hd hf) hS hst
      intro w hw
      rcases List.mem_append.mp hw with h | h
      · rcases List.mem_cons.mp h with rfl | h
        · exact qm_wk_of q1
        · rcases List.mem_cons.mp h with rfl | h
          · exact qm_ct_of q2
          · rcases List.mem_cons.mp h with rfl | h
            · exact qm_ct_of q3
            · rcases List.mem_cons.mp h with rfl | h
              · exact qm_wk_of q5
              · rcases List.mem_cons.mp h with rfl | h
                · exact qm_wk_of q6
                · rw [List.mem_singleton.mp h]; exact c1
      · rcases List.mem_cons.mp h with rfl | h
        · exact c2
        · exact h
    · rw [qm_gd99 ht (by decide)] at hcl
      cases hcl
  · -- invokespecial
    simp only [qm_chk, Bool.and_eq_true] at hq
    obtain ⟨hd0, hq⟩ := hq
    obtain ⟨hd, rfl⟩ := pm_d_of hd0
    obtain ⟨rfl, rfl, rfl, rfl, hcl, hpop, h8, s0, a, as0, rfl, hpl⟩ := qm_callV_of h
    have hq : qm_ck cl qs me mi idx w 1 xs = true := by
      cases xs with
      | nil => exact absurd rfl hxs
      | cons x0 xt => exact hq
    obtain ⟨e1, e2⟩ := qm_lst (st := st) (base := base) (fv := fv) hpop
    obtain ⟨hsa, -⟩ := qm_pop_sv hpop hsv
    rw [qm_sv_c] at hsa
    have e3 : (as0.map (qm_rl st base fv)).length = xs.getD 1 0 - 1 := by
      rw [List.length_map]
      exact Nat.eq_sub_of_add_eq e2
    refine qm_siz hsz h1001 hc0 hI fun hz => ?_
    have hpc2 := hpc hz
    have hmr : 2 * (F0 m pc ls (sk.map (qm_rl st base fv))).monitorRoom + ((sk'.map (qm_rl st base fv)).map fun v => v.category).sum ≤ 8 := lv_room (by rw [hwd]; exact h8)
    rcases qm_ck1 hq with ⟨ht, hq⟩ | ⟨ht, hq⟩ | ⟨ht, hq⟩
    · simp only [qm_kSU, Bool.and_eq_true] at hq
      obtain ⟨q1, q2, q3, q4, q5, q6, q7⟩ := hq
      obtain ⟨c1, c2, c3, c4, c5, c6, c7, c8⟩ := qm_cc_of q6
      obtain ⟨p1, p2, p3, p4⟩ := qm_pl_of q7 hpl
      have hr1 := qm_rl_lt (st := st) (base := base) (fv := fv) (a := a) p1
      rw [List.map_cons, hr1] at hpc2 e1
      rw [List.reverse_cons, List.append_assoc] at e1
      obtain ⟨hrec, cC, hat⟩ := qm_recv h3 hok hK hZ hI hsa.1 p4 p2 p3
      refine qm_after (a := (Value.ref (qm_ad st base s0 a) :: as0.map (qm_rl st base fv)).toArray) (va_runSU (As := as0.map (qm_rl st base fv)) (rest := sk'.map (qm_rl st base fv)) hat ⟨hx, hb, hml, hown, hts⟩ (hM c8) (va_cwSU (xs.getD 1 0 - 1) hts (qm_goodL ?_) rfl rfl rfl ⟨of_decide_eq_true q5, c5⟩ ⟨Nat.le_trans c6 hfr, Nat.le_trans c7 hlo⟩) ⟨qm_blind, hrec, hpc2⟩ rfl e3 hlsz e1 hmr hd hf) hS hst
      intro w hw
      rcases List.mem_append.mp hw with h | h
      · rcases List.mem_cons.mp h with rfl | h
        · exact qm_wk_of q1
        · rcases List.mem_cons.mp h with rfl | h
          · exact qm_ct_of q2
          · rcases List.mem_cons.mp h with rfl | h
            · exact qm_ct_of q3
            · rcases List.mem_cons.mp h with rfl | h
              · exact qm_wk_of q4
              · rw [List.mem_singleton.mp h]; exact c1
      · rcases List.mem_cons.mp h with rfl | h
        · exact c2
        · exact h
    · simp only [qm_kI, Bool.and_eq_true] at hq
      obtain ⟨q1, q2, q3, q4, q5, q6⟩ := hq
      obtain ⟨c1, c2, c3, c4, c5, c6, c7, c8⟩ := qm_cc_of q5
      obtain ⟨p1, p2, p3, p4⟩ := qm_pl_of q6 hpl
      have hr1 := qm_rl_lt (st := st) (base := base) (fv := fv) (a := a) p1
      rw [List.map_cons, hr1] at hpc2 e1
      rw [List.reverse_cons, List.append_assoc] at e1
      have q4 := of_decide_eq_true q4
      have hwo : qm_wo (me (xs.getD 0 0)) = Cond.code (me (xs.getD 0 0)).1 (me (xs.getD 0 0)).2.1 (me (xs.getD 0 0)).2.2.1 none :: qm_G := by
        unfold qm_wo
        rw [q4]
      exact qm_after (a := (Value.ref (qm_ad st base s0 a) :: as0.map (qm_rl st base fv)).toArray) (va_runI (As := as0.map (qm_rl st base fv)) (rest := sk'.map (qm_rl st base fv)) ⟨hx, hb, hml, hown, hts⟩ (hM c8) (cwI (xs.getD 1 0 - 1) hts (qm_good c2) hwo rfl rfl (hts _ c1) (hts _ (qm_wk_of q1)) (hts _ (qm_wk_of q2)) (of_decide_eq_true q3) ⟨c3, c4, c5⟩ ⟨Nat.le_trans c6 hfr, Nat.le_trans c7 hlo⟩) ⟨qm_blind, hpc2⟩ rfl e3 hlsz e1 hmr hd hf) hS hst
    · rw [qm_gd99 ht (by decide)] at hcl
      cases hcl
  · -- invokestatic
    simp only [qm_chk, Bool.and_eq_true] at hq
    obtain ⟨hd0, hq⟩ := hq
    obtain ⟨hd, rfl⟩ := pm_d_of hd0
    rw [h9] at hq
    obtain ⟨rfl, rfl, rfl, rfl, -, hpop, h8⟩ := qm_call_of h
    obtain ⟨e1, e2⟩ := qm_lst (st := st) (base := base) (fv := fv) hpop
    have e3 : (as.map (qm_rl st base fv)).length = xs.getD 1 0 := by rw [List.length_map]; exact e2
    refine qm_siz hsz h1001 hc0 hI fun hz => ?_
    have hpc2 := hpc hz
    have hmr : 2 * (F0 m pc ls (sk.map (qm_rl st base fv))).monitorRoom + ((sk'.map (qm_rl st base fv)).map fun v => v.category).sum ≤ 8 := lv_room (by rw [hwd]; exact h8)
    rcases qm_ck2 hq with ⟨ht, hq⟩ | ⟨ht, hq⟩
    · simp only [qm_kS, Bool.and_eq_true] at hq
      obtain ⟨q1, q2, q3⟩ := hq
      obtain ⟨c1, c2, c3, c4, c5, c6, c7, c8⟩ := qm_cc_of q3
      refine qm_after (va_runS (As := as.map (qm_rl st base fv)) (rest := sk'.map (qm_rl st base fv)) ⟨hx, hb, hml, hown, hts⟩ (hM c8) (va_cwS (xs.getD 1 0) hts (qm_goodL ?_) rfl rfl rfl ⟨c3, c4, c5⟩ ⟨Nat.le_trans c6 hfr, Nat.le_trans c7 hlo⟩) ⟨qm_blind, hpc2⟩ rfl e3 hlsz e1 hmr hd hf) hS hst
      intro w hw
      rcases List.mem_append.mp hw with h | h
      · rcases List.mem_cons.mp h with rfl | h
        · exact qm_wk_of q1
        · rcases List.mem_cons.mp h with rfl | h
          · exact qm_wk_of q2
          · rw [List.mem_singleton.mp h]; exact c1
      · rcases List.mem_cons.mp h with rfl | h
        · exact c2
        · exact h
    · simp only [qm_kSN, Bool.and_eq_true] at hq
      obtain ⟨q1, q2, q3⟩ := hq
      obtain ⟨c1, c2, c3, c4, c5, c6, c7, c8⟩ := qm_cc_of q3
      exact qm_after (va_runSN (As := as.map (qm_rl st base fv)) (rest := sk'.map (qm_rl st base fv)) ⟨hx, hb, hml, hown, hts⟩ (hM c8) ⟨va_cnB (xs.getD 1 0) hts (qm_good c2) rfl rfl rfl (hN.1.1 _ (pm_wn_of q1) rfl) (hts _ c1) ⟨c3, c4, c5⟩ ⟨Nat.le_trans c6 hfr, Nat.le_trans c7 hlo⟩, hts _ (qm_wk_of q2), trivial⟩ ⟨qm_blind, hpc2⟩ rfl e3 hlsz e1 hmr hd hf) hS hst
  · -- invokeinterface
    simp only [qm_chk, Bool.and_eq_true] at hq
    obtain ⟨hd0, hq⟩ := hq
    obtain ⟨hd, rfl⟩ := pm_d_of hd0
    obtain ⟨rfl, rfl, rfl, rfl, hcl, hpop, h8, s0, a, as0, rfl, hpl⟩ := qm_callV_of h
    obtain ⟨e1, e2⟩ := qm_lst (st := st) (base := base) (fv := fv) hpop
    obtain ⟨hsa, -⟩ := qm_pop_sv hpop hsv
    rw [qm_sv_c] at hsa
    have e3 : (as0.map (qm_rl st base fv)).length = xs.getD 1 0 - 1 := by
      rw [List.length_map]
      exact Nat.eq_sub_of_add_eq e2
    refine qm_siz hsz h1001 hc0 hI fun hz => ?_
    have hpc2 := hpc hz
    have hmr : 2 * (F0 m pc ls (sk.map (qm_rl st base fv))).monitorRoom + ((sk'.map (qm_rl st base fv)).map fun v => v.category).sum ≤ 8 := lv_room (by rw [hwd]; exact h8)
    have hq := qm_ck3 hq
    unfold qm_kF at hq
    rw [Bool.and_eq_true] at hq
    obtain ⟨-, hq⟩ := hq
    split at hq
    · rename_i C x y hfw
      simp only [Bool.and_eq_true] at hq
      obtain ⟨q1, q2, q3, q4, q5, q6, q7, q8⟩ := hq
      have q4 := of_decide_eq_true q4
      have q5 := of_decide_eq_true q5
      have q6 := of_decide_eq_true q6
      subst q4
      obtain ⟨c1, c2, c3, c4, c5, c6, c7, c8⟩ := qm_cc_of q7
      obtain ⟨p1, p2, p3, p4⟩ := qm_pl_of q8 hpl
      rw [← q6] at p2 p3
      have hr1 := qm_rl_lt (st := st) (base := base) (fv := fv) (a := a) p1
      rw [List.map_cons, hr1] at hpc2 e1
      rw [List.reverse_cons, List.append_assoc] at e1
      obtain ⟨hrec, cC, hat⟩ := qm_recv h3 hok hK hZ hI hsa.1 p4 p2 p3
      have hmem := List.mem_of_getElem? hfw
      have hxc := qm_fw_ok _ hmem
      refine qm_after5 (a := (Value.ref (qm_ad st base s0 a) :: as0.map (qm_rl st base fv)).toArray) (va_runF (As := as0.map (qm_rl st base fv)) (rest := sk'.map (qm_rl st base fv)) hat ⟨hx, hb, hml, hown, hts⟩ (hM c8) (va_cwF (x := x) (xs.getD 1 0 - 1) hts (qm_goodL ?_) rfl rfl rfl (hN.2.2.2.2.2.2.2 _ hmem) ⟨hxc.1, hxc.2, by rw [q5]; exact c5⟩ ⟨Nat.le_trans c6 hfr, Nat.le_trans c7 hlo⟩) ⟨qm_blind, hrec, hpc2⟩ rfl e3 hlsz e1 hmr hd hf) hS hst
      intro w hw
      rcases List.mem_append.mp hw with h | h
      · rcases List.mem_cons.mp h with rfl | h
        · exact qm_wk_of q1
        · rcases List.mem_cons.mp h with rfl | h
          · exact qm_wk_of q2
          · rcases List.mem_cons.mp h with rfl | h
            · exact qm_wk_of q3
            · rw [List.mem_singleton.mp h]; exact c1
      · rcases List.mem_cons.mp h with rfl | h
        · exact c2
        · exact h
    · cases hq
end
