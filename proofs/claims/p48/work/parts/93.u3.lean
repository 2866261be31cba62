/-! ===== the law's machine's runs are the machine's: switches, answers, calls, all together ===== -/
section
variable {p : Program} {l : Launch} {e : Env} {R : Room} {s : State} {m : MethodId} {args : Array Value} {below : List Frame} {meth : Method} {c : Code} {Q : State → Prop}
variable {me : Nat → pm_Me} {D : va_G} {cl : List vw_C} {cA : Nat → ClassId} {qs : Nat → qm_K} {T : qm_T} {J base : Nat} {so : Nat → Nat → Prop} {sx : qm_X} {Rt : pm_T} {st : Nat → Nat → Nat} {fv : Value} {ρ : Nat → Nat} {tx : String} {mi c0 : Nat}
theorem qm_n_ns {g g' : Bool} {pc : Nat} {ls : qm_L} {st : List qm_V} {S : qm_S} {z} (h : qm_n g pc ls st S = some (g', .inr (.inr (.inl z)))) : False := by unfold qm_n at h; cases h
theorem qm_b_ns {o : Nat} {x y : Int32} {t e : Nat} {ls : qm_L} {st : List qm_V} {S : qm_S} {g : Bool} {z} (h : qm_b o x y t e ls st S = some (g, .inr (.inr (.inl z)))) : False := by unfold qm_b at h; cases h
theorem qm_e_ns {b : Bool} {v : Option qm_V} {S : qm_S} {g : Bool} {z} (h : qm_e b v S = some (g, .inr (.inr (.inl z)))) : False := by unfold qm_e at h; cases h
theorem qm_j_ns {cl : Bool} {mj : Nat} {as : List qm_V} {nx : Nat} {ls : qm_L} {st : List qm_V} {S : qm_S} {g : Bool} {z} (h : qm_j cl mj as nx ls st S = some (g, .inr (.inr (.inl z)))) : False := by unfold qm_j at h; cases h
theorem qm_callV_ns {nx : Nat} {xs : List Nat} {ls : qm_L} {st : List qm_V} {S : qm_S} {g : Bool} {z} (h : qm_callV nx xs ls st S = some (g, .inr (.inr (.inl z)))) : False := by
  unfold qm_callV at h
  split at h
  · exact qm_j_ns (pm_cond h).2
  · cases h
theorem qm_call_ns {cl : Bool} {nx : Nat} {xs : List Nat} {ls : qm_L} {st : List qm_V} {S : qm_S} {g : Bool} {z} (h : qm_call cl nx xs ls st S = some (g, .inr (.inr (.inl z)))) : False := by
  unfold qm_call at h
  split at h
  · exact qm_j_ns (pm_cond h).2
  · cases h
theorem qm_n_nr {g g' : Bool} {pc : Nat} {ls : qm_L} {st : List qm_V} {S : qm_S} {z} (h : qm_n g pc ls st S = some (g', .inr (.inr (.inr (.inr z))))) : False := by unfold qm_n at h; cases h
theorem qm_b_nr {o : Nat} {x y : Int32} {t e : Nat} {ls : qm_L} {st : List qm_V} {S : qm_S} {g : Bool} {z} (h : qm_b o x y t e ls st S = some (g, .inr (.inr (.inr (.inr z))))) : False := by unfold qm_b at h; cases h
theorem qm_w_nr {x : Int32} {d : Nat} {ts : List Nat} {ls : qm_L} {st : List qm_V} {S : qm_S} {g : Bool} {z} (h : qm_w x d ts ls st S = some (g, .inr (.inr (.inr (.inr z))))) : False := by unfold qm_w at h; cases h
theorem qm_j_nr {cl : Bool} {mj : Nat} {as : List qm_V} {nx : Nat} {ls : qm_L} {st : List qm_V} {S : qm_S} {g : Bool} {z} (h : qm_j cl mj as nx ls st S = some (g, .inr (.inr (.inr (.inr z))))) : False := by unfold qm_j at h; cases h
theorem qm_callV_nr {nx : Nat} {xs : List Nat} {ls : qm_L} {st : List qm_V} {S : qm_S} {g : Bool} {z} (h : qm_callV nx xs ls st S = some (g, .inr (.inr (.inr (.inr z))))) : False := by
  unfold qm_callV at h
  split at h
  · exact qm_j_nr (pm_cond h).2
  · cases h
theorem qm_call_nr {cl : Bool} {nx : Nat} {xs : List Nat} {ls : qm_L} {st : List qm_V} {S : qm_S} {g : Bool} {z} (h : qm_call cl nx xs ls st S = some (g, .inr (.inr (.inr (.inr z))))) : False := by
  unfold qm_call at h
  split at h
  · exact qm_j_nr (pm_cond h).2
  · cases h
theorem qm_n_nc {g g' : Bool} {pc : Nat} {ls : qm_L} {st : List qm_V} {S : qm_S} {z} (h : qm_n g pc ls st S = some (g', .inr (.inr (.inr (.inl z))))) : False := by unfold qm_n at h; cases h
theorem qm_b_nc {o : Nat} {x y : Int32} {t e : Nat} {ls : qm_L} {st : List qm_V} {S : qm_S} {g : Bool} {z} (h : qm_b o x y t e ls st S = some (g, .inr (.inr (.inr (.inl z))))) : False := by unfold qm_b at h; cases h
theorem qm_w_nc {x : Int32} {d : Nat} {ts : List Nat} {ls : qm_L} {st : List qm_V} {S : qm_S} {g : Bool} {z} (h : qm_w x d ts ls st S = some (g, .inr (.inr (.inr (.inl z))))) : False := by unfold qm_w at h; cases h
theorem qm_e_nc {b : Bool} {v : Option qm_V} {S : qm_S} {g : Bool} {z} (h : qm_e b v S = some (g, .inr (.inr (.inr (.inl z))))) : False := by unfold qm_e at h; cases h
set_option maxHeartbeats 1000000 in
theorem qm_swc (hx : p.tables.exec = Jvm.exec) (hb : c.code = (me mi).2.1) {q : pm_Q} (hq : qm_chk cl qs sx me mi q = true) {pl pl' : qm_L} {sk sk' : List qm_V} {S S' : qm_S} {x : Int32} {d0 : Nat} {ts : List Nat}
    (h : qm_x qs T J (me mi).2.2.2.1 q pl sk S = some (true, .inr (.inr (.inl (x, d0, ts, pl', sk', S'))))) {H : Heap} {locs : List Loc} {ls : Array Slot} {cells slots : Nat}
    (kk : W p l e R s m args below meth c H locs cells slots Q (F0 m (pm_wh x d0 ts 0) ls (sk'.map (qm_rl st base fv)))) : W p l e R s m args below meth c H locs cells slots Q (F0 m q.1 ls (sk.map (qm_rl st base fv))) := by
  obtain ⟨pc, ins, nx, w, xs, ci, cj⟩ := q
  cases ins
  case ifCond cnd o => cases cnd <;> (simp only [qm_x] at h; split at h <;> first | exact (qm_b_ns h).elim | cases h)
  case if_icmp cnd o => cases cnd <;> (simp only [qm_x] at h; split at h <;> first | exact (qm_b_ns h).elim | cases h)
  case invokespecial idx =>
    simp only [qm_x] at h
    split at h
    · split at h
      · exact (qm_n_ns (pm_cond h).2).elim
      · cases h
    · exact (qm_callV_ns h).elim
  case invokevirtual idx =>
    simp only [qm_x, Bool.cond_eq_ite] at h
    split at h
    · (repeat' split at h) <;> first | exact (qm_n_ns h).elim | cases h
    · exact (qm_callV_ns h).elim
  case invokestatic idx =>
    simp only [qm_x, Bool.cond_eq_ite] at h
    split at h
    · (repeat' split at h) <;> first | exact (qm_n_ns h).elim | cases h
    · exact (qm_call_ns h).elim
  case invokeinterface idx cnt =>
    simp only [qm_x] at h
    exact (qm_callV_ns h).elim
  case if_acmp cnd o => cases cnd <;> (simp only [qm_x, Bool.cond_eq_ite] at h; (try split at h) <;> (try split at h) <;> first | exact (qm_n_ns h).elim | cases h)
  case tableswitch d lo hi offs =>
    simp only [qm_chk, Bool.and_eq_true] at hq
    obtain ⟨hd0, q1, q2, q3, q4, q5⟩ := hq
    obtain ⟨hd, -⟩ := pm_d_of hd0
    have q1 := of_decide_eq_true q1
    have q2 := of_decide_eq_true q2
    have q3 := of_decide_eq_true q3
    have q4 := of_decide_eq_true q4
    obtain ⟨q6, q7⟩ := pm_swk_at _ _ q5
    subst q1
    have hsz : offs.toList.length = offs.size := Array.length_toList
    simp only [qm_x] at h
    split at h
    · rename_i x2 r
      unfold qm_w at h
      cases h
      by_cases hin : x.toInt < 0 ∨ hi < x.toInt
      · rw [pm_wh_out] at kk
        · exact lv_tableOut hx hb hd hin q4 kk
        · intro i hi2 e
          rw [Nat.zero_add] at e
          have hti : x.toInt = (i : Int) := by rw [e]; exact nI_toInt (by omega)
          omega
      · have h0 : ¬ x.toInt < 0 := fun z => hin (Or.inl z)
        have h1 : ¬ hi < x.toInt := fun z => hin (Or.inr z)
        obtain ⟨i, hi2⟩ : ∃ i : Nat, x.toInt = (i : Int) := ⟨x.toInt.toNat, by omega⟩
        have hil : i < offs.toList.length := by omega
        have hxi : x = nI (0 + i) := by
          rw [Nat.zero_add]
          apply Int32.toInt_inj.mp
          rw [hi2, nI_toInt (by omega)]
        obtain ⟨o, e1, e2⟩ := q7 i hil
        rw [hxi, pm_wh_in _ 0 i (by omega) (by omega)] at kk
        refine lv_tableIn (off := o) hx hb hd h0 h1 ?_ e2 kk
        rw [hi2, show ((i : Int) - 0).toNat = i by omega, ← Array.getElem?_toList]
        exact e1
    · cases h
  all_goals simp only [qm_x, Bool.cond_eq_ite] at h
  all_goals (try unfold qm_fv at h)
  all_goals (repeat' split at h)
  all_goals first
    | exact (qm_n_ns h).elim
    | exact (qm_e_ns h).elim
    | cases h
/-- a method's answer -/
def qm_rt (ret : Option FieldType) (v : Option qm_V) (i : Instr) : Prop := (i = .ireturn ∧ ∃ x ty, v = some (.inl x) ∧ ret = some ty ∧ narrow ty (.int x) = .int x) ∨ (i = .areturn ∧ ∃ s a ty, v = some (.inr (s, a)) ∧ s < 30 ∧ ret = some ty ∧ ((∃ n, ty = .object n) ∨ ∃ t, ty = .array t)) ∨ (i = .return_ ∧ v = none ∧ ret = none)
theorem qm_e_inj {b g : Bool} {v v' : Option qm_V} {S S' : qm_S} (h : qm_e b v S = some (g, .inr (.inr (.inr (.inr (v', S')))))) : b = g ∧ v = v' ∧ S = S' := by unfold qm_e at h; cases h; exact ⟨rfl, rfl, rfl⟩
set_option maxHeartbeats 1000000 in
theorem qm_ret {q : pm_Q} (hq : qm_chk cl qs sx me mi q = true) {pl : qm_L} {sk : List qm_V} {S S' : qm_S} {v : Option qm_V}
    (h : qm_x qs T J (me mi).2.2.2.1 q pl sk S = some (true, .inr (.inr (.inr (.inr (v, S')))))) : ∃ i, decode (me mi).2.1 q.1 = .ok (i, 1) ∧ qm_rt (me mi).2.2.2.1 v i ∧ sk = v.toList := by
  obtain ⟨pc, ins, nx, w, xs, ci, cj⟩ := q
  cases ins
  case ifCond cnd o => cases cnd <;> (simp only [qm_x] at h; split at h <;> first | exact (qm_b_nr h).elim | cases h)
  case if_icmp cnd o => cases cnd <;> (simp only [qm_x] at h; split at h <;> first | exact (qm_b_nr h).elim | cases h)
  case invokespecial idx =>
    simp only [qm_x] at h
    split at h
    · split at h
      · exact (qm_n_nr (pm_cond h).2).elim
      · cases h
    · exact (qm_callV_nr h).elim
  case invokevirtual idx =>
    simp only [qm_x, Bool.cond_eq_ite] at h
    split at h
    · (repeat' split at h) <;> first | exact (qm_n_nr h).elim | cases h
    · exact (qm_callV_nr h).elim
  case invokestatic idx =>
    simp only [qm_x, Bool.cond_eq_ite] at h
    split at h
    · (repeat' split at h) <;> first | exact (qm_n_nr h).elim | cases h
    · exact (qm_call_nr h).elim
  case invokeinterface idx cnt =>
    simp only [qm_x] at h
    exact (qm_callV_nr h).elim
  case if_acmp cnd o => cases cnd <;> (simp only [qm_x, Bool.cond_eq_ite] at h; (try split at h) <;> (try split at h) <;> first | exact (qm_n_nr h).elim | cases h)
  case ireturn =>
    obtain ⟨hd, -⟩ := pm_d_of (show pm_d _ _ _ _ 1 = true from hq)
    simp only [qm_x] at h
    split at h
    · rename_i x
      split at h
      · rename_i hr
        obtain ⟨hg, rfl, rfl⟩ := qm_e_inj h
        exact ⟨_, hd, Or.inl ⟨rfl, x, _, rfl, hr, rfl⟩, rfl⟩
      · rename_i hr
        obtain ⟨hg, rfl, rfl⟩ := qm_e_inj h
        exact ⟨_, hd, Or.inl ⟨rfl, x, _, rfl, hr, pm_nz x (of_decide_eq_true hg)⟩, rfl⟩
      · rename_i hr
        obtain ⟨hg, rfl, rfl⟩ := qm_e_inj h
        exact ⟨_, hd, Or.inl ⟨rfl, x, _, rfl, hr, congrArg Value.int (of_decide_eq_true hg)⟩, rfl⟩
      · rename_i hr
        obtain ⟨hg, rfl, rfl⟩ := qm_e_inj h
        exact ⟨_, hd, Or.inl ⟨rfl, x, _, rfl, hr, by have := of_decide_eq_true hg; first | exact congrArg Value.int this | (simp [narrow, this])⟩, rfl⟩
      · cases h
    · cases h
  case areturn =>
    obtain ⟨hd, -⟩ := pm_d_of (show pm_d _ _ _ _ 1 = true from hq)
    simp only [qm_x] at h
    split at h
    · rename_i s0 a
      replace h := pm_cond h
      obtain ⟨h30, h⟩ := h
      have h30 : s0 < 30 := by simpa [Nat.blt_eq] using h30
      split at h
      · rename_i hr
        obtain ⟨hg, rfl, rfl⟩ := qm_e_inj h
        exact ⟨_, hd, Or.inr (Or.inl ⟨rfl, s0, a, _, rfl, h30, hr, Or.inl ⟨_, rfl⟩⟩), rfl⟩
      · rename_i hr
        obtain ⟨hg, rfl, rfl⟩ := qm_e_inj h
        exact ⟨_, hd, Or.inr (Or.inl ⟨rfl, s0, a, _, rfl, h30, hr, Or.inr ⟨_, rfl⟩⟩), rfl⟩
      · cases h
    · cases h
  case return_ =>
    obtain ⟨hd, -⟩ := pm_d_of (show pm_d _ _ _ _ 1 = true from hq)
    simp only [qm_x] at h
    split at h
    · split at h
      · rename_i hr
        obtain ⟨hg, rfl, rfl⟩ := qm_e_inj h
        exact ⟨_, hd, Or.inr (Or.inr ⟨rfl, rfl, hr⟩), rfl⟩
      · cases h
    · cases h
  all_goals simp only [qm_x, Bool.cond_eq_ite] at h
  all_goals (try unfold qm_fv at h)
  all_goals (repeat' split at h)
  all_goals first
    | exact (qm_n_nr h).elim
    | exact (qm_w_nr h).elim
    | cases h
/-! calls -/
def qm_Qc (D : va_G) (cl : List vw_C) (cA : Nat → ClassId) (qs : Nat → qm_K) (st : Nat → Nat → Nat) (ρ : Nat → Nat) (fv : Value) (base J : Nat) (v : Option qm_V) (S' : qm_S) : Array Value → State → Outcome → State → Prop := fun _ u oc t =>
  oc = .returned (v.map (qm_rl st base fv)) ∧ va_P D cl (qm_ws qs cA st base J ρ fv S') t.heap ∧ va_F (fun q : Nat => base ≤ q) u t
def qm_Pc (D : va_G) (cl : List vw_C) (cA : Nat → ClassId) (qs : Nat → qm_K) (T : qm_T) (so : Nat → Nat → Prop) (sx : qm_X) (Rt : pm_T) (st : Nat → Nat → Nat) (ρ : Nat → Nat) (fv : Value) (base J : Nat) (tx : String) (as : List qm_V) (S : qm_S) : Array Value → State → Prop := va_Pc (as.map (qm_rl st base fv)) (fun U => U.heap.size + 1001 = base + S.1 ∧ va_P D cl (qm_ws qs cA st base J ρ fv S) U.heap ∧ va_K D cl (qm_tys cA) U ∧ qm_Zf qs T so st fv ρ cl Rt (fun q => base ≤ q) U U.heap ∧ qm_Nf sx tx st ρ cA U)
theorem qm_blind {as : List qm_V} {S : qm_S} : FrameBlind (qm_Pc D cl cA qs T so sx Rt st ρ fv base J tx as S) := by
  intro a U g mk h
  obtain ⟨h0, h1, h2, h3, h4, h5⟩ := h
  exact ⟨h0, h1, h2, va_K.moved (u := U) (U := U.calling g mk a) (Vm.Alike.refl U.vm) h3, qm_Zf.moved (u := U) (U := U.calling g mk a) (Vm.Alike.refl U.vm) h4, qm_Nf.same (u := U) (U := U.calling g mk a) rfl h5⟩
def qm_wo (M : pm_Me) : List Cond := .code M.1 M.2.1 M.2.2.1 M.2.2.2.1 :: qm_G
def qm_rm (M : pm_Me) (S S' : qm_S) : Room := { frames := M.2.2.2.2.1, cells := S'.1 - S.1, slots := S'.2.1 - S.2.1, locals := M.2.2.2.2.2.1 }
theorem qm_good {y : Cond} (h : y ∈ qm_G) : GoodIn qm_G (y :: qm_G) := by
  intro w hw
  have hw2 : w ∈ qm_G := by
    rcases List.mem_cons.mp hw with e | h2
    · exact e ▸ h
    · exact h2
  exact ⟨hw2, good_of_word (List.mem_filter.mp hw2).2⟩
theorem qm_goodL {ws : List Cond} (h : ∀ w ∈ ws, w ∈ qm_G) : GoodIn qm_G ws := fun w hw => ⟨h w hw, good_of_word (List.mem_filter.mp (h w hw)).2⟩
theorem qm_lst {sk as rest : List qm_V} {n : Nat} (h : qm_pop n [] sk = some (as, rest)) : sk.map (qm_rl st base fv) = (as.map (qm_rl st base fv)).reverse ++ rest.map (qm_rl st base fv) ∧ as.length = n := by
  obtain ⟨xs, h1, h2, h3⟩ := qm_pop_eq n h
  rw [h1, h2]
  simp [h3]
theorem qm_cc_of {mj n wi wc : Nat} (h : qm_cc me mi mj n wi wc = true) : Cond.initialized (me mj).1.cls ∈ qm_G ∧ Cond.code (me mj).1 (me mj).2.1 (me mj).2.2.1 (me mj).2.2.2.1 ∈ qm_G ∧ (me mj).1.cls ≠ "java/lang/invoke/MethodHandle" ∧ (me mj).1.cls ≠ "java/lang/invoke/VarHandle" ∧ (parseMethodDescriptor (me mj).1.desc).map (fun d => d.parameters.length) = some n ∧ (me mj).2.2.2.2.1 + 1 ≤ (me mi).2.2.2.2.1 ∧ 8 + ((me mj).2.2.1 + 11) + (me mj).2.2.2.2.2.1 ≤ (me mi).2.2.2.2.2.1 ∧ plainFor (me mj).1 = true := by
  simp only [qm_cc, Bool.and_eq_true] at h
  obtain ⟨h1, h2, h3, h4, h5, h6, h7, h8⟩ := h
  exact ⟨qm_wk_of h1, qm_wk_of h2, of_decide_eq_true h3, of_decide_eq_true h4, of_decide_eq_true h5, Nat.le_of_ble_eq_true h6, Nat.le_of_ble_eq_true h7, h8⟩
theorem qm_ccc_of {mj n wi wc : Nat} (h : qm_ccc me mi mj n wi wc = true) : Cond.initialized (pt_me mj).1.cls ∈ pm_G ∧ Cond.code (pt_me mj).1 (pt_me mj).2.1 (pt_me mj).2.2.1 (pt_me mj).2.2.2.1 ∈ pm_G ∧ (pt_me mj).1.cls ≠ "java/lang/invoke/MethodHandle" ∧ (pt_me mj).1.cls ≠ "java/lang/invoke/VarHandle" ∧ (parseMethodDescriptor (pt_me mj).1.desc).map (fun d => d.parameters.length) = some n ∧ (pt_me mj).2.2.2.2.1 + 1 ≤ (me mi).2.2.2.2.1 ∧ 8 + ((pt_me mj).2.2.1 + 11) + (pt_me mj).2.2.2.2.2.1 ≤ (me mi).2.2.2.2.2.1 ∧ plainFor (pt_me mj).1 = true := by
  simp only [qm_ccc, Bool.and_eq_true] at h
  obtain ⟨h1, h2, h3, h4, h5, h6, h7, h8⟩ := h
  exact ⟨pm_wk_of h1, pm_wk_of h2, of_decide_eq_true h3, of_decide_eq_true h4, of_decide_eq_true h5, Nat.le_of_ble_eq_true h6, Nat.le_of_ble_eq_true h7, h8⟩
theorem qm_after {H : Heap} {locs : List Loc} {cells slots mc ms pc : Nat} {ls : Array Slot} {st0 rest : List Value} {a : Array Value} {v : Option qm_V} {S' : qm_S}
    (hr : va_Run p l e R s m args below meth c H locs cells slots mc ms (F0 m pc ls st0) rest (qm_Qc D cl cA qs st ρ fv base J v S' a) (fun q => base ≤ q)) (hS : va_S (fun q : Nat => base ≤ q) s.heap H locs)
    (kk : ∀ (H1 : Heap) (locs1 : List Loc), qm_I D cl cA qs st ρ fv base J S' s H1 locs1 → W p l e R s m args below meth c H1 locs1 (cells + mc) (slots + ms) Q (F0 m (pc + 3) ls ((v.map (qm_rl st base fv)).toList ++ rest))) : W p l e R s m args below meth c H locs cells slots Q (F0 m pc ls st0) := by
  intro T0 hT X
  obtain ⟨v1, st₀, t, T', L, h0, X', hL, e1, e2, ⟨hv, hP, hz, hk⟩, stp⟩ := hr T0 hT X
  cases hv
  rw [h0] at hz hk
  obtain ⟨t2, a1, b1⟩ := kk T'.heap (locs ++ L) ⟨by rw [e1]; exact hP, ⟨Nat.le_trans hS.1 (by rw [e1]; exact hz), fun q h1 h2 => by rw [e1, hk q (Nat.lt_of_lt_of_le h1 hS.1) h2]; exact hS.2.1 q h1 h2, fun q hq => by
      rcases List.mem_append.mp hq with h | h
      · exact hS.2.2 q h
      · exact hL q h⟩⟩ T' rfl X'
  exact ⟨t2, stp t2 a1, b1⟩
theorem qm_after5 {H : Heap} {locs : List Loc} {cells slots mc ms pc : Nat} {ls : Array Slot} {st0 rest : List Value} {a : Array Value} {v : Option qm_V} {S' : qm_S}
    (hr : va_Run5 p l e R s m args below meth c H locs cells slots mc ms (F0 m pc ls st0) rest (qm_Qc D cl cA qs st ρ fv base J v S' a) (fun q => base ≤ q)) (hS : va_S (fun q : Nat => base ≤ q) s.heap H locs)
    (kk : ∀ (H1 : Heap) (locs1 : List Loc), qm_I D cl cA qs st ρ fv base J S' s H1 locs1 → W p l e R s m args below meth c H1 locs1 (cells + mc) (slots + ms) Q (F0 m (pc + 5) ls ((v.map (qm_rl st base fv)).toList ++ rest))) : W p l e R s m args below meth c H locs cells slots Q (F0 m pc ls st0) := by
  intro T0 hT X
  obtain ⟨v1, st₀, t, T', L, h0, X', hL, e1, e2, ⟨hv, hP, hz, hk⟩, stp⟩ := hr T0 hT X
  cases hv
  rw [h0] at hz hk
  obtain ⟨t2, a1, b1⟩ := kk T'.heap (locs ++ L) ⟨by rw [e1]; exact hP, ⟨Nat.le_trans hS.1 (by rw [e1]; exact hz), fun q h1 h2 => by rw [e1, hk q (Nat.lt_of_lt_of_le h1 hS.1) h2]; exact hS.2.1 q h1 h2, fun q hq => by
      rcases List.mem_append.mp hq with h | h
      · exact hS.2.2 q h
      · exact hL q h⟩⟩ T' rfl X'
  exact ⟨t2, stp t2 a1, b1⟩
/-- whose object it is -/
theorem qm_recv (h3 : qm_E3 qs T so base J st fv ρ) {S : qm_S} {H : Heap} {locs : List Loc} (hok : qm_ok qs T so J S) (hK : va_K D cl (qm_tys cA) s) (hZ : qm_Zf qs T so st fv ρ cl Rt (fun q => base ≤ q) s s.heap) (hI : qm_I D cl cA qs st ρ fv base J S s H locs) {s0 a : Nat} {C : String} (hv : qm_vv so J S (.inr (s0, a))) (h0 : s0 ≠ 0) (hn : qm_cn cl qs s0 = C) (hC : C ≠ "") :
    (∃ cell : Cell, H[qm_ad st base s0 a]? = some cell ∧ cell.vm.isStatics = false ∧ s.vm.findClass C = some cell.cls) ∧ ∃ cC, ClassAt s C cC := by
  unfold qm_cn at hn
  rw [pm_bf h0] at hn
  simp only [cond_false] at hn
  split at hn
  · rename_i c2 ks hqs
    split at hn
    · rename_i C' T' N hcl
      subst hn
      refine ⟨?_, _, (hK.1 _ _ hcl).2⟩
      obtain ⟨h30, hcase⟩ := qm_obj h3 hok hv hqs
      rcases hcase with ⟨hT, hso, hrl⟩ | ⟨hT, hd, hrl⟩
      · obtain ⟨g, -⟩ := hZ.2.2.2.2.2.2.2.2.2 s0 a _ ks _ T' N hso h0 hT hqs hcl
        obtain ⟨cell, q1, q2, q3, -⟩ := g.kept hI.2.2.1
        unfold qm_ad
        rw [if_pos (h3.2.1 _ _ hso).2.1]
        exact ⟨cell, q1, q2, q3⟩
      · have hat := qm_at_dv (qs := qs) (cA := cA) (st := st) (base := base) (ρ := ρ) (fv := fv) hd
        have hlc : qm_lc qs cA st base S s0 a = .inr (c2, ks.mapIdx fun k kd => qm_val st base S s0 a k kd) := by
          unfold qm_lc
          rw [hqs]
        rw [hlc] at hat
        unfold qm_ad
        rw [if_neg (by have := hd.1; omega)]
        exact va_recv hK hI.1 hcl hat
    · exact absurd hn.symm hC
  · exact absurd hn.symm hC
theorem qm_pl_of {pl : List Nat} (h : qm_pl cl qs pl = true) {s0 : Nat} (hs : pl.any (Nat.beq s0) = true) : s0 < 30 ∧ qm_cn cl qs s0 = qm_cn cl qs (pl.getD 0 0) ∧ qm_cn cl qs (pl.getD 0 0) ≠ "" ∧ s0 ≠ 0 := by
  obtain ⟨x, hx, he⟩ := List.any_eq_true.mp hs
  have he := Nat.eq_of_beq_eq_true he
  subst he
  have := List.all_eq_true.mp h _ hx
  simp only [Bool.and_eq_true] at this
  obtain ⟨a1, a2, a3, a4⟩ := this
  have a2 := of_decide_eq_true a2
  have a3 := of_decide_eq_true a3
  refine ⟨by simpa [Nat.blt_eq] using a1, a2, by rw [← a2]; exact a3, fun e => ?_⟩
  rw [e] at a4
  cases a4
end
