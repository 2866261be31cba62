/-! ===== the law's machine's runs are the machine's: branches, answers, calls ===== -/
section
variable {p : Program} {l : Launch} {e : Env} {R : Room} {s : State} {m : MethodId} {args : Array Value} {below : List Frame} {meth : Method} {c : Code} {Q : State → Prop}
variable {me : Nat → pm_Me} {D : va_G} {cl : List vw_C} {cA : Nat → ClassId} {qs : Nat → qm_K} {T : qm_T} {J base : Nat} {so : Nat → Nat → Prop} {sx : qm_X} {Rt : pm_T} {st : Nat → Nat → Nat} {fv : Value} {ρ : Nat → Nat} {tx : String} {mi c0 : Nat}
/-- what is asked of the oracle -/
def qm_HO (O : qm_O) (Rt : pm_T) : Prop := ∀ mj as C v C', O mj as C = some (v, C') → Nat.ble (pm_wd as) (pt_me mj).2.2.1 = true ∧ ∃ n, pm_run pt_me pt_Sg Rt n mj 0 (pm_en (pt_me mj).2.2.1 as) [] C = some (v, C')
theorem qm_en_at : ∀ (as : List qm_V) (n i : Nat) (v : qm_V), (qm_en n as)[i]? = some (some v) → as[i]? = some v := by
  intro as
  induction as with
  | nil =>
    intro n i v h
    unfold qm_en at h
    have := List.eq_of_mem_replicate (List.mem_of_getElem? h)
    cases this
  | cons a as ih =>
    intro n i v h
    unfold qm_en at h
    cases i with
    | zero => cases h; rfl
    | succ i => exact ih _ _ _ h
theorem qm_en_len : ∀ (as : List qm_V) (n : Nat), as.length ≤ n → (qm_en n as).length = n := by
  intro as
  induction as with
  | nil => intro n h; simp [qm_en]
  | cons a as ih =>
    intro n h
    unfold qm_en
    rw [List.length_cons] at h
    rw [List.length_cons, ih _ (by omega)]
    omega
theorem qm_en_lv {S : qm_S} {as : List qm_V} {n : Nat} (h : qm_sv so J S as) : qm_lv so J S (qm_en n as) := fun i v hv => h v (List.mem_of_getElem? (qm_en_at as n i v hv))
theorem qm_sl (hfv : fv = .null ∨ ∃ t, fv = .ref t) (as : List qm_V) : lg_sl (as.map (qm_rl st base fv)) = as.map (fun v => Slot.val (qm_rl st base fv v)) := by
  induction as with
  | nil => rfl
  | cons v vs ih =>
    have e1 : lg_sl ((v :: vs).map (qm_rl st base fv)) = (if (qm_rl st base fv v).category = 2 then [Slot.val (qm_rl st base fv v), .second] else [.val (qm_rl st base fv v)]) ++ lg_sl (vs.map (qm_rl st base fv)) := by
      simp [lg_sl]
    rw [e1, ih, qm_rl_cat hfv, if_neg (by decide)]
    rfl
theorem qm_args_at (hfv : fv = .null ∨ ∃ t, fv = .ref t) : ∀ (as : List qm_V) (b i : Nat) (v : qm_V), as[i]? = some v → (b + i, qm_rl st base fv v) ∈ lv_args b (as.map (qm_rl st base fv)) := by
  intro as
  induction as with
  | nil => intro b i v h; cases h
  | cons a as ih =>
    intro b i v h
    show _ ∈ (b, qm_rl st base fv a) :: lv_args (if (qm_rl st base fv a).category = 2 then b + 2 else b + 1) (as.map (qm_rl st base fv))
    rw [qm_rl_cat hfv, if_neg (by decide)]
    cases i with
    | zero => cases h; exact List.mem_cons_self
    | succ i =>
      have := ih (b + 1) i v h
      rw [show b + 1 + i = b + (i + 1) by omega] at this
      exact List.mem_cons_of_mem _ this
theorem qm_entry (hfv : fv = .null ∨ ∃ t, fv = .ref t) {as : List qm_V} {n : Nat} (h : as.length ≤ n) : qm_LH st base fv n ((lg_sl (as.map (qm_rl st base fv)) ++ List.replicate (n - (lg_sl (as.map (qm_rl st base fv))).length) Slot.unset).toArray) (qm_en n as) := by
  have hl := lv_entry (as.map (qm_rl st base fv)) (n := n) (by rw [qm_sl hfv, List.length_map]; exact h)
  refine ⟨hl.1, qm_en_len as n h, hl.2.1, fun i v hv => ?_⟩
  have := hl.2.2 _ (qm_args_at hfv as 0 i v (qm_en_at as n i v hv))
  rwa [Nat.zero_add] at this
theorem qm_run_ok {O : qm_O} (h3 : qm_E3 qs T so base J st fv ρ) (HO : qm_HO O Rt) : ∀ (n : Nat) {mi pc : Nat} {pl : qm_L} {sk : List qm_V} {S S' : qm_S} {v : Option qm_V}, qm_run O me qs T J n mi pc pl sk S = some (v, S') → qm_ok qs T so J S → qm_sv so J S sk → qm_lv so J S pl → qm_mo J S S' ∧ qm_ok qs T so J S' ∧ ∀ x, v = some x → qm_vv so J S' x := by
  intro n
  induction n with
  | zero => intro mi pc pl sk S S' v h; cases h
  | succ n ih =>
    intro mi pc pl sk S S' v h hok hsv hlv
    replace h : qm_body O me qs T J (qm_run O me qs T J n) mi pc pl sk S = some (v, S') := h
    unfold qm_body at h
    split at h
    · rename_i q hqa
      cases hz : qm_x qs T J (me mi).2.2.2.1 q pl sk S with
      | none => rw [hz] at h; cases h
      | some gc =>
        obtain ⟨g, k⟩ := gc
        rw [hz] at h
        replace h := pm_cond (show (bif g then qm_dc O J me (qm_run O me qs T J n) mi k else none) = some (v, S') from h)
        obtain ⟨rfl, h⟩ := h
        have hko := qm_x_ok h3 hok hsv hlv hz
        rcases k with ⟨pc', ls', st', S1⟩ | ⟨o, x, y, t, e', ls', st', S1⟩ | ⟨x, d, ts, ls', st', S1⟩ | ⟨b, mj, as, nx, ls', st', S1⟩ | ⟨v1, S1⟩
        · obtain ⟨k1, k2, k3, k4⟩ := hko
          obtain ⟨g1, g2, g3⟩ := ih h k2 k3 k4
          exact ⟨k1.tr g1, g2, g3⟩
        · obtain ⟨rfl, rfl, k3⟩ := hko
          unfold qm_dc at h
          dsimp only at h
          split at h <;> split at h <;> exact ih h hok k3 hlv
        · obtain ⟨rfl, rfl, k3⟩ := hko
          obtain ⟨t, h1, -⟩ := qm_sw_which (k := fun t => qm_run O me qs T J n mi t ls' st' S1) (x := x) (d := d) ts 0
          exact ih (h1.symm.trans h) hok k3 hlv
        · obtain ⟨rfl, rfl, k3, k4⟩ := hko
          cases b with
          | false =>
            obtain ⟨v1, S2, h1, h2⟩ := qm_k_some (show qm_k (qm_c me (qm_run O me qs T J n) mj as S1) (fun v S' => qm_run O me qs T J n mi nx ls' (v.toList ++ st') S') = some (v, S') from h)
            obtain ⟨-, h5⟩ := qm_c_some h1
            obtain ⟨g1, g2, g3⟩ := ih h5 hok (fun _ hv => by cases hv) (qm_en_lv k3)
            have hsv2 : qm_sv so J S2 (v1.toList ++ st') := by
              intro x hx
              rcases List.mem_append.mp hx with hx | hx
              · exact g3 x (Option.mem_toList.mp hx)
              · exact g1.vv (k4 x hx)
            obtain ⟨f1, f2, f3⟩ := ih h2 g2 hsv2 (g1.lv hlv)
            exact ⟨g1.tr f1, f2, f3⟩
          | true =>
            obtain ⟨h1, h2, v1, C, h4, h5⟩ := qm_o_some (k := fun v S' => qm_run O me qs T J n mi nx ls' (v.toList ++ st') S') (show qm_o O J mj as S1 _ = some (v, S') from h)
            obtain ⟨-, n2, hr⟩ := HO _ _ _ _ _ h4
            obtain ⟨g2, g1⟩ := hok.oS h1 (pm_cnt n2 hr) (pm_cnt49 n2 hr hok.2.1)
            rcases h5 with ⟨x, -, h5⟩ | ⟨-, h5⟩
            · obtain ⟨f1, f2, f3⟩ := ih h5 g2 (qm_sv_c.mpr ⟨trivial, g1.sv k4⟩) (g1.lv hlv)
              exact ⟨g1.tr f1, f2, f3⟩
            · obtain ⟨f1, f2, f3⟩ := ih h5 g2 (g1.sv k4) (g1.lv hlv)
              exact ⟨g1.tr f1, f2, f3⟩
        · cases h
          obtain ⟨rfl, k2⟩ := hko
          exact ⟨qm_mo.rf, hok, k2⟩
    · cases h
theorem qm_n_nb {g g' : Bool} {pc : Nat} {ls : qm_L} {st : List qm_V} {S : qm_S} {z} (h : qm_n g pc ls st S = some (g', .inr z)) : False := by unfold qm_n at h; cases h
theorem qm_w_nb {x : Int32} {d : Nat} {ts : List Nat} {ls : qm_L} {st : List qm_V} {S : qm_S} {g : Bool} {z} (h : qm_w x d ts ls st S = some (g, .inr (.inl z))) : False := by unfold qm_w at h; cases h
theorem qm_j_nb {cl : Bool} {mj : Nat} {as : List qm_V} {nx : Nat} {ls : qm_L} {st : List qm_V} {S : qm_S} {g : Bool} {z} (h : qm_j cl mj as nx ls st S = some (g, .inr (.inl z))) : False := by unfold qm_j at h; cases h
theorem qm_e_nb {b : Bool} {v : Option qm_V} {S : qm_S} {g : Bool} {z} (h : qm_e b v S = some (g, .inr (.inl z))) : False := by unfold qm_e at h; cases h
theorem qm_b_inj {o o' : Nat} {x y x' y' : Int32} {t e t' e' : Nat} {ls ls' : qm_L} {st st' : List qm_V} {S S' : qm_S} (h : qm_b o x y t e ls st S = some (true, .inr (.inl (o', x', y', t', e', ls', st', S')))) : o = o' ∧ x = x' ∧ y = y' ∧ t = t' ∧ e = e' ∧ ls = ls' ∧ st = st' ∧ S = S' := by
  unfold qm_b at h
  cases h
  exact ⟨rfl, rfl, rfl, rfl, rfl, rfl, rfl, rfl⟩
theorem qm_callV_nb {nx : Nat} {xs : List Nat} {ls : qm_L} {st : List qm_V} {S : qm_S} {g : Bool} {z} (h : qm_callV nx xs ls st S = some (g, .inr (.inl z))) : False := by
  unfold qm_callV at h
  split at h
  · exact qm_j_nb (pm_cond h).2
  · cases h
theorem qm_call_nb {cl : Bool} {nx : Nat} {xs : List Nat} {ls : qm_L} {st : List qm_V} {S : qm_S} {g : Bool} {z} (h : qm_call cl nx xs ls st S = some (g, .inr (.inl z))) : False := by
  unfold qm_call at h
  split at h
  · exact qm_j_nb (pm_cond h).2
  · cases h
set_option maxHeartbeats 1000000 in
theorem qm_br (hx : p.tables.exec = Jvm.exec) (hb : c.code = (me mi).2.1) {q : pm_Q} (hq : qm_chk cl qs sx me mi q = true) {pl pl' : qm_L} {sk sk' : List qm_V} {S S' : qm_S} {o t e' : Nat} {x y : Int32}
    (h : qm_x qs T J (me mi).2.2.2.1 q pl sk S = some (true, .inr (.inl (o, x, y, t, e', pl', sk', S')))) {H : Heap} {locs : List Loc} {ls : Array Slot} {cells slots : Nat}
    (kk : W p l e R s m args below meth c H locs cells slots Q (F0 m (pm_pick o x y t e') ls (sk'.map (qm_rl st base fv)))) : W p l e R s m args below meth c H locs cells slots Q (F0 m q.1 ls (sk.map (qm_rl st base fv))) := by
  obtain ⟨pc, ins, nx, w, xs, ci, cj⟩ := q
  cases ins
  case ifCond cnd off =>
    simp only [qm_chk, Bool.and_eq_true] at hq
    obtain ⟨hd0, ht⟩ := hq
    obtain ⟨hd, rfl⟩ := pm_d_of hd0
    have ht := of_decide_eq_true ht
    cases cnd
    case eq =>
      simp only [qm_x] at h
      split at h
      · obtain ⟨rfl, rfl, rfl, rfl, rfl, rfl, rfl, rfl⟩ := qm_b_inj h
        exact lv_if_eq hx hb hd ht (fun hc => by simpa only [pm_pick, if_pos hc] using kk) (fun hc => by simpa only [pm_pick, if_neg hc] using kk)
      · cases h
    case ne =>
      simp only [qm_x] at h
      split at h
      · obtain ⟨rfl, rfl, rfl, rfl, rfl, rfl, rfl, rfl⟩ := qm_b_inj h
        exact lv_if_ne hx hb hd ht (fun hc => by simpa only [pm_pick, if_neg hc] using kk) (fun hc => by simpa only [pm_pick, if_pos hc] using kk)
      · cases h
    case lt =>
      simp only [qm_x] at h
      split at h
      · obtain ⟨rfl, rfl, rfl, rfl, rfl, rfl, rfl, rfl⟩ := qm_b_inj h
        exact lv_if_lt hx hb hd ht (fun hc => by simpa only [pm_pick, if_pos hc] using kk) (fun hc => by simpa only [pm_pick, if_neg hc] using kk)
      · cases h
    case ge =>
      simp only [qm_x] at h
      split at h
      · obtain ⟨rfl, rfl, rfl, rfl, rfl, rfl, rfl, rfl⟩ := qm_b_inj h
        exact lv_if_ge hx hb hd ht (fun hc => by simpa only [pm_pick, if_neg (Int32.not_lt.mpr hc)] using kk) (fun hc => by simpa only [pm_pick, if_pos (Int32.not_le.mp hc)] using kk)
      · cases h
    case gt =>
      simp only [qm_x] at h
      split at h
      · obtain ⟨rfl, rfl, rfl, rfl, rfl, rfl, rfl, rfl⟩ := qm_b_inj h
        exact lv_if_gt hx hb hd ht (fun hc => by simpa only [pm_pick, if_neg (Int32.not_le.mpr hc)] using kk) (fun hc => by simpa only [pm_pick, if_pos (Int32.not_lt.mp hc)] using kk)
      · cases h
    case le =>
      simp only [qm_x] at h
      split at h
      · obtain ⟨rfl, rfl, rfl, rfl, rfl, rfl, rfl, rfl⟩ := qm_b_inj h
        exact lv_if_le hx hb hd ht (fun hc => by simpa only [pm_pick, if_pos hc] using kk) (fun hc => by simpa only [pm_pick, if_neg hc] using kk)
      · cases h
  case if_icmp cnd off =>
    simp only [qm_chk, Bool.and_eq_true] at hq
    obtain ⟨hd0, ht⟩ := hq
    obtain ⟨hd, rfl⟩ := pm_d_of hd0
    have ht := of_decide_eq_true ht
    cases cnd
    case eq =>
      simp only [qm_x] at h
      split at h
      · obtain ⟨rfl, rfl, rfl, rfl, rfl, rfl, rfl, rfl⟩ := qm_b_inj h
        exact lv_icmp_eq hx hb hd ht (fun hc => by simpa only [pm_pick, if_pos hc] using kk) (fun hc => by simpa only [pm_pick, if_neg hc] using kk)
      · cases h
    case ne =>
      simp only [qm_x] at h
      split at h
      · obtain ⟨rfl, rfl, rfl, rfl, rfl, rfl, rfl, rfl⟩ := qm_b_inj h
        exact lv_icmp_ne hx hb hd ht (fun hc => by simpa only [pm_pick, if_neg hc] using kk) (fun hc => by simpa only [pm_pick, if_pos hc] using kk)
      · cases h
    case lt =>
      simp only [qm_x] at h
      split at h
      · obtain ⟨rfl, rfl, rfl, rfl, rfl, rfl, rfl, rfl⟩ := qm_b_inj h
        exact lv_icmp_lt hx hb hd ht (fun hc => by simpa only [pm_pick, if_pos hc] using kk) (fun hc => by simpa only [pm_pick, if_neg hc] using kk)
      · cases h
    case ge =>
      simp only [qm_x] at h
      split at h
      · obtain ⟨rfl, rfl, rfl, rfl, rfl, rfl, rfl, rfl⟩ := qm_b_inj h
        exact lv_icmp_ge hx hb hd ht (fun hc => by simpa only [pm_pick, if_neg (Int32.not_lt.mpr hc)] using kk) (fun hc => by simpa only [pm_pick, if_pos (Int32.not_le.mp hc)] using kk)
      · cases h
    case gt =>
      simp only [qm_x] at h
      split at h
      · obtain ⟨rfl, rfl, rfl, rfl, rfl, rfl, rfl, rfl⟩ := qm_b_inj h
        exact lv_icmp_gt hx hb hd ht (fun hc => by simpa only [pm_pick, if_neg (Int32.not_le.mpr hc)] using kk) (fun hc => by simpa only [pm_pick, if_pos (Int32.not_lt.mp hc)] using kk)
      · cases h
    case le =>
      simp only [qm_x] at h
      split at h
      · obtain ⟨rfl, rfl, rfl, rfl, rfl, rfl, rfl, rfl⟩ := qm_b_inj h
        exact lv_icmp_le hx hb hd ht (fun hc => by simpa only [pm_pick, if_pos hc] using kk) (fun hc => by simpa only [pm_pick, if_neg hc] using kk)
      · cases h
  case invokespecial idx =>
    simp only [qm_x] at h
    split at h
    · split at h
      · exact (qm_n_nb (pm_cond h).2).elim
      · cases h
    · exact (qm_callV_nb h).elim
  case invokevirtual idx =>
    simp only [qm_x, Bool.cond_eq_ite] at h
    split at h
    · (repeat' split at h) <;> first | exact (qm_n_nb h).elim | cases h
    · exact (qm_callV_nb h).elim
  case invokestatic idx =>
    simp only [qm_x, Bool.cond_eq_ite] at h
    split at h
    · (repeat' split at h) <;> first | exact (qm_n_nb h).elim | cases h
    · exact (qm_call_nb h).elim
  case invokeinterface idx cnt =>
    simp only [qm_x] at h
    exact (qm_callV_nb h).elim
  case if_acmp cnd o => cases cnd <;> (simp only [qm_x, Bool.cond_eq_ite] at h; (try split at h) <;> (try split at h) <;> first | exact (qm_n_nb h).elim | cases h)
  all_goals simp only [qm_x, Bool.cond_eq_ite] at h
  all_goals (try unfold qm_fv at h)
  all_goals (repeat' split at h)
  all_goals first
    | exact (qm_n_nb h).elim
    | exact (qm_w_nb h).elim
    | exact (qm_e_nb h).elim
    | cases h
end
