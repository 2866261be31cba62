def pm_pick (o : Nat) (x y : Int32) (t e : Nat) : Nat := match o with
  | 0 => if x = y then t else e
  | 1 => if x < y then t else e
  | _ => if x ≤ y then t else e
def pm_wh (x : Int32) (d : Nat) : List Nat → Nat → Nat
  | [], _ => d
  | t :: ts, j => if x = nI j then t else pm_wh x d ts (j + 1)
theorem pm_sw_wh {k : Nat → pm_R} {x : Int32} {d : Nat} : ∀ (ts : List Nat) (j : Nat), pm_sw k x d ts j = k (pm_wh x d ts j) := by
  intro ts
  induction ts with
  | nil => intro j; rfl
  | cons t ts ih =>
    intro j
    unfold pm_sw pm_wh
    by_cases c : x = nI j
    · rw [if_pos c, if_pos c]
    · rw [if_neg c, if_neg c, ih]
theorem pm_wh_in {d : Nat} : ∀ (ts : List Nat) (j i : Nat), i < ts.length → j + ts.length < 2 ^ 31 → pm_wh (nI (j + i)) d ts j = ts.getD i 0 := by
  intro ts
  induction ts with
  | nil => intro j i h; cases h
  | cons t ts ih =>
    intro j i h hb
    rw [List.length_cons] at h hb
    unfold pm_wh
    cases i with
    | zero => rw [Nat.add_zero, if_pos rfl]; rfl
    | succ i =>
      rw [if_neg (fun e => by have := (nI_eq (by omega) (by omega)).mp e; omega), show j + (i + 1) = j + 1 + i by omega, ih (j + 1) i (by omega) (by omega)]
      rfl
theorem pm_wh_out {x : Int32} {d : Nat} : ∀ (ts : List Nat) (j : Nat), (∀ i, i < ts.length → x ≠ nI (j + i)) → pm_wh x d ts j = d := by
  intro ts
  induction ts with
  | nil => intro j h; rfl
  | cons t ts ih =>
    intro j h
    unfold pm_wh
    have h0 := h 0 (by simp)
    rw [Nat.add_zero] at h0
    rw [if_neg h0, ih (j + 1) (fun i hi => by rw [show j + 1 + i = j + (i + 1) by omega]; exact h (i + 1) (by simpa using hi))]
theorem pm_swk_at {pc : Nat} : ∀ (os : List Int) (ts : List Nat), pm_swk pc os ts = true → os.length = ts.length ∧ ∀ i, i < os.length → ∃ o, os[i]? = some o ∧ (pc : Int) + o = (ts.getD i 0 : Int) := by
  intro os
  induction os with
  | nil =>
    intro ts h
    cases ts with
    | nil => exact ⟨rfl, fun i hi => by cases hi⟩
    | cons t ts => cases h
  | cons o os ih =>
    intro ts h
    cases ts with
    | nil => cases h
    | cons t ts =>
      unfold pm_swk at h
      rw [Bool.and_eq_true] at h
      obtain ⟨h1, h2⟩ := ih ts h.2
      refine ⟨by simp [h1], fun i hi => ?_⟩
      cases i with
      | zero => exact ⟨o, rfl, of_decide_eq_true h.1⟩
      | succ i =>
        obtain ⟨o', e1, e2⟩ := h2 i (by simpa using hi)
        exact ⟨o', by simpa using e1, by simpa using e2⟩
section
variable {p : Program} {l : Launch} {e : Env} {R : Room} {s : State} {m : MethodId} {args : Array Value} {below : List Frame} {meth : Method} {c : Code} {Q : State → Prop}
variable {me : Nat → pm_Me} {Sg : Nat → pm_K} {Rt : pm_T} {cl : List vw_C} {D : va_G} {cA : Nat → ClassId} {ρ : Nat → Nat} {fv : Value} {base : pm_B} {tx : String} {mi c0 : Nat}
theorem pm_b_inj {o o' : Nat} {x y x' y' : Int32} {t e t' e' : Nat} {ls ls' : pm_L} {st st' : List Value} {S S' : pm_S} (h : pm_b o x y t e ls st S = some (true, .inr (.inl (o', x', y', t', e', ls', st', S')))) : o = o' ∧ x = x' ∧ y = y' ∧ t = t' ∧ e = e' ∧ ls = ls' ∧ st = st' ∧ S = S' := by
  unfold pm_b at h
  cases h
  exact ⟨rfl, rfl, rfl, rfl, rfl, rfl, rfl, rfl⟩
theorem pm_n_nb {g g' : Bool} {pc : Nat} {ls : pm_L} {st : List Value} {S : pm_S} {z} (h : pm_n g pc ls st S = some (g', .inr z)) : False := by unfold pm_n at h; cases h
theorem pm_w_nb {x : Int32} {d : Nat} {ts : List Nat} {ls : pm_L} {st : List Value} {S : pm_S} {g : Bool} {z} (h : pm_w x d ts ls st S = some (g, .inr (.inl z))) : False := by unfold pm_w at h; cases h
theorem pm_j_nb {mj : Nat} {as : List Value} {nx : Nat} {ls : pm_L} {st : List Value} {S : pm_S} {g : Bool} {z} (h : pm_j mj as nx ls st S = some (g, .inr (.inl z))) : False := by unfold pm_j at h; cases h
theorem pm_e_nb {b : Bool} {v : Option Value} {S : pm_S} {g : Bool} {z} (h : pm_e b v S = some (g, .inr (.inl z))) : False := by unfold pm_e at h; cases h
set_option maxHeartbeats 1000000 in
theorem pm_br (hx : p.tables.exec = Jvm.exec) (hb : c.code = (me mi).2.1) {q : pm_Q} (hq : pm_chk cl me mi q = true) {pl pl' : pm_L} {st st' : List Value} {S S' : pm_S} {o t e' : Nat} {x y : Int32}
    (h : pm_x Sg Rt (me mi).2.2.2.1 q pl st S = some (true, .inr (.inl (o, x, y, t, e', pl', st', S')))) {H : Heap} {locs : List Loc} {ls : Array Slot} {cells slots : Nat}
    (kk : W p l e R s m args below meth c H locs cells slots Q (F0 m (pm_pick o x y t e') ls (st'.map (pm_rl ρ fv)))) : pl' = pl ∧ S' = S ∧ W p l e R s m args below meth c H locs cells slots Q (F0 m q.1 ls (st.map (pm_rl ρ fv))) := by
  obtain ⟨pc, ins, nx, w, xs, ci, cj⟩ := q
  cases ins
  case ifCond cnd off =>
    simp only [pm_chk, Bool.and_eq_true] at hq
    obtain ⟨hd0, ht⟩ := hq
    obtain ⟨hd, rfl⟩ := pm_d_of hd0
    have ht := of_decide_eq_true ht
    cases cnd
    case eq =>
      simp only [pm_x] at h
      split at h
      · obtain ⟨rfl, rfl, rfl, rfl, rfl, rfl, rfl, rfl⟩ := pm_b_inj h
        exact ⟨rfl, rfl, lv_if_eq hx hb hd ht (fun hc => by simpa only [pm_pick, if_pos hc] using kk) (fun hc => by simpa only [pm_pick, if_neg hc] using kk)⟩
      · cases h
    case ne =>
      simp only [pm_x] at h
      split at h
      · obtain ⟨rfl, rfl, rfl, rfl, rfl, rfl, rfl, rfl⟩ := pm_b_inj h
        exact ⟨rfl, rfl, lv_if_ne hx hb hd ht (fun hc => by simpa only [pm_pick, if_neg hc] using kk) (fun hc => by simpa only [pm_pick, if_pos hc] using kk)⟩
      · cases h
    case lt =>
      simp only [pm_x] at h
      split at h
      · obtain ⟨rfl, rfl, rfl, rfl, rfl, rfl, rfl, rfl⟩ := pm_b_inj h
        exact ⟨rfl, rfl, lv_if_lt hx hb hd ht (fun hc => by simpa only [pm_pick, if_pos hc] using kk) (fun hc => by simpa only [pm_pick, if_neg hc] using kk)⟩
      · cases h
    case ge =>
      simp only [pm_x] at h
      split at h
      · obtain ⟨rfl, rfl, rfl, rfl, rfl, rfl, rfl, rfl⟩ := pm_b_inj h
        exact ⟨rfl, rfl, lv_if_ge hx hb hd ht (fun hc => by simpa only [pm_pick, if_neg (Int32.not_lt.mpr hc)] using kk) (fun hc => by simpa only [pm_pick, if_pos (Int32.not_le.mp hc)] using kk)⟩
      · cases h
    case gt =>
      simp only [pm_x] at h
      split at h
      · obtain ⟨rfl, rfl, rfl, rfl, rfl, rfl, rfl, rfl⟩ := pm_b_inj h
        exact ⟨rfl, rfl, lv_if_gt hx hb hd ht (fun hc => by simpa only [pm_pick, if_neg (Int32.not_le.mpr hc)] using kk) (fun hc => by simpa only [pm_pick, if_pos (Int32.not_lt.mp hc)] using kk)⟩
      · cases h
    case le =>
      simp only [pm_x] at h
      split at h
      · obtain ⟨rfl, rfl, rfl, rfl, rfl, rfl, rfl, rfl⟩ := pm_b_inj h
        exact ⟨rfl, rfl, lv_if_le hx hb hd ht (fun hc => by simpa only [pm_pick, if_pos hc] using kk) (fun hc => by simpa only [pm_pick, if_neg hc] using kk)⟩
      · cases h
  case if_icmp cnd off =>
    simp only [pm_chk, Bool.and_eq_true] at hq
    obtain ⟨hd0, ht⟩ := hq
    obtain ⟨hd, rfl⟩ := pm_d_of hd0
    have ht := of_decide_eq_true ht
    cases cnd
    case eq =>
      simp only [pm_x] at h
      split at h
      · obtain ⟨rfl, rfl, rfl, rfl, rfl, rfl, rfl, rfl⟩ := pm_b_inj h
        exact ⟨rfl, rfl, lv_icmp_eq hx hb hd ht (fun hc => by simpa only [pm_pick, if_pos hc] using kk) (fun hc => by simpa only [pm_pick, if_neg hc] using kk)⟩
      · cases h
    case ne =>
      simp only [pm_x] at h
      split at h
      · obtain ⟨rfl, rfl, rfl, rfl, rfl, rfl, rfl, rfl⟩ := pm_b_inj h
        exact ⟨rfl, rfl, lv_icmp_ne hx hb hd ht (fun hc => by simpa only [pm_pick, if_neg hc] using kk) (fun hc => by simpa only [pm_pick, if_pos hc] using kk)⟩
      · cases h
    case lt =>
      simp only [pm_x] at h
      split at h
      · obtain ⟨rfl, rfl, rfl, rfl, rfl, rfl, rfl, rfl⟩ := pm_b_inj h
        exact ⟨rfl, rfl, lv_icmp_lt hx hb hd ht (fun hc => by simpa only [pm_pick, if_pos hc] using kk) (fun hc => by simpa only [pm_pick, if_neg hc] using kk)⟩
      · cases h
    case ge =>
      simp only [pm_x] at h
      split at h
      · obtain ⟨rfl, rfl, rfl, rfl, rfl, rfl, rfl, rfl⟩ := pm_b_inj h
        exact ⟨rfl, rfl, lv_icmp_ge hx hb hd ht (fun hc => by simpa only [pm_pick, if_neg (Int32.not_lt.mpr hc)] using kk) (fun hc => by simpa only [pm_pick, if_pos (Int32.not_le.mp hc)] using kk)⟩
      · cases h
    case gt =>
      simp only [pm_x] at h
      split at h
      · obtain ⟨rfl, rfl, rfl, rfl, rfl, rfl, rfl, rfl⟩ := pm_b_inj h
        exact ⟨rfl, rfl, lv_icmp_gt hx hb hd ht (fun hc => by simpa only [pm_pick, if_neg (Int32.not_le.mpr hc)] using kk) (fun hc => by simpa only [pm_pick, if_pos (Int32.not_lt.mp hc)] using kk)⟩
      · cases h
    case le =>
      simp only [pm_x] at h
      split at h
      · obtain ⟨rfl, rfl, rfl, rfl, rfl, rfl, rfl, rfl⟩ := pm_b_inj h
        exact ⟨rfl, rfl, lv_icmp_le hx hb hd ht (fun hc => by simpa only [pm_pick, if_pos hc] using kk) (fun hc => by simpa only [pm_pick, if_neg hc] using kk)⟩
      · cases h
  case invokespecial idx =>
    simp only [pm_x] at h
    split at h
    · split at h
      · exact (pm_n_nb (pm_cond h).2).elim
      · cases h
    · unfold pm_callI at h
      split at h
      · exact (pm_j_nb (pm_cond h).2).elim
      · cases h
  case invokevirtual idx =>
    simp only [pm_x] at h
    unfold pm_callV at h
    split at h
    · exact (pm_j_nb (pm_cond h).2).elim
    · cases h
  case invokestatic idx =>
    simp only [pm_x] at h
    unfold pm_call at h
    split at h
    · exact (pm_j_nb (pm_cond h).2).elim
    · cases h
  all_goals simp only [pm_x, Bool.cond_eq_ite] at h
  all_goals (repeat' split at h)
  all_goals first
    | exact (pm_n_nb h).elim
    | exact (pm_w_nb h).elim
    | exact (pm_j_nb h).elim
    | exact (pm_e_nb h).elim
    | cases h
theorem pm_j_ns {mj : Nat} {as : List Value} {nx : Nat} {ls : pm_L} {st : List Value} {S : pm_S} {g : Bool} {z} (h : pm_j mj as nx ls st S = some (g, .inr (.inr (.inl z)))) : False := by unfold pm_j at h; cases h
theorem pm_e_ns {b : Bool} {v : Option Value} {S : pm_S} {g : Bool} {z} (h : pm_e b v S = some (g, .inr (.inr (.inl z)))) : False := by unfold pm_e at h; cases h
theorem pm_b_ns {o : Nat} {x y : Int32} {t e : Nat} {ls : pm_L} {st : List Value} {S : pm_S} {g : Bool} {z} (h : pm_b o x y t e ls st S = some (g, .inr (.inr z))) : False := by unfold pm_b at h; cases h
set_option maxHeartbeats 1000000 in
theorem pm_swc (hx : p.tables.exec = Jvm.exec) (hb : c.code = (me mi).2.1) {q : pm_Q} (hq : pm_chk cl me mi q = true) {pl pl' : pm_L} {st st' : List Value} {S S' : pm_S} {x : Int32} {d0 : Nat} {ts : List Nat}
    (h : pm_x Sg Rt (me mi).2.2.2.1 q pl st S = some (true, .inr (.inr (.inl (x, d0, ts, pl', st', S'))))) {H : Heap} {locs : List Loc} {ls : Array Slot} {cells slots : Nat}
    (kk : W p l e R s m args below meth c H locs cells slots Q (F0 m (pm_wh x d0 ts 0) ls (st'.map (pm_rl ρ fv)))) : pl' = pl ∧ S' = S ∧ W p l e R s m args below meth c H locs cells slots Q (F0 m q.1 ls (st.map (pm_rl ρ fv))) := by
  obtain ⟨pc, ins, nx, w, xs, ci, cj⟩ := q
  cases ins
  case ifCond cnd o => cases cnd <;> (simp only [pm_x] at h; split at h <;> first | exact (pm_b_ns h).elim | cases h)
  case if_icmp cnd o => cases cnd <;> (simp only [pm_x] at h; split at h <;> first | exact (pm_b_ns h).elim | cases h)
  case invokespecial idx =>
    simp only [pm_x] at h
    split at h
    · split at h
      · exact (pm_n_nb (pm_cond h).2).elim
      · cases h
    · unfold pm_callI at h
      split at h
      · exact (pm_j_ns (pm_cond h).2).elim
      · cases h
  case invokevirtual idx =>
    simp only [pm_x] at h
    unfold pm_callV at h
    split at h
    · exact (pm_j_ns (pm_cond h).2).elim
    · cases h
  case invokestatic idx =>
    simp only [pm_x] at h
    unfold pm_call at h
    split at h
    · exact (pm_j_ns (pm_cond h).2).elim
    · cases h
  case tableswitch d lo hi offs =>
    simp only [pm_chk, Bool.and_eq_true] at hq
    obtain ⟨hd0, q1, q2, q3, q4, q5⟩ := hq
    obtain ⟨hd, -⟩ := pm_d_of hd0
    have q1 := of_decide_eq_true q1
    have q2 := of_decide_eq_true q2
    have q3 := of_decide_eq_true q3
    have q4 := of_decide_eq_true q4
    obtain ⟨q6, q7⟩ := pm_swk_at _ _ q5
    subst q1
    have hsz : offs.toList.length = offs.size := Array.length_toList
    simp only [pm_x] at h
    split at h
    · rename_i x2 r
      unfold pm_w at h
      cases h
      refine ⟨rfl, rfl, ?_⟩
      by_cases hin : x.toInt < 0 ∨ hi < x.toInt
      · rw [pm_wh_out] at kk
        · exact lv_tableOut hx hb hd hin q4 kk
        · intro i hi2 e
          rw [Nat.zero_add] at e
          have hti : x.toInt = (i : Int) := by rw [e]; exact nI_toInt (by omega)
          omega
      · have h0 : ¬ x.toInt < 0 := fun z => hin (Or.inl z)
        have h1 : ¬ hi < x.toInt := fun z => hin (Or.inr z)
        obtain ⟨i, hi2⟩ : ∃ i : Nat, x.toInt = (i : Int) := ⟨x.toInt.toNat, by omega⟩
        have hil : i < offs.toList.length := by omega
        have hxi : x = nI (0 + i) := by
          rw [Nat.zero_add]
          apply Int32.toInt_inj.mp
          rw [hi2, nI_toInt (by omega)]
        obtain ⟨o, e1, e2⟩ := q7 i hil
        rw [hxi, pm_wh_in _ 0 i (by omega) (by omega)] at kk
        refine lv_tableIn (off := o) hx hb hd h0 h1 ?_ e2 kk
        rw [hi2, show ((i : Int) - 0).toNat = i by omega, ← Array.getElem?_toList]
        exact e1
    · cases h
  all_goals simp only [pm_x, Bool.cond_eq_ite] at h
  all_goals (repeat' split at h)
  all_goals first
    | exact (pm_n_nb h).elim
    | exact (pm_j_ns h).elim
    | exact (pm_e_ns h).elim
    | cases h
/-- a method's answer -/
def pm_rt (ret : Option FieldType) (v : Option Value) (i : Instr) : Prop := (i = .ireturn ∧ ∃ x ty, v = some (.int x) ∧ ret = some ty ∧ narrow ty (.int x) = .int x) ∨ (i = .lreturn ∧ ∃ x, v = some (.long x) ∧ ret = some .long) ∨ (i = .return_ ∧ v = none ∧ ret = none)
theorem pm_n_nr {g g' : Bool} {pc : Nat} {ls : pm_L} {st : List Value} {S : pm_S} {z} (h : pm_n g pc ls st S = some (g', .inr z)) : False := by unfold pm_n at h; cases h
theorem pm_w_nr {x : Int32} {d : Nat} {ts : List Nat} {ls : pm_L} {st : List Value} {S : pm_S} {g : Bool} {z} (h : pm_w x d ts ls st S = some (g, .inr (.inr (.inr z)))) : False := by unfold pm_w at h; cases h
theorem pm_j_nr {mj : Nat} {as : List Value} {nx : Nat} {ls : pm_L} {st : List Value} {S : pm_S} {g : Bool} {z} (h : pm_j mj as nx ls st S = some (g, .inr (.inr (.inr (.inr z))))) : False := by unfold pm_j at h; cases h
theorem pm_e_inj {b g : Bool} {v v' : Option Value} {S S' : pm_S} (h : pm_e b v S = some (g, .inr (.inr (.inr (.inr (v', S')))))) : b = g ∧ v = v' ∧ S = S' := by unfold pm_e at h; cases h; exact ⟨rfl, rfl, rfl⟩
set_option maxHeartbeats 1000000 in
theorem pm_ret {q : pm_Q} (hq : pm_chk cl me mi q = true) {pl : pm_L} {st : List Value} {S S' : pm_S} {v : Option Value}
    (h : pm_x Sg Rt (me mi).2.2.2.1 q pl st S = some (true, .inr (.inr (.inr (.inr (v, S')))))) : S' = S ∧ ∃ i, decode (me mi).2.1 q.1 = .ok (i, 1) ∧ pm_rt (me mi).2.2.2.1 v i ∧ st.map (pm_rl ρ fv) = (v.map (pm_rl ρ fv)).toList := by
  obtain ⟨pc, ins, nx, w, xs, ci, cj⟩ := q
  cases ins
  case ifCond cnd o => cases cnd <;> (simp only [pm_x] at h; split at h <;> first | exact (pm_b_ns h).elim | cases h)
  case if_icmp cnd o => cases cnd <;> (simp only [pm_x] at h; split at h <;> first | exact (pm_b_ns h).elim | cases h)
  case invokespecial idx =>
    simp only [pm_x] at h
    split at h
    · split at h
      · exact (pm_n_nb (pm_cond h).2).elim
      · cases h
    · unfold pm_callI at h
      split at h
      · exact (pm_j_nr (pm_cond h).2).elim
      · cases h
  case invokevirtual idx =>
    simp only [pm_x] at h
    unfold pm_callV at h
    split at h
    · exact (pm_j_nr (pm_cond h).2).elim
    · cases h
  case invokestatic idx =>
    simp only [pm_x] at h
    unfold pm_call at h
    split at h
    · exact (pm_j_nr (pm_cond h).2).elim
    · cases h
  case ireturn =>
    obtain ⟨hd, -⟩ := pm_d_of (show pm_d _ _ _ _ 1 = true from hq)
    simp only [pm_x] at h
    split at h
    · rename_i x
      split at h
      · rename_i hr
        obtain ⟨hg, rfl, rfl⟩ := pm_e_inj h
        exact ⟨rfl, _, hd, Or.inl ⟨rfl, x, _, rfl, hr, rfl⟩, rfl⟩
      · rename_i hr
        obtain ⟨hg, rfl, rfl⟩ := pm_e_inj h
        exact ⟨rfl, _, hd, Or.inl ⟨rfl, x, _, rfl, hr, pm_nz x (of_decide_eq_true hg)⟩, rfl⟩
      · rename_i hr
        obtain ⟨hg, rfl, rfl⟩ := pm_e_inj h
        exact ⟨rfl, _, hd, Or.inl ⟨rfl, x, _, rfl, hr, congrArg Value.int (of_decide_eq_true hg)⟩, rfl⟩
      · rename_i hr
        obtain ⟨hg, rfl, rfl⟩ := pm_e_inj h
        exact ⟨rfl, _, hd, Or.inl ⟨rfl, x, _, rfl, hr, by have := of_decide_eq_true hg; first | exact congrArg Value.int this | (simp [narrow, this])⟩, rfl⟩
      · cases h
    · cases h
  case lreturn =>
    obtain ⟨hd, -⟩ := pm_d_of (show pm_d _ _ _ _ 1 = true from hq)
    simp only [pm_x] at h
    split at h
    · rename_i x
      split at h
      · rename_i hr
        obtain ⟨hg, rfl, rfl⟩ := pm_e_inj h
        exact ⟨rfl, _, hd, Or.inr (Or.inl ⟨rfl, x, rfl, hr⟩), rfl⟩
      · cases h
    · cases h
  case return_ =>
    obtain ⟨hd, -⟩ := pm_d_of (show pm_d _ _ _ _ 1 = true from hq)
    simp only [pm_x] at h
    split at h
    · split at h
      · rename_i hr
        obtain ⟨hg, rfl, rfl⟩ := pm_e_inj h
        exact ⟨rfl, _, hd, Or.inr (Or.inr ⟨rfl, rfl, hr⟩), rfl⟩
      · cases h
    · cases h
  all_goals simp only [pm_x, Bool.cond_eq_ite] at h
  all_goals (repeat' split at h)
  all_goals first
    | exact (pm_n_nr h).elim
    | exact (pm_w_nr h).elim
    | exact (pm_j_nr h).elim
    | cases h
end
