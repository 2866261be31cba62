/-! ===== one instruction of the pure machine is one of the machine's ===== -/
def pm_kt (kd : Nat) (ty : FieldType) : Prop := match kd with
  | 0 => ty = .int
  | 1 => ty = .long
  | 2 => ty = .boolean
  | 3 => (∃ n, ty = .object n) ∨ ∃ t, ty = .array t
  | _ => False
/-- the tables are right -/
def pm_E1 (me : Nat → pm_Me) (Sg : Nat → pm_K) (cl : List vw_C) : Prop := (∀ mi q, q ∈ (me mi).2.2.2.2.2.2 → pm_chk cl me mi q = true) ∧ (∀ c C T N, cl[c]? = some (C, T, N) → ∃ ty : Nat → FieldType, (∀ w ∈ u_ws C T N, w ∈ pm_G) ∧ (∀ a, a < N → ∀ b, b < N → a ≠ b → (T a).2.1 ≠ (T b).2.1) ∧ (∀ k, k < N → parseFieldDescriptor (T k).2.2.1 = some (ty k)) ∧ ∀ r ks, Sg r = .inr (c, ks) → ks.length = N ∧ ∀ k, k < N → pm_kt (ks.getD k 9) (ty k)) ∧ (∀ r t n, Sg r = .inl (t, n) → t ≤ 3 → n < 100000)
/-- where a method stands -/
def pm_E2 (me : Nat → pm_Me) (mi : Nat) (p : Program) (s : State) (m : MethodId) (args : Array Value) (meth : Method) (c : Code) (R : Room) (D : va_G) (cl : List vw_C) (cA : Nat → ClassId) (Rt : pm_T) (ρ : Nat → Nat) (fv : Value) (base : pm_B) (tx : String) (c0 : Nat) : Prop :=
  p.tables.exec = Jvm.exec ∧ c.code = (me mi).2.1 ∧ c.maxLocals = (me mi).2.2.1 ∧ s.vm.findClass (me mi).1.cls = some m.cls ∧ ((me mi).1.name = "<init>" → meth.name = "<init>") ∧ (∀ w ∈ pm_G, w.before args s = true) ∧ (me mi).2.2.2.2.1 ≤ R.frames ∧ (me mi).2.2.2.2.2.1 ≤ R.locals ∧ va_K D cl (pm_tys cA) s ∧ pm_Zf Rt ρ fv base.2.2 s s.heap ∧ pm_Nf tx ρ s ∧ pm_hs base s.heap.size c0
def pm_E3 (Rt : pm_T) (ρ : Nat → Nat) (fv : Value) (base : pm_B) : Prop := ((∀ a, a < 49 → ρ a = base.1 + a) ∧ ∀ a, a < 49 → base.2.2 (base.1 + a)) ∧ (fv = .null ∨ ∃ t, fv = .ref t) ∧ ∀ r x, Rt r = some x → 200 ≤ r ∧ r ≠ 204 ∧ x.1 ≤ 3
def pm_I (D : va_G) (cl : List vw_C) (ρ : Nat → Nat) (fv : Value) (cA : Nat → ClassId) (Sg : Nat → pm_K) (base : pm_B) (S : pm_S) (s : State) (H : Heap) (locs : List Loc) : Prop :=
  va_P D cl (pm_ws ρ fv cA Sg S) H ∧ va_S base.2.2 s.heap H locs ∧ S.1 ≤ 49
theorem pm_d_of {b : ByteArray} {pc nx n : Nat} {ins : Instr} (h : pm_d b pc ins nx n = true) : decode b pc = .ok (ins, n) ∧ nx = pc + n := by
  unfold pm_d at h
  rw [Bool.and_eq_true] at h
  exact ⟨of_decide_eq_true h.1, Nat.eq_of_beq_eq_true h.2⟩
theorem pm_n_inj {g : Bool} {pc pc' : Nat} {ls ls' : pm_L} {st st' : List Value} {S S' : pm_S} (h : pm_n g pc ls st S = some (true, .inl (pc', ls', st', S'))) : g = true ∧ pc = pc' ∧ ls = ls' ∧ st = st' ∧ S = S' := by
  unfold pm_n at h
  cases h
  exact ⟨rfl, rfl, rfl, rfl, rfl⟩
theorem pm_wn_of {w : Nat} {x : Cond} (h : pm_wn w x = true) : x ∈ lw_tbl := List.mem_of_getElem? (of_decide_eq_true h)
theorem pm_wk_of {w : Nat} {x : Cond} (h : pm_wk w x = true) : x ∈ pm_G := by
  unfold pm_wk at h
  rw [Bool.and_eq_true] at h
  exact List.mem_filter.mpr ⟨pm_wn_of h.1, h.2⟩
theorem pm_ib_of {i : Int32} {n : Nat} (h : pm_ib i n = true) : vp_in i n := by
  unfold pm_ib at h
  rw [Bool.and_eq_true] at h
  have h1 := of_decide_eq_false (Bool.not_eq_true' _ ▸ h.1)
  have h2 : i.toNatClampNeg < n := by simpa [Nat.blt_eq] using h.2
  rintro (q | q)
  · exact h1 q
  · omega
theorem pm_bf {a b : Nat} (h : a ≠ b) : Nat.beq a b = false := by
  cases hb : Nat.beq a b with
  | false => rfl
  | true => exact absurd (Nat.eq_of_beq_eq_true hb) h
theorem pm_bt (a : Nat) : Nat.beq a a = true := Nat.beq_refl a
theorem pm_tys_at {cA : Nat → ClassId} {t : Nat} (h : t ≤ 3) : (pm_tys cA)[t]? = some (cA t, pm_ty t) := by
  match t, h with
  | 0, _ => rfl
  | 1, _ => rfl
  | 2, _ => rfl
  | 3, _ => rfl
theorem pm_ss_mono (Sg : Nat → pm_K) : ∀ {a b : Nat}, a ≤ b → pm_ss Sg a ≤ pm_ss Sg b := by
  intro a b h
  induction h with
  | refl => exact Nat.le_refl _
  | step _ ih => exact Nat.le_trans ih (Nat.le_add_right _ _)
theorem pm_ci_off {f : Nat → Nat → Int32} {r j : Nat} (h : j ≠ r) : pm_ci f r j = f j := by
  funext b
  have : Nat.beq j r = false := by
    cases hb : Nat.beq j r with
    | false => rfl
    | true => exact absurd (Nat.eq_of_beq_eq_true hb) h
  simp [pm_ci, this]
theorem pm_cl_off {f : Nat → Nat → Int64} {r j : Nat} (h : j ≠ r) : pm_cl f r j = f j := by
  funext b
  have : Nat.beq j r = false := by
    cases hb : Nat.beq j r with
    | false => rfl
    | true => exact absurd (Nat.eq_of_beq_eq_true hb) h
  simp [pm_cl, this]
theorem pm_cg_off {f : Nat → Nat → Nat} {r j : Nat} (h : j ≠ r) : pm_cg f r j = f j := by
  funext b
  have : Nat.beq j r = false := by
    cases hb : Nat.beq j r with
    | false => rfl
    | true => exact absurd (Nat.eq_of_beq_eq_true hb) h
  simp [pm_cg, this]
theorem pm_ci_row {f : Nat → Nat → Int32} {r b : Nat} : pm_ci f r r b = 0 := by simp [pm_ci]
theorem pm_cl_row {f : Nat → Nat → Int64} {r b : Nat} : pm_cl f r r b = 0 := by simp [pm_cl]
theorem pm_cg_row {f : Nat → Nat → Nat} {r b : Nat} : pm_cg f r r b = 0 := by simp [pm_cg]
theorem pm_wd_sum (l : List Value) : (l.map (fun v => v.category)).sum = pm_wd l := by
  induction l with
  | nil => rfl
  | cons v vs ih => simp [pm_wd, ih]
theorem pm_getD_lt {α : Type} {l : List α} {k : Nat} {d : α} (h : k < l.length) : l.getD k d = l[k] := by
  rw [List.getD_eq_getElem?_getD, List.getElem?_eq_getElem h]
  rfl
theorem pm_ui_off {f : Nat → Nat → Int32} {r k j : Nat} {v : Int32} (h : j ≠ r) : pm_ui f r k v j = f j := by
  funext b
  simp [pm_ui, pm_bf h]
theorem pm_ui_row {f : Nat → Nat → Int32} {r k : Nat} {v : Int32} : pm_ui f r k v r = upd (f r) k v := by
  funext b
  by_cases h : b = k
  · subst h; simp [pm_ui, upd, pm_bt]
  · simp [pm_ui, upd, h, pm_bf h]
theorem pm_ul_off {f : Nat → Nat → Int64} {r k j : Nat} {v : Int64} (h : j ≠ r) : pm_ul f r k v j = f j := by
  funext b
  simp [pm_ul, pm_bf h]
theorem pm_ul_row {f : Nat → Nat → Int64} {r k : Nat} {v : Int64} : pm_ul f r k v r = vp_updL (f r) k v := by
  funext b
  by_cases h : b = k
  · subst h; simp [pm_ul, vp_updL, pm_bt]
  · simp [pm_ul, vp_updL, h, pm_bf h]
theorem pm_ug_off {f : Nat → Nat → Nat} {r k j : Nat} {v : Nat} (h : j ≠ r) : pm_ug f r k v j = f j := by
  funext b
  simp [pm_ug, pm_bf h]
theorem pm_b_ne {o : Nat} {x y : Int32} {t e : Nat} {ls : pm_L} {st : List Value} {S : pm_S} {g : Bool} {z} (h : pm_b o x y t e ls st S = some (g, .inl z)) : False := by unfold pm_b at h; cases h
theorem pm_w_ne {x : Int32} {d : Nat} {ts : List Nat} {ls : pm_L} {st : List Value} {S : pm_S} {g : Bool} {z} (h : pm_w x d ts ls st S = some (g, .inl z)) : False := by unfold pm_w at h; cases h
theorem pm_j_ne {mj : Nat} {as : List Value} {nx : Nat} {ls : pm_L} {st : List Value} {S : pm_S} {g : Bool} {z} (h : pm_j mj as nx ls st S = some (g, .inl z)) : False := by unfold pm_j at h; cases h
theorem pm_e_ne {b : Bool} {v : Option Value} {S : pm_S} {g : Bool} {z} (h : pm_e b v S = some (g, .inl z)) : False := by unfold pm_e at h; cases h
theorem pm_cond {b : Bool} {α : Type} {x : Option α} {z : α} (h : (bif b then x else none) = some z) : b = true ∧ x = some z := by
  cases b with
  | true => exact ⟨rfl, h⟩
  | false => cases h
theorem pm_fk_of {cl : List vw_C} {c k : Nat} {t : String × String × String × Bool} (h : pm_fk cl c k = some t) : ∃ C T N, cl[c]? = some (C, T, N) ∧ k < N ∧ (T k).1 = C ∧ t = T k := by
  unfold pm_fk at h
  split at h
  · rename_i C T N hc
    obtain ⟨h1, h2⟩ := pm_cond h
    rw [Bool.and_eq_true] at h1
    exact ⟨C, T, N, hc, by simpa [Nat.blt_eq] using h1.1, of_decide_eq_true h1.2, (Option.some.inj h2).symm⟩
  · cases h
theorem pm_fv_val {ρ : Nat → Nat} {fv : Value} {S : pm_S} {r k kd : Nat} {v : Value} (h : pm_fv S r k kd = some v) : pm_val ρ fv S r k kd = pm_rl ρ fv v ∧ kd < 4 := by
  unfold pm_fv at h
  split at h
  · cases h; exact ⟨rfl, by decide⟩
  · cases h; exact ⟨rfl, by decide⟩
  · cases h; exact ⟨rfl, by decide⟩
  · split at h
    · cases h
    · rename_i j hj
      cases h
      refine ⟨?_, by decide⟩
      show (match S.2.1 r k with | 0 => Value.null | j + 1 => pm_rl ρ fv (.ref j)) = _
      rw [hj]
  · cases h
theorem pm_cell_eq {ρ : Nat → Nat} {fv : Value} {cA : Nat → ClassId} {K : pm_K} {S S' : pm_S} {r : Nat} (h1 : S'.2.1 r = S.2.1 r) (h2 : S'.2.2.1 r = S.2.2.1 r) (h3 : S'.2.2.2 r = S.2.2.2 r) : pm_cell ρ fv cA K S' r = pm_cell ρ fv cA K S r := by
  have hv : ∀ k kd, pm_val ρ fv S' r k kd = pm_val ρ fv S r k kd := by
    intro k kd
    unfold pm_val
    rw [h1, h2, h3]
  have hc : ∀ t, pm_con S' r t = pm_con S r t := by
    intro t
    unfold pm_con
    rw [h2, h3]
  unfold pm_cell
  cases K with
  | inl q =>
    obtain ⟨t, n⟩ := q
    show Sum.inl (cA t, n, pm_con S' r t) = _
    rw [hc]
  | inr q => simp only [hv]
theorem pm_fields {ρ : Nat → Nat} {fv : Value} {S S' : pm_S} {r k : Nat} {ks : List Nat} {v : Value} (hk : k < ks.length) (hv : pm_val ρ fv S' r k (ks.getD k 9) = v) (ho : ∀ j kd, j ≠ k → pm_val ρ fv S' r j kd = pm_val ρ fv S r j kd) :
    (ks.mapIdx (fun k kd => pm_val ρ fv S r k kd)).set k v = ks.mapIdx (fun k kd => pm_val ρ fv S' r k kd) := by
  apply List.ext_getElem?
  intro j
  by_cases e : j = k
  · subst e
    rw [List.getElem?_set_self (by rw [List.length_mapIdx]; exact hk), List.getElem?_mapIdx, ← hv]
    simp [List.getElem?_eq_getElem hk, List.getD]
  · rw [List.getElem?_set_ne (Ne.symm e), List.getElem?_mapIdx, List.getElem?_mapIdx]
    cases ks[j]? with
    | none => rfl
    | some kd => simp only [Option.map_some, ho j kd e]
theorem pm_P_push {D : va_G} {cl : List vw_C} {ρ : Nat → Nat} {fv : Value} {cA : Nat → ClassId} {Sg : Nat → pm_K} {S S' : pm_S} {H H1 : Heap} (hP : va_P D cl (pm_ws ρ fv cA Sg S) H) (ho : ∀ q, q < H.size → H1[q]? = H[q]?) (hn : S'.1 = S.1 + 1) (hrow : ∀ k, k < S.1 → pm_cell ρ fv cA (Sg k) S' k = pm_cell ρ fv cA (Sg k) S k) (hnew : va_at D cl (ρ S.1, pm_cell ρ fv cA (Sg S.1) S' S.1) H1) : va_P D cl (pm_ws ρ fv cA Sg S') H1 := by
  intro k q hk
  obtain ⟨h1, rfl⟩ := pm_ws_mem hk
  by_cases e : k = S.1
  · subst e; exact hnew
  · have hk' : k < S.1 := by omega
    rw [hrow k hk']
    have h2 := hP k _ (pm_ws_at hk')
    exact h2.kept (ho _ h2.lt)
theorem pm_val_new_0 {ρ : Nat → Nat} {fv : Value} {S : pm_S} {r k : Nat} {x : Int32} : pm_val ρ fv (S.1, S.2.1, pm_ui S.2.2.1 r k x, S.2.2.2) r k 0 = .int x := by
  show Value.int (pm_ui S.2.2.1 r k x r k) = _
  simp [pm_ui]
theorem pm_val_new_2 {ρ : Nat → Nat} {fv : Value} {S : pm_S} {r k : Nat} {x : Int32} : pm_val ρ fv (S.1, S.2.1, pm_ui S.2.2.1 r k x, S.2.2.2) r k 2 = .int x := by
  show Value.int (pm_ui S.2.2.1 r k x r k) = _
  simp [pm_ui]
theorem pm_val_new_1 {ρ : Nat → Nat} {fv : Value} {S : pm_S} {r k : Nat} {x : Int64} : pm_val ρ fv (S.1, S.2.1, S.2.2.1, pm_ul S.2.2.2 r k x) r k 1 = .long x := by
  show Value.long (pm_ul S.2.2.2 r k x r k) = _
  simp [pm_ul]
theorem pm_val_new_3 {ρ : Nat → Nat} {fv : Value} {S : pm_S} {r k z : Nat} : pm_val ρ fv (S.1, pm_ug S.2.1 r k (z + 1), S.2.2.1, S.2.2.2) r k 3 = pm_rl ρ fv (.ref z) := by
  show (match pm_ug S.2.1 r k (z + 1) r k with | 0 => Value.null | j + 1 => pm_rl ρ fv (.ref j)) = _
  simp [pm_ug]
theorem pm_val_off_i {ρ : Nat → Nat} {fv : Value} {S : pm_S} {r k j kd : Nat} {x : Int32} (h : j ≠ k) : pm_val ρ fv (S.1, S.2.1, pm_ui S.2.2.1 r k x, S.2.2.2) r j kd = pm_val ρ fv S r j kd := by
  have e : pm_ui S.2.2.1 r k x r j = S.2.2.1 r j := by simp [pm_ui, pm_bf h]
  unfold pm_val
  dsimp only
  rw [e]
theorem pm_val_off_l {ρ : Nat → Nat} {fv : Value} {S : pm_S} {r k j kd : Nat} {x : Int64} (h : j ≠ k) : pm_val ρ fv (S.1, S.2.1, S.2.2.1, pm_ul S.2.2.2 r k x) r j kd = pm_val ρ fv S r j kd := by
  have e : pm_ul S.2.2.2 r k x r j = S.2.2.2 r j := by simp [pm_ul, pm_bf h]
  unfold pm_val
  dsimp only
  rw [e]
theorem pm_val_off_g {ρ : Nat → Nat} {fv : Value} {S : pm_S} {r k j kd z : Nat} (h : j ≠ k) : pm_val ρ fv (S.1, pm_ug S.2.1 r k z, S.2.2.1, S.2.2.2) r j kd = pm_val ρ fv S r j kd := by
  have e : pm_ug S.2.1 r k z r j = S.2.1 r j := by simp [pm_ug, pm_bf h]
  unfold pm_val
  dsimp only
  rw [e]
theorem pm_nz (x : Int32) (h : x &&& 1 = x) : narrow .boolean (.int x) = .int x := by
  show Value.int _ = _
  first | exact congrArg Value.int h | (simp [narrow, h])
theorem pm_fz (x : Int32) (h : x &&& 1 = x) : fits .boolean (.int x) = true := by
  have h1 : x.toBitVec.toNat &&& 1 = x.toBitVec.toNat := by
    have := congrArg (fun y : Int32 => y.toBitVec.toNat) h
    simpa using this
  have h2 : x.toBitVec.toNat < 2 := by
    rw [← h1]
    exact Nat.lt_of_le_of_lt Nat.and_le_right (by decide)
  have : x = 0 ∨ x = 1 := by
    rcases (show x.toBitVec.toNat = 0 ∨ x.toBitVec.toNat = 1 by omega) with h3 | h3
    · exact Or.inl (Int32.toBitVec_inj.mp (BitVec.eq_of_toNat_eq h3))
    · exact Or.inr (Int32.toBitVec_inj.mp (BitVec.eq_of_toNat_eq h3))
  rcases this with h | h <;> rw [h] <;> rfl
section
variable {p : Program} {l : Launch} {e : Env} {R : Room} {s : State} {m : MethodId} {args : Array Value} {below : List Frame} {meth : Method} {c : Code} {Q : State → Prop}
variable {me : Nat → pm_Me} {Sg : Nat → pm_K} {Rt : pm_T} {cl : List vw_C} {D : va_G} {cA : Nat → ClassId} {ρ : Nat → Nat} {fv : Value} {base : pm_B} {tx : String} {mi c0 : Nat}
/-- how large the heap is -/
theorem pm_siz {S : pm_S} {H : Heap} {locs : List Loc} {sl : Nat} {g : JFrame} (hρ : ∀ a, a < 49 → ρ a = base.1 + a) (hs : pm_hs base s.heap.size c0) (hc0 : c0 ≤ S.1) (hI : pm_I D cl ρ fv cA Sg base S s H locs)
    (k : pm_hs base H.size S.1 → W p l e R s m args below meth c H locs (S.1 - c0) sl Q g) : W p l e R s m args below meth c H locs (S.1 - c0) sl Q g := by
  intro T hT X
  obtain ⟨-, h1, h2, -⟩ := X.same
  have h3 : (T.setVm s.vm).heap = H := hT
  rw [h3] at h1 h2
  obtain ⟨hP, hS, hn⟩ := hI
  obtain ⟨h0, hm⟩ := hs
  refine k ⟨?_, hm.imp id fun h => Nat.le_trans h hc0⟩ T hT X
  rcases hm with hm | hm
  · by_cases e : S.1 = 0
    · omega
    · have h4 := (hP _ _ (pm_ws_at (r := S.1 - 1) (by omega))).lt
      have h5 : ρ (S.1 - 1) < H.size := h4
      rw [hρ _ (by omega)] at h5
      omega
  · omega
set_option maxHeartbeats 4000000 in
theorem pm_next (h1 : pm_E1 me Sg cl) (h2 : pm_E2 me mi p s m args meth c R D cl cA Rt ρ fv base tx c0) (h3 : pm_E3 Rt ρ fv base) {q : pm_Q} (hq : pm_chk cl me mi q = true) {pl pl' : pm_L} {st st' : List Value} {S S' : pm_S} {pc' : Nat}
    (h : pm_x Sg Rt (me mi).2.2.2.1 q pl st S = some (true, .inl (pc', pl', st', S'))) {H : Heap} {locs : List Loc} {ls : Array Slot} (hc0 : c0 ≤ S.1) (hI : pm_I D cl ρ fv cA Sg base S s H locs) (hL : pm_LH ρ fv (me mi).2.2.1 ls pl) (hR1 : S'.1 - c0 ≤ R.cells) (hR2 : pm_ss Sg S'.1 - pm_ss Sg c0 ≤ R.slots)
    (kk : ∀ (H' : Heap) (locs' : List Loc) (ls' : Array Slot), pm_I D cl ρ fv cA Sg base S' s H' locs' → pm_LH ρ fv (me mi).2.2.1 ls' pl' → W p l e R s m args below meth c H' locs' (S'.1 - c0) (pm_ss Sg S'.1 - pm_ss Sg c0) Q (F0 m pc' ls' (st'.map (pm_rl ρ fv)))) :
    W p l e R s m args below meth c H locs (S.1 - c0) (pm_ss Sg S.1 - pm_ss Sg c0) Q (F0 m q.1 ls (st.map (pm_rl ρ fv))) := by
  obtain ⟨hx, hb, hml, hown, hmn, hts, hfr, hlo, hK, hZ, hN, hsz⟩ := h2
  obtain ⟨⟨hρ, hAA⟩, hfv, hRt⟩ := h3
  obtain ⟨pc, ins, nx, w, xs, ci, cj⟩ := q
  show W p l e R s m args below meth c H locs (S.1 - c0) (pm_ss Sg S.1 - pm_ss Sg c0) Q (F0 m pc ls (st.map (pm_rl ρ fv)))
  obtain ⟨hP, hS, hn2⟩ := id hI
  have hD := pm_ws_D (fv := fv) (cA := cA) (Sg := Sg) hρ hAA hn2
  have hrl : ∀ r, r < S.1 → pm_rl ρ fv (.ref r) = .ref (ρ r) := fun r hr => by
    show (if r = 204 then fv else Value.ref (ρ r)) = _
    rw [if_neg (by omega)]
  cases ins
  case iload_n n =>
    simp only [pm_chk, Bool.and_eq_true] at hq
    obtain ⟨hd0, hi⟩ := hq
    obtain ⟨hd, rfl⟩ := pm_d_of hd0
    simp only [pm_x] at h
    split at h
    · rename_i x hx'
      obtain ⟨-, rfl, rfl, rfl, rfl⟩ := pm_n_inj h
      exact lv_iload_n hx hb hd (Nat.eq_of_beq_eq_true hi) (hL.get hx' (fun h => by cases h)) (kk H locs ls hI hL)
    · cases h
  case lload_n n =>
    simp only [pm_chk, Bool.and_eq_true] at hq
    obtain ⟨hd0, hi⟩ := hq
    obtain ⟨hd, rfl⟩ := pm_d_of hd0
    simp only [pm_x] at h
    split at h
    · rename_i x hx'
      split at h
      · rename_i hx2
        obtain ⟨-, rfl, rfl, rfl, rfl⟩ := pm_n_inj h
        exact lv_lload_n hx hb hd (Nat.eq_of_beq_eq_true hi) (hL.get hx' (fun _ => pm_gn hx2)) (kk H locs ls hI hL)
      · cases h
    · cases h
  case aload_n n =>
    simp only [pm_chk, Bool.and_eq_true] at hq
    obtain ⟨hd0, hi⟩ := hq
    obtain ⟨hd, rfl⟩ := pm_d_of hd0
    simp only [pm_x] at h
    split at h
    · rename_i x hx'
      cases h204 : Nat.beq x 204 with
      | true => rw [h204] at h; cases h
      | false =>
        rw [h204] at h
        obtain ⟨-, rfl, rfl, rfl, rfl⟩ := pm_n_inj h
        have hne : pm_rl ρ fv (.ref x) = .ref (ρ x) := by
          show (if x = 204 then fv else Value.ref (ρ x)) = _
          rw [if_neg (Nat.ne_of_beq_eq_false h204)]
        have g1 := hL.get hx' (fun h => by cases h)
        rw [hne] at g1
        have g2 := kk H locs ls hI hL
        rw [List.map_cons, hne] at g2
        exact lv_aload_n hx hb hd (Nat.eq_of_beq_eq_true hi) g1 g2
    · cases h
  case lload n =>
    simp only [pm_chk, Bool.and_eq_true] at hq
    obtain ⟨hd0, hi⟩ := hq
    obtain ⟨hd, rfl⟩ := pm_d_of hd0
    have hi := Nat.eq_of_beq_eq_true hi
    subst hi
    simp only [pm_x] at h
    split at h
    · rename_i x hx'
      split at h
      · rename_i hx2
        obtain ⟨-, rfl, rfl, rfl, rfl⟩ := pm_n_inj h
        exact lv_lload hx hb hd (hL.get hx' (fun _ => pm_gn hx2)) (kk H locs ls hI hL)
      · cases h
    · cases h
  case iload n =>
    simp only [pm_chk, Bool.and_eq_true] at hq
    obtain ⟨hd0, hi⟩ := hq
    obtain ⟨hd, rfl⟩ := pm_d_of hd0
    have hi := Nat.eq_of_beq_eq_true hi
    subst hi
    simp only [pm_x] at h
    split at h
    · rename_i x hx'
      obtain ⟨-, rfl, rfl, rfl, rfl⟩ := pm_n_inj h
      exact lv_iload hx hb hd (hL.get hx' (fun h => by cases h)) (kk H locs ls hI hL)
    · cases h
  case aload n =>
    simp only [pm_chk, Bool.and_eq_true] at hq
    obtain ⟨hd0, hi⟩ := hq
    obtain ⟨hd, rfl⟩ := pm_d_of hd0
    have hi := Nat.eq_of_beq_eq_true hi
    subst hi
    simp only [pm_x] at h
    split at h
    · rename_i x hx'
      cases h204 : Nat.beq x 204 with
      | true => rw [h204] at h; cases h
      | false =>
        rw [h204] at h
        obtain ⟨-, rfl, rfl, rfl, rfl⟩ := pm_n_inj h
        have hne : pm_rl ρ fv (.ref x) = .ref (ρ x) := by
          show (if x = 204 then fv else Value.ref (ρ x)) = _
          rw [if_neg (Nat.ne_of_beq_eq_false h204)]
        have g1 := hL.get hx' (fun h => by cases h)
        rw [hne] at g1
        have g2 := kk H locs ls hI hL
        rw [List.map_cons, hne] at g2
        exact lv_aload hx hb hd g1 g2
    · cases h
  case istore_n n =>
    simp only [pm_chk, Bool.and_eq_true] at hq
    obtain ⟨hd0, hi⟩ := hq
    obtain ⟨hd, rfl⟩ := pm_d_of hd0
    simp only [pm_x] at h
    split at h
    · rename_i x r
      split at h
      · rename_i ls2 hs
        obtain ⟨-, rfl, rfl, rfl, rfl⟩ := pm_n_inj h
        have hlt : xs.getD 0 0 < (me mi).2.2.1 := by
          unfold pm_st1 at hs
          rw [← hL.2.1]
          cases hb2 : Nat.blt (xs.getD 0 0) pl.length with
          | true => simpa [Nat.blt_eq] using hb2
          | false => rw [hb2] at hs; cases hs
        exact lv_istore_n hx hb hd (Nat.eq_of_beq_eq_true hi) hL.has hlt rfl (fun ls' hl => kk H locs ls' hI (hL.st1 hfv hs hl).2)
      · cases h
    · cases h
  case lstore_n n =>
    simp only [pm_chk, Bool.and_eq_true] at hq
    obtain ⟨hd0, hi⟩ := hq
    obtain ⟨hd, rfl⟩ := pm_d_of hd0
    simp only [pm_x] at h
    split at h
    · rename_i x r
      split at h
      · rename_i ls2 hs
        obtain ⟨-, rfl, rfl, rfl, rfl⟩ := pm_n_inj h
        have hlt : xs.getD 0 0 + 1 < (me mi).2.2.1 := by
          unfold pm_st2 at hs
          rw [← hL.2.1]
          cases hb2 : Nat.blt (xs.getD 0 0 + 1) pl.length with
          | true => simpa [Nat.blt_eq] using hb2
          | false => rw [hb2] at hs; cases hs
        exact lv_lstore_n hx hb hd (Nat.eq_of_beq_eq_true hi) hL.has hlt rfl (fun ls' hl => kk H locs ls' hI (hL.st2 hfv hs hl).2)
      · cases h
    · cases h
  case istore n =>
    simp only [pm_chk, Bool.and_eq_true] at hq
    obtain ⟨hd0, hi⟩ := hq
    obtain ⟨hd, rfl⟩ := pm_d_of hd0
    have hi := Nat.eq_of_beq_eq_true hi
    subst hi
    simp only [pm_x] at h
    split at h
    · rename_i x r
      split at h
      · rename_i ls2 hs
        obtain ⟨-, rfl, rfl, rfl, rfl⟩ := pm_n_inj h
        have hlt : xs.getD 0 0 < (me mi).2.2.1 := by
          unfold pm_st1 at hs
          rw [← hL.2.1]
          cases hb2 : Nat.blt (xs.getD 0 0) pl.length with
          | true => simpa [Nat.blt_eq] using hb2
          | false => rw [hb2] at hs; cases hs
        exact lv_istore hx hb hd  hL.has hlt rfl (fun ls' hl => kk H locs ls' hI (hL.st1 hfv hs hl).2)
      · cases h
    · cases h
  case lstore n =>
    simp only [pm_chk, Bool.and_eq_true] at hq
    obtain ⟨hd0, hi⟩ := hq
    obtain ⟨hd, rfl⟩ := pm_d_of hd0
    have hi := Nat.eq_of_beq_eq_true hi
    subst hi
    simp only [pm_x] at h
    split at h
    · rename_i x r
      split at h
      · rename_i ls2 hs
        obtain ⟨-, rfl, rfl, rfl, rfl⟩ := pm_n_inj h
        have hlt : xs.getD 0 0 + 1 < (me mi).2.2.1 := by
          unfold pm_st2 at hs
          rw [← hL.2.1]
          cases hb2 : Nat.blt (xs.getD 0 0 + 1) pl.length with
          | true => simpa [Nat.blt_eq] using hb2
          | false => rw [hb2] at hs; cases hs
        exact lv_lstore hx hb hd  hL.has hlt rfl (fun ls' hl => kk H locs ls' hI (hL.st2 hfv hs hl).2)
      · cases h
    · cases h
  case astore_n n =>
    simp only [pm_chk, Bool.and_eq_true] at hq
    obtain ⟨hd0, hi⟩ := hq
    obtain ⟨hd, rfl⟩ := pm_d_of hd0
    simp only [pm_x] at h
    split at h
    · rename_i x r
      cases h204 : Nat.beq x 204 with
      | true => rw [h204] at h; cases h
      | false =>
        rw [h204] at h
        simp only [cond_false] at h
        split at h
        · rename_i ls2 hs
          obtain ⟨-, rfl, rfl, rfl, rfl⟩ := pm_n_inj h
          have hne : pm_rl ρ fv (.ref x) = .ref (ρ x) := by
            show (if x = 204 then fv else Value.ref (ρ x)) = _
            rw [if_neg (Nat.ne_of_beq_eq_false h204)]
          have hlt : xs.getD 0 0 < (me mi).2.2.1 := by
            unfold pm_st1 at hs
            rw [← hL.2.1]
            cases hb2 : Nat.blt (xs.getD 0 0) pl.length with
            | true => simpa [Nat.blt_eq] using hb2
            | false => rw [hb2] at hs; cases hs
          rw [List.map_cons, hne]
          exact lv_astore_n hx hb hd (Nat.eq_of_beq_eq_true hi) hL.has hlt rfl (fun ls' hl => kk H locs ls' hI (hL.st1 hfv hs (by rw [hne]; exact hl)).2)
        · cases h
    · cases h
  case astore n =>
    simp only [pm_chk, Bool.and_eq_true] at hq
    obtain ⟨hd0, hi⟩ := hq
    obtain ⟨hd, rfl⟩ := pm_d_of hd0
    have hi := Nat.eq_of_beq_eq_true hi
    subst hi
    simp only [pm_x] at h
    split at h
    · rename_i x r
      cases h204 : Nat.beq x 204 with
      | true => rw [h204] at h; cases h
      | false =>
        rw [h204] at h
        simp only [cond_false] at h
        split at h
        · rename_i ls2 hs
          obtain ⟨-, rfl, rfl, rfl, rfl⟩ := pm_n_inj h
          have hne : pm_rl ρ fv (.ref x) = .ref (ρ x) := by
            show (if x = 204 then fv else Value.ref (ρ x)) = _
            rw [if_neg (Nat.ne_of_beq_eq_false h204)]
          have hlt : xs.getD 0 0 < (me mi).2.2.1 := by
            unfold pm_st1 at hs
            rw [← hL.2.1]
            cases hb2 : Nat.blt (xs.getD 0 0) pl.length with
            | true => simpa [Nat.blt_eq] using hb2
            | false => rw [hb2] at hs; cases hs
          rw [List.map_cons, hne]
          exact lv_astore hx hb hd  hL.has hlt rfl (fun ls' hl => kk H locs ls' hI (hL.st1 hfv hs (by rw [hne]; exact hl)).2)
        · cases h
    · cases h
  case iinc i n =>
    simp only [pm_chk, Bool.and_eq_true] at hq
    obtain ⟨hd0, hi, hcv⟩ := hq
    obtain ⟨hd, rfl⟩ := pm_d_of hd0
    have hi := Nat.eq_of_beq_eq_true hi
    subst hi
    have hcv := of_decide_eq_true hcv
    subst hcv
    simp only [pm_x] at h
    split at h
    · rename_i x hx'
      split at h
      · rename_i ls2 hs
        obtain ⟨-, rfl, rfl, rfl, rfl⟩ := pm_n_inj h
        have hlt : xs.getD 0 0 < (me mi).2.2.1 := by
          unfold pm_st1 at hs
          rw [← hL.2.1]
          cases hb2 : Nat.blt (xs.getD 0 0) pl.length with
          | true => simpa [Nat.blt_eq] using hb2
          | false => rw [hb2] at hs; cases hs
        have hmem : (xs.getD 0 0, Value.int x) ∈ pm_pr ρ fv pl := by
          exact pm_pr_mem (v := .int x) (pm_gd hx') (fun h => by cases h)
        obtain ⟨k, hk⟩ := List.getElem?_of_mem hmem
        exact lv_iinc hx hb hd hL.has hk rfl hlt rfl (fun ls' hl => kk H locs ls' hI (hL.st1 hfv hs hl).2)
      · cases h
    · cases h
  case iconst n =>
    simp only [pm_chk, Bool.and_eq_true] at hq
    obtain ⟨hd0, hcv⟩ := hq
    obtain ⟨hd, rfl⟩ := pm_d_of hd0
    have hcv := of_decide_eq_true hcv
    simp only [pm_x] at h
    obtain ⟨-, rfl, rfl, rfl, rfl⟩ := pm_n_inj h
    exact lv_iconst hx hb hd hcv (kk H locs ls hI hL)
  case bipush n =>
    simp only [pm_chk, Bool.and_eq_true] at hq
    obtain ⟨hd0, hcv⟩ := hq
    obtain ⟨hd, rfl⟩ := pm_d_of hd0
    have hcv := of_decide_eq_true hcv
    simp only [pm_x] at h
    obtain ⟨-, rfl, rfl, rfl, rfl⟩ := pm_n_inj h
    exact lv_bipush hx hb hd hcv (kk H locs ls hI hL)
  case sipush n =>
    simp only [pm_chk, Bool.and_eq_true] at hq
    obtain ⟨hd0, hcv⟩ := hq
    obtain ⟨hd, rfl⟩ := pm_d_of hd0
    have hcv := of_decide_eq_true hcv
    simp only [pm_x] at h
    obtain ⟨-, rfl, rfl, rfl, rfl⟩ := pm_n_inj h
    exact lv_sipush hx hb hd hcv (kk H locs ls hI hL)
  case ldc_w idx =>
    simp only [pm_chk, Bool.and_eq_true] at hq
    obtain ⟨hd0, hcv⟩ := hq
    obtain ⟨hd, rfl⟩ := pm_d_of hd0
    simp only [pm_x] at h
    obtain ⟨-, rfl, rfl, rfl, rfl⟩ := pm_n_inj h
    exact lv_ldcw hx hb hown (hts _ (pm_wk_of hcv)) hd (kk H locs ls hI hL)
  case ldc idx =>
    simp only [pm_chk, Bool.and_eq_true] at hq
    obtain ⟨hd0, hcv⟩ := hq
    obtain ⟨hd, rfl⟩ := pm_d_of hd0
    simp only [pm_x] at h
    split at h
    · obtain ⟨-, rfl, rfl, rfl, rfl⟩ := pm_n_inj h
      exact lv_ldc hx hb hown (hts _ (pm_wk_of hcv)) hd (kk H locs ls hI hL)
    · rename_i r t
      obtain ⟨-, rfl, rfl, rfl, rfl⟩ := pm_n_inj h
      simp only [Bool.and_eq_true] at hcv
      obtain ⟨g1, g2, g3⟩ := hcv
      have g1 := Nat.eq_of_beq_eq_true g1
      have g3 := Nat.eq_of_beq_eq_true g3
      subst g1
      subst g3
      exact va_ldcS hx hb (of_decide_eq_true g2 ▸ hown) hN.2 hd (kk H locs ls hI hL)
  case lconst n =>
    simp only [pm_chk, Bool.and_eq_true] at hq
    obtain ⟨hd0, hcv⟩ := hq
    obtain ⟨hd, rfl⟩ := pm_d_of hd0
    simp only [pm_x] at h
    obtain ⟨-, rfl, rfl, rfl, rfl⟩ := pm_n_inj h
    exact lv_lconst hx hb hd (of_decide_eq_true hcv) (kk H locs ls hI hL)
  case ldc2_w idx =>
    simp only [pm_chk, Bool.and_eq_true] at hq
    obtain ⟨hd0, hcv⟩ := hq
    obtain ⟨hd, rfl⟩ := pm_d_of hd0
    simp only [pm_x] at h
    obtain ⟨-, rfl, rfl, rfl, rfl⟩ := pm_n_inj h
    exact lv_ldc2 hx hb hown (hts _ (pm_wk_of hcv)) hd (kk H locs ls hI hL)
  case iadd =>
    obtain ⟨hd, rfl⟩ := pm_d_of (show pm_d _ _ _ _ 1 = true from hq)
    simp only [pm_x] at h
    split at h
    · obtain ⟨hg, rfl, rfl, rfl, rfl⟩ := pm_n_inj h
      exact lv_iadd hx hb hd (kk H locs ls hI hL)
    · cases h
  case isub =>
    obtain ⟨hd, rfl⟩ := pm_d_of (show pm_d _ _ _ _ 1 = true from hq)
    simp only [pm_x] at h
    split at h
    · obtain ⟨hg, rfl, rfl, rfl, rfl⟩ := pm_n_inj h
      exact lv_isub hx hb hd (kk H locs ls hI hL)
    · cases h
  case imul =>
    obtain ⟨hd, rfl⟩ := pm_d_of (show pm_d _ _ _ _ 1 = true from hq)
    simp only [pm_x] at h
    split at h
    · obtain ⟨hg, rfl, rfl, rfl, rfl⟩ := pm_n_inj h
      exact lv_imul hx hb hd (kk H locs ls hI hL)
    · cases h
  case iand =>
    obtain ⟨hd, rfl⟩ := pm_d_of (show pm_d _ _ _ _ 1 = true from hq)
    simp only [pm_x] at h
    split at h
    · obtain ⟨hg, rfl, rfl, rfl, rfl⟩ := pm_n_inj h
      exact lv_iand hx hb hd (kk H locs ls hI hL)
    · cases h
  case ior =>
    obtain ⟨hd, rfl⟩ := pm_d_of (show pm_d _ _ _ _ 1 = true from hq)
    simp only [pm_x] at h
    split at h
    · obtain ⟨hg, rfl, rfl, rfl, rfl⟩ := pm_n_inj h
      exact lv_ior hx hb hd (kk H locs ls hI hL)
    · cases h
  case ixor =>
    obtain ⟨hd, rfl⟩ := pm_d_of (show pm_d _ _ _ _ 1 = true from hq)
    simp only [pm_x] at h
    split at h
    · obtain ⟨hg, rfl, rfl, rfl, rfl⟩ := pm_n_inj h
      exact lv_ixor hx hb hd (kk H locs ls hI hL)
    · cases h
  case ishl =>
    obtain ⟨hd, rfl⟩ := pm_d_of (show pm_d _ _ _ _ 1 = true from hq)
    simp only [pm_x] at h
    split at h
    · obtain ⟨hg, rfl, rfl, rfl, rfl⟩ := pm_n_inj h
      exact lv_ishl hx hb hd (kk H locs ls hI hL)
    · cases h
  case ishr =>
    obtain ⟨hd, rfl⟩ := pm_d_of (show pm_d _ _ _ _ 1 = true from hq)
    simp only [pm_x] at h
    split at h
    · obtain ⟨hg, rfl, rfl, rfl, rfl⟩ := pm_n_inj h
      exact lv_ishr hx hb hd (kk H locs ls hI hL)
    · cases h
  case ineg =>
    obtain ⟨hd, rfl⟩ := pm_d_of (show pm_d _ _ _ _ 1 = true from hq)
    simp only [pm_x] at h
    split at h
    · obtain ⟨hg, rfl, rfl, rfl, rfl⟩ := pm_n_inj h
      exact lv_ineg hx hb hd (kk H locs ls hI hL)
    · cases h
  case ladd =>
    obtain ⟨hd, rfl⟩ := pm_d_of (show pm_d _ _ _ _ 1 = true from hq)
    simp only [pm_x] at h
    split at h
    · obtain ⟨hg, rfl, rfl, rfl, rfl⟩ := pm_n_inj h
      exact lv_ladd hx hb hd (kk H locs ls hI hL)
    · cases h
  case lmul =>
    obtain ⟨hd, rfl⟩ := pm_d_of (show pm_d _ _ _ _ 1 = true from hq)
    simp only [pm_x] at h
    split at h
    · obtain ⟨hg, rfl, rfl, rfl, rfl⟩ := pm_n_inj h
      exact lv_lmul hx hb hd (kk H locs ls hI hL)
    · cases h
  case land =>
    obtain ⟨hd, rfl⟩ := pm_d_of (show pm_d _ _ _ _ 1 = true from hq)
    simp only [pm_x] at h
    split at h
    · obtain ⟨hg, rfl, rfl, rfl, rfl⟩ := pm_n_inj h
      exact lv_land hx hb hd (kk H locs ls hI hL)
    · cases h
  case lor =>
    obtain ⟨hd, rfl⟩ := pm_d_of (show pm_d _ _ _ _ 1 = true from hq)
    simp only [pm_x] at h
    split at h
    · obtain ⟨hg, rfl, rfl, rfl, rfl⟩ := pm_n_inj h
      exact lv_lor hx hb hd (kk H locs ls hI hL)
    · cases h
  case lcmp =>
    obtain ⟨hd, rfl⟩ := pm_d_of (show pm_d _ _ _ _ 1 = true from hq)
    simp only [pm_x] at h
    split at h
    · obtain ⟨hg, rfl, rfl, rfl, rfl⟩ := pm_n_inj h
      exact W.lcmp hx hb hd (kk H locs ls hI hL)
    · cases h
  case idiv =>
    obtain ⟨hd, rfl⟩ := pm_d_of (show pm_d _ _ _ _ 1 = true from hq)
    simp only [pm_x] at h
    split at h
    · obtain ⟨hg, rfl, rfl, rfl, rfl⟩ := pm_n_inj h
      exact lv_idiv hx hb hd (by simpa using hg) (kk H locs ls hI hL)
    · cases h
  case iushr =>
    obtain ⟨hd, rfl⟩ := pm_d_of (show pm_d _ _ _ _ 1 = true from hq)
    simp only [pm_x] at h
    split at h
    · obtain ⟨hg, rfl, rfl, rfl, rfl⟩ := pm_n_inj h
      exact lv_iushr hx hb hd rfl (kk H locs ls hI hL)
    · cases h
  case lshl =>
    obtain ⟨hd, rfl⟩ := pm_d_of (show pm_d _ _ _ _ 1 = true from hq)
    simp only [pm_x] at h
    split at h
    · obtain ⟨hg, rfl, rfl, rfl, rfl⟩ := pm_n_inj h
      exact lv_lshl hx hb hd rfl (kk H locs ls hI hL)
    · cases h
  case lushr =>
    obtain ⟨hd, rfl⟩ := pm_d_of (show pm_d _ _ _ _ 1 = true from hq)
    simp only [pm_x] at h
    split at h
    · obtain ⟨hg, rfl, rfl, rfl, rfl⟩ := pm_n_inj h
      exact lv_lushr hx hb hd rfl (kk H locs ls hI hL)
    · cases h
  case i2l =>
    obtain ⟨hd, rfl⟩ := pm_d_of (show pm_d _ _ _ _ 1 = true from hq)
    simp only [pm_x] at h
    split at h
    · obtain ⟨hg, rfl, rfl, rfl, rfl⟩ := pm_n_inj h
      exact lv_i2l hx hb hd rfl (kk H locs ls hI hL)
    · cases h
  case l2i =>
    obtain ⟨hd, rfl⟩ := pm_d_of (show pm_d _ _ _ _ 1 = true from hq)
    simp only [pm_x] at h
    split at h
    · obtain ⟨hg, rfl, rfl, rfl, rfl⟩ := pm_n_inj h
      exact lv_l2i hx hb hd rfl (kk H locs ls hI hL)
    · cases h
  case i2b =>
    obtain ⟨hd, rfl⟩ := pm_d_of (show pm_d _ _ _ _ 1 = true from hq)
    simp only [pm_x] at h
    split at h
    · obtain ⟨hg, rfl, rfl, rfl, rfl⟩ := pm_n_inj h
      exact lv_i2b hx hb hd rfl (kk H locs ls hI hL)
    · cases h
  case i2c =>
    obtain ⟨hd, rfl⟩ := pm_d_of (show pm_d _ _ _ _ 1 = true from hq)
    simp only [pm_x] at h
    split at h
    · obtain ⟨hg, rfl, rfl, rfl, rfl⟩ := pm_n_inj h
      exact lv_i2c hx hb hd rfl (kk H locs ls hI hL)
    · cases h
  case pop =>
    obtain ⟨hd, rfl⟩ := pm_d_of (show pm_d _ _ _ _ 1 = true from hq)
    simp only [pm_x] at h
    split at h
    · obtain ⟨hg, rfl, rfl, rfl, rfl⟩ := pm_n_inj h
      exact lv_pop hx hb hd rfl (kk H locs ls hI hL)
    · cases h
  case dup2 =>
    obtain ⟨hd, rfl⟩ := pm_d_of (show pm_d _ _ _ _ 1 = true from hq)
    simp only [pm_x] at h
    split at h
    · obtain ⟨hg, rfl, rfl, rfl, rfl⟩ := pm_n_inj h
      exact lv_dup2_11 hx hb hd rfl (pm_rl_cat hfv (.ref _)) (kk H locs ls hI hL)
    · cases h
  case dup =>
    obtain ⟨hd, rfl⟩ := pm_d_of (show pm_d _ _ _ _ 1 = true from hq)
    simp only [pm_x] at h
    split at h
    · obtain ⟨hg, rfl, rfl, rfl, rfl⟩ := pm_n_inj h
      exact lv_dup hx hb hd rfl (kk H locs ls hI hL)
    · obtain ⟨hg, rfl, rfl, rfl, rfl⟩ := pm_n_inj h
      exact lv_dup hx hb hd (pm_rl_cat hfv (.ref _)) (kk H locs ls hI hL)
    · cases h
  case goto o =>
    simp only [pm_chk, Bool.and_eq_true] at hq
    obtain ⟨hd0, ht⟩ := hq
    obtain ⟨hd, rfl⟩ := pm_d_of hd0
    simp only [pm_x] at h
    obtain ⟨hg, rfl, rfl, rfl, rfl⟩ := pm_n_inj h
    exact lv_goto hx hb hd (of_decide_eq_true ht) (kk H locs ls hI (hL.clr _))
  case getstatic idx =>
    simp only [pm_chk, Bool.and_eq_true] at hq
    obtain ⟨hd0, ht⟩ := hq
    obtain ⟨hd, rfl⟩ := pm_d_of hd0
    simp only [pm_x] at h
    split at h
    · rename_i hk
      obtain ⟨hg, rfl, rfl, rfl, rfl⟩ := pm_n_inj h
      rw [hk] at ht
      exact va_gets hx hb hZ.1 hS hown (hts _ (pm_wk_of ht)) (fun _ h => h) hd (kk H locs ls hI hL)
    · rename_i hk
      obtain ⟨hg, rfl, rfl, rfl, rfl⟩ := pm_n_inj h
      rw [hk] at ht
      exact va_gets hx hb hZ.2.1 hS hown (hts _ (pm_wk_of ht)) (fun _ h => h) hd (kk H locs ls hI hL)
    · rename_i hk
      obtain ⟨hg, rfl, rfl, rfl, rfl⟩ := pm_n_inj h
      rw [hk] at ht
      exact va_gets hx hb hZ.2.2.1 hS hown (hts _ (pm_wk_of ht)) (fun _ h => h) hd (kk H locs ls hI hL)
    · cases h
  case iaload =>
    obtain ⟨hd, rfl⟩ := pm_d_of (show pm_d _ _ _ _ 1 = true from hq)
    simp only [pm_x] at h
    split at h
    · rename_i i r rest
      cases hbl : Nat.blt r S.1 with
      | true =>
        rw [hbl] at h
        simp only [cond_true] at h
        have hr : r < S.1 := by simpa [Nat.blt_eq] using hbl
        split at h
        · rename_i n hs
          obtain ⟨hg, rfl, rfl, rfl, rfl⟩ := pm_n_inj h
          rw [List.map_cons, List.map_cons, hrl r hr]
          have hc2 : pm_cell ρ fv cA (Sg r) S r = .inl (cA 0, n, .inl (S.2.2.1 r)) := by rw [hs]; rfl
          exact va_iald hx hb hK hP r 0 (by rw [pm_ws_at hr, hc2]) rfl (pm_ib_of hg) hd (kk H locs ls hI hL)
        · cases h
      | false =>
        rw [hbl] at h
        simp only [cond_false] at h
        split at h
        · rename_i n f hs
          obtain ⟨hg, rfl, rfl, rfl, rfl⟩ := pm_n_inj h
          have hr : pm_rl ρ fv (.ref r) = .ref (ρ r) := by
            show (if r = 204 then fv else Value.ref (ρ r)) = _
            rw [if_neg (hRt _ _ hs).2.1]
          rw [List.map_cons, List.map_cons, hr]
          exact va_ti hx hb (hZ.2.2.2.2.2.2 _ _ _ _ hs) hS (pm_ib_of hg) rfl hd (kk H locs ls hI hL)
        · cases h
    · cases h
  case baload =>
    obtain ⟨hd, rfl⟩ := pm_d_of (show pm_d _ _ _ _ 1 = true from hq)
    simp only [pm_x] at h
    split at h
    · rename_i i r rest
      cases hbl : Nat.blt r S.1 with
      | true =>
        rw [hbl] at h
        simp only [cond_true] at h
        have hr : r < S.1 := by simpa [Nat.blt_eq] using hbl
        split at h
        · rename_i n hs
          obtain ⟨hg, rfl, rfl, rfl, rfl⟩ := pm_n_inj h
          rw [List.map_cons, List.map_cons, hrl r hr]
          have hc2 : pm_cell ρ fv cA (Sg r) S r = .inl (cA 2, n, .inl (S.2.2.1 r)) := by rw [hs]; rfl
          exact va_bald hx hb hK hP r 2 (by rw [pm_ws_at hr, hc2]) rfl (pm_ib_of hg) hd (kk H locs ls hI hL)
        · rename_i n hs
          obtain ⟨hg, rfl, rfl, rfl, rfl⟩ := pm_n_inj h
          rw [List.map_cons, List.map_cons, hrl r hr]
          have hc2 : pm_cell ρ fv cA (Sg r) S r = .inl (cA 3, n, .inl (S.2.2.1 r)) := by rw [hs]; rfl
          exact va_zald hx hb hK hP r 3 (by rw [pm_ws_at hr, hc2]) rfl (pm_ib_of hg) hd (kk H locs ls hI hL)
        · cases h
      | false =>
        rw [hbl] at h
        simp only [cond_false] at h
        split at h
        · rename_i n f hs
          obtain ⟨hg, rfl, rfl, rfl, rfl⟩ := pm_n_inj h
          have hr : pm_rl ρ fv (.ref r) = .ref (ρ r) := by
            show (if r = 204 then fv else Value.ref (ρ r)) = _
            rw [if_neg (hRt _ _ hs).2.1]
          rw [List.map_cons, List.map_cons, hr]
          exact va_tb hx hb (hZ.2.2.2.2.2.2 _ _ _ _ hs) hS (pm_ib_of hg) rfl hd (kk H locs ls hI hL)
        · cases h
    · cases h
  case laload =>
    obtain ⟨hd, rfl⟩ := pm_d_of (show pm_d _ _ _ _ 1 = true from hq)
    simp only [pm_x] at h
    split at h
    · rename_i i r rest
      cases hbl : Nat.blt r S.1 with
      | true =>
        rw [hbl] at h
        simp only [cond_true] at h
        have hr : r < S.1 := by simpa [Nat.blt_eq] using hbl
        split at h
        · rename_i n hs
          obtain ⟨hg, rfl, rfl, rfl, rfl⟩ := pm_n_inj h
          rw [List.map_cons, List.map_cons, hrl r hr]
          have hc2 : pm_cell ρ fv cA (Sg r) S r = .inl (cA 1, n, .inr (.inl (S.2.2.2 r))) := by rw [hs]; rfl
          exact va_lald hx hb hK hP r 1 (by rw [pm_ws_at hr, hc2]) rfl (pm_ib_of hg) hd (kk H locs ls hI hL)
        · cases h
      | false => rw [hbl] at h; cases h
    · cases h
  case iastore =>
    obtain ⟨hd, rfl⟩ := pm_d_of (show pm_d _ _ _ _ 1 = true from hq)
    simp only [pm_x] at h
    split at h
    · rename_i x i r rest
      replace h := pm_cond h
      obtain ⟨hbl, h⟩ := h
      have hr : r < S.1 := by simpa [Nat.blt_eq] using hbl
      split at h
      · rename_i n hs
        obtain ⟨hg, rfl, rfl, rfl, rfl⟩ := pm_n_inj h
        rw [List.map_cons, List.map_cons, List.map_cons, hrl r hr]
        have hc2 : pm_cell ρ fv cA (Sg r) S r = .inl (cA 0, n, .inl (S.2.2.1 r)) := by rw [hs]; rfl
        refine va_iast hx hb hK hP hD hS r 0 (by rw [pm_ws_at hr, hc2]) rfl (pm_ib_of hg) hd (fun H1 locs1 hP1 hD1 hS1 => ?_)
        refine kk H1 locs1 ls ⟨?_, hS1, hn2⟩ hL
        have e := pm_ws_set (ρ := ρ) (fv := fv) (cA := cA) (Sg := Sg) (S := S) (S' := (S.1, S.2.1, pm_ui S.2.2.1 r i.toNatClampNeg x, S.2.2.2)) rfl hr (fun k hk hne => pm_cell_eq rfl (pm_ui_off hne) rfl)
        have e2 : pm_cell ρ fv cA (Sg r) (S.1, S.2.1, pm_ui S.2.2.1 r i.toNatClampNeg x, S.2.2.2) r = .inl (cA 0, n, .inl (upd (S.2.2.1 r) i.toNatClampNeg x)) := by
          rw [hs]
          show Sum.inl (cA 0, n, Sum.inl (pm_ui S.2.2.1 r i.toNatClampNeg x r)) = _
          rw [pm_ui_row]
        rw [e2] at e
        rw [← e]
        exact hP1
      · cases h
    · cases h
  case bastore =>
    obtain ⟨hd, rfl⟩ := pm_d_of (show pm_d _ _ _ _ 1 = true from hq)
    simp only [pm_x] at h
    split at h
    · rename_i x i r rest
      replace h := pm_cond h
      obtain ⟨hbl, h⟩ := h
      have hr : r < S.1 := by simpa [Nat.blt_eq] using hbl
      split at h
      · rename_i n hs
        obtain ⟨hg, rfl, rfl, rfl, rfl⟩ := pm_n_inj h
        rw [List.map_cons, List.map_cons, List.map_cons, hrl r hr]
        have hc2 : pm_cell ρ fv cA (Sg r) S r = .inl (cA 2, n, .inl (S.2.2.1 r)) := by rw [hs]; rfl
        refine va_bast hx hb hK hP hD hS r 2 (by rw [pm_ws_at hr, hc2]) rfl (pm_ib_of hg) hd (fun H1 locs1 hP1 hD1 hS1 => ?_)
        refine kk H1 locs1 ls ⟨?_, hS1, hn2⟩ hL
        have e := pm_ws_set (ρ := ρ) (fv := fv) (cA := cA) (Sg := Sg) (S := S) (S' := (S.1, S.2.1, pm_ui S.2.2.1 r i.toNatClampNeg (vp_nar .byte x), S.2.2.2)) rfl hr (fun k hk hne => pm_cell_eq rfl (pm_ui_off hne) rfl)
        have e2 : pm_cell ρ fv cA (Sg r) (S.1, S.2.1, pm_ui S.2.2.1 r i.toNatClampNeg (vp_nar .byte x), S.2.2.2) r = .inl (cA 2, n, .inl (upd (S.2.2.1 r) i.toNatClampNeg (vp_nar .byte x))) := by
          rw [hs]
          show Sum.inl (cA 2, n, Sum.inl (pm_ui S.2.2.1 r i.toNatClampNeg (vp_nar .byte x) r)) = _
          rw [pm_ui_row]
        rw [e2] at e
        rw [← e]
        exact hP1
      · rename_i n hs
        obtain ⟨hg, rfl, rfl, rfl, rfl⟩ := pm_n_inj h
        rw [List.map_cons, List.map_cons, List.map_cons, hrl r hr]
        have hc2 : pm_cell ρ fv cA (Sg r) S r = .inl (cA 3, n, .inl (S.2.2.1 r)) := by rw [hs]; rfl
        refine va_zast hx hb hK hP hD hS r 3 (by rw [pm_ws_at hr, hc2]) rfl (pm_ib_of hg) hd (fun H1 locs1 hP1 hD1 hS1 => ?_)
        refine kk H1 locs1 ls ⟨?_, hS1, hn2⟩ hL
        have e := pm_ws_set (ρ := ρ) (fv := fv) (cA := cA) (Sg := Sg) (S := S) (S' := (S.1, S.2.1, pm_ui S.2.2.1 r i.toNatClampNeg (vp_nar .boolean x), S.2.2.2)) rfl hr (fun k hk hne => pm_cell_eq rfl (pm_ui_off hne) rfl)
        have e2 : pm_cell ρ fv cA (Sg r) (S.1, S.2.1, pm_ui S.2.2.1 r i.toNatClampNeg (vp_nar .boolean x), S.2.2.2) r = .inl (cA 3, n, .inl (upd (S.2.2.1 r) i.toNatClampNeg (vp_nar .boolean x))) := by
          rw [hs]
          show Sum.inl (cA 3, n, Sum.inl (pm_ui S.2.2.1 r i.toNatClampNeg (vp_nar .boolean x) r)) = _
          rw [pm_ui_row]
        rw [e2] at e
        rw [← e]
        exact hP1
      · cases h
    · cases h
  case lastore =>
    obtain ⟨hd, rfl⟩ := pm_d_of (show pm_d _ _ _ _ 1 = true from hq)
    simp only [pm_x] at h
    split at h
    · rename_i x i r rest
      replace h := pm_cond h
      obtain ⟨hbl, h⟩ := h
      have hr : r < S.1 := by simpa [Nat.blt_eq] using hbl
      split at h
      · rename_i n hs
        obtain ⟨hg, rfl, rfl, rfl, rfl⟩ := pm_n_inj h
        rw [List.map_cons, List.map_cons, List.map_cons, hrl r hr]
        have hc2 : pm_cell ρ fv cA (Sg r) S r = .inl (cA 1, n, .inr (.inl (S.2.2.2 r))) := by rw [hs]; rfl
        refine va_last hx hb hK hP hD hS r 1 (by rw [pm_ws_at hr, hc2]) rfl (pm_ib_of hg) hd (fun H1 locs1 hP1 hD1 hS1 => ?_)
        refine kk H1 locs1 ls ⟨?_, hS1, hn2⟩ hL
        have e := pm_ws_set (ρ := ρ) (fv := fv) (cA := cA) (Sg := Sg) (S := S) (S' := (S.1, S.2.1, S.2.2.1, pm_ul S.2.2.2 r i.toNatClampNeg x)) rfl hr (fun k hk hne => pm_cell_eq rfl rfl (pm_ul_off hne))
        have e2 : pm_cell ρ fv cA (Sg r) (S.1, S.2.1, S.2.2.1, pm_ul S.2.2.2 r i.toNatClampNeg x) r = .inl (cA 1, n, .inr (.inl (vp_updL (S.2.2.2 r) i.toNatClampNeg x))) := by
          rw [hs]
          show Sum.inl (cA 1, n, Sum.inr (Sum.inl (pm_ul S.2.2.2 r i.toNatClampNeg x r))) = _
          rw [pm_ul_row]
        rw [e2] at e
        rw [← e]
        exact hP1
      · cases h
    · cases h
  case arraylength =>
    obtain ⟨hd, rfl⟩ := pm_d_of (show pm_d _ _ _ _ 1 = true from hq)
    simp only [pm_x] at h
    split at h
    · rename_i r rest
      cases hbl : Nat.blt r S.1 with
      | true =>
        rw [hbl] at h
        simp only [cond_true] at h
        have hr : r < S.1 := by simpa [Nat.blt_eq] using hbl
        split at h
        · rename_i t n hs
          replace h := pm_cond h
          obtain ⟨ht3, h⟩ := h
          obtain ⟨hg, rfl, rfl, rfl, rfl⟩ := pm_n_inj h
          rw [List.map_cons, hrl r hr]
          have hc2 : pm_cell ρ fv cA (Sg r) S r = .inl (cA t, n, pm_con S r t) := by rw [hs]; rfl
          exact va_alen (x := (n, pm_con S r t)) hx hb hK hP r t (by rw [pm_ws_at hr, hc2]) (pm_tys_at (Nat.le_of_ble_eq_true ht3)) rfl hd (kk H locs ls hI hL)
        · cases h
      | false =>
        rw [hbl] at h
        simp only [cond_false] at h
        split at h
        · rename_i t n f hs
          obtain ⟨hg, rfl, rfl, rfl, rfl⟩ := pm_n_inj h
          have hr : pm_rl ρ fv (.ref r) = .ref (ρ r) := by
            show (if r = 204 then fv else Value.ref (ρ r)) = _
            rw [if_neg (hRt _ _ hs).2.1]
          rw [List.map_cons, hr]
          exact va_tlen hx hb (hZ.2.2.2.2.2.2 _ _ _ _ hs) hS rfl hd (kk H locs ls hI hL)
        · cases h
    · cases h
  case getfield idx =>
    simp only [pm_chk, Bool.and_eq_true] at hq
    obtain ⟨hd0, hcv⟩ := hq
    obtain ⟨hd, rfl⟩ := pm_d_of hd0
    simp only [pm_x] at h
    split at h
    · rename_i r rest
      cases htg : Nat.ble (xs.getD 0 9) 1 with
      | true =>
        rw [htg] at h
        simp only [cond_true] at h
        replace h := pm_cond h
        obtain ⟨hbl, h⟩ := h
        have hr : r < S.1 := by simpa [Nat.blt_eq] using hbl
        split at h
        · rename_i c2 ks hs
          replace h := pm_cond h
          obtain ⟨hce, h⟩ := h
          have hce := Nat.eq_of_beq_eq_true hce
          subst hce
          split at h
          · rename_i v hv
            obtain ⟨-, rfl, rfl, rfl, rfl⟩ := pm_n_inj h
            obtain ⟨hval, hkd⟩ := pm_fv_val (ρ := ρ) (fv := fv) hv
            have hkl : xs.getD 2 0 < ks.length := by
              apply Decidable.byContradiction
              intro hn
              rw [List.getD_eq_getElem?_getD, List.getElem?_eq_none (by omega)] at hkd
              exact absurd hkd (by decide)
            have hf2 : (ks.mapIdx (fun k kd => pm_val ρ fv S r k kd))[xs.getD 2 0]? = some (pm_rl ρ fv v) := by
              rw [List.getElem?_mapIdx, ← hval, pm_getD_lt hkl, List.getElem?_eq_getElem hkl]
              rfl
            have hat : (pm_ws ρ fv cA Sg S)[r]? = some (ρ r, .inr (xs.getD 1 0, ks.mapIdx (fun k kd => pm_val ρ fv S r k kd))) := by
              rw [pm_ws_at hr, hs]
              rfl
            rw [List.map_cons, hrl r hr]
            have htag : xs.getD 0 9 = 0 ∨ xs.getD 0 9 = 1 := by
              have := Nat.le_of_ble_eq_true htg
              omega
            rcases htag with ht | ht
            · rw [ht] at hcv
              simp only at hcv
              split at hcv
              · rename_i t hfk
                obtain ⟨C, T, N, hcl, hkN, hT1, rfl⟩ := pm_fk_of hfk
                obtain ⟨ty, hin, hnm, hty, -⟩ := h1.2.1 _ _ _ _ hcl
                simp only [pm_flk] at hcv
                exact va_get hx hb hts hin hown hK hP r hat hcl (xs.getD 2 0) hkN (hts _ (pm_wk_of hcv)) (fun _ h => h) hf2 hd (kk H locs ls hI hL)
              · cases hcv
            · rw [ht] at hcv
              simp only at hcv
              split at hcv
              · rename_i t hfk
                obtain ⟨C, T, N, hcl, hkN, hT1, rfl⟩ := pm_fk_of hfk
                obtain ⟨ty, hin, hnm, hty, -⟩ := h1.2.1 _ _ _ _ hcl
                simp only [pm_flk] at hcv
                exact va_getN hx hb hts hin hown hK hP r hat hcl (xs.getD 2 0) hkN (va_Nw.use rfl (hN.1 _ (pm_wn_of hcv) rfl)) (fun _ h => h) hf2 hd (kk H locs ls hI hL)
              · cases hcv
          · cases h
        · cases h
      | false =>
        rw [htg] at h
        simp only [cond_false] at h
        replace h := pm_cond h
        obtain ⟨hre, h⟩ := h
        have hre := Nat.eq_of_beq_eq_true hre
        subst hre
        have hr : pm_rl ρ fv (.ref 201) = .ref (ρ 201) := rfl
        split at h
        · rename_i ht
          rw [ht] at hcv
          obtain ⟨-, rfl, rfl, rfl, rfl⟩ := pm_n_inj h
          exact vk_getf hx hb hZ.2.2.2.2.1 hS hown (hts _ (pm_wk_of hcv)) (fun _ h => h) hd (kk H locs ls hI hL)
        · rename_i ht
          rw [ht] at hcv
          obtain ⟨-, rfl, rfl, rfl, rfl⟩ := pm_n_inj h
          exact vk_getf hx hb hZ.2.2.2.1 hS hown (hts _ (pm_wk_of hcv)) (fun _ h => h) hd (kk H locs ls hI hL)
        · cases h
    · cases h
  case newarray a =>
    simp only [pm_chk, Bool.and_eq_true] at hq
    obtain ⟨hd0, hw, hty0, ht3⟩ := hq
    obtain ⟨hd, rfl⟩ := pm_d_of hd0
    have hty0 := of_decide_eq_true hty0
    have ht3 := Nat.le_of_ble_eq_true ht3
    simp only [pm_x] at h
    split at h
    · rename_i n rest
      split at h
      · rename_i t w2 hs
        replace h := pm_cond h
        obtain ⟨hg1, h⟩ := h
        rw [Bool.and_eq_true] at hg1
        have ht := Nat.eq_of_beq_eq_true hg1.1
        have h200 : S.1 < 49 := by simpa [Nat.blt_eq] using hg1.2
        obtain ⟨hg, rfl, rfl, rfl, rfl⟩ := pm_n_inj h
        have hn := of_decide_eq_true hg
        rw [← ht] at hty0 ht3
        have hwl : w2 < 100000 := h1.2.2 _ _ _ hs ht3
        refine pm_siz hρ hsz hc0 hI fun hz0 => ?_
        have hz : H.size = base.1 + S.1 := by
          rcases hz0.2 with e | e
          · rw [hz0.1, e]
          · omega
        have hss : pm_ss Sg (S.1 + 1) = pm_ss Sg S.1 + w2 := by
          show pm_ss Sg S.1 + pm_sz (Sg S.1) = _
          rw [hs]
          rfl
        have hmono := pm_ss_mono Sg hc0
        dsimp only at hR1 hR2
        rw [hss] at hR2
        refine va_newaK (N := w2) hx hb (hts _ (pm_wk_of hw)) rfl hd rfl (by rw [hn]; exact nI_pos (by omega)) (by rw [hn]; exact nI_clamp (by omega)) (by rw [hty0]; have : componentBytes (pm_ty t) ≤ 8 := (by match t, ht3 with | 0, _ => decide | 1, _ => decide | 2, _ => decide | 3, _ => decide); calc w2 * componentBytes (pm_ty t) ≤ 100000 * 8 := Nat.mul_le_mul (by omega) this
            _ ≤ _ := by decide) (by omega) (by omega) hz (fun H1 cA2 e1 z1 o1 hAr hnm => ?_)
        have hcA : cA2 = cA t := by
          have g2 := (hK.2 t _ (pm_tys_at ht3)).2
          rw [hty0] at hnm
          have g3 : s.vm.findClass ("[" ++ (pm_ty t).toString) = some (cA t) := by
            match t, ht3, g2 with
            | 0, _, g2 => exact g2
            | 1, _, g2 => exact g2
            | 2, _, g2 => exact g2
            | 3, _, g2 => exact g2
          exact Option.some.inj (hnm.symm.trans g3)
        subst hcA
        have hk := kk H1 locs ls ⟨pm_P_push hP (fun q hq => o1 q (by omega)) rfl (fun k hk => pm_cell_eq (pm_cg_off (by omega)) (pm_ci_off (by omega)) (pm_cl_off (by omega))) ?_, ⟨Nat.le_trans hS.1 (by omega), fun x g1 g2 => (o1 x (by have := hS.1; omega)).trans (hS.2.1 x g1 g2), hS.2.2⟩, by show S.1 + 1 ≤ 49; omega⟩ hL
        · have er : pm_rl ρ fv (.ref S.1) = .ref (base.1 + S.1) := by
            show (if S.1 = 204 then fv else Value.ref (ρ S.1)) = _
            rw [if_neg (by omega), hρ _ h200]
          rw [List.map_cons, er] at hk
          dsimp only at hk
          rw [hss] at hk
          rw [show S.1 - c0 + 1 = S.1 + 1 - c0 by omega, show pm_ss Sg S.1 - pm_ss Sg c0 + w2 = pm_ss Sg S.1 + w2 - pm_ss Sg c0 by omega]
          exact hk
        · rw [hs, hρ _ h200]
          show H1[base.1 + S.1]? = some (vp_cell (cA t) (w2, _))
          rw [e1, hty0]
          match t, ht3 with
          | 0, _ =>
            show some (arrV (cA 0) w2 (fun _ => Value.int 0)) = some (arrV (cA 0) w2 (fun j => Value.int (pm_ci S.2.2.1 S.1 S.1 j)))
            simp only [pm_ci_row]
          | 1, _ =>
            show some (arrV (cA 1) w2 (fun _ => Value.long 0)) = some (arrV (cA 1) w2 (fun j => Value.long (pm_cl S.2.2.2 S.1 S.1 j)))
            simp only [pm_cl_row]
          | 2, _ =>
            show some (arrV (cA 2) w2 (fun _ => Value.int 0)) = some (arrV (cA 2) w2 (fun j => Value.int (pm_ci S.2.2.1 S.1 S.1 j)))
            simp only [pm_ci_row]
          | 3, _ =>
            show some (arrV (cA 3) w2 (fun _ => Value.int 0)) = some (arrV (cA 3) w2 (fun j => Value.int (pm_ci S.2.2.1 S.1 S.1 j)))
            simp only [pm_ci_row]
      · cases h
    · cases h
  case new idx =>
    simp only [pm_chk, Bool.and_eq_true] at hq
    obtain ⟨hd0, hq⟩ := hq
    obtain ⟨hd, rfl⟩ := pm_d_of hd0
    simp only [pm_x] at h
    split at h
    · rename_i c2 ks hs
      replace h := pm_cond h
      obtain ⟨hg1, h⟩ := h
      rw [Bool.and_eq_true] at hg1
      have hc2 := Nat.eq_of_beq_eq_true hg1.1
      have h200 : S.1 < 49 := by simpa [Nat.blt_eq] using hg1.2
      obtain ⟨hg, rfl, rfl, rfl, rfl⟩ := pm_n_inj h
      subst hc2
      split at hq
      · rename_i C T N hcl
        simp only [Bool.and_eq_true] at hq
        obtain ⟨q1, q2, q3⟩ := hq
        obtain ⟨ty, hin, hnm, hty, hkt⟩ := h1.2.1 _ _ _ _ hcl
        obtain ⟨hlen, hkt⟩ := hkt _ _ hs
        refine pm_siz hρ hsz hc0 hI fun hz0 => ?_
        have hz : H.size = base.1 + S.1 := by
          rcases hz0.2 with e | e
          · rw [hz0.1, e]
          · omega
        have hss : pm_ss Sg (S.1 + 1) = pm_ss Sg S.1 + N := by
          show pm_ss Sg S.1 + pm_sz (Sg S.1) = _
          rw [hs, ← hlen]
          rfl
        have hmono := pm_ss_mono Sg hc0
        dsimp only at hR1 hR2
        rw [hss] at hR2
        have hKn := hK.1 _ _ hcl
        refine W.newcK hx hb hown (hts _ (pm_wk_of q1)) (hts _ (pm_wk_of q2)) (hts _ (pm_wk_of q3)) rfl hd (by omega) (by omega) hKn.2.1 hz (fun H1 kC hkC e1 z1 o1 => ?_)
        have hk := kk H1 locs ls ⟨pm_P_push hP (fun q hq => o1 q (by omega)) rfl (fun k hk => pm_cell_eq (pm_cg_off (by omega)) (pm_ci_off (by omega)) (pm_cl_off (by omega))) ?_, ⟨Nat.le_trans hS.1 (by omega), fun x g1 g2 => (o1 x (by have := hS.1; omega)).trans (hS.2.1 x g1 g2), hS.2.2⟩, by show S.1 + 1 ≤ 49; omega⟩ hL
        · have er : pm_rl ρ fv (.ref S.1) = .ref (base.1 + S.1) := by
            show (if S.1 = 204 then fv else Value.ref (ρ S.1)) = _
            rw [if_neg (by omega), hρ _ h200]
          rw [List.map_cons, er] at hk
          dsimp only at hk
          rw [hss] at hk
          rw [show S.1 - c0 + 1 = S.1 + 1 - c0 by omega, show pm_ss Sg S.1 - pm_ss Sg c0 + N = pm_ss Sg S.1 + N - pm_ss Sg c0 by omega]
          exact hk
        · rw [hs, hρ _ h200]
          refine ⟨_, hcl, (u_born ty hts hin hKn hkC e1 hty).to fun j hj => ?_⟩
          have hjk : j < ks.length := by omega
          show _ = List.getD (List.mapIdx _ ks) j Value.null
          rw [List.getD_eq_getElem?_getD, List.getElem?_mapIdx, List.getElem?_eq_getElem hjk]
          have g := hkt j hj
          rw [List.getD_eq_getElem?_getD, List.getElem?_eq_getElem hjk] at g
          simp only [Option.getD_some, Option.map_some] at g ⊢
          match hkd : ks[j], g with
          | 0, g => rw [show ty j = .int from g]; exact congrArg Value.int pm_ci_row.symm
          | 1, g => rw [show ty j = .long from g]; exact congrArg Value.long pm_cl_row.symm
          | 2, g => rw [show ty j = .boolean from g]; exact congrArg Value.int pm_ci_row.symm
          | 3, g =>
            have e0 : pm_val ρ fv (S.1 + 1, pm_cg S.2.1 S.1, pm_ci S.2.2.1 S.1, pm_cl S.2.2.2 S.1) S.1 j 3 = .null := by
              show (match pm_cg S.2.1 S.1 S.1 j with | 0 => Value.null | j + 1 => pm_rl ρ fv (.ref j)) = _
              rw [pm_cg_row]
            rw [e0]
            rcases (show (∃ n, ty j = .object n) ∨ ∃ t, ty j = .array t from g) with ⟨n, hn⟩ | ⟨n, hn⟩ <;> rw [hn] <;> rfl
          | (n + 4), g => exact absurd g (by intro h; exact h)
      · cases hq
    · cases h
  case invokespecial idx =>
    simp only [pm_chk, Bool.and_eq_true] at hq
    obtain ⟨hd0, hq⟩ := hq
    obtain ⟨hd, rfl⟩ := pm_d_of hd0
    simp only [pm_x] at h
    split at h
    · split at h
      · rename_i r rest
        replace h := pm_cond h
        obtain ⟨hg1, h⟩ := h
        rw [Bool.and_eq_true] at hg1
        have hr : r < S.1 := by simpa [Nat.blt_eq] using hg1.1
        obtain ⟨hg, rfl, rfl, rfl, rfl⟩ := pm_n_inj h
        simp only [Bool.and_eq_true] at hq
        obtain ⟨q1, q2, q3, q4, q5⟩ := hq
        rw [List.map_cons, hrl r hr]
        have hsize : ls.size = c.maxLocals := hL.1.trans hml.symm
        have hwd : (rest.map (pm_rl ρ fv)).map (fun v => v.category) = rest.map (fun v => v.category) := by
          rw [List.map_map]
          exact List.map_congr_left fun v _ => pm_rl_cat hfv v
        have hwd2 := pm_wd_sum rest
        have h8 := Nat.le_of_ble_eq_true hg1.2
        have q4 := Nat.le_of_ble_eq_true q4
        have q5 := Nat.le_of_ble_eq_true q5
        have hmr : 2 * (F0 m pc ls (Value.ref (ρ r) :: rest.map (pm_rl ρ fv))).monitorRoom + ((rest.map (pm_rl ρ fv)).map fun v => v.category).sum ≤ 8 := lv_room (by rw [hwd, hwd2]; exact h8)
        exact W.objInit hx hb hown (hts _ (pm_wk_of q1)) (hts _ (List.contains_iff_mem.mp q2)) (hts _ (List.contains_iff_mem.mp q3)) rfl hsize rfl hd (Nat.le_trans q4 hfr) (by omega) (kk H locs ls hI hL)
      · cases h
    · unfold pm_callI at h
      split at h
      · replace h := pm_cond h
        obtain ⟨-, h⟩ := h
        exact (pm_j_ne h).elim
      · cases h
  case invokevirtual idx =>
    simp only [pm_x] at h
    unfold pm_callV at h
    split at h
    · replace h := pm_cond h
      obtain ⟨-, h⟩ := h
      exact (pm_j_ne h).elim
    · cases h
  case invokestatic idx =>
    simp only [pm_x] at h
    unfold pm_call at h
    split at h
    · replace h := pm_cond h
      obtain ⟨-, h⟩ := h
      exact (pm_j_ne h).elim
    · cases h
  case tableswitch d lo hi offs =>
    simp only [pm_x] at h
    split at h
    · exact (pm_w_ne h).elim
    · cases h
  case ifCond cnd o => cases cnd <;> (simp only [pm_x] at h; split at h <;> first | exact (pm_b_ne h).elim | cases h)
  case if_icmp cnd o => cases cnd <;> (simp only [pm_x] at h; split at h <;> first | exact (pm_b_ne h).elim | cases h)
  case ireturn =>
    simp only [pm_x] at h
    split at h
    · split at h <;> first | exact (pm_e_ne h).elim | cases h
    · cases h
  case lreturn =>
    simp only [pm_x] at h
    split at h
    · split at h <;> first | exact (pm_e_ne h).elim | cases h
    · cases h
  case return_ =>
    simp only [pm_x] at h
    split at h
    · split at h <;> first | exact (pm_e_ne h).elim | cases h
    · cases h
  case putfield idx =>
    simp only [pm_chk, Bool.and_eq_true] at hq
    obtain ⟨hd0, hq⟩ := hq
    obtain ⟨hd, rfl⟩ := pm_d_of hd0
    split at hq
    · rename_i t hfk
      obtain ⟨C, T, N, hcl, hkN, hT1, rfl⟩ := pm_fk_of hfk
      obtain ⟨ty, hin, hnm, hty, hkt⟩ := h1.2.1 _ _ _ _ hcl
      rw [Bool.and_eq_true] at hq
      obtain ⟨hlk, hfl⟩ := hq
      simp only [pm_x] at h
      split at h
      · rename_i x r rest
        replace h := pm_cond h
        obtain ⟨hg1, h⟩ := h
        rw [Bool.and_eq_true] at hg1
        have hr : r < S.1 := by simpa [Nat.blt_eq] using hg1.1
        have htag : xs.getD 0 9 = 0 ∨ xs.getD 0 9 = 1 := by
          have := Nat.le_of_ble_eq_true hg1.2
          omega
        have hb4 : Nat.beq (xs.getD 0 9) 4 = false := by rcases htag with h | h <;> rw [h] <;> rfl
        split at h
        · rename_i c2 ks hs
          replace h := pm_cond h
          obtain ⟨hce, h⟩ := h
          have hce := Nat.eq_of_beq_eq_true hce
          subst hce
          obtain ⟨hlen, hkt⟩ := hkt _ _ hs
          split at h
          · rename_i hkd
            obtain ⟨hg, rfl, rfl, rfl, rfl⟩ := pm_n_inj h
            have hkl : xs.getD 2 0 < ks.length := by rw [hlen]; exact hkN
            have hk0 := hkt _ hkN
            rw [hkd] at hk0
            have hk0 : ty (xs.getD 2 0) = .int := hk0
            have hat : (pm_ws ρ fv cA Sg S)[r]? = some (ρ r, .inr (xs.getD 1 0, ks.mapIdx (fun k kd => pm_val ρ fv S r k kd))) := by
              rw [pm_ws_at hr, hs]
              rfl
            have hfin : (T (xs.getD 2 0)).2.2.2 = false := by
              rw [hb4] at hfl
              simpa using hfl
            have e := pm_ws_set (ρ := ρ) (fv := fv) (cA := cA) (Sg := Sg) (S := S) (S' := (S.1, S.2.1, pm_ui S.2.2.1 r (xs.getD 2 0) x, S.2.2.2)) rfl hr (fun k hk hne => pm_cell_eq rfl (pm_ui_off hne) rfl)
            have e2 : pm_cell ρ fv cA (Sg r) (S.1, S.2.1, pm_ui S.2.2.1 r (xs.getD 2 0) x, S.2.2.2) r = .inr (xs.getD 1 0, (ks.mapIdx (fun k kd => pm_val ρ fv S r k kd)).set (xs.getD 2 0) (.int x)) := by
              rw [hs]
              show Sum.inr (xs.getD 1 0, ks.mapIdx (fun k kd => pm_val ρ fv (S.1, S.2.1, pm_ui S.2.2.1 r (xs.getD 2 0) x, S.2.2.2) r k kd)) = _
              refine congrArg (fun z => Sum.inr (xs.getD 1 0, z)) (pm_fields hkl (by rw [hkd]; exact pm_val_new_0) (fun j kd hj => pm_val_off_i hj)).symm
            rw [e2] at e
            have kk2 := fun (H1 : Heap) (locs1 : List Loc) (hP1 : va_P D cl ((pm_ws ρ fv cA Sg S).set r (ρ r, .inr (xs.getD 1 0, (ks.mapIdx (fun k kd => pm_val ρ fv S r k kd)).set (xs.getD 2 0) (.int x)))) H1) (_ : va_D base.2.2 ((pm_ws ρ fv cA Sg S).set r (ρ r, .inr (xs.getD 1 0, (ks.mapIdx (fun k kd => pm_val ρ fv S r k kd)).set (xs.getD 2 0) (.int x))))) (hS1 : va_S base.2.2 s.heap H1 locs1) => kk H1 locs1 ls ⟨e ▸ hP1, hS1, hn2⟩ hL
            rw [List.map_cons, List.map_cons, hrl r hr]
            rcases htag with ht | ht
            · rw [ht] at hlk
              exact va_put hx hb hts hin ty hty hnm hown hK hP hD hS r hat hcl (xs.getD 2 0) hkN (hts _ (pm_wk_of hlk)) (fun _ h => h) hfin (hty _ hkN) (by rw [hk0]; exact rfl) (by rw [hk0]; exact rfl) (by rw [List.length_mapIdx]; exact hkl) hd kk2
            · rw [ht] at hlk
              exact va_putN hx hb hts hin ty hty hnm hown hK hP hD hS r hat hcl (xs.getD 2 0) hkN (va_Nw.use rfl (hN.1 _ (pm_wn_of hlk) rfl)) (fun _ h => h) hfin (hty _ hkN) (by rw [hk0]; exact rfl) (by rw [hk0]; exact rfl) (by rw [List.length_mapIdx]; exact hkl) hd kk2
          · rename_i hkd
            obtain ⟨hg, rfl, rfl, rfl, rfl⟩ := pm_n_inj h
            have hkl : xs.getD 2 0 < ks.length := by rw [hlen]; exact hkN
            have hk0 := hkt _ hkN
            rw [hkd] at hk0
            have hk0 : ty (xs.getD 2 0) = .boolean := hk0
            have hat : (pm_ws ρ fv cA Sg S)[r]? = some (ρ r, .inr (xs.getD 1 0, ks.mapIdx (fun k kd => pm_val ρ fv S r k kd))) := by
              rw [pm_ws_at hr, hs]
              rfl
            have hfin : (T (xs.getD 2 0)).2.2.2 = false := by
              rw [hb4] at hfl
              simpa using hfl
            have e := pm_ws_set (ρ := ρ) (fv := fv) (cA := cA) (Sg := Sg) (S := S) (S' := (S.1, S.2.1, pm_ui S.2.2.1 r (xs.getD 2 0) x, S.2.2.2)) rfl hr (fun k hk hne => pm_cell_eq rfl (pm_ui_off hne) rfl)
            have e2 : pm_cell ρ fv cA (Sg r) (S.1, S.2.1, pm_ui S.2.2.1 r (xs.getD 2 0) x, S.2.2.2) r = .inr (xs.getD 1 0, (ks.mapIdx (fun k kd => pm_val ρ fv S r k kd)).set (xs.getD 2 0) (.int x)) := by
              rw [hs]
              show Sum.inr (xs.getD 1 0, ks.mapIdx (fun k kd => pm_val ρ fv (S.1, S.2.1, pm_ui S.2.2.1 r (xs.getD 2 0) x, S.2.2.2) r k kd)) = _
              refine congrArg (fun z => Sum.inr (xs.getD 1 0, z)) (pm_fields hkl (by rw [hkd]; exact pm_val_new_2) (fun j kd hj => pm_val_off_i hj)).symm
            rw [e2] at e
            have kk2 := fun (H1 : Heap) (locs1 : List Loc) (hP1 : va_P D cl ((pm_ws ρ fv cA Sg S).set r (ρ r, .inr (xs.getD 1 0, (ks.mapIdx (fun k kd => pm_val ρ fv S r k kd)).set (xs.getD 2 0) (.int x)))) H1) (_ : va_D base.2.2 ((pm_ws ρ fv cA Sg S).set r (ρ r, .inr (xs.getD 1 0, (ks.mapIdx (fun k kd => pm_val ρ fv S r k kd)).set (xs.getD 2 0) (.int x))))) (hS1 : va_S base.2.2 s.heap H1 locs1) => kk H1 locs1 ls ⟨e ▸ hP1, hS1, hn2⟩ hL
            rw [List.map_cons, List.map_cons, hrl r hr]
            rcases htag with ht | ht
            · rw [ht] at hlk
              exact va_put hx hb hts hin ty hty hnm hown hK hP hD hS r hat hcl (xs.getD 2 0) hkN (hts _ (pm_wk_of hlk)) (fun _ h => h) hfin (hty _ hkN) (by rw [hk0]; exact pm_nz x (of_decide_eq_true hg)) (by rw [hk0]; exact pm_fz x (of_decide_eq_true hg)) (by rw [List.length_mapIdx]; exact hkl) hd kk2
            · rw [ht] at hlk
              exact va_putN hx hb hts hin ty hty hnm hown hK hP hD hS r hat hcl (xs.getD 2 0) hkN (va_Nw.use rfl (hN.1 _ (pm_wn_of hlk) rfl)) (fun _ h => h) hfin (hty _ hkN) (by rw [hk0]; exact pm_nz x (of_decide_eq_true hg)) (by rw [hk0]; exact pm_fz x (of_decide_eq_true hg)) (by rw [List.length_mapIdx]; exact hkl) hd kk2
          · cases h
        · cases h
      · rename_i x r rest
        replace h := pm_cond h
        obtain ⟨hg1, h⟩ := h
        rw [Bool.and_eq_true] at hg1
        have hr : r < S.1 := by simpa [Nat.blt_eq] using hg1.1
        have htag : xs.getD 0 9 = 0 ∨ xs.getD 0 9 = 1 := by
          have := Nat.le_of_ble_eq_true hg1.2
          omega
        have hb4 : Nat.beq (xs.getD 0 9) 4 = false := by rcases htag with h | h <;> rw [h] <;> rfl
        split at h
        · rename_i c2 ks hs
          replace h := pm_cond h
          obtain ⟨hce, h⟩ := h
          rw [Bool.and_eq_true] at hce
          have hkd := Nat.eq_of_beq_eq_true hce.2
          have hce := Nat.eq_of_beq_eq_true hce.1
          subst hce
          obtain ⟨hlen, hkt⟩ := hkt _ _ hs
          obtain ⟨hg, rfl, rfl, rfl, rfl⟩ := pm_n_inj h
          have hkl : xs.getD 2 0 < ks.length := by rw [hlen]; exact hkN
          have hk0 := hkt _ hkN
          rw [hkd] at hk0
          have hk0 : ty (xs.getD 2 0) = .long := hk0
          have hat : (pm_ws ρ fv cA Sg S)[r]? = some (ρ r, .inr (xs.getD 1 0, ks.mapIdx (fun k kd => pm_val ρ fv S r k kd))) := by
            rw [pm_ws_at hr, hs]
            rfl
          have hfin : (T (xs.getD 2 0)).2.2.2 = false := by
            rw [hb4] at hfl
            simpa using hfl
          have e := pm_ws_set (ρ := ρ) (fv := fv) (cA := cA) (Sg := Sg) (S := S) (S' := (S.1, S.2.1, S.2.2.1, pm_ul S.2.2.2 r (xs.getD 2 0) x)) rfl hr (fun k hk hne => pm_cell_eq rfl rfl (pm_ul_off hne))
          have e2 : pm_cell ρ fv cA (Sg r) (S.1, S.2.1, S.2.2.1, pm_ul S.2.2.2 r (xs.getD 2 0) x) r = .inr (xs.getD 1 0, (ks.mapIdx (fun k kd => pm_val ρ fv S r k kd)).set (xs.getD 2 0) (.long x)) := by
            rw [hs]
            show Sum.inr (xs.getD 1 0, ks.mapIdx (fun k kd => pm_val ρ fv (S.1, S.2.1, S.2.2.1, pm_ul S.2.2.2 r (xs.getD 2 0) x) r k kd)) = _
            refine congrArg (fun z => Sum.inr (xs.getD 1 0, z)) (pm_fields hkl (by rw [hkd]; exact pm_val_new_1) (fun j kd hj => pm_val_off_l hj)).symm
          rw [e2] at e
          have kk2 := fun (H1 : Heap) (locs1 : List Loc) (hP1 : va_P D cl ((pm_ws ρ fv cA Sg S).set r (ρ r, .inr (xs.getD 1 0, (ks.mapIdx (fun k kd => pm_val ρ fv S r k kd)).set (xs.getD 2 0) (.long x)))) H1) (_ : va_D base.2.2 ((pm_ws ρ fv cA Sg S).set r (ρ r, .inr (xs.getD 1 0, (ks.mapIdx (fun k kd => pm_val ρ fv S r k kd)).set (xs.getD 2 0) (.long x))))) (hS1 : va_S base.2.2 s.heap H1 locs1) => kk H1 locs1 ls ⟨e ▸ hP1, hS1, hn2⟩ hL
          rw [List.map_cons, List.map_cons, hrl r hr]
          rcases htag with ht | ht
          · rw [ht] at hlk
            exact va_put hx hb hts hin ty hty hnm hown hK hP hD hS r hat hcl (xs.getD 2 0) hkN (hts _ (pm_wk_of hlk)) (fun _ h => h) hfin (hty _ hkN) (by rw [hk0]; exact rfl) (by rw [hk0]; exact rfl) (by rw [List.length_mapIdx]; exact hkl) hd kk2
          · rw [ht] at hlk
            exact va_putN hx hb hts hin ty hty hnm hown hK hP hD hS r hat hcl (xs.getD 2 0) hkN (va_Nw.use rfl (hN.1 _ (pm_wn_of hlk) rfl)) (fun _ h => h) hfin (hty _ hkN) (by rw [hk0]; exact rfl) (by rw [hk0]; exact rfl) (by rw [List.length_mapIdx]; exact hkl) hd kk2
        · cases h
      · rename_i z r rest
        replace h := pm_cond h
        obtain ⟨hg1, h⟩ := h
        rw [Bool.and_eq_true, Bool.and_eq_true] at hg1
        have hr : r < S.1 := by simpa [Nat.blt_eq] using hg1.1
        have hz : z < S.1 := by simpa [Nat.blt_eq] using hg1.2.1
        have hb4 := hg1.2.2
        have ht4 := Nat.eq_of_beq_eq_true hb4
        split at h
        · rename_i c2 ks hs
          replace h := pm_cond h
          obtain ⟨hce, h⟩ := h
          rw [Bool.and_eq_true] at hce
          have hkd := Nat.eq_of_beq_eq_true hce.2
          have hce := Nat.eq_of_beq_eq_true hce.1
          subst hce
          obtain ⟨hlen, hkt⟩ := hkt _ _ hs
          obtain ⟨hg, rfl, rfl, rfl, rfl⟩ := pm_n_inj h
          have hkl : xs.getD 2 0 < ks.length := by rw [hlen]; exact hkN
          have hk0 := hkt _ hkN
          rw [hkd] at hk0
          have hk0 : (∃ n, ty (xs.getD 2 0) = .object n) ∨ ∃ t, ty (xs.getD 2 0) = .array t := hk0
          have hat : (pm_ws ρ fv cA Sg S)[r]? = some (ρ r, .inr (xs.getD 1 0, ks.mapIdx (fun k kd => pm_val ρ fv S r k kd))) := by
            rw [pm_ws_at hr, hs]
            rfl
          rw [hb4] at hfl
          simp only [cond_true, Bool.and_eq_true] at hfl
          obtain ⟨hfin, hname, hdecl⟩ := hfl
          have hname := of_decide_eq_true hname
          have hdecl := of_decide_eq_true hdecl
          have e := pm_ws_set (ρ := ρ) (fv := fv) (cA := cA) (Sg := Sg) (S := S) (S' := (S.1, pm_ug S.2.1 r (xs.getD 2 0) (z + 1), S.2.2.1, S.2.2.2)) rfl hr (fun k hk hne => pm_cell_eq (pm_ug_off hne) rfl rfl)
          have e2 : pm_cell ρ fv cA (Sg r) (S.1, pm_ug S.2.1 r (xs.getD 2 0) (z + 1), S.2.2.1, S.2.2.2) r = .inr (xs.getD 1 0, (ks.mapIdx (fun k kd => pm_val ρ fv S r k kd)).set (xs.getD 2 0) (.ref (ρ z))) := by
            rw [hs]
            show Sum.inr (xs.getD 1 0, ks.mapIdx (fun k kd => pm_val ρ fv (S.1, pm_ug S.2.1 r (xs.getD 2 0) (z + 1), S.2.2.1, S.2.2.2) r k kd)) = _
            refine congrArg (fun z => Sum.inr (xs.getD 1 0, z)) (pm_fields hkl (by rw [hkd, ← hrl z hz]; exact pm_val_new_3) (fun j kd hj => pm_val_off_g hj)).symm
          rw [e2] at e
          have kk2 := fun (H1 : Heap) (locs1 : List Loc) (hP1 : va_P D cl ((pm_ws ρ fv cA Sg S).set r (ρ r, .inr (xs.getD 1 0, (ks.mapIdx (fun k kd => pm_val ρ fv S r k kd)).set (xs.getD 2 0) (.ref (ρ z))))) H1) (_ : va_D base.2.2 ((pm_ws ρ fv cA Sg S).set r (ρ r, .inr (xs.getD 1 0, (ks.mapIdx (fun k kd => pm_val ρ fv S r k kd)).set (xs.getD 2 0) (.ref (ρ z)))))) (hS1 : va_S base.2.2 s.heap H1 locs1) => kk H1 locs1 ls ⟨e ▸ hP1, hS1, hn2⟩ hL
          rw [List.map_cons, List.map_cons, hrl r hr, hrl z hz]
          rw [ht4] at hlk
          refine va_putF hx hb hts hin ty hty hnm hown hK hP hD hS r hat hcl (xs.getD 2 0) hkN (hts _ (pm_wk_of hlk)) (fun _ h => h) hfin (hmn hname) hdecl (hty _ hkN) ?_ ?_ (by rw [List.length_mapIdx]; exact hkl) hd kk2
          · rcases hk0 with ⟨n, hn⟩ | ⟨n, hn⟩ <;> rw [hn] <;> rfl
          · rcases hk0 with ⟨n, hn⟩ | ⟨n, hn⟩ <;> rw [hn] <;> rfl
        · cases h
      · cases h
    · cases hq
  all_goals (simp only [pm_x] at h; cases h)
end
