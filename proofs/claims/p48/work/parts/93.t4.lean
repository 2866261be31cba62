/-! ===== the law's machine: reading, writing, making ===== -/
section
variable {D : va_G} {cl : List vw_C} {cA : Nat → ClassId} {qs : Nat → qm_K} {T : qm_T} {J base : Nat} {so : Nat → Nat → Prop} {st : Nat → Nat → Nat} {fv : Value} {ρ : Nat → Nat}
theorem qm_arr (h3 : qm_E3 qs T so base J st fv ρ) {S : qm_S} {s a t u : Nat} (hok : qm_ok qs T so J S) (hv : qm_vv so J S (.inr (s, a))) (hq : qs s = .inl (t, u)) (ht : t ≤ 7) :
    s < 30 ∧ ((T.2.2 s = true ∧ so s a ∧ qm_rl st base fv (.inr (s, a)) = .ref (st s a)) ∨ (T.2.2 s = false ∧ s = 24 ∧ a = 2 ∧ qm_rl st base fv (.inr (s, a)) = .ref (st 24 2)) ∨ (T.2.2 s = false ∧ qm_dv J S s a ∧ qm_rl st base fv (.inr (s, a)) = .ref (base + (a - 1001)))) := by
  obtain ⟨e1, e2, e3, e4, e5, e6, e7, e8, e9⟩ := id h3
  have h30 : s < 30 := by
    apply Decidable.byContradiction
    intro h
    rw [e9 s (by omega)] at hq
    cases hq
    omega
  refine ⟨h30, ?_⟩
  rcases qm_vr_of hv h30 with h0 | h0
  · have hlt := (e2 s a h0).2.1
    rcases (e2 s a h0).2.2.2 with h | ⟨g1, g2⟩
    · exact Or.inl ⟨h, h0, qm_rl_so hlt h30⟩
    · subst g1 g2
      exact Or.inr (Or.inl ⟨e4.1, rfl, rfl, qm_rl_so hlt h30⟩)
  · exact Or.inr (Or.inr ⟨qm_dvs hok h0, h0, qm_rl_dv h0 h30⟩)
theorem qm_obj (h3 : qm_E3 qs T so base J st fv ρ) {S : qm_S} {s a c : Nat} {ks : List (Nat × Nat)} (hok : qm_ok qs T so J S) (hv : qm_vv so J S (.inr (s, a))) (hq : qs s = .inr (c, ks)) :
    s < 30 ∧ ((T.2.2 s = true ∧ so s a ∧ qm_rl st base fv (.inr (s, a)) = .ref (st s a)) ∨ (T.2.2 s = false ∧ qm_dv J S s a ∧ qm_rl st base fv (.inr (s, a)) = .ref (base + (a - 1001)))) := by
  obtain ⟨e1, e2, e3, e4, e5, e6, e7, e8, e9⟩ := id h3
  have h30 : s < 30 := by
    apply Decidable.byContradiction
    intro h
    rw [e9 s (by omega)] at hq
    cases hq
  refine ⟨h30, ?_⟩
  rcases qm_vr_of hv h30 with h0 | h0
  · have hlt := (e2 s a h0).2.1
    rcases (e2 s a h0).2.2.2 with h | ⟨g1, g2⟩
    · exact Or.inl ⟨h, h0, qm_rl_so hlt h30⟩
    · rw [g1, e4.2] at hq
      cases hq
  · exact Or.inr ⟨qm_dvs hok h0, h0, qm_rl_dv h0 h30⟩
theorem qm_len_s {S : qm_S} {s a : Nat} (h : T.2.2 s = true) : qm_len T S s a = T.2.1 s a := by unfold qm_len; rw [h]; rfl
theorem qm_len_d {S : qm_S} {s a : Nat} (h : T.2.2 s = false) (hd : qm_dv J S s a) : qm_len T S s a = S.2.2.2.1 a := by
  unfold qm_len
  rw [h]
  cases hb : Nat.beq s 24 with
  | false => rfl
  | true =>
    have : Nat.blt a 1001 = false := by
      have := hd.1
      cases hb : Nat.blt a 1001 with
      | false => rfl
      | true => have : a < 1001 := by simpa [Nat.blt_eq] using hb
                omega
    simp only [cond_false, cond_true, this]
theorem qm_len_e {S : qm_S} (h : T.2.2 24 = false) : qm_len T S 24 2 = 0 := by
  unfold qm_len
  rw [h]
  rfl
theorem qm_rd_s {S : qm_S} {s a k : Nat} (h : T.2.2 s = true) : qm_rd T S s a k = T.1 s a k := by unfold qm_rd; rw [h]; rfl
theorem qm_rd_d {S : qm_S} {s a k : Nat} (h : T.2.2 s = false) : qm_rd T S s a k = S.2.2.2.2.2.1 s a k := by unfold qm_rd; rw [h]; rfl
theorem qm_ui_at {f : Nat → Nat → Nat → Int32} {s a k b : Nat} {v : Int32} (h : b ≠ a) (s' : Nat) : qm_ui f s a k v s' b = f s' b := by
  funext j
  unfold qm_ui
  rw [pm_bf h, Bool.and_false, Bool.and_false]
  rfl
theorem qm_ui_row {f : Nat → Nat → Nat → Int32} {s a k : Nat} {v : Int32} : qm_ui f s a k v s a = upd (f s a) k v := by
  funext j
  unfold qm_ui
  rw [pm_bt, pm_bt, Bool.true_and, Bool.and_true]
  by_cases h : j = k
  · subst h; simp [upd, pm_bt]
  · simp [upd, h, pm_bf h]
theorem qm_ug_at {f : Nat → Nat → Nat → Nat} {s a k b v : Nat} (h : b ≠ a) (s' : Nat) : qm_ug f s a k v s' b = f s' b := by
  funext j
  unfold qm_ug
  rw [pm_bf h, Bool.and_false, Bool.and_false]
  rfl
theorem qm_ug_row {f : Nat → Nat → Nat → Nat} {s a k v j : Nat} : qm_ug f s a k v s a j = if j = k then v else f s a j := by
  unfold qm_ug
  rw [pm_bt, pm_bt, Bool.true_and, Bool.and_true]
  by_cases h : j = k
  · subst h; simp [pm_bt]
  · simp [h, pm_bf h]
theorem qm_lc_eq {S S' : qm_S} {s a : Nat} (hN : S'.2.2.2.1 a = S.2.2.2.1 a) (hG : S'.2.2.2.2.1 s a = S.2.2.2.2.1 s a) (hI : S'.2.2.2.2.2.1 s a = S.2.2.2.2.2.1 s a) : qm_lc qs cA st base S' s a = qm_lc qs cA st base S s a := by
  unfold qm_lc
  split
  · rw [hN]
    unfold qm_con
    rw [hG, hI]
  · unfold qm_val
    rw [hG, hI]
theorem qm_cell_eq {S S' : qm_S} {a : Nat} (hC : S'.2.2.2.2.2.2 = S.2.2.2.2.2.2) (hK : S'.2.2.1 a = S.2.2.1 a) (hN : S'.2.2.2.1 a = S.2.2.2.1 a) (hG : ∀ s, S'.2.2.2.2.1 s a = S.2.2.2.2.1 s a) (hI : ∀ s, S'.2.2.2.2.2.1 s a = S.2.2.2.2.2.1 s a) : qm_cell qs cA st base J ρ fv S' a = qm_cell qs cA st base J ρ fv S a := by
  unfold qm_cell
  rw [qm_bk_old (congrArg (fun z => z.1) hC), hK, hC, qm_lc_eq hN (hG _) (hI _)]
theorem qm_wsI {S : qm_S} {s a : Nat} {I' : Nat → Nat → Nat → Int32} (hd : qm_dv J S s a) (hI : ∀ b, b ≠ a → ∀ s', I' s' b = S.2.2.2.2.2.1 s' b) : (qm_ws qs cA st base J ρ fv S).set (a - 1001) (base + (a - 1001), qm_lc qs cA st base (qm_sI S I') s a) = qm_ws qs cA st base J ρ fv (qm_sI S I') := by
  have e := qm_ws_set (qs := qs) (cA := cA) (st := st) (base := base) (J := J) (ρ := ρ) (fv := fv) (S := S) (S' := qm_sI S I') rfl hd.1 hd.2.1 (fun b _ _ hb => qm_cell_eq rfl rfl rfl (fun _ => rfl) (fun s' => hI b hb s'))
  rw [qm_cell_dv (S := qm_sI S I') (s := s) (a := a) hd] at e
  exact e
theorem qm_wsG {S : qm_S} {s a : Nat} {G' : Nat → Nat → Nat → Nat} (hd : qm_dv J S s a) (hG : ∀ b, b ≠ a → ∀ s', G' s' b = S.2.2.2.2.1 s' b) : (qm_ws qs cA st base J ρ fv S).set (a - 1001) (base + (a - 1001), qm_lc qs cA st base (qm_sG S G') s a) = qm_ws qs cA st base J ρ fv (qm_sG S G') := by
  have e := qm_ws_set (qs := qs) (cA := cA) (st := st) (base := base) (J := J) (ρ := ρ) (fv := fv) (S := S) (S' := qm_sG S G') rfl hd.1 hd.2.1 (fun b _ _ hb => qm_cell_eq rfl rfl rfl (fun s' => hG b hb s') (fun _ => rfl))
  rw [qm_cell_dv (S := qm_sG S G') (s := s) (a := a) hd] at e
  exact e
theorem qm_fields {S S' : qm_S} {s a k : Nat} {ks : List (Nat × Nat)} {v : Value} (hk : k < ks.length) (hv : qm_val st base S' s a k (ks.getD k (9, 9)) = v) (ho : ∀ j kd, j ≠ k → qm_val st base S' s a j kd = qm_val st base S s a j kd) :
    (ks.mapIdx (fun k kd => qm_val st base S s a k kd)).set k v = ks.mapIdx (fun k kd => qm_val st base S' s a k kd) := by
  apply List.ext_getElem?
  intro j
  by_cases e : j = k
  · subst e
    rw [List.getElem?_set_self (by rw [List.length_mapIdx]; exact hk), List.getElem?_mapIdx, ← hv]
    simp [List.getElem?_eq_getElem hk, List.getD]
  · rw [List.getElem?_set_ne (Ne.symm e), List.getElem?_mapIdx, List.getElem?_mapIdx]
    cases ks[j]? with
    | none => rfl
    | some kd => simp only [Option.map_some, ho j kd e]
theorem qm_P_push {S S' : qm_S} {H H1 : Heap} (h1001 : 1001 ≤ S.1) (hP : va_P D cl (qm_ws qs cA st base J ρ fv S) H) (ho : ∀ q, q < H.size → H1[q]? = H[q]?) (hn : S'.1 = S.1 + 1) (hrow : ∀ b, 1001 ≤ b → b < S.1 → qm_cell qs cA st base J ρ fv S' b = qm_cell qs cA st base J ρ fv S b) (hnew : va_at D cl (base + (S.1 - 1001), qm_cell qs cA st base J ρ fv S' S.1) H1) : va_P D cl (qm_ws qs cA st base J ρ fv S') H1 := by
  intro k q hk
  obtain ⟨h1, rfl⟩ := qm_ws_mem hk
  by_cases e : 1001 + k = S.1
  · rw [e]
    rw [← e, show 1001 + k - 1001 = k by omega, e] at hnew
    exact hnew
  · have hk' : 1001 + k < S.1 := by omega
    rw [hrow _ (by omega) hk']
    have h2 := hP k (base + k, qm_cell qs cA st base J ρ fv S (1001 + k)) (by
      have := qm_ws_at (qs := qs) (cA := cA) (st := st) (base := base) (J := J) (ρ := ρ) (fv := fv) (S := S) (a := 1001 + k) (by omega) hk'
      rwa [Nat.add_sub_cancel_left] at this)
    exact h2.kept (ho _ h2.lt)
variable {p : Program} {l : Launch} {e : Env} {R : Room} {s : State} {m : MethodId} {args : Array Value} {below : List Frame} {meth : Method} {c : Code} {Q : State → Prop} {c0 : Nat}
/-- how large the heap is -/
theorem qm_siz {S : qm_S} {H : Heap} {locs : List Loc} {sl : Nat} {g : JFrame} (hs : s.heap.size + 1001 = base + c0) (h1 : 1001 ≤ c0) (hc0 : c0 ≤ S.1) (hI : qm_I D cl cA qs st ρ fv base J S s H locs)
    (k : H.size = base + (S.1 - 1001) → W p l e R s m args below meth c H locs (S.1 - c0) sl Q g) : W p l e R s m args below meth c H locs (S.1 - c0) sl Q g := by
  intro T hT X
  refine k ?_ T hT X
  obtain ⟨-, h1', h2, -⟩ := X.same
  have h3 : (T.setVm s.vm).heap = H := hT
  rw [h3] at h1' h2
  obtain ⟨hP, hS⟩ := hI
  by_cases e : S.1 = 1001
  · omega
  · have h4 := (hP _ _ (qm_ws_at (a := S.1 - 1) (by omega) (by omega))).lt
    have h5 : base + (S.1 - 1 - 1001) < H.size := h4
    omega
end
