/-! ===== the pure machine's runs are the machine's ===== -/
theorem pm_x_cnt {Sg : Nat → pm_K} {Rt : pm_T} {ret : Option FieldType} {q : pm_Q} {pl : pm_L} {st : List Value} {S : pm_S} {g : Bool} : ∀ {z : pm_C}, pm_x Sg Rt ret q pl st S = some (g, z) → S.1 ≤ (match z with
    | .inl (_, _, _, S') => S'
    | .inr (.inl (_, _, _, _, _, _, _, S')) => S'
    | .inr (.inr (.inl (_, _, _, _, _, S'))) => S'
    | .inr (.inr (.inr (.inl (_, _, _, _, _, S')))) => S'
    | .inr (.inr (.inr (.inr (_, S')))) => S').1 := by
  intro z h
  obtain ⟨pc, ins, nx, w, xs, ci, cj⟩ := q
  have hN : ∀ {g1 : Bool} {pc' : Nat} {ls' : pm_L} {st' : List Value} {S1 : pm_S}, S.1 ≤ S1.1 → pm_n g1 pc' ls' st' S1 = some (g, z) → S.1 ≤ (match z with
    | .inl (_, _, _, S') => S'
    | .inr (.inl (_, _, _, _, _, _, _, S')) => S'
    | .inr (.inr (.inl (_, _, _, _, _, S'))) => S'
    | .inr (.inr (.inr (.inl (_, _, _, _, _, S')))) => S'
    | .inr (.inr (.inr (.inr (_, S')))) => S').1 := fun hle h => by unfold pm_n at h; cases h; exact hle
  have hB : ∀ {o : Nat} {x y : Int32} {t e : Nat} {ls' : pm_L} {st' : List Value}, pm_b o x y t e ls' st' S = some (g, z) → S.1 ≤ (match z with
    | .inl (_, _, _, S') => S'
    | .inr (.inl (_, _, _, _, _, _, _, S')) => S'
    | .inr (.inr (.inl (_, _, _, _, _, S'))) => S'
    | .inr (.inr (.inr (.inl (_, _, _, _, _, S')))) => S'
    | .inr (.inr (.inr (.inr (_, S')))) => S').1 := fun h => by unfold pm_b at h; cases h; exact Nat.le_refl _
  have hW : ∀ {x : Int32} {d : Nat} {ts : List Nat} {ls' : pm_L} {st' : List Value}, pm_w x d ts ls' st' S = some (g, z) → S.1 ≤ (match z with
    | .inl (_, _, _, S') => S'
    | .inr (.inl (_, _, _, _, _, _, _, S')) => S'
    | .inr (.inr (.inl (_, _, _, _, _, S'))) => S'
    | .inr (.inr (.inr (.inl (_, _, _, _, _, S')))) => S'
    | .inr (.inr (.inr (.inr (_, S')))) => S').1 := fun h => by unfold pm_w at h; cases h; exact Nat.le_refl _
  have hJ : ∀ {mj nx : Nat} {as : List Value} {ls' : pm_L} {st' : List Value}, pm_j mj as nx ls' st' S = some (g, z) → S.1 ≤ (match z with
    | .inl (_, _, _, S') => S'
    | .inr (.inl (_, _, _, _, _, _, _, S')) => S'
    | .inr (.inr (.inl (_, _, _, _, _, S'))) => S'
    | .inr (.inr (.inr (.inl (_, _, _, _, _, S')))) => S'
    | .inr (.inr (.inr (.inr (_, S')))) => S').1 := fun h => by unfold pm_j at h; cases h; exact Nat.le_refl _
  have hE : ∀ {b : Bool} {v : Option Value}, pm_e b v S = some (g, z) → S.1 ≤ (match z with
    | .inl (_, _, _, S') => S'
    | .inr (.inl (_, _, _, _, _, _, _, S')) => S'
    | .inr (.inr (.inl (_, _, _, _, _, S'))) => S'
    | .inr (.inr (.inr (.inl (_, _, _, _, _, S')))) => S'
    | .inr (.inr (.inr (.inr (_, S')))) => S').1 := fun h => by unfold pm_e at h; cases h; exact Nat.le_refl _
  cases ins
  case ifCond cnd o => cases cnd <;> (simp only [pm_x] at h; split at h <;> first | exact hB h | cases h)
  case if_icmp cnd o => cases cnd <;> (simp only [pm_x] at h; split at h <;> first | exact hB h | cases h)
  case invokespecial idx =>
    simp only [pm_x] at h
    split at h
    · split at h
      · replace h := pm_cond h
        exact hN (Nat.le_refl _) h.2
      · cases h
    · unfold pm_callI at h
      split at h
      · exact hJ (pm_cond h).2
      · cases h
  case invokevirtual idx =>
    simp only [pm_x] at h
    unfold pm_callV at h
    split at h
    · exact hJ (pm_cond h).2
    · cases h
  case invokestatic idx =>
    simp only [pm_x] at h
    unfold pm_call at h
    split at h
    · exact hJ (pm_cond h).2
    · cases h
  all_goals simp only [pm_x, Bool.cond_eq_ite] at h
  all_goals (repeat' split at h)
  all_goals first
    | exact hN (by first | exact Nat.le_refl _ | exact Nat.le_succ _) h
    | exact hE h
    | exact hW h
    | cases h
theorem pm_cnt {me : Nat → pm_Me} {Sg : Nat → pm_K} {Rt : pm_T} : ∀ (n : Nat) {mi pc : Nat} {pl : pm_L} {st : List Value} {S S' : pm_S} {v : Option Value}, pm_run me Sg Rt n mi pc pl st S = some (v, S') → S.1 ≤ S'.1 := by
  intro n
  induction n with
  | zero => intro mi pc pl st S S' v h; cases h
  | succ n ih =>
    intro mi pc pl st S S' v h
    have h : pm_body me Sg Rt (pm_run me Sg Rt n) mi pc pl st S = some (v, S') := h
    unfold pm_body at h
    split at h
    · rename_i q hq
      cases hz : pm_x Sg Rt (me mi).2.2.2.1 q pl st S with
      | none => rw [hz] at h; cases h
      | some gc =>
        obtain ⟨g, c⟩ := gc
        rw [hz] at h
        have hle := pm_x_cnt hz
        replace h := pm_cond (show (bif g then pm_dc me (pm_run me Sg Rt n) mi c else none) = some (v, S') from h)
        obtain ⟨-, h⟩ := h
        rcases c with ⟨pc', ls', st', S1⟩ | ⟨o, x, y, t, e, ls', st', S1⟩ | ⟨x, d, ts, ls', st', S1⟩ | ⟨mj, as, nx, ls', st', S1⟩ | ⟨v1, S1⟩
        · exact Nat.le_trans hle (ih h)
        · unfold pm_dc at h
          dsimp only at h
          split at h <;> split at h <;> exact Nat.le_trans hle (ih h)
        · obtain ⟨t, h1, -⟩ := pm_sw_which (k := fun t => pm_run me Sg Rt n mi t ls' st' S1) (x := x) (d := d) ts 0
          exact Nat.le_trans hle (ih (h1.symm.trans h))
        · obtain ⟨v1, S2, h1, h2⟩ := pm_k_some h
          obtain ⟨-, h3⟩ := pm_c_some h1
          exact Nat.le_trans hle (Nat.le_trans (ih h3) (ih h2))
        · cases h
          exact hle
    · cases h
theorem pm_at_mem : ∀ {l : List pm_Q} {pc : Nat} {q : pm_Q}, pm_at l pc = some q → q ∈ l ∧ q.1 = pc := by
  intro l
  induction l with
  | nil => intro pc q h; cases h
  | cons a t ih =>
    intro pc q h
    unfold pm_at at h
    cases hb : Nat.beq a.1 pc with
    | true =>
      rw [hb] at h
      cases h
      exact ⟨List.mem_cons_self, Nat.eq_of_beq_eq_true hb⟩
    | false =>
      rw [hb] at h
      obtain ⟨h1, h2⟩ := ih h
      exact ⟨List.mem_cons_of_mem _ h1, h2⟩
theorem pm_pop_eq : ∀ (n : Nat) {acc st as rest : List Value}, pm_pop n acc st = some (as, rest) → ∃ xs, as = xs.reverse ++ acc ∧ st = xs ++ rest ∧ xs.length = n := by
  intro n
  induction n with
  | zero => intro acc st as rest h; cases h; exact ⟨[], rfl, rfl, rfl⟩
  | succ n ih =>
    intro acc st as rest h
    cases st with
    | nil => cases h
    | cons v st =>
      obtain ⟨xs, h1, h2, h3⟩ := ih h
      exact ⟨v :: xs, by rw [h1]; simp, by rw [h2]; rfl, by simp [h3]⟩
theorem pm_en_len : ∀ (as : List Value) (n : Nat), pm_wd as ≤ n → (pm_en n as).length = n := by
  intro as
  induction as with
  | nil => intro n h; simp [pm_en]
  | cons v vs ih =>
    intro n h
    have hc : pm_wd (v :: vs) = v.category + pm_wd vs := rfl
    unfold pm_en
    rcases lv_cat v with e | e
    · rw [e]
      show (some v :: pm_en (n - 1) vs).length = n
      rw [List.length_cons, ih _ (by omega)]
      omega
    · rw [e]
      show (some v :: none :: pm_en (n - 2) vs).length = n
      rw [List.length_cons, List.length_cons, ih _ (by omega)]
      omega
theorem pm_en_at {ρ : Nat → Nat} {fv : Value} (hfv : fv = .null ∨ ∃ t, fv = .ref t) : ∀ (as : List Value) (n : Nat) (b : Nat) (i : Nat) (v : Value), (pm_en n as)[i]? = some (some v) → (b + i, pm_rl ρ fv v) ∈ lv_args b (as.map (pm_rl ρ fv)) := by
  intro as
  induction as with
  | nil =>
    intro n b i v h
    unfold pm_en at h
    have := List.eq_of_mem_replicate (List.mem_of_getElem? h)
    cases this
  | cons w ws ih =>
    intro n b i v h
    unfold pm_en at h
    show _ ∈ (b, pm_rl ρ fv w) :: lv_args (if (pm_rl ρ fv w).category = 2 then b + 2 else b + 1) (ws.map (pm_rl ρ fv))
    rw [pm_rl_cat hfv]
    rcases lv_cat w with e | e
    · rw [e] at h ⊢
      have h : (some w :: pm_en (n - 1) ws)[i]? = some (some v) := h
      rw [if_neg (by decide)]
      cases i with
      | zero => cases h; exact List.mem_cons_self
      | succ i =>
        have := ih _ (b + 1) i v h
        rw [show b + 1 + i = b + (i + 1) by omega] at this
        exact List.mem_cons_of_mem _ this
    · rw [e] at h ⊢
      have h : (some w :: none :: pm_en (n - 2) ws)[i]? = some (some v) := h
      rw [if_pos rfl]
      cases i with
      | zero => cases h; exact List.mem_cons_self
      | succ i =>
        cases i with
        | zero => cases h
        | succ i =>
          have := ih _ (b + 2) i v h
          rw [show b + 2 + i = b + (i + 1 + 1) by omega] at this
          exact List.mem_cons_of_mem _ this
theorem pm_sl_len {ρ : Nat → Nat} {fv : Value} (hfv : fv = .null ∨ ∃ t, fv = .ref t) (as : List Value) : (lg_sl (as.map (pm_rl ρ fv))).length = pm_wd as := by
  induction as with
  | nil => rfl
  | cons v vs ih =>
    have e1 : lg_sl ((v :: vs).map (pm_rl ρ fv)) = (if (pm_rl ρ fv v).category = 2 then [Slot.val (pm_rl ρ fv v), .second] else [.val (pm_rl ρ fv v)]) ++ lg_sl (vs.map (pm_rl ρ fv)) := by
      simp [lg_sl]
    rw [e1, List.length_append, ih, pm_rl_cat hfv]
    show _ = v.category + pm_wd vs
    rcases lv_cat v with e | e <;> rw [e] <;> rfl
/-- a method's locals at its entry -/
theorem pm_entry {ρ : Nat → Nat} {fv : Value} (hfv : fv = .null ∨ ∃ t, fv = .ref t) {as : List Value} {n : Nat} (h : pm_wd as ≤ n) : pm_LH ρ fv n ((lg_sl (as.map (pm_rl ρ fv)) ++ List.replicate (n - (lg_sl (as.map (pm_rl ρ fv))).length) Slot.unset).toArray) (pm_en n as) := by
  have hl := lv_entry (as.map (pm_rl ρ fv)) (n := n) (by rw [pm_sl_len hfv]; exact h)
  refine ⟨hl.1, pm_en_len as n h, hl.2.1, fun i v hv _ => ?_⟩
  have := hl.2.2 _ (pm_en_at hfv as n 0 i v hv)
  rw [Nat.zero_add] at this
  exact this
def pm_Qc (D : va_G) (cl : List vw_C) (cA : Nat → ClassId) (Sg : Nat → pm_K) (ρ : Nat → Nat) (fv : Value) (base : pm_B) (v : Option Value) (S' : pm_S) : Array Value → State → Outcome → State → Prop := fun _ st oc t =>
  oc = .returned (v.map (pm_rl ρ fv)) ∧ va_P D cl (pm_ws ρ fv cA Sg S') t.heap ∧ va_F base.2.2 st t ∧ S'.1 ≤ 49
def pm_Pc (D : va_G) (cl : List vw_C) (cA : Nat → ClassId) (Sg : Nat → pm_K) (Rt : pm_T) (ρ : Nat → Nat) (fv : Value) (base : pm_B) (tx : String) (as : List Value) (S : pm_S) : Array Value → State → Prop := va_Pc (as.map (pm_rl ρ fv)) (fun U => pm_hs base U.heap.size S.1 ∧ va_P D cl (pm_ws ρ fv cA Sg S) U.heap ∧ va_K D cl (pm_tys cA) U ∧ pm_Zf Rt ρ fv base.2.2 U U.heap ∧ pm_Nf tx ρ U ∧ S.1 ≤ 49)
theorem pm_blind {D : va_G} {cl : List vw_C} {cA : Nat → ClassId} {Sg : Nat → pm_K} {Rt : pm_T} {ρ : Nat → Nat} {fv : Value} {base : pm_B} {tx : String} {as : List Value} {S : pm_S} : FrameBlind (pm_Pc D cl cA Sg Rt ρ fv base tx as S) := by
  intro a U g mk h
  obtain ⟨h0, h1, h2, h3, h4, h5, h6⟩ := h
  exact ⟨h0, h1, h2, va_K.moved (u := U) (U := U.calling g mk a) (Vm.Alike.refl U.vm) h3, pm_Zf.moved (u := U) (U := U.calling g mk a) (Vm.Alike.refl U.vm) h4, pm_Nf.same (u := U) (U := U.calling g mk a) rfl h5, h6⟩
/-- a method's words: its own code, and all that stay -/
def pm_wo (M : pm_Me) : List Cond := .code M.1 M.2.1 M.2.2.1 M.2.2.2.1 :: pm_G
def pm_rm (Sg : Nat → pm_K) (M : pm_Me) (S S' : pm_S) : Room := { frames := M.2.2.2.2.1, cells := S'.1 - S.1, slots := pm_ss Sg S'.1 - pm_ss Sg S.1, locals := M.2.2.2.2.2.1 }
theorem pm_good {y : Cond} (h : y ∈ pm_G) : GoodIn pm_G (y :: pm_G) := by
  intro w hw
  have hw2 : w ∈ pm_G := by
    rcases List.mem_cons.mp hw with e | h2
    · exact e ▸ h
    · exact h2
  exact ⟨hw2, good_of_word (List.mem_filter.mp hw2).2⟩
section
variable {p : Program} {l : Launch} {e : Env} {R : Room} {s : State} {m : MethodId} {args : Array Value} {below : List Frame} {meth : Method} {c : Code} {Q : State → Prop}
variable {me : Nat → pm_Me} {Sg : Nat → pm_K} {Rt : pm_T} {cl : List vw_C} {D : va_G} {cA : Nat → ClassId} {ρ : Nat → Nat} {fv : Value} {base : pm_B} {tx : String} {mi c0 : Nat}
/-- behind a call -/
theorem pm_after {H : Heap} {locs : List Loc} {cells slots mc ms pc : Nat} {ls : Array Slot} {st0 rest : List Value} {a : Array Value} {v : Option Value} {S' : pm_S}
    (hr : va_Run p l e R s m args below meth c H locs cells slots mc ms (F0 m pc ls st0) rest (pm_Qc D cl cA Sg ρ fv base v S' a) base.2.2) (hS : va_S base.2.2 s.heap H locs)
    (kk : ∀ (H1 : Heap) (locs1 : List Loc), pm_I D cl ρ fv cA Sg base S' s H1 locs1 → W p l e R s m args below meth c H1 locs1 (cells + mc) (slots + ms) Q (F0 m (pc + 3) ls ((v.map (pm_rl ρ fv)).toList ++ rest))) : W p l e R s m args below meth c H locs cells slots Q (F0 m pc ls st0) := by
  intro T hT X
  obtain ⟨v1, st₀, t, T', L, h0, X', hL, e1, e2, ⟨hv, hP, ⟨hz, hk⟩, hn⟩, st⟩ := hr T hT X
  cases hv
  rw [h0] at hz hk
  obtain ⟨t2, a1, b1⟩ := kk T'.heap (locs ++ L) ⟨by rw [e1]; exact hP, ⟨Nat.le_trans hS.1 (by rw [e1]; exact hz), fun q h1 h2 => by rw [e1, hk q (Nat.lt_of_lt_of_le h1 hS.1) h2]; exact hS.2.1 q h1 h2, fun q hq => by
      rcases List.mem_append.mp hq with h | h
      · exact hS.2.2 q h
      · exact hL q h⟩, hn⟩ T' rfl X'
  exact ⟨t2, st t2 a1, b1⟩
end
