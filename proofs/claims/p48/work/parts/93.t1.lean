/-! ===== the law's machine: the worlds ===== -/
/-- the tables' words, and which private methods a StringBuilder selects -/
def qm_y1 : MethodName := ⟨"java/lang/AbstractStringBuilder", "ensureCapacityInternal", "(I)V"⟩
def qm_y2 : MethodName := ⟨"java/lang/AbstractStringBuilder", "newCapacity", "(I)I"⟩
def qm_y3 : MethodName := ⟨"java/lang/AbstractStringBuilder", "putStringAt", "(ILjava/lang/String;)V"⟩
def qm_y4 : MethodName := ⟨"java/lang/AbstractStringBuilder", "inflateIfNeededFor", "(Ljava/lang/String;)V"⟩
def qm_xs : List Cond := [.selects "java/lang/StringBuilder" qm_y1 qm_y1, .selects "java/lang/StringBuilder" qm_y2 qm_y2, .selects "java/lang/StringBuilder" qm_y3 qm_y3, .selects "java/lang/StringBuilder" qm_y4 qm_y4]
def qm_tbl : List Cond := lw_tbl ++ qm_xs
def qm_G : List Cond := qm_tbl.filter goodWord
theorem pm_sub {w : Cond} (h : w ∈ pm_G) : w ∈ qm_G := List.mem_filter.mpr ⟨List.mem_append_left _ (List.mem_filter.mp h).1, (List.mem_filter.mp h).2⟩
def qm_ty : Nat → FieldType
  | 0 => .int
  | 1 => .long
  | 2 => .byte
  | 3 => .boolean
  | 4 => .array .int
  | 5 => .array .boolean
  | _ => .object "java/lang/Object"
def qm_tys (cA : Nat → ClassId) : List (ClassId × FieldType) := [(cA 0, .int), (cA 1, .long), (cA 2, .byte), (cA 3, .boolean), (cA 4, .array .int), (cA 5, .array .boolean), (cA 6, .object "java/lang/Object")]
theorem qm_tys_at {cA : Nat → ClassId} {t : Nat} (h : t ≤ 6) : (qm_tys cA)[t]? = some (cA t, qm_ty t) := by
  match t, h with
  | 0, _ => rfl
  | 1, _ => rfl
  | 2, _ => rfl
  | 3, _ => rfl
  | 4, _ => rfl
  | 5, _ => rfl
  | 6, _ => rfl
section
variable {D : va_G} {cl : List vw_C} {cA : Nat → ClassId} {qs : Nat → qm_K} {T : qm_T} {J base : Nat} {so : Nat → Nat → Prop} {st : Nat → Nat → Nat} {fv : Value} {ρ : Nat → Nat} {tx : String}
/-- where a cell lies -/
def qm_ad (st : Nat → Nat → Nat) (base s a : Nat) : Nat := if a < 1001 then st s a else base + (a - 1001)
def qm_rl (st : Nat → Nat → Nat) (base : Nat) (fv : Value) : qm_V → Value
  | .inl x => .int x
  | .inr (s, a) => if s = 30 then fv else if s = 31 then .null else .ref (qm_ad st base s a)
def qm_rf (st : Nat → Nat → Nat) (base u g : Nat) : Option Nat := if g = 0 then none else some (qm_ad st base u g)
def qm_val (st : Nat → Nat → Nat) (base : Nat) (S : qm_S) (s a k : Nat) (kd : Nat × Nat) : Value := if kd.1 = 3 then va_rf (qm_rf st base kd.2 (S.2.2.2.2.1 s a k)) else .int (S.2.2.2.2.2.1 s a k)
def qm_con (st : Nat → Nat → Nat) (base : Nat) (S : qm_S) (s a t u : Nat) : ((Nat → Int32) ⊕ (Nat → Int64) ⊕ (Nat → UInt32) ⊕ (Nat → UInt64) ⊕ (Nat → Option Nat)) := if 4 ≤ t then .inr (.inr (.inr (.inr (fun j => qm_rf st base u (S.2.2.2.2.1 s a j))))) else .inl (S.2.2.2.2.2.1 s a)
def qm_lc (qs : Nat → qm_K) (cA : Nat → ClassId) (st : Nat → Nat → Nat) (base : Nat) (S : qm_S) (s a : Nat) : va_E := match qs s with
  | .inl (t, u) => .inl (cA t, S.2.2.2.1 a, qm_con st base S s a t u)
  | .inr (c, ks) => .inr (c, ks.mapIdx fun k kd => qm_val st base S s a k kd)
/-- is it one of the class' cells? -/
def qm_bk (J : Nat) (S : qm_S) (a : Nat) : Bool := Nat.ble (1001 + J) a && Nat.blt a (1001 + J + S.2.2.2.2.2.2.1)
def qm_cell (qs : Nat → qm_K) (cA : Nat → ClassId) (st : Nat → Nat → Nat) (base J : Nat) (ρ : Nat → Nat) (fv : Value) (S : qm_S) (a : Nat) : va_E :=
  if qm_bk J S a = true then pm_cell ρ fv cA (pt_Sg (a - (1001 + J))) S.2.2.2.2.2.2 (a - (1001 + J)) else qm_lc qs cA st base S (S.2.2.1 a) a
def qm_ws (qs : Nat → qm_K) (cA : Nat → ClassId) (st : Nat → Nat → Nat) (base J : Nat) (ρ : Nat → Nat) (fv : Value) (S : qm_S) : va_W := (List.range (S.1 - 1001)).map (fun k => (base + k, qm_cell qs cA st base J ρ fv S (1001 + k)))
/-- a cell that was made -/
def qm_dv (J : Nat) (S : qm_S) (s a : Nat) : Prop := 1001 ≤ a ∧ a < S.1 ∧ qm_bk J S a = false ∧ S.2.2.1 a = s
def qm_vr (so : Nat → Nat → Prop) (J : Nat) (S : qm_S) (s a : Nat) : Prop := so s a ∨ qm_dv J S s a
def qm_vv (so : Nat → Nat → Prop) (J : Nat) (S : qm_S) : qm_V → Prop
  | .inl _ => True
  | .inr (s, a) => s = 30 ∨ s = 31 ∨ (s < 30 ∧ qm_vr so J S s a)
def qm_hv (qs : Nat → qm_K) (T : qm_T) (so : Nat → Nat → Prop) (J : Nat) (S : qm_S) (s a : Nat) : Prop := T.2.2 s = false ∧ match qs s with
  | .inl (t, u) => 4 ≤ t → ∀ j, S.2.2.2.2.1 s a j = 0 ∨ qm_vr so J S u (S.2.2.2.2.1 s a j)
  | .inr (_, ks) => ∀ (k u : Nat), ks[k]? = some (3, u) → S.2.2.2.2.1 s a k = 0 ∨ qm_vr so J S u (S.2.2.2.2.1 s a k)
/-- all is in order -/
def qm_ok (qs : Nat → qm_K) (T : qm_T) (so : Nat → Nat → Prop) (J : Nat) (S : qm_S) : Prop := 1001 ≤ S.1 ∧ S.2.2.2.2.2.2.1 ≤ 49 ∧ (0 < S.2.2.2.2.2.2.1 → 1001 + J + S.2.2.2.2.2.2.1 ≤ S.1) ∧ ∀ s a, qm_dv J S s a → qm_hv qs T so J S s a
/-- what there is that nobody writes -/
def qm_E3 (qs : Nat → qm_K) (T : qm_T) (so : Nat → Nat → Prop) (base J : Nat) (st : Nat → Nat → Nat) (fv : Value) (ρ : Nat → Nat) : Prop :=
  ((∀ a, a < 49 → ρ a = base + J + a) ∧ (fv = .null ∨ ∃ t, fv = .ref t) ∧ st 0 6 = base + J) ∧
  (∀ s a, so s a → 0 < a ∧ a < 1001 ∧ s < 30 ∧ (T.2.2 s = true ∨ (s = 24 ∧ a = 2))) ∧
  (∀ s a t u, so s a → T.2.2 s = true → qs s = .inl (t, u) → t = 0 ∨ t = 2 ∨ (t = 7 ∧ s = 26 ∧ u = 25 ∧ T.2.1 26 a = 256)) ∧
  (T.2.2 24 = false ∧ qs 24 = .inl (6, 25)) ∧
  (∀ s a c (ks : List (Nat × Nat)) (k u : Nat), so s a → qs s = .inr (c, ks) → ks[k]? = some (3, u) → u < 30 ∧ so u (a + 20)) ∧
  (so 24 2 ∧ so 26 3 ∧ so 28 4 ∧ so 29 5 ∧ so 0 6 ∧ (∀ i, i < 256 → so 25 (i + 101)) ∧ ∀ k, k < 18 → so 16 (k + 11)) ∧
  (∀ s, T.2.2 s = false → s ≠ 0 ∧ s < 30 ∧ match qs s with
    | .inl (t, u) => t ≤ 6 ∧ t ≠ 1 ∧ (4 ≤ t → u < 30)
    | .inr (_, ks) => ∀ (k u : Nat), ks[k]? = some (3, u) → u < 30) ∧
  (T.2.2 14 = false ∧ T.2.2 15 = false ∧ qs 14 = .inl (2, 99) ∧ qs 15 = .inl (2, 99) ∧ qs 0 = .inr (0, []) ∧ ∀ a, so 0 a → a = 6) ∧
  ∀ s, 30 ≤ s → qs s = .inl (9, 99)
def qm_Zf (qs : Nat → qm_K) (T : qm_T) (so : Nat → Nat → Prop) (st : Nat → Nat → Nat) (fv : Value) (ρ : Nat → Nat) (cl : List vw_C) (Rt : pm_T) (A : Nat → Prop) (U : State) (H : Heap) : Prop :=
  pm_Zf Rt ρ fv A U H ∧
  va_Z "java/util/ArrayList" "DEFAULTCAPACITY_EMPTY_ELEMENTDATA" "[Ljava/lang/Object;" (.ref (st 24 2)) A U H ∧ va_Z "java/lang/Integer$IntegerCache" "cache" "[Ljava/lang/Integer;" (.ref (st 26 3)) A U H ∧ va_Z "java/lang/Integer$IntegerCache" "high" "I" (.int 127) A U H ∧
  va_Z "java/lang/Integer" "DigitOnes" "[B" (.ref (st 28 4)) A U H ∧ va_Z "java/lang/Integer" "DigitTens" "[B" (.ref (st 29 5)) A U H ∧
  (∀ s a t u, so s a → qs s = .inl (t, u) → T.2.2 s = true → t ≤ 3 → va_T (qm_ty t) (st s a) (T.2.1 s a) (fun j => .int (T.1 s a j)) A U H) ∧
  (∀ s a t u, so s a → qs s = .inl (t, u) → T.2.2 s = true → 4 ≤ t → va_T (.object "java/lang/Integer") (st s a) (T.2.1 s a) (fun j => .ref (st u (j + 101))) A U H) ∧
  va_T (.object "java/lang/Object") (st 24 2) 0 (fun _ => .null) A U H ∧
  ∀ s a c ks C T' N, so s a → s ≠ 0 → T.2.2 s = true → qs s = .inr (c, ks) → cl[c]? = some (C, T', N) → va_O C (st s a) A U H ∧ ∀ k kd, ks[k]? = some kd → va_OF (T' k).1 (T' k).2.1 (T' k).2.2.1 (if kd.1 = 3 then .ref (st kd.2 (a + 20)) else .int (T.1 s a k)) (st s a) A U H
/-- calls through an interface: whose, named how, whom they reach -/
def qm_fw : List (String × MethodName × MethodName) := [("java/util/ArrayList", ⟨"java/util/List", "add", "(Ljava/lang/Object;)Z"⟩, ⟨"java/util/ArrayList", "add", "(Ljava/lang/Object;)Z"⟩), ("java/util/ArrayList", ⟨"java/util/List", "iterator", "()Ljava/util/Iterator;"⟩, ⟨"java/util/ArrayList", "iterator", "()Ljava/util/Iterator;"⟩), ("java/util/ArrayList$Itr", ⟨"java/util/Iterator", "hasNext", "()Z"⟩, ⟨"java/util/ArrayList$Itr", "hasNext", "()Z"⟩), ("java/util/ArrayList$Itr", ⟨"java/util/Iterator", "next", "()Ljava/lang/Object;"⟩, ⟨"java/util/ArrayList$Itr", "next", "()Ljava/lang/Object;"⟩)]
theorem qm_fw_ok : ∀ t ∈ qm_fw, t.2.1.cls ≠ "java/lang/invoke/MethodHandle" ∧ t.2.1.cls ≠ "java/lang/invoke/VarHandle" := by decide
/-- strings by their numbers: whose, which entry, what -/
abbrev qm_X : Type := List (String × Nat × String)
def qm_Nf (sx : qm_X) (tx : String) (st : Nat → Nat → Nat) (ρ : Nat → Nat) (cA : Nat → ClassId) (U : State) : Prop :=
  pm_Nf tx ρ U ∧ (∀ k own idx t, sx[k]? = some (own, idx, t) → k < 18 ∧ vk_R own idx t (st 16 (k + 11)) U) ∧ va_AO "java/lang/Object" U ∧
  (∃ k, U.vm.classes[cA 4]? = some k ∧ k.kind = .array (cA 0) (.array .int)) ∧ (∃ k, U.vm.classes[cA 5]? = some k ∧ k.kind = .array (cA 3) (.array .boolean)) ∧
  va_Nw (.castable "java/lang/Integer" "java/lang/Object") U ∧ va_Nw (.castable "[B" "java/lang/Cloneable") U ∧
  ∀ t ∈ qm_fw, va_Fw t.1 t.2.1 t.2.2 U
theorem qm_Zf.moved {Rt : pm_T} {A : Nat → Prop} {u U : State} {H : Heap} (hvm : u.vm.Alike U.vm) (h : qm_Zf qs T so st fv ρ cl Rt A u H) : qm_Zf qs T so st fv ρ cl Rt A U H := by
  obtain ⟨h0, h1, h2, h3, h4, h5, h6, h7, h8, h9⟩ := h
  exact ⟨h0.moved hvm, h1.moved hvm, h2.moved hvm, h3.moved hvm, h4.moved hvm, h5.moved hvm, fun s a t u g1 g2 g3 g4 => (h6 s a t u g1 g2 g3 g4).moved hvm, fun s a t u g1 g2 g3 g4 => (h7 s a t u g1 g2 g3 g4).moved hvm, h8.moved hvm,
    fun s a c ks C T' N g0 g1 g2 g3 g4 => ⟨(h9 s a c ks C T' N g0 g1 g2 g3 g4).1.moved hvm, fun k kd hk => ((h9 s a c ks C T' N g0 g1 g2 g3 g4).2 k kd hk).moved hvm⟩⟩
theorem qm_Zf.kept {Rt : pm_T} {A : Nat → Prop} {U : State} {H H1 : Heap} (h : qm_Zf qs T so st fv ρ cl Rt A U H) (hq : ∀ a : Nat, a < H.size → ¬ A a → H1[a]? = H[a]?) : qm_Zf qs T so st fv ρ cl Rt A U H1 := by
  obtain ⟨h0, h1, h2, h3, h4, h5, h6, h7, h8, h9⟩ := h
  exact ⟨h0.kept hq, h1.kept hq, h2.kept hq, h3.kept hq, h4.kept hq, h5.kept hq, fun s a t u g1 g2 g3 g4 => (h6 s a t u g1 g2 g3 g4).kept hq, fun s a t u g1 g2 g3 g4 => (h7 s a t u g1 g2 g3 g4).kept hq, h8.kept hq,
    fun s a c ks C T' N g0 g1 g2 g3 g4 => ⟨(h9 s a c ks C T' N g0 g1 g2 g3 g4).1.kept hq, fun k kd hk => ((h9 s a c ks C T' N g0 g1 g2 g3 g4).2 k kd hk).kept hq⟩⟩
theorem pm_Zf.narrow {Rt : pm_T} {A B : Nat → Prop} {U : State} {H : Heap} (h : pm_Zf Rt ρ fv A U H) (hAB : ∀ q, B q → A q) : pm_Zf Rt ρ fv B U H := by
  obtain ⟨h1, h2, h3, h4, h5, h6, h7⟩ := h
  exact ⟨h1.narrow hAB, h2.narrow hAB, h3.narrow hAB, h4.narrow hAB, h5.narrow hAB, h6.narrow hAB, fun r t n f h => (h7 r t n f h).narrow hAB⟩
theorem qm_kind {s U : State} (hal : s.vm.Alike U.vm) {c comp : ClassId} {ty : FieldType} (h : ∃ k, s.vm.classes[c]? = some k ∧ k.kind = .array comp ty) : ∃ k, U.vm.classes[c]? = some k ∧ k.kind = .array comp ty := by
  obtain ⟨k, h1, h2⟩ := h
  obtain ⟨k', hk', he⟩ := hal.2.2 _ _ h1
  exact ⟨k', hk', by rw [he]; exact h2⟩
theorem qm_Nf.warm {sx : qm_X} {s U : State} (hW : s.WarmedH U.vm) (h : qm_Nf sx tx st ρ cA s) : qm_Nf sx tx st ρ cA U := by
  obtain ⟨h0, h1, h2, h3, h4, h5, h6, h7⟩ := h
  exact ⟨h0.warm hW, fun k own idx t hk => ⟨(h1 k own idx t hk).1, (h1 k own idx t hk).2.warm hW⟩, h2.moved hW.alike, qm_kind hW.alike h3, qm_kind hW.alike h4, va_Nw.warmC hW h5, va_Nw.warmC hW h6, fun t ht => (h7 t ht).moved (qm_fw_ok t ht) hW.alike⟩
theorem qm_Nf.same {sx : qm_X} {u U : State} (hv : U.vm = u.vm) (h : qm_Nf sx tx st ρ cA u) : qm_Nf sx tx st ρ cA U := by
  obtain ⟨h0, h1, h2, h3, h4, h5, h6, h7⟩ := h
  have hal : u.vm.Alike U.vm := by rw [hv]; exact Vm.Alike.refl _
  exact ⟨h0.same hv, fun k own idx t hk => ⟨(h1 k own idx t hk).1, (h1 k own idx t hk).2.same hv⟩, h2.moved hal, qm_kind hal h3, qm_kind hal h4, va_Nw.same rfl hv.symm h5, va_Nw.same rfl hv.symm h6, fun t ht => (h7 t ht).moved (qm_fw_ok t ht) hal⟩
theorem qm_ws_at {S : qm_S} {a : Nat} (h1 : 1001 ≤ a) (h : a < S.1) : (qm_ws qs cA st base J ρ fv S)[a - 1001]? = some (base + (a - 1001), qm_cell qs cA st base J ρ fv S a) := by
  simp only [qm_ws, List.getElem?_map, List.getElem?_range (show a - 1001 < S.1 - 1001 by omega), Option.map_some]
  rw [show 1001 + (a - 1001) = a by omega]
theorem qm_ws_mem {S : qm_S} {k : Nat} {q : Nat × va_E} (h : (qm_ws qs cA st base J ρ fv S)[k]? = some q) : k < S.1 - 1001 ∧ q = (base + k, qm_cell qs cA st base J ρ fv S (1001 + k)) := by
  have hk : k < S.1 - 1001 := by
    have := (List.getElem?_eq_some_iff.mp h).1
    simpa [qm_ws] using this
  simp only [qm_ws, List.getElem?_map, List.getElem?_range hk, Option.map_some] at h
  exact ⟨hk, (Option.some.inj h).symm⟩
theorem qm_ws_D {S : qm_S} : va_D (fun q : Nat => base ≤ q) (qm_ws qs cA st base J ρ fv S) := by
  refine ⟨fun i j x y hi hj hxy => ?_, fun k q hk => ?_⟩
  · obtain ⟨h1, rfl⟩ := qm_ws_mem hi
    obtain ⟨h2, rfl⟩ := qm_ws_mem hj
    have h3 : base + i = base + j := hxy
    omega
  · obtain ⟨h1, rfl⟩ := qm_ws_mem hk
    show base ≤ base + k
    omega
theorem qm_ws_set {S S' : qm_S} {a : Nat} (hn : S'.1 = S.1) (h1 : 1001 ≤ a) (h2 : a < S.1) (h : ∀ b, 1001 ≤ b → b < S.1 → b ≠ a → qm_cell qs cA st base J ρ fv S' b = qm_cell qs cA st base J ρ fv S b) :
    (qm_ws qs cA st base J ρ fv S).set (a - 1001) (base + (a - 1001), qm_cell qs cA st base J ρ fv S' a) = qm_ws qs cA st base J ρ fv S' := by
  apply List.ext_getElem?
  intro k
  by_cases hk : k < S.1 - 1001
  · have e1 := qm_ws_at (qs := qs) (cA := cA) (st := st) (base := base) (J := J) (ρ := ρ) (fv := fv) (S := S') (a := 1001 + k) (by omega) (by omega)
    have e2 := qm_ws_at (qs := qs) (cA := cA) (st := st) (base := base) (J := J) (ρ := ρ) (fv := fv) (S := S) (a := 1001 + k) (by omega) (by omega)
    rw [Nat.add_sub_cancel_left] at e1 e2
    rw [e1]
    by_cases e : k = a - 1001
    · have hk' : a - 1001 < (qm_ws qs cA st base J ρ fv S).length := by rw [← e]; simpa [qm_ws] using hk
      rw [e, List.getElem?_set_self hk', show 1001 + (a - 1001) = a by omega]
    · rw [List.getElem?_set_ne (Ne.symm e), e2, h (1001 + k) (by omega) (by omega) (by omega)]
  · rw [List.getElem?_eq_none (by simp [qm_ws]; omega), List.getElem?_eq_none (by simp [qm_ws]; omega)]
/-- a law's cell is what its place says -/
theorem qm_cell_dv {S : qm_S} {s a : Nat} (h : qm_dv J S s a) : qm_cell qs cA st base J ρ fv S a = qm_lc qs cA st base S s a := by
  obtain ⟨-, -, h1, h2⟩ := h
  unfold qm_cell
  rw [h1, if_neg (by decide), h2]
theorem qm_at_dv {S : qm_S} {s a : Nat} (h : qm_dv J S s a) : (qm_ws qs cA st base J ρ fv S)[a - 1001]? = some (base + (a - 1001), qm_lc qs cA st base S s a) := by
  rw [qm_ws_at h.1 h.2.1, qm_cell_dv h]
theorem qm_rl_dv {S : qm_S} {s a : Nat} (h : qm_dv J S s a) (h3 : s < 30) : qm_rl st base fv (.inr (s, a)) = .ref (base + (a - 1001)) := by
  show (if s = 30 then fv else if s = 31 then .null else .ref (qm_ad st base s a)) = _
  rw [if_neg (by omega), if_neg (by omega)]
  unfold qm_ad
  rw [if_neg (by have := h.1; omega)]
theorem qm_rl_so {s a : Nat} (h : a < 1001) (h3 : s < 30) : qm_rl st base fv (.inr (s, a)) = .ref (st s a) := by
  show (if s = 30 then fv else if s = 31 then .null else .ref (qm_ad st base s a)) = _
  rw [if_neg (by omega), if_neg (by omega)]
  unfold qm_ad
  rw [if_pos h]
theorem qm_rl_lt {s a : Nat} (h3 : s < 30) : qm_rl st base fv (.inr (s, a)) = .ref (qm_ad st base s a) := by
  show (if s = 30 then fv else if s = 31 then .null else .ref (qm_ad st base s a)) = _
  rw [if_neg (by omega), if_neg (by omega)]
theorem qm_rl_cat (hfv : fv = .null ∨ ∃ t, fv = .ref t) (v : qm_V) : (qm_rl st base fv v).category = 1 := by
  rcases v with x | ⟨s, a⟩
  · rfl
  · show (if s = 30 then fv else if s = 31 then Value.null else .ref (qm_ad st base s a)).category = 1
    by_cases e : s = 30
    · rw [if_pos e]
      rcases hfv with h | ⟨t, h⟩ <;> rw [h] <;> rfl
    · rw [if_neg e]
      by_cases e : s = 31
      · rw [if_pos e]; rfl
      · rw [if_neg e]; rfl
/-! locals -/
def qm_LH (st : Nat → Nat → Nat) (base : Nat) (fv : Value) (nL : Nat) (ls : Array Slot) (pl : qm_L) : Prop := ls.size = nL ∧ pl.length = nL ∧ lv_wf ls ∧ ∀ (i : Nat) (v : qm_V), pl[i]? = some (some v) → ls[i]? = some (.val (qm_rl st base fv v))
def qm_pr (st : Nat → Nat → Nat) (base : Nat) (fv : Value) (pl : qm_L) : List (Nat × Value) := (List.range pl.length).filterMap (fun i => ((pl[i]?).getD none).map (fun v => (i, qm_rl st base fv v)))
theorem qm_pr_mem {pl : qm_L} {i : Nat} {v : qm_V} (h : pl[i]? = some (some v)) : (i, qm_rl st base fv v) ∈ qm_pr st base fv pl := by
  refine List.mem_filterMap.mpr ⟨i, List.mem_range.mpr (List.getElem?_eq_some_iff.mp h).1, ?_⟩
  rw [h]
  rfl
theorem qm_LH.has {nL : Nat} {ls : Array Slot} {pl : qm_L} (h : qm_LH st base fv nL ls pl) : lv_has ls nL (qm_pr st base fv pl) := by
  refine ⟨h.1, h.2.2.1, fun q hq => ?_⟩
  obtain ⟨i, h1, h2⟩ := List.mem_filterMap.mp hq
  cases hv : pl[i]? with
  | none => rw [hv] at h2; cases h2
  | some o =>
    cases o with
    | none => rw [hv] at h2; cases h2
    | some v =>
      rw [hv] at h2
      cases h2
      exact h.2.2.2 i v hv
theorem qm_gd {pl : qm_L} {i : Nat} {v : qm_V} (hv : pl.getD i none = some v) : pl[i]? = some (some v) := by
  rw [List.getD_eq_getElem?_getD] at hv
  cases hp : pl[i]? with
  | none => rw [hp] at hv; cases hv
  | some o => rw [hp] at hv; exact congrArg some hv
theorem qm_LH.get {nL : Nat} {ls : Array Slot} {pl : qm_L} {i : Nat} {v : qm_V} (h : qm_LH st base fv nL ls pl) (hv : pl.getD i none = some v) : ls[i]? = some (.val (qm_rl st base fv v)) := h.2.2.2 i v (qm_gd hv)
theorem qm_st1_lt {pl pl' : qm_L} {i : Nat} {v : qm_V} (hs : qm_st1 pl i v = some pl') : i < pl.length ∧ pl' = pl.set i (some v) := by
  unfold qm_st1 at hs
  cases hb : Nat.blt i pl.length with
  | false => rw [hb] at hs; cases hs
  | true =>
    rw [hb] at hs
    cases hs
    exact ⟨by simpa [Nat.blt_eq] using hb, rfl⟩
theorem qm_LH.st1 (hfv : fv = .null ∨ ∃ t, fv = .ref t) {nL : Nat} {ls ls' : Array Slot} {pl pl' : qm_L} {i : Nat} {v : qm_V} (h : qm_LH st base fv nL ls pl) (hs : qm_st1 pl i v = some pl')
    (hl : lv_has ls' nL ((i, qm_rl st base fv v) :: (qm_pr st base fv pl).filter (fun q => !(q.1 == i) && !(q.1 + 1 == i && q.2.category == 2)))) : i < nL ∧ qm_LH st base fv nL ls' pl' := by
  obtain ⟨hi, rfl⟩ := qm_st1_lt hs
  refine ⟨by rw [← h.2.1]; exact hi, hl.1, by rw [List.length_set]; exact h.2.1, hl.2.1, fun j w hj => ?_⟩
  refine hl.2.2 (j, qm_rl st base fv w) ?_
  by_cases e : j = i
  · subst e
    rw [List.getElem?_set_self hi] at hj
    cases hj
    exact List.mem_cons_self
  · rw [List.getElem?_set_ne (Ne.symm e)] at hj
    refine List.mem_cons_of_mem _ (List.mem_filter.mpr ⟨qm_pr_mem hj, ?_⟩)
    simp only [Bool.and_eq_true, Bool.not_eq_true', beq_eq_false_iff_ne, ne_eq, Bool.and_eq_false_iff]
    exact ⟨e, Or.inr (by rw [qm_rl_cat hfv]; decide)⟩
/-- fewer are known -/
theorem qm_LH.clr {nL : Nat} {ls : Array Slot} {pl pl' : qm_L} (h : qm_LH st base fv nL ls pl) (hn : pl'.length = pl.length) (hs : ∀ (i : Nat) (v : qm_V), pl'[i]? = some (some v) → pl[i]? = some (some v)) : qm_LH st base fv nL ls pl' := ⟨h.1, by rw [hn]; exact h.2.1, h.2.2.1, fun i v hv => h.2.2.2 i v (hs i v hv)⟩
theorem qm_clr_at {f : Nat → Bool} {pl : qm_L} : (pl.mapIdx (fun j v => bif f j then none else v)).length = pl.length ∧ ∀ (i : Nat) (v : qm_V), (pl.mapIdx (fun j v => bif f j then none else v))[i]? = some (some v) → pl[i]? = some (some v) := by
  refine ⟨List.length_mapIdx, fun i v h => ?_⟩
  rw [List.getElem?_mapIdx] at h
  cases hp : pl[i]? with
  | none => rw [hp] at h; cases h
  | some o =>
    rw [hp] at h
    have h : some (bif f i then none else o) = some (some v) := h
    cases hf : f i with
    | true => rw [hf] at h; cases h
    | false => rw [hf] at h; exact h
end
