/-! ===== what the tables must say of an instruction ===== -/
/-- where the cells lie, how much larger the heap is than their count, what may be written -/
abbrev pm_B : Type := Nat × Nat × (Nat → Prop)
def pm_hs (base : pm_B) (z n : Nat) : Prop := z = base.2.1 + n ∧ (base.2.1 = base.1 ∨ 49 ≤ n)
def pm_G : List Cond := lw_tbl.filter goodWord
def pm_ty : Nat → FieldType
  | 0 => .int
  | 1 => .long
  | 2 => .byte
  | _ => .boolean
def pm_d (b : ByteArray) (pc : Nat) (ins : Instr) (nx n : Nat) : Bool := decide (decode b pc = .ok (ins, n)) && Nat.beq nx (pc + n)
def pm_wn (w : Nat) (x : Cond) : Bool := decide (lw_tbl[w]? = some x)
def pm_wk (w : Nat) (x : Cond) : Bool := pm_wn w x && goodWord x
def pm_fk (cl : List vw_C) (c k : Nat) : Option (String × String × String × Bool) := match cl[c]? with
  | some (C, T, N) => bif Nat.blt k N && decide ((T k).1 = C) then some (T k) else none
  | none => none
def pm_cc (me : Nat → pm_Me) (mi mj n wi wc : Nat) : Bool := pm_wk wi (.initialized (me mj).1.cls) && (pm_wk wc (.code (me mj).1 (me mj).2.1 (me mj).2.2.1 (me mj).2.2.2.1) && (decide ((me mj).1.cls ≠ "java/lang/invoke/MethodHandle") && (decide ((me mj).1.cls ≠ "java/lang/invoke/VarHandle") && (decide ((parseMethodDescriptor (me mj).1.desc).map (fun d => d.parameters.length) = some n) && (Nat.ble ((me mj).2.2.2.2.1 + 1) (me mi).2.2.2.2.1 && (Nat.ble (8 + ((me mj).2.2.1 + 11) + (me mj).2.2.2.2.2.1) (me mi).2.2.2.2.2.1 && plainFor (me mj).1))))))
def pm_lnk (own : String) (idx w tag : Nat) (y : MethodName) : Bool := match tag with
  | 0 => pm_wk w (.methodLink own idx y)
  | _ => pm_wn w (.methodLinkNest own idx y "TurnCabinet")
def pm_flk (own : String) (idx w tag : Nat) (t : String × String × String × Bool) : Bool := match tag with
  | 1 => pm_wn w (.fieldLinkNest own idx t.1 t.2.1 t.2.2.1 "TurnCabinet")
  | _ => pm_wk w (.fieldLink own idx t.1 t.2.1 t.2.2.1)
def pm_swk (pc : Nat) : List Int → List Nat → Bool
  | [], [] => true
  | o :: os, t :: ts => decide ((pc : Int) + o = (t : Int)) && pm_swk pc os ts
  | _, _ => false
def pm_chk (cl : List vw_C) (me : Nat → pm_Me) (mi : Nat) (q : pm_Q) : Bool := match q with
  | (pc, ins, nx, w, xs, ci, cj) => match ins with
    | .iload_n n | .lload_n n | .aload_n n | .istore_n n | .lstore_n n | .astore_n n => pm_d (me mi).2.1 pc ins nx 1 && Nat.beq n.val (xs.getD 0 0)
    | .iload i | .lload i | .aload i | .istore i | .lstore i | .astore i => pm_d (me mi).2.1 pc ins nx 2 && Nat.beq i (xs.getD 0 0)
    | .iinc i n => pm_d (me mi).2.1 pc ins nx 3 && (Nat.beq i (xs.getD 0 0) && decide (Int32.ofInt n = ci))
    | .iconst n => pm_d (me mi).2.1 pc ins nx 1 && decide (Int32.ofInt n = ci)
    | .bipush n => pm_d (me mi).2.1 pc ins nx 2 && decide ((Int8.ofInt n).toInt32 = ci)
    | .sipush n => pm_d (me mi).2.1 pc ins nx 3 && decide ((Int16.ofInt n).toInt32 = ci)
    | .ldc idx => pm_d (me mi).2.1 pc ins nx 2 && (match xs with
      | [] => pm_wk w (.constant (me mi).1.cls idx ci)
      | r :: _ => Nat.beq r 201 && (decide ((me mi).1.cls = "TurnCabinet$Reader") && Nat.beq idx 46))
    | .ldc_w idx => pm_d (me mi).2.1 pc ins nx 3 && pm_wk w (.constant (me mi).1.cls idx ci)
    | .lconst n => pm_d (me mi).2.1 pc ins nx 1 && decide (Int64.ofNat (n : Nat) = cj)
    | .ldc2_w idx => pm_d (me mi).2.1 pc ins nx 3 && pm_wk w (.constantLong (me mi).1.cls idx cj)
    | .ifCond _ o | .if_icmp _ o | .goto o => pm_d (me mi).2.1 pc ins nx 3 && decide ((pc : Int) + o = (xs.getD 0 0 : Int))
    | .tableswitch d lo hi offs => pm_d (me mi).2.1 pc ins nx (nx - pc) && (decide (lo = 0) && (decide (hi + 1 = (offs.size : Int)) && (decide (offs.size < 1000) && (decide ((pc : Int) + d = (xs.getD 0 0 : Int)) && pm_swk pc offs.toList (xs.drop 1)))))
    | .getfield idx => pm_d (me mi).2.1 pc ins nx 3 && (match xs.getD 0 9 with
      | 2 => pm_wk w (.fieldLink (me mi).1.cls idx "java/lang/String" "value" "[B")
      | 3 => pm_wk w (.fieldLink (me mi).1.cls idx "java/lang/String" "coder" "B")
      | tag => match pm_fk cl (xs.getD 1 0) (xs.getD 2 0) with
        | some t => pm_flk (me mi).1.cls idx w tag t
        | none => false)
    | .putfield idx => pm_d (me mi).2.1 pc ins nx 3 && (match pm_fk cl (xs.getD 1 0) (xs.getD 2 0) with
        | some t => pm_flk (me mi).1.cls idx w (xs.getD 0 9) t && (bif Nat.beq (xs.getD 0 9) 4 then t.2.2.2 && (decide ((me mi).1.name = "<init>") && decide (t.1 = (me mi).1.cls)) else !t.2.2.2)
        | none => false)
    | .getstatic idx => pm_d (me mi).2.1 pc ins nx 3 && (match xs.getD 0 0 with
      | 0 => pm_wk w (.fieldLink (me mi).1.cls idx "TurnCabinet$Coalitions" "ORDERS" "[I")
      | 1 => pm_wk w (.fieldLink (me mi).1.cls idx "java/lang/String" "COMPACT_STRINGS" "Z")
      | 2 => pm_wk w (.fieldLink (me mi).1.cls idx "jdk/internal/util/Preconditions" "SIOOBE_FORMATTER" "Ljava/util/function/BiFunction;")
      | _ => false)
    | .newarray a => pm_d (me mi).2.1 pc ins nx 2 && (pm_wk w (.arrayClass (newarray.typeOf a)) && (decide (newarray.typeOf a = pm_ty (xs.getD 0 9)) && Nat.ble (xs.getD 0 9) 3))
    | .new idx => pm_d (me mi).2.1 pc ins nx 3 && (match cl[xs.getD 1 0]? with
      | some (C, _, N) => pm_wk w (.classLink (me mi).1.cls idx C) && (pm_wk (xs.getD 2 0) (.instantiable C N) && pm_wk (xs.getD 3 0) (.initialized C))
      | none => false)
    | .invokespecial idx => pm_d (me mi).2.1 pc ins nx 3 && (match xs with
      | [] => pm_wk w (.methodLink (me mi).1.cls idx objectInit) && (pm_G.contains (.instanceMethod objectInit) && (pm_G.contains (.code objectInit ⟨#[0xb1]⟩ 1 none) && (Nat.ble 1 (me mi).2.2.2.2.1 && Nat.ble 20 (me mi).2.2.2.2.2.1)))
      | _ => pm_lnk (me mi).1.cls idx w (xs.getD 2 0) (me (xs.getD 0 0)).1 && (pm_wk (xs.getD 3 0) (.instanceMethod (me (xs.getD 0 0)).1) && (decide ((me (xs.getD 0 0)).1.name = "<init>") && (decide ((me (xs.getD 0 0)).2.2.2.1 = none) && pm_cc me mi (xs.getD 0 0) (xs.getD 1 0 - 1) (xs.getD 4 0) (xs.getD 5 0)))))
    | .invokevirtual idx => pm_d (me mi).2.1 pc ins nx 3 && (pm_lnk (me mi).1.cls idx w (xs.getD 2 0) (me (xs.getD 0 0)).1 && (pm_wk (xs.getD 4 0) (.instanceMethod (me (xs.getD 0 0)).1) && (pm_wk (xs.getD 5 0) (.selects (me (xs.getD 0 0)).1.cls (me (xs.getD 0 0)).1 (me (xs.getD 0 0)).1) && (pm_cc me mi (xs.getD 0 0) (xs.getD 1 0 - 1) (xs.getD 6 0) (xs.getD 7 0) && (bif Nat.beq (xs.getD 3 0) 99 then decide ((me (xs.getD 0 0)).1.cls = "java/lang/String") else (match cl[xs.getD 3 0]? with
      | some (C, _, _) => decide ((me (xs.getD 0 0)).1.cls = C)
      | none => false))))))
    | .invokestatic idx => pm_d (me mi).2.1 pc ins nx 3 && (pm_lnk (me mi).1.cls idx w (xs.getD 2 0) (me (xs.getD 0 0)).1 && (pm_wk (xs.getD 3 0) (.static (me (xs.getD 0 0)).1) && pm_cc me mi (xs.getD 0 0) (xs.getD 1 0) (xs.getD 4 0) (xs.getD 5 0)))
    | _ => pm_d (me mi).2.1 pc ins nx 1
/-! ===== the worlds ===== -/
def pm_rl (ρ : Nat → Nat) (fv : Value) : Value → Value
  | .ref a => if a = 204 then fv else .ref (ρ a)
  | v => v
def pm_val (ρ : Nat → Nat) (fv : Value) (S : pm_S) (r k : Nat) : Nat → Value
  | 0 => .int (S.2.2.1 r k)
  | 1 => .long (S.2.2.2 r k)
  | 2 => .int (S.2.2.1 r k)
  | _ => match S.2.1 r k with
    | 0 => .null
    | j + 1 => pm_rl ρ fv (.ref j)
def pm_con (S : pm_S) (r : Nat) : Nat → ((Nat → Int32) ⊕ (Nat → Int64) ⊕ (Nat → UInt32) ⊕ (Nat → UInt64) ⊕ (Nat → Option Nat))
  | 1 => .inr (.inl (S.2.2.2 r))
  | _ => .inl (S.2.2.1 r)
def pm_cell (ρ : Nat → Nat) (fv : Value) (cA : Nat → ClassId) (K : pm_K) (S : pm_S) (r : Nat) : va_E := match K with
  | .inl (t, n) => .inl (cA t, n, pm_con S r t)
  | .inr (c, ks) => .inr (c, ks.mapIdx (fun k kd => pm_val ρ fv S r k kd))
def pm_ws (ρ : Nat → Nat) (fv : Value) (cA : Nat → ClassId) (Sg : Nat → pm_K) (S : pm_S) : va_W := (List.range S.1).map (fun r => (ρ r, pm_cell ρ fv cA (Sg r) S r))
def pm_tys (cA : Nat → ClassId) : List (ClassId × FieldType) := [(cA 0, .int), (cA 1, .long), (cA 2, .byte), (cA 3, .boolean)]
def pm_sz (K : pm_K) : Nat := match K with
  | .inl (_, n) => n
  | .inr (_, ks) => ks.length
/-- the slots of the first so many cells -/
def pm_ss (Sg : Nat → pm_K) : Nat → Nat
  | 0 => 0
  | n + 1 => pm_ss Sg n + pm_sz (Sg n)
def pm_isN : Cond → Bool
  | .fieldLinkNest _ _ _ _ _ _ | .methodLinkNest _ _ _ _ => true
  | _ => false
/-- what is there from the start, and nobody writes -/
def pm_Zf (Rt : pm_T) (ρ : Nat → Nat) (fv : Value) (A : Nat → Prop) (U : State) (H : Heap) : Prop :=
  va_Z "TurnCabinet$Coalitions" "ORDERS" "[I" (.ref (ρ 200)) A U H ∧ va_Z "java/lang/String" "COMPACT_STRINGS" "Z" (.int 1) A U H ∧ va_Z "jdk/internal/util/Preconditions" "SIOOBE_FORMATTER" "Ljava/util/function/BiFunction;" fv A U H ∧
  va_OF "java/lang/String" "coder" "B" (.int 0) (ρ 201) A U H ∧ va_OF "java/lang/String" "value" "[B" (.ref (ρ 202)) (ρ 201) A U H ∧ va_O "java/lang/String" (ρ 201) A U H ∧
  ∀ (r t n : Nat) (f : Nat → Int32), Rt r = some (t, n, f) → va_T (pm_ty t) (ρ r) n (fun j => .int (f j)) A U H
/-- what the tables say, of the state alone -/
def pm_Nf (tx : String) (ρ : Nat → Nat) (U : State) : Prop := (∀ w ∈ lw_tbl, pm_isN w = true → va_Nw w U) ∧ vk_R "TurnCabinet$Reader" 46 tx (ρ 201) U
theorem pm_Zf.moved {Rt : pm_T} {ρ : Nat → Nat} {fv : Value} {A : Nat → Prop} {u U : State} {H : Heap} (hvm : u.vm.Alike U.vm) (h : pm_Zf Rt ρ fv A u H) : pm_Zf Rt ρ fv A U H := by
  obtain ⟨h1, h2, h3, h4, h5, h6, h7⟩ := h
  exact ⟨h1.moved hvm, h2.moved hvm, h3.moved hvm, h4.moved hvm, h5.moved hvm, h6.moved hvm, fun r t n f h => (h7 r t n f h).moved hvm⟩
theorem pm_Zf.kept {Rt : pm_T} {ρ : Nat → Nat} {fv : Value} {A : Nat → Prop} {U : State} {H H1 : Heap} (h : pm_Zf Rt ρ fv A U H) (hq : ∀ a : Nat, a < H.size → ¬ A a → H1[a]? = H[a]?) : pm_Zf Rt ρ fv A U H1 := by
  obtain ⟨h1, h2, h3, h4, h5, h6, h7⟩ := h
  exact ⟨h1.kept hq, h2.kept hq, h3.kept hq, h4.kept hq, h5.kept hq, h6.kept hq, fun r t n f h => (h7 r t n f h).kept hq⟩
theorem pm_Nf.warm {tx : String} {ρ : Nat → Nat} {s U : State} (hW : s.WarmedH U.vm) (h : pm_Nf tx ρ s) : pm_Nf tx ρ U := by
  refine ⟨fun w hw hn => ?_, h.2.warm hW⟩
  have h1 := h.1 w hw hn
  cases w <;> first | exact va_Nw.warmF hW h1 | exact va_Nw.warmM hW h1 | cases hn
theorem pm_Nf.same {tx : String} {ρ : Nat → Nat} {u U : State} (hv : U.vm = u.vm) (h : pm_Nf tx ρ u) : pm_Nf tx ρ U := by
  refine ⟨fun w hw hn => ?_, h.2.same hv⟩
  have h1 := h.1 w hw hn
  cases w <;> first | (cases hn; done) | exact va_Nw.same rfl hv.symm h1
theorem pm_ws_at {ρ : Nat → Nat} {fv : Value} {cA : Nat → ClassId} {Sg : Nat → pm_K} {S : pm_S} {r : Nat} (h : r < S.1) : (pm_ws ρ fv cA Sg S)[r]? = some (ρ r, pm_cell ρ fv cA (Sg r) S r) := by
  simp [pm_ws, List.getElem?_map, List.getElem?_range h]
theorem pm_ws_mem {ρ : Nat → Nat} {fv : Value} {cA : Nat → ClassId} {Sg : Nat → pm_K} {S : pm_S} {k : Nat} {q : Nat × va_E} (h : (pm_ws ρ fv cA Sg S)[k]? = some q) : k < S.1 ∧ q = (ρ k, pm_cell ρ fv cA (Sg k) S k) := by
  have hk : k < S.1 := by
    have := (List.getElem?_eq_some_iff.mp h).1
    simpa [pm_ws] using this
  rw [pm_ws_at hk] at h
  exact ⟨hk, (Option.some.inj h).symm⟩
theorem pm_ws_set {ρ : Nat → Nat} {fv : Value} {cA : Nat → ClassId} {Sg : Nat → pm_K} {S S' : pm_S} {r : Nat} (hn : S'.1 = S.1) (hr : r < S.1) (h : ∀ k, k < S.1 → k ≠ r → pm_cell ρ fv cA (Sg k) S' k = pm_cell ρ fv cA (Sg k) S k) :
    (pm_ws ρ fv cA Sg S).set r (ρ r, pm_cell ρ fv cA (Sg r) S' r) = pm_ws ρ fv cA Sg S' := by
  apply List.ext_getElem?
  intro k
  by_cases hk : k < S.1
  · rw [pm_ws_at (by omega)]
    by_cases e : k = r
    · subst e
      rw [List.getElem?_set_self (by simpa [pm_ws] using hk)]
    · rw [List.getElem?_set_ne (Ne.symm e), pm_ws_at hk, h k hk e]
  · rw [List.getElem?_eq_none (by simp [pm_ws]; omega), List.getElem?_eq_none (by simp [pm_ws]; omega)]
theorem pm_ws_D {ρ : Nat → Nat} {fv : Value} {cA : Nat → ClassId} {Sg : Nat → pm_K} {S : pm_S} {base : pm_B} (hρ : ∀ a, a < 49 → ρ a = base.1 + a) (hA : ∀ a, a < 49 → base.2.2 (base.1 + a)) (h : S.1 ≤ 49) : va_D base.2.2 (pm_ws ρ fv cA Sg S) := by
  refine ⟨fun i j x y hi hj hxy => ?_, fun k q hk => ?_⟩
  · obtain ⟨h1, rfl⟩ := pm_ws_mem hi
    obtain ⟨h2, rfl⟩ := pm_ws_mem hj
    have h3 : ρ i = ρ j := hxy
    rw [hρ i (by omega), hρ j (by omega)] at h3
    omega
  · obtain ⟨h1, rfl⟩ := pm_ws_mem hk
    show base.2.2 (ρ k)
    rw [hρ k (by omega)]
    exact hA k (by omega)
/-! locals -/
def pm_LH (ρ : Nat → Nat) (fv : Value) (nL : Nat) (ls : Array Slot) (pl : pm_L) : Prop := ls.size = nL ∧ pl.length = nL ∧ lv_wf ls ∧ ∀ (i : Nat) (v : Value), pl[i]? = some (some v) → (v.category = 2 → pl[i + 1]? = some none) → ls[i]? = some (.val (pm_rl ρ fv v))
theorem pm_LH.clr {ρ : Nat → Nat} {fv : Value} {nL : Nat} {ls : Array Slot} : ∀ (ds : List Nat) {pl : pm_L}, pm_LH ρ fv nL ls pl → pm_LH ρ fv nL ls (pm_clr ds pl) := by
  intro ds
  induction ds with
  | nil => intro pl h; exact h
  | cons j t ih =>
    intro pl h
    unfold pm_clr
    refine ih ?_
    cases hb : pm_lg (pl.getD (j - 1) none) with
    | true => exact h
    | false =>
      show pm_LH ρ fv nL ls (pl.set j none)
      refine ⟨h.1, by rw [List.length_set]; exact h.2.1, h.2.2.1, fun i v hv hc => ?_⟩
      have hij : j ≠ i := by
        intro e
        subst e
        rw [List.getElem?_set] at hv
        split at hv
        · split at hv <;> cases hv
        · rename_i hn; exact hn rfl
      rw [List.getElem?_set_ne hij] at hv
      refine h.2.2.2 i v hv (fun h2 => ?_)
      have h3 := hc h2
      by_cases e : j = i + 1
      · subst e
        exfalso
        have h4 : pl.getD (i + 1 - 1) none = some v := by
          rw [List.getD_eq_getElem?_getD, Nat.add_sub_cancel, hv]; rfl
        rw [h4] at hb
        unfold pm_lg at hb
        dsimp only at hb
        rw [h2] at hb
        cases hb
      · rwa [List.getElem?_set_ne e] at h3
def pm_vs (pl : pm_L) (i : Nat) : Option Value := match pl[i]? with
  | some (some v) => if v.category = 2 → pl[i + 1]? = some none then some v else none
  | _ => none
def pm_pr (ρ : Nat → Nat) (fv : Value) (pl : pm_L) : List (Nat × Value) := (List.range pl.length).filterMap (fun i => (pm_vs pl i).map (fun v => (i, pm_rl ρ fv v)))
theorem pm_pr_mem {ρ : Nat → Nat} {fv : Value} {pl : pm_L} {i : Nat} {v : Value} (h : pl[i]? = some (some v)) (h2 : v.category = 2 → pl[i + 1]? = some none) : (i, pm_rl ρ fv v) ∈ pm_pr ρ fv pl := by
  refine List.mem_filterMap.mpr ⟨i, List.mem_range.mpr (List.getElem?_eq_some_iff.mp h).1, ?_⟩
  have : pm_vs pl i = some v := by
    unfold pm_vs
    rw [h]
    exact if_pos h2
  rw [this]
  rfl
theorem pm_LH.has {ρ : Nat → Nat} {fv : Value} {nL : Nat} {ls : Array Slot} {pl : pm_L} (h : pm_LH ρ fv nL ls pl) : lv_has ls nL (pm_pr ρ fv pl) := by
  refine ⟨h.1, h.2.2.1, fun q hq => ?_⟩
  obtain ⟨i, h1, h2⟩ := List.mem_filterMap.mp hq
  cases hv : pm_vs pl i with
  | none => rw [hv] at h2; cases h2
  | some v =>
    rw [hv] at h2
    cases h2
    unfold pm_vs at hv
    split at hv
    · rename_i w hw
      split at hv
      · rename_i hc
        cases hv
        exact h.2.2.2 i v hw hc
      · cases hv
    · cases hv
theorem pm_gd {pl : pm_L} {i : Nat} {v : Value} (hv : pl.getD i none = some v) : pl[i]? = some (some v) := by
  rw [List.getD_eq_getElem?_getD] at hv
  cases hp : pl[i]? with
  | none => rw [hp] at hv; cases hv
  | some o => rw [hp] at hv; exact congrArg some hv
theorem pm_gn {pl : pm_L} {i : Nat} (hv : pl.getD i (some .null) = none) : pl[i]? = some none := by
  rw [List.getD_eq_getElem?_getD] at hv
  cases hp : pl[i]? with
  | none => rw [hp] at hv; cases hv
  | some o => rw [hp] at hv; exact congrArg some hv
theorem pm_LH.get {ρ : Nat → Nat} {fv : Value} {nL : Nat} {ls : Array Slot} {pl : pm_L} {i : Nat} {v : Value} (h : pm_LH ρ fv nL ls pl) (hv : pl.getD i none = some v) (h2 : v.category = 2 → pl[i + 1]? = some none) : ls[i]? = some (.val (pm_rl ρ fv v)) := h.2.2.2 i v (pm_gd hv) h2
theorem pm_rl_cat {ρ : Nat → Nat} {fv : Value} (hfv : fv = .null ∨ ∃ t, fv = .ref t) (v : Value) : (pm_rl ρ fv v).category = v.category := by
  cases v <;> try rfl
  rename_i a
  show (if a = 204 then fv else Value.ref (ρ a)).category = 1
  by_cases e : a = 204
  · rw [if_pos e]
    rcases hfv with h | ⟨t, h⟩ <;> rw [h] <;> rfl
  · rw [if_neg e]; rfl
theorem pm_LH.st1 {ρ : Nat → Nat} {fv : Value} (hfv : fv = .null ∨ ∃ t, fv = .ref t) {nL : Nat} {ls ls' : Array Slot} {pl pl' : pm_L} {i : Nat} {v : Value} (h : pm_LH ρ fv nL ls pl) (hs : pm_st1 pl i v = some pl')
    (hl : lv_has ls' nL ((i, pm_rl ρ fv v) :: (pm_pr ρ fv pl).filter (fun q => !(q.1 == i) && !(q.1 + 1 == i && q.2.category == 2)))) : i < nL ∧ pm_LH ρ fv nL ls' pl' := by
  unfold pm_st1 at hs
  cases hb : Nat.blt i pl.length with
  | false => rw [hb] at hs; cases hs
  | true =>
    rw [hb] at hs
    cases hs
    have hi : i < pl.length := by simpa [Nat.blt_eq] using hb
    refine ⟨by rw [← h.2.1]; exact hi, hl.1, by rw [List.length_set]; exact h.2.1, hl.2.1, fun j w hj hc => ?_⟩
    refine hl.2.2 (j, pm_rl ρ fv w) ?_
    by_cases e : j = i
    · subst e
      rw [List.getElem?_set_self hi] at hj
      cases hj
      exact List.mem_cons_self
    · rw [List.getElem?_set_ne (Ne.symm e)] at hj
      have hne : w.category = 2 → j + 1 ≠ i := by
        intro h2 e2
        have := hc h2
        rw [e2, List.getElem?_set_self hi] at this
        cases this
      refine List.mem_cons_of_mem _ (List.mem_filter.mpr ⟨pm_pr_mem hj (fun h2 => ?_), ?_⟩)
      · have := hc h2
        rw [List.getElem?_set_ne (Ne.symm (hne h2))] at this
        exact this
      · simp only [Bool.and_eq_true, Bool.not_eq_true', beq_eq_false_iff_ne, ne_eq, Bool.and_eq_false_iff]
        refine ⟨e, ?_⟩
        by_cases e2 : w.category = 2
        · exact Or.inl (hne e2)
        · exact Or.inr (by rw [pm_rl_cat hfv]; exact e2)
theorem pm_LH.st2 {ρ : Nat → Nat} {fv : Value} (hfv : fv = .null ∨ ∃ t, fv = .ref t) {nL : Nat} {ls ls' : Array Slot} {pl pl' : pm_L} {i : Nat} {v : Value} (h : pm_LH ρ fv nL ls pl) (hs : pm_st2 pl i v = some pl')
    (hl : lv_has ls' nL ((i, pm_rl ρ fv v) :: (pm_pr ρ fv pl).filter (fun q => !(q.1 == i) && (!(q.1 == i + 1) && !(q.1 + 1 == i && q.2.category == 2))))) : i + 1 < nL ∧ pm_LH ρ fv nL ls' pl' := by
  unfold pm_st2 at hs
  cases hb : Nat.blt (i + 1) pl.length with
  | false => rw [hb] at hs; cases hs
  | true =>
    rw [hb] at hs
    cases hs
    have hi : i + 1 < pl.length := by simpa [Nat.blt_eq] using hb
    refine ⟨by rw [← h.2.1]; exact hi, hl.1, by rw [List.length_set, List.length_set]; exact h.2.1, hl.2.1, fun j w hj hc => ?_⟩
    refine hl.2.2 (j, pm_rl ρ fv w) ?_
    by_cases e1 : j = i + 1
    · subst e1
      rw [List.getElem?_set_self (by rw [List.length_set]; exact hi)] at hj
      cases hj
    · rw [List.getElem?_set_ne (Ne.symm e1)] at hj
      by_cases e : j = i
      · subst e
        rw [List.getElem?_set_self (by omega)] at hj
        cases hj
        exact List.mem_cons_self
      · rw [List.getElem?_set_ne (Ne.symm e)] at hj
        have hne : w.category = 2 → j + 1 ≠ i := by
          intro h2 e2
          have := hc h2
          rw [e2, List.getElem?_set_ne (by omega), List.getElem?_set_self (by omega)] at this
          cases this
        refine List.mem_cons_of_mem _ (List.mem_filter.mpr ⟨pm_pr_mem hj (fun h2 => ?_), ?_⟩)
        · have := hc h2
          rw [List.getElem?_set_ne (by omega), List.getElem?_set_ne (Ne.symm (hne h2))] at this
          exact this
        · simp only [Bool.and_eq_true, Bool.not_eq_true', beq_eq_false_iff_ne, ne_eq, Bool.and_eq_false_iff]
          refine ⟨e, e1, ?_⟩
          by_cases e2 : w.category = 2
          · exact Or.inl (hne e2)
          · exact Or.inr (by rw [pm_rl_cat hfv]; exact e2)
