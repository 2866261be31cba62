/-! ===== rows of rows are made: what 'multianewarray' of two dimensions does ===== -/
def qm_row (h i : Nat) : Nat → Value := fun j => if j < i then .ref (h + 1 + j) else .null
theorem qm_row_up (h i : Nat) : updV (qm_row h i) i (.ref (h + 1 + i)) = qm_row h (i + 1) := by
  funext j
  unfold qm_row updV
  by_cases e : j = i
  · rw [if_pos e, if_pos (by omega), e]
  · rw [if_neg e]
    show (if j < i then Value.ref (h + 1 + j) else Value.null) = if j < i + 1 then Value.ref (h + 1 + j) else Value.null
    by_cases q : j < i
    · rw [if_pos q, if_pos (by omega)]
    · rw [if_neg q, if_neg (by omega)]
/-- the heap with so many of the rows in place -/
def qm_mX (T : State) (c comp : ClassId) (N M : Nat) (d : Value) : Nat → State
  | 0 => T.pushCell (arrV c N (qm_row T.heap.size 0))
  | i + 1 => ((qm_mX T c comp N M d i).pushCell (arrV comp M fun _ => d)).setCell T.heap.size (arrV c N (qm_row T.heap.size (i + 1)))
theorem qm_mX_facts (T : State) (c comp : ClassId) (N M : Nat) (d : Value) : ∀ i, (qm_mX T c comp N M d i).heap.size = T.heap.size + 1 + i ∧ (qm_mX T c comp N M d i).vm = T.vm ∧ (qm_mX T c comp N M d i).slotsUsed = T.slotsUsed + N + i * M ∧
    (qm_mX T c comp N M d i).heap[T.heap.size]? = some (arrV c N (qm_row T.heap.size i)) ∧ (∀ j, j < i → (qm_mX T c comp N M d i).heap[T.heap.size + 1 + j]? = some (arrV comp M fun _ => d)) ∧ ∀ a, a < T.heap.size → (qm_mX T c comp N M d i).heap[a]? = T.heap[a]? := by
  intro i
  induction i with
  | zero =>
    refine ⟨by simp [qm_mX], rfl, by simp [qm_mX, arrV_size], by simp [qm_mX], fun j hj => absurd hj (Nat.not_lt_zero _), fun a ha => State.heap_pushCell_of_lt _ _ ha⟩
  | succ i ih =>
    obtain ⟨f1, f2, f3, f4, f5, f6⟩ := ih
    have hlt : T.heap.size < (qm_mX T c comp N M d i).heap.size := by omega
    have g4 : ((qm_mX T c comp N M d i).pushCell (arrV comp M fun _ => d)).heap[T.heap.size]? = some (arrV c N (qm_row T.heap.size i)) := by rw [State.heap_pushCell_of_lt (h := hlt)]; exact f4
    refine ⟨?_, by simp [qm_mX, f2], ?_, State.heap_setCell_self g4, fun j hj => ?_, fun a ha => ?_⟩
    · simp [qm_mX, State.setCell, f1]; omega
    · simp [qm_mX, f3, arrV_size, Nat.succ_mul]; omega
    · show (((qm_mX T c comp N M d i).pushCell (arrV comp M fun _ => d)).setCell T.heap.size _).heap[T.heap.size + 1 + j]? = _
      rw [State.heap_setCell_other (show T.heap.size ≠ T.heap.size + 1 + j by omega)]
      by_cases e : j < i
      · have q1 : T.heap.size + 1 + j < (qm_mX T c comp N M d i).heap.size := by omega
        rw [State.heap_pushCell_of_lt (h := q1)]
        exact f5 j e
      · rw [show T.heap.size + 1 + j = (qm_mX T c comp N M d i).heap.size by omega]
        exact State.heap_pushCell_size _ _
    · show (((qm_mX T c comp N M d i).pushCell (arrV comp M fun _ => d)).setCell T.heap.size _).heap[a]? = _
      have q1 : a < (qm_mX T c comp N M d i).heap.size := by omega
      rw [State.heap_setCell_other (Nat.ne_of_gt ha), State.heap_pushCell_of_lt (h := q1)]
      exact f6 a ha
theorem qm_mX_top (T : State) (f : JFrame) (c comp : ClassId) (N M : Nat) (d : Value) : ∀ i, qm_mX (T.setTop f) c comp N M d i = (qm_mX T c comp N M d i).setTop f := by
  intro i
  induction i with
  | zero => rfl
  | succ i ih => simp only [qm_mX, ih, State.heap_setTop, State.pushCell_setTop, State.setCell_setTop]
section
variable {E : CtlPost} {e : Env} {d0 : Bool} {acts : List Action} {s : State}
theorem qm_wna {c comp : ClassId} {k : Class} {ty : FieldType} {n : Nat} {v : Value} (hk : s.vm.classes[c]? = some k) (hkind : k.kind = .array comp ty) (h1 : ¬ n > e.platform.arrayLengthLimit) (h2 : ¬ n * componentBytes ty > e.platform.maxHeapBytes)
    (hf : fits ty v = true) (hd : v.isDefault = true) {Q : Addr → Pre} (hc : s.heap.size < e.platform.maxCells) (hs : s.slotsUsed + n ≤ e.platform.maxSlots) (hq : Q s.heap.size d0 acts (s.pushCell (arrV c n fun _ => v))) : wp (Jvm.newArray c n v) Q E e d0 acts s := by
  have hfs : ∀ (i : Nat) (w : Value), (Array.replicate n v)[i]? = some w → s.fitsSlot c .none i w = true := by
    intro i w hw
    simp only [Array.getElem?_replicate] at hw
    split at hw
    · cases hw
      simp [State.fitsSlot, State.slotType?, hk, hkind, hf]
    · cases hw
  have hac : allocActs (Array.replicate n v) s.heap.size acts = acts := by
    have : ((Array.replicate n v).all (·.isDefault)) = true := by
      rw [Array.all_replicate]
      split <;> simp [hd]
    unfold allocActs
    rw [if_pos this]
  rw [← arrV_new] at hq
  simp only [Jvm.newArray, Jvm.arrayFits, wp_bind', W.ask, W.ite, h1, if_false, wp_pure', W.theClass, hk, hkind, h2, W.alloc, W.stop, Option.some.injEq, exists_eq_left', Array.size_replicate, hac]
  rw [if_neg (by omega)]
  exact ⟨hc, hs, hfs, hq⟩
theorem qm_wm2 {c comp cc : ClassId} {k kc : Class} {ty : FieldType} {n m : Int32} (hk : s.vm.classes[c]? = some k) (hkind : k.kind = .array comp (.array ty)) (hkc : s.vm.classes[comp]? = some kc) (hkindc : kc.kind = .array cc ty) (hn : ¬ n < 0) (hm : ¬ m < 0)
    (h1 : ¬ n.toNatClampNeg > e.platform.arrayLengthLimit) (h2 : ¬ n.toNatClampNeg * 4 > e.platform.maxHeapBytes) (h3 : ¬ m.toNatClampNeg > e.platform.arrayLengthLimit) (h4 : ¬ m.toNatClampNeg * componentBytes ty > e.platform.maxHeapBytes)
    (hf : fits ty (defaultValue ty) = true) (hd : (defaultValue ty).isDefault = true) (hc : s.heap.size + 1 + n.toNatClampNeg ≤ e.platform.maxCells) (hs : s.slotsUsed + (n.toNatClampNeg + n.toNatClampNeg * m.toNatClampNeg) ≤ e.platform.maxSlots)
    {Q : Addr → Pre} (hq : ∀ d' a', Q s.heap.size d' a' (qm_mX s c comp n.toNatClampNeg m.toNatClampNeg (defaultValue ty) n.toNatClampNeg)) : wp (multianewarray.make c [n, m]) Q E e d0 acts s := by
  have hno : ([m].find? (· < 0)) = none := by simp [hm]
  rw [multianewarray.make]
  simp only [wp_bind', W.ite, hn, if_false, wp_pure', W.theClass, hk, hkind, Option.some.injEq, exists_eq_left']
  refine qm_wna hk hkind h1 h2 rfl rfl (by omega) (by omega) ?_
  simp only [hno]
  rw [ite_self, wp_bind', Std.Legacy.Range.forIn_eq_forIn_range']
  have hsz : ([:n.toNatClampNeg] : Std.Legacy.Range).size = n.toNatClampNeg := by simp [Std.Legacy.Range.size]
  rw [hsz]
  show wp (forIn (List.range' 0 n.toNatClampNeg 1) PUnit.unit _) _ E e d0 acts _
  refine wp_forIn_inv (fun rest s' => ∃ i, i ≤ n.toNatClampNeg ∧ rest = List.range' i (n.toNatClampNeg - i) ∧ s' = qm_mX s c comp n.toNatClampNeg m.toNatClampNeg (defaultValue ty) i) _ _ ⟨0, Nat.zero_le _, rfl, rfl⟩ ?_ ?_
  · rintro x rest s' d' a' Q' ⟨i, hi, hl, rfl⟩ hnext
    have hlt : i < n.toNatClampNeg := by
      apply Decidable.byContradiction
      intro h
      rw [show n.toNatClampNeg - i = 0 by omega] at hl
      cases hl
    rw [show n.toNatClampNeg - i = (n.toNatClampNeg - (i + 1)) + 1 by omega, List.range'_succ] at hl
    obtain ⟨rfl, hrest⟩ := List.cons.inj hl
    obtain ⟨f1, f2, f3, f4, -, -⟩ := qm_mX_facts s c comp n.toNatClampNeg m.toNatClampNeg (defaultValue ty) x
    have hmul : x * m.toNatClampNeg + m.toNatClampNeg ≤ n.toNatClampNeg * m.toNatClampNeg := by
      have := Nat.mul_le_mul_right m.toNatClampNeg (Nat.succ_le_of_lt hlt)
      rwa [Nat.succ_mul] at this
    simp only [wp_bind']
    rw [multianewarray.make]
    simp only [wp_bind', W.ite, hm, if_false, wp_pure', W.theClass, f2, hkc, hkindc, Option.some.injEq, exists_eq_left']
    refine qm_wna (by rw [f2]; exact hkc) hkindc h3 h4 hf hd (by rw [f1]; omega) (by rw [f3]; omega) ?_
    have hh : s.heap.size < (qm_mX s c comp n.toNatClampNeg m.toNatClampNeg (defaultValue ty) x).heap.size := by rw [f1]; omega
    simp only [wp_bind', W.writeLoc, wp_pure']
    refine ⟨arrV c n.toNatClampNeg (qm_row s.heap.size x), by rw [State.heap_pushCell_of_lt (h := hh)]; exact f4, fun h => (by cases h), by rw [arrV_size]; exact hlt, ?_, hnext _ _ _ ⟨x + 1, hlt, hrest, ?_⟩⟩
    · show State.fitsSlot _ c .none x _ = true
      simp [State.fitsSlot, State.slotType?, f2, hk, hkind, fits]
    · rw [arrV_store, f1, qm_row_up]
      rfl
  · rintro s' d' a' ⟨i, hi, hl, rfl⟩
    have hiN : i = n.toNatClampNeg := by
      apply Decidable.byContradiction
      intro h
      rw [show n.toNatClampNeg - i = (n.toNatClampNeg - (i + 1)) + 1 by omega, List.range'_succ] at hl
      cases hl
    subst hiN
    simp only [wp_pure']
    exact hq _ _
end
section
variable {p : Program} {l : Launch} {e : Env} {R : Room} {s : State} {m : MethodId} {args : Array Value} {below : List Frame} {meth : Method} {c : Code} {T : State} {locs : List Loc} {cells slots : Nat}
theorem qm_mX_stand (X : Stand p l e R s m args below meth c T locs cells slots) (cA comp : ClassId) (N M : Nat) (d : Value) : ∀ i, Stand p l e R s m args below meth c (qm_mX T cA comp N M d i) (locs ++ (List.range i).map fun j => ⟨T.heap.size, j⟩) (cells + 1 + i) (slots + N + i * M) := by
  intro i
  induction i with
  | zero =>
    have h := X.pushed (arrV cA N (qm_row T.heap.size 0))
    rw [arrV_size] at h
    simpa [qm_mX] using h
  | succ i ih =>
    obtain ⟨f1, f2, f3, f4, -, -⟩ := qm_mX_facts T cA comp N M d i
    have hlt : T.heap.size < (qm_mX T cA comp N M d i).heap.size := by omega
    have hc : ((qm_mX T cA comp N M d i).pushCell (arrV comp M fun _ => d)).heap[T.heap.size]? = some (arrV cA N (qm_row T.heap.size i)) := by rw [State.heap_pushCell_of_lt (h := hlt)]; exact f4
    have h := (ih.pushed (arrV comp M fun _ => d)).stored hc i (.ref (T.heap.size + 1 + i))
    rw [arrV_size, arrV_store, qm_row_up] at h
    have e1 : (locs ++ (List.range (i + 1)).map fun j => (⟨T.heap.size, j⟩ : Loc)) = (locs ++ (List.range i).map fun j => (⟨T.heap.size, j⟩ : Loc)) ++ [⟨T.heap.size, i⟩] := by simp [List.range_succ, List.append_assoc]
    rw [e1, Nat.succ_mul, show slots + N + (i * M + M) = slots + N + i * M + M by omega]
    exact h
/-- the row -/
theorem qm_multi {H : Heap} {Q : State → Prop} {pc : Nat} {ls : Array Slot} {rest : List Value} {own nm : String} {index : Nat} {cA comp cc : ClassId} {ty : FieldType} {n k : Int32} (hexec : p.tables.exec = Jvm.exec) (hown : s.vm.findClass own = some m.cls) (hlink : (Cond.classLink own index nm).before args s = true) (hnm : s.vm.findClass nm = some cA)
    (hkA : ∃ k, s.vm.classes[cA]? = some k ∧ k.kind = .array comp (.array ty)) (hkC : ∃ k, s.vm.classes[comp]? = some k ∧ k.kind = .array cc ty) (hdg : decode c.code pc = .ok (.multianewarray index 2, 4)) (hn : ¬ n < 0) (hk : ¬ k < 0) (hnl : n.toNatClampNeg ≤ 1000) (hkl : k.toNatClampNeg ≤ 1000) (hby : componentBytes ty ≤ 8)
    (hf : fits ty (defaultValue ty) = true) (hd : (defaultValue ty).isDefault = true) (hcells : cells + (1 + n.toNatClampNeg) ≤ R.cells) (hslots : slots + (n.toNatClampNeg + n.toNatClampNeg * k.toNatClampNeg) ≤ R.slots)
    (kk : ∀ H1 : Heap, H1.size = H.size + 1 + n.toNatClampNeg → H1[H.size]? = some (arrV cA n.toNatClampNeg (qm_row H.size n.toNatClampNeg)) → (∀ j, j < n.toNatClampNeg → H1[H.size + 1 + j]? = some (arrV comp k.toNatClampNeg fun _ => defaultValue ty)) → (∀ a, a < H.size → H1[a]? = H[a]?) →
      W p l e R s m args below meth c H1 (locs ++ (List.range n.toNatClampNeg).map fun j => ⟨H.size, j⟩) (cells + (1 + n.toNatClampNeg)) (slots + (n.toNatClampNeg + n.toNatClampNeg * k.toNatClampNeg)) Q (F0 m (pc + 4) ls (.ref H.size :: rest))) :
    W p l e R s m args below meth c H locs cells slots Q (F0 m pc ls (.int k :: .int n :: rest)) := by
  intro T hT X
  have hpl : e.platform.magicAccessors = ({} : Platform).magicAccessors := by rw [X.admits.platform]
  obtain ⟨c1, hc1, hl⟩ := Cond.classLink_spec hown hlink e.platform hpl
  cases hnm.symm.trans hc1
  obtain ⟨hg, hwarm, -⟩ := State.classEntry (e := e) X.warmed hl
  generalize T.vm.noted m.cls index (.cls cA) = vm1 at hg hwarm
  obtain ⟨kA, hkA1, hkA2⟩ := qm_kind (U := T.setVm vm1) (show s.vm.Alike (T.setVm vm1).vm from hwarm.alike) hkA
  obtain ⟨kC, hkC1, hkC2⟩ := qm_kind (U := T.setVm vm1) (show s.vm.Alike (T.setVm vm1).vm from hwarm.alike) hkC
  have hkA1 : vm1.classes[cA]? = some kA := hkA1
  have hkC1 : vm1.classes[comp]? = some kC := hkC1
  have X1 := X.noted hwarm
  obtain ⟨hr1, hr2⟩ := X.roomAbove hcells hslots
  have XF := qm_mX_stand X1 cA comp n.toNatClampNeg k.toNatClampNeg (defaultValue ty) n.toNatClampNeg
  obtain ⟨f1, f2, f3, f4, f5, f6⟩ := qm_mX_facts (T.setVm vm1) cA comp n.toNatClampNeg k.toNatClampNeg (defaultValue ty) n.toNatClampNeg
  have hTH : (T.setVm vm1).heap = H := hT
  rw [hTH] at f1 f4 f5 f6
  have XF' : Stand p l e R s m args below meth c (qm_mX (T.setVm vm1) cA comp n.toNatClampNeg k.toNatClampNeg (defaultValue ty) n.toNatClampNeg) (locs ++ (List.range n.toNatClampNeg).map fun j => ⟨H.size, j⟩) (cells + (1 + n.toNatClampNeg)) (slots + (n.toNatClampNeg + n.toNatClampNeg * k.toNatClampNeg)) := by
    rw [hTH] at XF
    rw [← Nat.add_assoc, ← Nat.add_assoc]
    exact XF
  obtain ⟨t, ht1, ht2⟩ := kk _ f1 f4 f5 f6 _ rfl XF'
  refine ⟨t, ?_, ht2⟩
  have hl1 : ¬ n.toNatClampNeg > e.platform.arrayLengthLimit := by rw [Launch.admits_arrayLengthLimit X.admits]; omega
  have hh1 : ¬ n.toNatClampNeg * 4 > e.platform.maxHeapBytes := by rw [Launch.admits_maxHeapBytes X.admits]; omega
  have hl2 : ¬ k.toNatClampNeg > e.platform.arrayLengthLimit := by rw [Launch.admits_arrayLengthLimit X.admits]; omega
  have hh2 : ¬ k.toNatClampNeg * componentBytes ty > e.platform.maxHeapBytes := by
    rw [Launch.admits_maxHeapBytes X.admits]
    have := Nat.mul_le_mul hkl hby
    omega
  have hTs : T.heap.size = H.size := by rw [hT]
  jvm_step X.here [hexec, hdg]
  simp only [multianewarray.sem, wp_bind', W.resolveClassAt_links (State.method?_setTop (F0 m pc ls (.int k :: .int n :: rest)) X.here.top) hg]
  rw [W.popN, if_neg (by decide)]
  refine ⟨F0 m pc ls (.int k :: .int n :: rest), State.topJava?_setTop' (s := T.setVm vm1) _ X.here.top, [.int n, .int k], rest, rfl, rfl, ?_⟩
  simp only [List.mapM_cons, List.mapM_nil, wp_bind', wp_pure']
  refine qm_wm2 hkA1 hkA2 hkC1 hkC2 hn hk hl1 hh1 hl2 hh2 hf hd (by show T.heap.size + 1 + _ ≤ _; omega) (by show T.slotsUsed + (_ + _) ≤ _; omega) (fun d' a' => ?_)
  have eS : ((T.setTop (F0 m pc ls (.int k :: .int n :: rest))).setVm vm1).setTop { F0 m pc ls (.int k :: .int n :: rest) with stack := rest } = (T.setVm vm1).setTop { F0 m pc ls (.int k :: .int n :: rest) with stack := rest } := by
    show ((T.setVm vm1).setTop _).setTop _ = _
    rw [State.setTop_setTop]
  rw [eS, qm_mX_top]
  simp only [wp_bind', W.mark, W.pushRef, State.topJava?_setTop' _ XF'.here.top, Option.some.injEq, exists_eq_left', State.setTop_setTop, State.heap_setTop]
  intro acts
  simp [jvm, XF'.here.top]
  rw [hTs]
  exact ht1
end
