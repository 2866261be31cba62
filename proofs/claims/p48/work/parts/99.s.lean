/-! ===== the law's start: words and premises ===== -/
def qs_ix : List Nat := [45, 54, 56, 61, 66, 71, 95, 100, 102, 104, 106, 108, 110, 112, 114, 116, 118]
def qs_tm (i : Nat) : Term := if i < 17 then .string "TurnCabinetLaw$World" (qs_ix.getD i 0) else .string "TurnCabinet$Reader" 46
def qs_by : List (List Int32) := qt_str.take 17 ++ [pt_txl]
def qs_ln : List Nat := [9, 1, 1, 5, 6, 5, 8, 7, 7, 4, 6, 7, 2, 8, 5, 2, 5, 74]
def qs_d1 : Term := .static "java/lang/Integer" "DigitOnes" "[B"
def qs_d2 : Term := .static "java/lang/Integer" "DigitTens" "[B"
def qs_or : Term := .static "TurnCabinet$Coalitions" "ORDERS" "[I"
def qs_el : Term := .static "java/util/ArrayList" "DEFAULTCAPACITY_EMPTY_ELEMENTDATA" "[Ljava/lang/Object;"
def qs_ca : Term := .static "java/lang/Integer$IntegerCache" "cache" "[Ljava/lang/Integer;"
/-- the premises in their order -/
def flatA : Cond → List Cond → List Cond
  | .and a b, l => flatA a (flatA b l)
  | c, l => c :: l
theorem flatA_of {args : Array Value} {s : State} (T : Cond) : T.before args s = true → ∀ l : List Cond, (∀ c ∈ l, c.before args s = true) → ∀ c ∈ flatA T l, c.before args s = true := by
  induction T with
  | and a b iha ihb =>
    intro h l hl c hc
    rw [Cond.before_and, Bool.and_eq_true] at h
    exact iha h.1 _ (ihb h.2 l hl) c hc
  | _ =>
    intro h l hl c hc
    simp only [flatA, List.mem_cons] at hc
    rcases hc with rfl | hc
    · exact h
    · exact hl c hc
def qs_sub : List Cond → List Cond → Bool
  | [], es => es.isEmpty
  | a :: as, es => match es with
    | [] => true
    | e :: es' => bif decide (e = a) then qs_sub as es' else qs_sub as (e :: es')
theorem qs_sub_of : ∀ (as es : List Cond), qs_sub as es = true → ∀ e ∈ es, e ∈ as := by
  intro as
  induction as with
  | nil =>
    intro es h e he
    cases es with
    | nil => cases he
    | cons _ _ => cases h
  | cons a as ih =>
    intro es h e he
    cases es with
    | nil => cases he
    | cons e' es' =>
      have h : (bif decide (e' = a) then qs_sub as es' else qs_sub as (e' :: es')) = true := h
      cases hd : decide (e' = a) with
      | true =>
        rw [hd] at h
        rcases List.mem_cons.mp he with rfl | he
        · rw [of_decide_eq_true hd]; exact List.mem_cons_self
        · exact List.mem_cons_of_mem _ (ih es' h e he)
      | false => rw [hd] at h; exact List.mem_cons_of_mem _ (ih _ h e he)
def qs_s1 (i : Nat) : List Cond := Cond.exactly (qs_tm i) "java/lang/String" :: Cond.eq (.field (qs_tm i) "java/lang/String" "coder" "B") (.int 0) :: Cond.arrayOf (.field (qs_tm i) "java/lang/String" "value" "[B") .byte :: Cond.eq (.length (.field (qs_tm i) "java/lang/String" "value" "[B")) (.int (Int32.ofNat (qs_ln.getD i 0))) :: (List.range (qs_ln.getD i 0)).map (fun j => Cond.eq (.elem (.field (qs_tm i) "java/lang/String" "value" "[B") (.int (Int32.ofNat j))) (.int ((qs_by.getD i []).getD j 0)))
def qs_s2 (i : Nat) : List Cond := Cond.not (Cond.eq (qs_tm 17) (qs_tm i)) :: (List.range i).map (fun k => Cond.not (Cond.eq (qs_tm k) (qs_tm i)))
def qs_ea : List Cond := [Cond.eq (.static "java/lang/String" "COMPACT_STRINGS" "Z") (.int 1), Cond.isRef (.static "jdk/internal/util/Preconditions" "SIOOBE_FORMATTER" "Ljava/util/function/BiFunction;")]
def qs_ar (t : Term) (ty : FieldType) (n : Nat) (f : Nat → Int32) (m : Nat) : List Cond := Cond.arrayOf t ty :: Cond.eq (.length t) (.int (Int32.ofNat n)) :: (List.range m).map (fun j => Cond.eq (.elem t (.int (Int32.ofNat j))) (.int (f j)))
def qs_all : Cond := Cond.all qs_ca (.and (.exactly (.elem qs_ca (.index 0)) "java/lang/Integer") (.eq (.field (.elem qs_ca (.index 0)) "java/lang/Integer" "value" "I") (.sub (.index 0) (.int 128))))
def qs_eb : List Cond := [Cond.eq (.static "java/lang/Integer$IntegerCache" "high" "I") (.int 127)]
def qs_exp : List Cond := qs_ea ++ (qs_ar qs_d1 .byte 100 (fun j => 48 + nI (j % 10)) 100 ++ (qs_ar qs_d2 .byte 100 (fun j => 48 + nI (j / 10)) 100 ++ (qs_ar qs_or .int 8 pt_ord 8 ++ (qs_ar qs_el (.object "java/lang/Object") 0 (fun _ => 0) 0 ++ (qs_eb ++ (qs_ar qs_ca (.object "java/lang/Integer") 256 (fun _ => 0) 0 ++ ([qs_all] ++ (qs_s1 17 ++ (List.range 17).flatMap (fun i => qs_s1 i ++ qs_s2 i)))))))))
set_option maxRecDepth 100000 in
theorem qs_ok : qs_sub (flatA (Jvm.Cond.and given_1 narrow_1) []) qs_exp = true := by decide +kernel
/-- a premise, named -/
theorem qs_of {args : Array Value} {s : State} (h : (Jvm.Cond.and given_1 narrow_1).before args s = true) : ∀ c ∈ qs_exp, c.before args s = true := fun c hc => flatA_of _ h [] (fun _ h => by cases h) c (qs_sub_of _ _ qs_ok c hc)
theorem qs_m1 {c : Cond} (h : c ∈ qs_ea) : c ∈ qs_exp := List.mem_append_left _ h
theorem qs_m2 {c : Cond} (h : c ∈ qs_ar qs_d1 .byte 100 (fun j => 48 + nI (j % 10)) 100) : c ∈ qs_exp := List.mem_append_right _ (List.mem_append_left _ h)
theorem qs_m3 {c : Cond} (h : c ∈ qs_ar qs_d2 .byte 100 (fun j => 48 + nI (j / 10)) 100) : c ∈ qs_exp := List.mem_append_right _ (List.mem_append_right _ (List.mem_append_left _ h))
theorem qs_m4 {c : Cond} (h : c ∈ qs_ar qs_or .int 8 pt_ord 8) : c ∈ qs_exp := List.mem_append_right _ (List.mem_append_right _ (List.mem_append_right _ (List.mem_append_left _ h)))
theorem qs_m5 {c : Cond} (h : c ∈ qs_ar qs_el (.object "java/lang/Object") 0 (fun _ => 0) 0) : c ∈ qs_exp := List.mem_append_right _ (List.mem_append_right _ (List.mem_append_right _ (List.mem_append_right _ (List.mem_append_left _ h))))
theorem qs_m6 {c : Cond} (h : c ∈ qs_eb) : c ∈ qs_exp := List.mem_append_right _ (List.mem_append_right _ (List.mem_append_right _ (List.mem_append_right _ (List.mem_append_right _ (List.mem_append_left _ h)))))
theorem qs_m7 {c : Cond} (h : c ∈ qs_ar qs_ca (.object "java/lang/Integer") 256 (fun _ => 0) 0) : c ∈ qs_exp := List.mem_append_right _ (List.mem_append_right _ (List.mem_append_right _ (List.mem_append_right _ (List.mem_append_right _ (List.mem_append_right _ (List.mem_append_left _ h))))))
theorem qs_m8 : qs_all ∈ qs_exp := List.mem_append_right _ (List.mem_append_right _ (List.mem_append_right _ (List.mem_append_right _ (List.mem_append_right _ (List.mem_append_right _ (List.mem_append_right _ (List.mem_append_left _ List.mem_cons_self)))))))
theorem qs_m9 {c : Cond} {i : Nat} (hi : i < 18) (h : c ∈ qs_s1 i) : c ∈ qs_exp := by
  refine List.mem_append_right _ (List.mem_append_right _ (List.mem_append_right _ (List.mem_append_right _ (List.mem_append_right _ (List.mem_append_right _ (List.mem_append_right _ (List.mem_append_right _ ?_)))))))
  by_cases e : i = 17
  · subst e; exact List.mem_append_left _ h
  · exact List.mem_append_right _ (List.mem_flatMap.mpr ⟨i, List.mem_range.mpr (by omega), List.mem_append_left _ h⟩)
theorem qs_m10 {c : Cond} {i : Nat} (hi : i < 17) (h : c ∈ qs_s2 i) : c ∈ qs_exp := by
  refine List.mem_append_right _ (List.mem_append_right _ (List.mem_append_right _ (List.mem_append_right _ (List.mem_append_right _ (List.mem_append_right _ (List.mem_append_right _ (List.mem_append_right _ ?_)))))))
  exact List.mem_append_right _ (List.mem_flatMap.mpr ⟨i, List.mem_range.mpr hi, List.mem_append_right _ h⟩)
theorem qs_lt {i j : Nat} (h : i < j) (hj : j < 17) : Cond.not (Cond.eq (qs_tm i) (qs_tm j)) ∈ qs_exp := qs_m10 hj (List.mem_cons_of_mem _ (List.mem_map.mpr ⟨i, List.mem_range.mpr h, rfl⟩))
theorem qs_l7 {j : Nat} (hj : j < 17) : Cond.not (Cond.eq (qs_tm 17) (qs_tm j)) ∈ qs_exp := qs_m10 hj List.mem_cons_self
theorem qs_ne {i j : Nat} (hi : i < 18) (hj : j < 18) (h : i ≠ j) : Cond.not (Cond.eq (qs_tm i) (qs_tm j)) ∈ qs_exp ∨ Cond.not (Cond.eq (qs_tm j) (qs_tm i)) ∈ qs_exp := by
  by_cases e : i = 17
  · subst e; exact Or.inl (qs_l7 (by omega))
  · by_cases e2 : j = 17
    · subst e2; exact Or.inr (qs_l7 (by omega))
    · by_cases c : i < j
      · exact Or.inl (qs_lt c (by omega))
      · exact Or.inr (qs_lt (by omega) (by omega))
theorem qs_k1 {i : Nat} (hi : i < 18) : Cond.exactly (qs_tm i) "java/lang/String" ∈ qs_exp := qs_m9 hi List.mem_cons_self
theorem qs_k2 {i : Nat} (hi : i < 18) : Cond.eq (.field (qs_tm i) "java/lang/String" "coder" "B") (.int 0) ∈ qs_exp := qs_m9 hi (List.mem_cons_of_mem _ List.mem_cons_self)
theorem qs_k3 {i : Nat} (hi : i < 18) : Cond.arrayOf (.field (qs_tm i) "java/lang/String" "value" "[B") .byte ∈ qs_exp := qs_m9 hi (List.mem_cons_of_mem _ (List.mem_cons_of_mem _ List.mem_cons_self))
theorem qs_k4 {i : Nat} (hi : i < 18) : Cond.eq (.length (.field (qs_tm i) "java/lang/String" "value" "[B")) (.int (Int32.ofNat (qs_ln.getD i 0))) ∈ qs_exp := qs_m9 hi (List.mem_cons_of_mem _ (List.mem_cons_of_mem _ (List.mem_cons_of_mem _ List.mem_cons_self)))
theorem qs_k5 {i j : Nat} (hi : i < 18) (hj : j < qs_ln.getD i 0) : Cond.eq (.elem (.field (qs_tm i) "java/lang/String" "value" "[B") (.int (Int32.ofNat j))) (.int ((qs_by.getD i []).getD j 0)) ∈ qs_exp := qs_m9 hi (List.mem_cons_of_mem _ (List.mem_cons_of_mem _ (List.mem_cons_of_mem _ (List.mem_cons_of_mem _ (List.mem_map.mpr ⟨j, List.mem_range.mpr hj, rfl⟩)))))
section
variable {t : Term} {ty : FieldType} {n m : Nat} {f : Nat → Int32}
theorem qs_r1 : Cond.arrayOf t ty ∈ qs_ar t ty n f m := List.mem_cons_self
theorem qs_r2 : Cond.eq (.length t) (.int (Int32.ofNat n)) ∈ qs_ar t ty n f m := List.mem_cons_of_mem _ List.mem_cons_self
theorem qs_r3 {j : Nat} (hj : j < m) : Cond.eq (.elem t (.int (Int32.ofNat j))) (.int (f j)) ∈ qs_ar t ty n f m := List.mem_cons_of_mem _ (List.mem_cons_of_mem _ (List.mem_map.mpr ⟨j, List.mem_range.mpr hj, rfl⟩))
end
theorem qs_g7 : ∀ i, i < 18 → qs_ln.getD i 0 < 2 ^ 31 := by decide +kernel
/-- the private methods that a StringBuilder selects -/
theorem qs_sel {y x z : MethodName} {s : State} {args : Array Value} {n : Nat} (hy : y.cls ≠ "java/lang/invoke/MethodHandle" ∧ y.cls ≠ "java/lang/invoke/VarHandle") (hins : (Cond.instantiable "java/lang/StringBuilder" n).before args s = true) (hpriv : (Cond.privateMethod y).before args s = true) (hinst : (Cond.instanceMethod y).before args s = true)
    (hm : (Cond.selects "java/lang/StringBuilder" x z).before args s = true) (hz : z.cls = y.cls) : (Cond.selects "java/lang/StringBuilder" y y).before args s = true := by
  obtain ⟨c, k, hc, -⟩ := Cond.instantiable_spec hins
  obtain ⟨c', r, m, -, -, h3, -, kP, hkP, hkI⟩ := Cond.selects_spec hm
  obtain ⟨mk, methM, hnamed, hmethM, -, -⟩ := Cond.instanceMethod_spec hinst
  have hfound : s.methodFound? y.cls y.name y.desc = some mk := State.methodFound?_of_named hnamed hy
  have hsel : selectMethod {} s.vm c mk = .method mk := selectMethod_private hmethM (Cond.privateMethod_at hpriv mk methM hnamed hmethM)
  have hcls : mk.cls = m.cls := by
    have h4 := findClass_of_methodNamed h3
    rw [hz] at h4
    exact Option.some.inj ((findClass_of_methodNamed hnamed).symm.trans h4)
  simp only [Cond.before, Cond.holds, Cond.value, hc, hfound, hnamed, hsel, hcls, hkP]
  simp; exact hkI
theorem qs_words {args : Array Value} {s : State} (hts : ∀ w ∈ lw_tbl, w.before args s = true) : ∀ w ∈ qm_tbl, w.before args s = true := by
  intro w hw
  rcases List.mem_append.mp hw with hw | hw
  · exact hts w hw
  · have h1 := hts (.instantiable "java/lang/StringBuilder" 4) (pm_wn_of (w := 996) (by decide +kernel))
    have h2 := hts (.selects "java/lang/StringBuilder" ⟨"java/lang/AbstractStringBuilder", "isLatin1", "()Z"⟩ ⟨"java/lang/AbstractStringBuilder", "isLatin1", "()Z"⟩) (pm_wn_of (w := 1071) (by decide +kernel))
    have key : ∀ y : MethodName, y.cls = "java/lang/AbstractStringBuilder" → Cond.privateMethod y ∈ lw_tbl → Cond.instanceMethod y ∈ lw_tbl → (Cond.selects "java/lang/StringBuilder" y y).before args s = true := fun y e h3 h4 => qs_sel (by rw [e]; decide) h1 (hts _ h3) (hts _ h4) h2 e.symm
    simp only [qm_xs, List.mem_cons, List.not_mem_nil, or_false] at hw
    rcases hw with rfl | rfl | rfl | rfl
    · exact key qm_y1 rfl (pm_wn_of (w := 1038) (by decide +kernel)) (pm_wn_of (w := 1039) (by decide +kernel))
    · exact key qm_y2 rfl (pm_wn_of (w := 1042) (by decide +kernel)) (pm_wn_of (w := 1043) (by decide +kernel))
    · exact key qm_y3 rfl (pm_wn_of (w := 1090) (by decide +kernel)) (pm_wn_of (w := 1091) (by decide +kernel))
    · exact key qm_y4 rfl (pm_wn_of (w := 1094) (by decide +kernel)) (pm_wn_of (w := 1095) (by decide +kernel))
theorem pt_arr {args : Array Value} {s : State} {ty : FieldType} (h : (Cond.arrayClass ty).before args s = true) : ∃ cA, ArrOfT s cA ty ∧ s.vm.findClass ("[" ++ ty.toString) = some cA := by
  obtain ⟨cA, kA, comp, h1, h2, h3⟩ := Cond.arrayClass_spec h
  exact ⟨cA, fun n z => ⟨fun k h => (by cases h), kA, h2, comp, h3⟩, h1⟩
theorem pt_arrA {args : Array Value} {s : State} {t : FieldType} (h : (Cond.arrayOver (.array t)).before args s = true) {c0 : ClassId} (h0 : s.vm.findClass ("[" ++ t.toString) = some c0) : ∃ cA, ArrOfT s cA (.array t) ∧ s.vm.findClass ("[" ++ (FieldType.array t).toString) = some cA ∧ ∃ k, s.vm.classes[cA]? = some k ∧ k.kind = .array c0 (.array t) := by
  have h1 : s.vm.findClass (FieldType.array t).toString = some c0 := h0
  simp only [Cond.before, Cond.holds, Cond.value, h1, Option.bind_some, beq_iff_eq] at h
  obtain ⟨c, h2, h3⟩ := Option.bind_eq_some_iff.mp h
  obtain ⟨k, h4, h5⟩ := Option.map_eq_some_iff.mp h3
  obtain ⟨h6, h7, -⟩ := Array.findIdx?_eq_some_iff_getElem.mp h2
  rw [(Array.getElem?_eq_some_iff.mp h4).2] at h7
  have h8 : k.kind = .array c0 (.array t) ∧ s.vm.findClass ("[" ++ (FieldType.array t).toString) = some c := by
    cases hk : k.kind <;> simp_all
  exact ⟨c, fun n z => ⟨fun k h => (by cases h), k, h4, c0, h8.1⟩, h8.2, k, h4, h8.1⟩
theorem pt_arrO {args : Array Value} {s : State} {n : String} (h : (Cond.arrayOver (.object n)).before args s = true) : ∃ cA, ArrOfT s cA (.object n) ∧ va_RA s cA (.object n) := by
  obtain ⟨comp, c, k, h1, -, h2, h3, h4⟩ := Cond.arrayOver_spec h
  exact ⟨c, fun n z => ⟨fun k h => (by cases h), k, h2, comp, h3⟩, k, comp, h2, h3, h1, h4⟩
theorem qt_known {args : Array Value} {s : State} (hts : ∀ w ∈ lw_tbl, w.before args s = true) : ∃ D : va_G, ∀ (c : Nat) (q : vw_C), qt_cl[c]? = some q → u_Kn s q.1 q.2.1 q.2.2 (D.1 c) (D.2 c) := by
  have key : ∀ c : Nat, ∃ (cC : ClassId) (iS : Nat → Nat), ∀ q : vw_C, qt_cl[c]? = some q → u_Kn s q.1 q.2.1 q.2.2 cC iS := by
    intro c
    cases hq : qt_cl[c]? with
    | none => exact ⟨0, fun _ => 0, fun q h => by cases h⟩
    | some q =>
      obtain ⟨C, T, N⟩ := q
      obtain ⟨ty, hin, -⟩ := pt_E1.2.1 c C T N hq
      have hi : ∃ n, Cond.instantiable C n ∈ lw_tbl := by
        match c, hq with
        | 0, h => cases h; exact ⟨8, pm_wn_of (w := 79) (by decide +kernel)⟩
        | 1, h => cases h; exact ⟨2, pm_wn_of (w := 87) (by decide +kernel)⟩
        | 2, h => cases h; exact ⟨16, pm_wn_of (w := 101) (by decide +kernel)⟩
        | 3, h => cases h; exact ⟨16, pm_wn_of (w := 193) (by decide +kernel)⟩
        | 4, h => cases h; exact ⟨7, pm_wn_of (w := 306) (by decide +kernel)⟩
        | 5, h => cases h; exact ⟨3, pm_wn_of (w := 334) (by decide +kernel)⟩
        | 6, h => cases h; exact ⟨15, pm_wn_of (w := 350) (by decide +kernel)⟩
        | 7, h => cases h; exact ⟨8, pm_wn_of (w := 403) (by decide +kernel)⟩
        | 8, h => cases h; exact ⟨8, pm_wn_of (w := 437) (by decide +kernel)⟩
        | 9, h => cases h; exact ⟨17, pm_wn_of (w := 978) (by decide +kernel)⟩
        | 10, h => cases h; exact ⟨4, pm_wn_of (w := 996) (by decide +kernel)⟩
        | 11, h => cases h; exact ⟨4, pm_wn_of (w := 1186) (by decide +kernel)⟩
        | 12, h => cases h; exact ⟨3, pm_wn_of (w := 1486) (by decide +kernel)⟩
        | 13, h => cases h; exact ⟨4, pm_wn_of (w := 1597) (by decide +kernel)⟩
        | 14, h => cases h; exact ⟨1, pm_wn_of (w := 1522) (by decide +kernel)⟩
        | n + 15, h => cases h
      obtain ⟨n, hi⟩ := hi
      obtain ⟨cC, iS, hK⟩ := u_known hts (fun w hw => (List.mem_filter.mp (hin w hw)).1) (hts _ hi)
      exact ⟨cC, iS, fun q h => by cases h; exact hK⟩
  exact ⟨(fun c => Classical.choose (key c), fun c => Classical.choose (Classical.choose_spec (key c))), fun c q h => Classical.choose_spec (Classical.choose_spec (key c)) q h⟩
theorem qs_fw {args : Array Value} {s : State} (hts : ∀ w ∈ lw_tbl, w.before args s = true) : ∀ t ∈ qm_fw, va_Fw t.1 t.2.1 t.2.2 s := by
  intro t ht
  simp only [qm_fw, List.mem_cons, List.not_mem_nil, or_false] at ht
  rcases ht with rfl | rfl | rfl | rfl
  · exact va_Fw.of (hts _ (pm_wn_of (w := 1537) (by decide +kernel))) (hts _ (pm_wn_of (w := 1536) (by decide +kernel))) (hts _ (pm_wn_of (w := 1542) (by decide +kernel))) (hts _ (pm_wn_of (w := 1540) (by decide +kernel))) (hts _ (pm_wn_of (w := 1538) (by decide +kernel)))
  · exact va_Fw.of (hts _ (pm_wn_of (w := 1590) (by decide +kernel))) (hts _ (pm_wn_of (w := 1589) (by decide +kernel))) (hts _ (pm_wn_of (w := 1594) (by decide +kernel))) (hts _ (pm_wn_of (w := 1592) (by decide +kernel))) (hts _ (pm_wn_of (w := 1538) (by decide +kernel)))
  · exact va_Fw.of (hts _ (pm_wn_of (w := 1618) (by decide +kernel))) (hts _ (pm_wn_of (w := 1617) (by decide +kernel))) (hts _ (pm_wn_of (w := 1623) (by decide +kernel))) (hts _ (pm_wn_of (w := 1621) (by decide +kernel))) (hts _ (pm_wn_of (w := 1619) (by decide +kernel)))
  · exact va_Fw.of (hts _ (pm_wn_of (w := 1628) (by decide +kernel))) (hts _ (pm_wn_of (w := 1627) (by decide +kernel))) (hts _ (pm_wn_of (w := 1632) (by decide +kernel))) (hts _ (pm_wn_of (w := 1630) (by decide +kernel))) (hts _ (pm_wn_of (w := 1619) (by decide +kernel)))
