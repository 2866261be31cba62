/-! ===== the law's start ===== -/
def pt_S0 : pm_S := (0, fun _ _ => 0, fun _ _ => 0, fun _ _ => 0)
def pt_ad (base tO aK aV b : Nat) : Nat → Nat := fun a => if a < 200 then base + a else if a = 200 then tO else if a = 201 then aK else if a = 202 then aV else b
def pt_tm : Term := .string "TurnCabinet$Reader" 46
def pt_tx : String := "divisors need care tries tire office party seats at walk worth stance bar "
def pt_fl : List Cond := flatC (Jvm.Cond.and given_1 narrow_1)
theorem pt_f1 : Cond.eq (.static "java/lang/String" "COMPACT_STRINGS" "Z") (.int 1) ∈ pt_fl := by decide +kernel
theorem pt_f2 : Cond.isRef (.static "jdk/internal/util/Preconditions" "SIOOBE_FORMATTER" "Ljava/util/function/BiFunction;") ∈ pt_fl := by decide +kernel
theorem pt_f3 : Cond.arrayOf (.static "TurnCabinet$Coalitions" "ORDERS" "[I") .int ∈ pt_fl := by decide +kernel
theorem pt_f4 : Cond.eq (.length (.static "TurnCabinet$Coalitions" "ORDERS" "[I")) (.int (Int32.ofNat 8)) ∈ pt_fl := by decide +kernel
theorem pt_f5 : ∀ j, j < 8 → Cond.eq (.elem (.static "TurnCabinet$Coalitions" "ORDERS" "[I") (.int (Int32.ofNat j))) (.int (pt_ord j)) ∈ pt_fl := by decide +kernel
theorem pt_f6 : Cond.exactly pt_tm "java/lang/String" ∈ pt_fl := by decide +kernel
theorem pt_f7 : Cond.eq (.field pt_tm "java/lang/String" "coder" "B") (.int 0) ∈ pt_fl := by decide +kernel
theorem pt_f8 : Cond.arrayOf (.field pt_tm "java/lang/String" "value" "[B") .byte ∈ pt_fl := by decide +kernel
theorem pt_f9 : Cond.eq (.length (.field pt_tm "java/lang/String" "value" "[B")) (.int (Int32.ofNat 74)) ∈ pt_fl := by decide +kernel
set_option maxRecDepth 100000 in
theorem pt_f10 : ∀ j, j < 74 → Cond.eq (.elem (.field pt_tm "java/lang/String" "value" "[B") (.int (Int32.ofNat j))) (.int (([pt_txl].getD 0 []).getD j 0)) ∈ pt_fl := by decide +kernel
theorem pt_ssn : pm_ss pt_Sg 81 = 14012 := by decide +kernel
theorem pt_arr {args : Array Value} {s : State} {ty : FieldType} (h : (Cond.arrayClass ty).before args s = true) : ∃ cA, ArrOfT s cA ty ∧ s.vm.findClass ("[" ++ ty.toString) = some cA := by
  obtain ⟨cA, kA, comp, h1, h2, h3⟩ := Cond.arrayClass_spec h
  exact ⟨cA, fun n z => ⟨fun k h => (by cases h), kA, h2, comp, h3⟩, h1⟩
theorem pt_known {args : Array Value} {s : State} (hts : ∀ w ∈ lw_tbl, w.before args s = true) : ∃ D : va_G, ∀ (c : Nat) (q : vw_C), pt_cl[c]? = some q → u_Kn s q.1 q.2.1 q.2.2 (D.1 c) (D.2 c) := by
  have key : ∀ c : Nat, ∃ (cC : ClassId) (iS : Nat → Nat), ∀ q : vw_C, pt_cl[c]? = some q → u_Kn s q.1 q.2.1 q.2.2 cC iS := by
    intro c
    cases hq : pt_cl[c]? with
    | none => exact ⟨0, fun _ => 0, fun q h => by cases h⟩
    | some q =>
      obtain ⟨C, T, N⟩ := q
      obtain ⟨ty, hin, -⟩ := pt_E1.2.1 c C T N hq
      have hi : ∃ n, Cond.instantiable C n ∈ lw_tbl := by
        match c, hq with
        | 0, h => cases h; exact ⟨8, pm_wn_of (w := 143) (by decide +kernel)⟩
        | 1, h => cases h; exact ⟨2, pm_wn_of (w := 151) (by decide +kernel)⟩
        | 2, h => cases h; exact ⟨16, pm_wn_of (w := 165) (by decide +kernel)⟩
        | 3, h => cases h; exact ⟨16, pm_wn_of (w := 259) (by decide +kernel)⟩
        | 4, h => cases h; exact ⟨7, pm_wn_of (w := 373) (by decide +kernel)⟩
        | 5, h => cases h; exact ⟨3, pm_wn_of (w := 401) (by decide +kernel)⟩
        | 6, h => cases h; exact ⟨15, pm_wn_of (w := 417) (by decide +kernel)⟩
        | 7, h => cases h; exact ⟨8, pm_wn_of (w := 470) (by decide +kernel)⟩
        | 8, h => cases h; exact ⟨8, pm_wn_of (w := 504) (by decide +kernel)⟩
        | 9, h => cases h; exact ⟨66, pm_wn_of (w := 1397) (by decide +kernel)⟩
        | n + 10, h => cases h
      obtain ⟨n, hi⟩ := hi
      obtain ⟨cC, iS, hK⟩ := u_known hts (fun w hw => (List.mem_filter.mp (hin w hw)).1) (hts _ hi)
      exact ⟨cC, iS, fun q h => by cases h; exact hK⟩
  exact ⟨(fun c => Classical.choose (key c), fun c => Classical.choose (Classical.choose_spec (key c))), fun c q h => Classical.choose_spec (Classical.choose_spec (key c)) q h⟩
