/-! THE CLAIM OUT OF ONE WALK OF THE LAW'S BODY. Your part is whole_start (and what it stands on); all else here is the same for every law, but numbers. -/
def R_law : String := "TurnCabinetLaw"
def lw_P (b : Addr) (xs : List Int32) (args : Array Value) (s : State) : Prop := args = #[.ref b] ∧ s.IntsAt b xs ∧ xs.length ≤ 260 ∧ (Jvm.Cond.and given_1 narrow_1).before args s = true
def lw_Q (_ : Array Value) (s : State) (o : Outcome) (t : State) : Prop := o = .returned (some (.int 1)) ∧ Framed s o t [] 600000 7302249
def lw_Z (below : List Frame) (a : Array Value) (s : State) : State → Prop := fun t => ∃ o, t.status = .running ∧ Ended t below o ∧ lw_Q a s o t
/-- the law's own end, with 1 on the stack, nothing written that was there before, its room as the claim has it -/
theorem lw_ret {p : Program} {l : Launch} {e : Env} {s : State} {m : MethodId} {below : List Frame} {meth : Method} {c : Code} {b : Nat} (hx : p.tables.exec = Jvm.exec) (hb : c.code = code) (hr : meth.sig.returnType = ret) (hlocks : meth.locks = false) {pc : Nat} {H : Heap} {ls : Array Slot} (hdg : decode code pc = .ok (.ireturn, 1)) : W p l e room_1 s m #[Value.ref b] below meth c H [] 600000 7302249 (lw_Z below #[Value.ref b] s) (F0 m pc ls [.int 1]) := by
  intro T hT X
  obtain ⟨fs, hret, hrun, hended, hW, hframe⟩ := X.leave (v := some (.int 1)) (hlocks := hlocks) (fun h => by rw [hr] at h; cases h)
  have hmeth' : T.vm.method? m = some meth := X.method'
  refine ⟨T.setFrames fs, ?_, .returned (some (.int 1)), hrun, hended, rfl, ⟨_, rfl⟩, hW, hframe⟩
  jvm_step X.here [X.here.top, hx, hb, hdg, hmeth', hr, ret, narrow_b1]
  (try refine ⟨rfl, ?_⟩); (try refine ⟨rfl, ?_⟩)
  first | (intro acts; rw [hret _ acts rfl rfl rfl]) | rw [hret _ _ rfl rfl rfl]
  exact Steps.refl _
/-- what holds at the law's entry: the machine, the code, the tables' words (any of lw_tbl by 'hts w (by decide +kernel)'), the script of L ints xs at the cell b, what the Statement gives of the start (any of its parts by flat_of_before) -/
def lw_At (p : Program) (s : State) (m : MethodId) (meth : Method) (c : Code) (b L : Nat) (xs : Nat → Int32) : Prop :=
  p.tables.exec = Jvm.exec ∧ c.code = code ∧ meth.sig.returnType = ret ∧ c.maxLocals = 9 ∧ s.vm.findClass R_law = some m.cls ∧ (∀ w ∈ lw_tbl, w.before #[Value.ref b] s = true) ∧ va_X b L xs s s.heap ∧ b < s.heap.size ∧ meth.locks = false ∧ (Jvm.Cond.and given_1 narrow_1).before #[Value.ref b] s = true
-- ===== YOUR PART BEGINS =====
theorem qs_mono {s s' : State} {locs : List Loc} {c n c' n' : Nat} (h : s.sameButNew s' locs c n) (hc : c ≤ c') (hn : n ≤ n') : s.sameButNew s' locs c' n' := ⟨h.1, h.2.1, Nat.le_trans h.2.2.1 (Nat.add_le_add_left hc _), h.2.2.2.1, Nat.le_trans h.2.2.2.2.1 hn, h.2.2.2.2.2⟩
/-- the law's end, in no more room than the claim has -/
theorem qs_ret {p : Program} {l : Launch} {e : Env} {s : State} {m : MethodId} {below : List Frame} {meth : Method} {c : Code} {b cells slots : Nat} (hcs : cells ≤ 600000) (hss : slots ≤ 7302249) (hx : p.tables.exec = Jvm.exec) (hb : c.code = code) (hr : meth.sig.returnType = ret) (hlocks : meth.locks = false) {pc : Nat} {H : Heap} {ls : Array Slot} (hdg : decode code pc = .ok (.ireturn, 1)) : W p l e room_1 s m #[Value.ref b] below meth c H [] cells slots (lw_Z below #[Value.ref b] s) (F0 m pc ls [.int 1]) := by
  intro T hT X
  obtain ⟨fs, hret, hrun, hended, hW, hframe⟩ := X.leave (v := some (.int 1)) (hlocks := hlocks) (fun h => by rw [hr] at h; cases h)
  have hmeth' : T.vm.method? m = some meth := X.method'
  refine ⟨T.setFrames fs, ?_, .returned (some (.int 1)), hrun, hended, rfl, ⟨_, rfl⟩, hW, qs_mono hframe hcs hss⟩
  jvm_step X.here [X.here.top, hx, hb, hdg, hmeth', hr, ret, narrow_b1]
  (try refine ⟨rfl, ?_⟩); (try refine ⟨rfl, ?_⟩)
  first | (intro acts; rw [hret _ acts rfl rfl rfl]) | rw [hret _ _ rfl rfl rfl]
  exact Steps.refl _
/-- which of the strings -/
def qs_i (k : Nat) : Nat := bif Nat.beq k 17 then 16 else k
theorem qs_i_lt {k : Nat} (h : k < 18) : qs_i k < 18 := by
  unfold qs_i
  cases Nat.beq k 17
  · exact h
  · exact (show 16 < 18 by decide)
theorem qs_i_eq : ∀ k, k < 18 → qs_ln.getD (qs_i k) 0 = (qt_str.getD k []).length ∧ qs_by.getD (qs_i k) [] = qt_str.getD k [] := by decide +kernel
def qs_st (base J b : Nat) (adK adV adI : Nat → Nat) (aE aC d1 d2 : Nat) : Nat → Nat → Nat := fun s a => match s with
  | 0 => base + J
  | 2 => b
  | 16 => adK (qs_i (a - 11))
  | 17 => adV (qs_i (a - 31))
  | 24 => aE
  | 25 => adI (a - 101)
  | 26 => aC
  | 28 => d1
  | 29 => d2
  | _ => 0
def pt_tx : String := "divisors need care tries tire office party seats at walk worth stance bar "
def qs_rh (base J tO aK aV : Nat) : Nat → Nat := fun a => if a < 200 then base + J + a else if a = 201 then aK else if a = 202 then aV else tO
theorem qs_xs {L j : Nat} {xs : Nat → Int32} (h : j < L) : ((List.range L).map xs).getD j 0 = xs j := by
  rw [List.getD_eq_getElem?_getD, List.getElem?_map, List.getElem?_range h]
  rfl
set_option maxHeartbeats 4000000 in
theorem whole_of {p : Program} {e : Env} {s : State} {m : MethodId} {below : List Frame} {meth : Method} {c : Code} (l : Launch) {b L : Nat} {xs : Nat → Int32} (hL : L < 2147483648) (C0 : lw_At p s m meth c b L xs) : W p l e room_1 s m #[Value.ref b] below meth c s.heap [] 0 0 (lw_Z below #[Value.ref b] s) (entryFrame m ([Value.ref b] : List Value).toArray 9) := by
  obtain ⟨hx, hb, hr, hml, hown, hts, hX, hbl, hlocks, hgv⟩ := id C0
  have hs := qs_of hgv
  obtain ⟨J, S', hrun, hc, hm⟩ := law_one (L0 := L) (xs := (List.range L).map xs) hL
  obtain ⟨n, hrun⟩ := qm_sem_iff.mp hrun
  have hA : ∀ a : Nat, a < s.heap.size → ¬ (s.heap.size ≤ a) := fun a h => by omega
  have hq : ∀ w ∈ qm_G, w.before #[Value.ref b] s = true := fun w hw => qs_words hts w (List.mem_filter.mp hw).1
  obtain ⟨D, hKn⟩ := qt_known hts
  obtain ⟨c0, a0, f0⟩ := pt_arr (hts (.arrayClass .int) (pm_wn_of (w := 191) (by decide +kernel)))
  obtain ⟨c1, a1, f1⟩ := pt_arr (hts (.arrayClass .long) (pm_wn_of (w := 304) (by decide +kernel)))
  obtain ⟨c2, a2, f2⟩ := pt_arr (hts (.arrayClass .byte) (pm_wn_of (w := 99) (by decide +kernel)))
  obtain ⟨c3, a3, f3⟩ := pt_arr (hts (.arrayClass .boolean) (pm_wn_of (w := 401) (by decide +kernel)))
  obtain ⟨c4, a4, f4, k4⟩ := pt_arrA (hts (.arrayOver (.array .int)) (pm_wn_of (w := 1154) (by decide +kernel))) f0
  obtain ⟨c5, a5, f5, k5⟩ := pt_arrA (hts (.arrayOver (.array .boolean)) (pm_wn_of (w := 1156) (by decide +kernel))) f3
  have hOb := hts (.arrayOver (.object "java/lang/Object")) (pm_wn_of (w := 1583) (by decide +kernel))
  obtain ⟨c6, a6, f6⟩ := pt_arrO hOb
  obtain ⟨tO, hO1, hO2⟩ := va_Tof (N := 8) (f := fun j => .int (pt_ord j)) (A := fun q => s.heap.size ≤ q) (by decide) (hs _ (qs_m4 qs_r1)) (va_eqt (hs _ (qs_m4 qs_r2))) (fun j hj => va_eqt (hs _ (qs_m4 (qs_r3 hj)))) hA
  obtain ⟨d1, hd1, hd1'⟩ := va_Tof (N := 100) (f := fun j => .int (48 + nI (j % 10))) (A := fun q => s.heap.size ≤ q) (by decide) (hs _ (qs_m2 qs_r1)) (va_eqt (hs _ (qs_m2 qs_r2))) (fun j hj => va_eqt (hs _ (qs_m2 (qs_r3 hj)))) hA
  obtain ⟨d2, hd2, hd2'⟩ := va_Tof (N := 100) (f := fun j => .int (48 + nI (j / 10))) (A := fun q => s.heap.size ≤ q) (by decide) (hs _ (qs_m3 qs_r1)) (va_eqt (hs _ (qs_m3 qs_r2))) (fun j hj => va_eqt (hs _ (qs_m3 (qs_r3 hj)))) hA
  obtain ⟨aE, hE1, hE2⟩ := va_Tof (N := 0) (f := fun _ => .null) (A := fun q => s.heap.size ≤ q) (by decide) (hs _ (qs_m5 qs_r1)) (va_eqt (hs _ (qs_m5 qs_r2))) (fun j hj => absurd hj (Nat.not_lt_zero j)) hA
  obtain ⟨adI, hI1, hI2⟩ := vb_Cof (A := fun q => s.heap.size ≤ q) (st := qs_ca) rfl (va_eqt (hs _ (qs_m7 qs_r2))) (hs _ qs_m8) hA
  obtain ⟨aC, hC1, hC2⟩ := va_Tof (N := 256) (f := fun j => .ref (adI j)) (A := fun q => s.heap.size ≤ q) (by decide) (hs _ (qs_m7 qs_r1)) (va_eqt (hs _ (qs_m7 qs_r2))) hI2 hA
  obtain ⟨adK, adV, hSt, hStE⟩ := vk_Sof (N := 18) (tm := qs_tm) (len := qs_ln) (byt := qs_by) (A := fun q => s.heap.size ≤ q) qs_g7 (fun i hi => hs _ (qs_k1 hi)) (fun i hi => hs _ (qs_k2 hi)) (fun i hi => hs _ (qs_k3 hi)) (fun i hi => hs _ (qs_k4 hi)) (fun i hi j hj => hs _ (qs_k5 hi hj)) (fun i j hi hj hij => (qs_ne hi hj hij).imp (hs _) (hs _)) hA
  obtain ⟨s1, s2, s3, s4⟩ := hSt.1 17 (by decide)
  have hF := va_Zqof (A := fun q => s.heap.size ≤ q) (hts (.laysStatic "jdk/internal/util/Preconditions" "SIOOBE_FORMATTER" "Ljava/util/function/BiFunction;") (pm_wn_of (w := 226) (by decide +kernel))) (hts (.initialized "jdk/internal/util/Preconditions") (pm_wn_of (w := 59) (by decide +kernel))) (hs _ (qs_m1 (List.mem_cons_of_mem _ List.mem_cons_self))) hA
  obtain ⟨fv, hfv, hF2⟩ : ∃ fv : Value, (fv = .null ∨ ∃ t, fv = .ref t) ∧ va_Z "jdk/internal/util/Preconditions" "SIOOBE_FORMATTER" "Ljava/util/function/BiFunction;" fv (fun q => s.heap.size ≤ q) s s.heap := by
    rcases hF with h | ⟨t, h⟩
    · exact ⟨.null, Or.inl rfl, h⟩
    · exact ⟨.ref t, Or.inr ⟨t, rfl⟩, h⟩
  have hZ0 := va_Zref (A := fun q => s.heap.size ≤ q) (hts (.laysStatic "TurnCabinet$Coalitions" "ORDERS" "[I") (pm_wn_of (w := 1401) (by decide +kernel))) (hts (.initialized "TurnCabinet$Coalitions") (pm_wn_of (w := 69) (by decide +kernel))) hO1 hA
  have hZ1 := va_Zof (A := fun q => s.heap.size ≤ q) (hts (.laysStatic "java/lang/String" "COMPACT_STRINGS" "Z") (pm_wn_of (w := 210) (by decide +kernel))) (hts (.initialized "java/lang/String") (pm_wn_of (w := 53) (by decide +kernel))) (va_eqi (hs _ (qs_m1 List.mem_cons_self))) hA
  have hZ2 := va_Zref (A := fun q => s.heap.size ≤ q) (hts (.laysStatic "java/util/ArrayList" "DEFAULTCAPACITY_EMPTY_ELEMENTDATA" "[Ljava/lang/Object;") (pm_wn_of (w := 1498) (by decide +kernel))) (hts (.initialized "java/util/ArrayList") (pm_wn_of (w := 75) (by decide +kernel))) hE1 hA
  have hZ3 := va_Zref (A := fun q => s.heap.size ≤ q) (hts (.laysStatic "java/lang/Integer$IntegerCache" "cache" "[Ljava/lang/Integer;") (pm_wn_of (w := 1520) (by decide +kernel))) (hts (.initialized "java/lang/Integer$IntegerCache") (pm_wn_of (w := 76) (by decide +kernel))) hC1 hA
  have hZ4 := va_Zof (A := fun q => s.heap.size ≤ q) (hts (.laysStatic "java/lang/Integer$IntegerCache" "high" "I") (pm_wn_of (w := 1518) (by decide +kernel))) (hts (.initialized "java/lang/Integer$IntegerCache") (pm_wn_of (w := 76) (by decide +kernel))) (va_eqi (hs _ (qs_m6 List.mem_cons_self))) hA
  have hZ5 := va_Zref (A := fun q => s.heap.size ≤ q) (hts (.laysStatic "java/lang/Integer" "DigitOnes" "[B") (pm_wn_of (w := 1137) (by decide +kernel))) (hts (.initialized "java/lang/Integer") (pm_wn_of (w := 62) (by decide +kernel))) hd1 hA
  have hZ6 := va_Zref (A := fun q => s.heap.size ≤ q) (hts (.laysStatic "java/lang/Integer" "DigitTens" "[B") (pm_wn_of (w := 1139) (by decide +kernel))) (hts (.initialized "java/lang/Integer") (pm_wn_of (w := 62) (by decide +kernel))) hd2 hA
  have hscr : va_T .int b L (fun j => .int (((List.range L).map xs).getD j 0)) (fun q => s.heap.size ≤ q) s s.heap := by
    obtain ⟨scr, g1, g2, g3, g4, g5⟩ := hX
    exact ⟨scr, g1, g2, g3, by rw [g4]; exact Nat.le_refl _, by rw [g4], fun j hj => by show scr.slots[j]? = some (.int (((List.range L).map xs).getD j 0)); rw [qs_xs hj]; exact g5 j hj, hA b hbl⟩
  have hE3 : qm_E3 qt_qs (qt_C L ((List.range L).map xs)) qt_so s.heap.size J (qs_st s.heap.size J b adK adV adI aE aC d1 d2) fv (qs_rh s.heap.size J tO (adK 17) (adV 17)) := qt_E3 (fun a ha => if_pos (by omega)) hfv rfl
  have hK : va_K D qt_cl (qm_tys (fun t => match t with | 0 => c0 | 1 => c1 | 2 => c2 | 3 => c3 | 4 => c4 | 5 => c5 | _ => c6)) s := by
    refine ⟨hKn, fun k q hq => ?_⟩
    match k, hq with
    | 0, h => cases h; exact ⟨a0, f0⟩
    | 1, h => cases h; exact ⟨a1, f1⟩
    | 2, h => cases h; exact ⟨a2, f2⟩
    | 3, h => cases h; exact ⟨a3, f3⟩
    | 4, h => cases h; exact ⟨a4, f4⟩
    | 5, h => cases h; exact ⟨a5, f5⟩
    | 6, h => cases h; exact ⟨a6, f6⟩
    | k + 7, h => cases h
  have hPZ : pm_Zf (pt_R 8 pt_ord) (qs_rh s.heap.size J tO (adK 17) (adV 17)) fv (fun q => s.heap.size ≤ q) s s.heap := by
    refine ⟨hZ0, hZ1, hF2, s2, s3, s1, fun r t n f h => ?_⟩
    unfold pt_R at h
    split at h
    · cases h; exact hO2
    · cases h; exact s4
    · cases h; exact hO2
    · cases h
  have hZf : qm_Zf qt_qs (qt_C L ((List.range L).map xs)) qt_so (qs_st s.heap.size J b adK adV adI aE aC d1 d2) fv (qs_rh s.heap.size J tO (adK 17) (adV 17)) qt_cl (pt_R 8 pt_ord) (fun q => s.heap.size ≤ q) s s.heap := by
    refine ⟨hPZ, hZ2, hZ3, hZ4, hZ5, hZ6, ?_, ?_, hE2, ?_⟩
    · intro s' a t u h hqs ht hle
      rcases h with ⟨rfl, rfl⟩ | ⟨rfl, h⟩ | ⟨rfl, h⟩ | ⟨rfl, h⟩ | ⟨rfl, h⟩ | ⟨rfl, h⟩ | ⟨rfl, h⟩ | ⟨rfl, h⟩ | ⟨rfl, h⟩
      · cases hqs; exact hscr
      · cases hqs
      · cases hqs
        obtain ⟨e1, e2⟩ := qs_i_eq (a - 31) (by omega)
        have h4 := (hSt.1 (qs_i (a - 31)) (qs_i_lt (by omega))).2.2.2
        rw [e1, e2] at h4
        exact h4
      · exact nomatch (show false = true from ht)
      · cases hqs
      · cases hqs; exact absurd hle (by decide)
      · cases hqs; exact hd1'
      · cases hqs; exact hd2'
      · cases hqs
    · intro s' a t u h hqs ht hle
      rcases h with ⟨rfl, rfl⟩ | ⟨rfl, h⟩ | ⟨rfl, h⟩ | ⟨rfl, h⟩ | ⟨rfl, h⟩ | ⟨rfl, h⟩ | ⟨rfl, h⟩ | ⟨rfl, h⟩ | ⟨rfl, h⟩
      · cases hqs; exact absurd hle (by decide)
      · cases hqs
      · cases hqs; exact absurd hle (by decide)
      · exact nomatch (show false = true from ht)
      · cases hqs
      · cases hqs
        have e1 : (fun j => Value.ref (adI (j + 101 - 101))) = fun j => .ref (adI j) := funext fun j => by rw [Nat.add_sub_cancel]
        show va_T (.object "java/lang/Integer") aC 256 (fun j => Value.ref (adI (j + 101 - 101))) _ _ _
        rw [e1]
        exact hC2
      · cases hqs; exact absurd hle (by decide)
      · cases hqs; exact absurd hle (by decide)
      · cases hqs
    · intro s' a c' ks C T' N h hn0 ht hqs hcl
      rcases h with ⟨rfl, rfl⟩ | ⟨rfl, h⟩ | ⟨rfl, h⟩ | ⟨rfl, h⟩ | ⟨rfl, h⟩ | ⟨rfl, h⟩ | ⟨rfl, h⟩ | ⟨rfl, h⟩ | ⟨rfl, h⟩
      · cases hqs
      · cases hqs
        cases hcl
        obtain ⟨g1, g2, g3, -⟩ := hSt.1 (qs_i (a - 11)) (qs_i_lt (by omega))
        refine ⟨g1, fun k kd hk => ?_⟩
        match k, hk with
        | 0, hk =>
          cases hk
          show va_OF "java/lang/String" "value" "[B" (.ref (adV (qs_i (a + 20 - 31)))) (adK (qs_i (a - 11))) _ _ _
          rw [show a + 20 - 31 = a - 11 by omega]
          exact g3
        | 1, hk => cases hk; exact g2
        | k + 2, hk => cases hk
      · cases hqs
      · cases hqs
      · cases hqs
        cases hcl
        refine ⟨hI1.1 (a - 101) (by omega), fun k kd hk => ?_⟩
        match k, hk with
        | 0, hk => cases hk; exact hI1.2 (a - 101) (by omega)
        | k + 1, hk => cases hk
      · cases hqs
      · cases hqs
      · cases hqs
      · exact absurd rfl hn0
  have hNf : qm_Nf qt_sx pt_tx (qs_st s.heap.size J b adK adV adI aE aC d1 d2) (qs_rh s.heap.size J tO (adK 17) (adV 17)) (fun t => match t with | 0 => c0 | 1 => c1 | 2 => c2 | 3 => c3 | 4 => c4 | 5 => c5 | _ => c6) s := by
    refine ⟨⟨fun w hw hn => ?_, vk_R.of (hts _ (pm_wn_of (w := 200) (by decide +kernel))) (hStE 17 (by decide))⟩, fun k own idx t hk => ?_, va_AO.of hOb, k4, k5, va_Nw.of rfl (hts _ (pm_wn_of (w := 1686) (by decide +kernel))), va_Nw.of rfl (hts _ (pm_wn_of (w := 1062) (by decide +kernel))), qs_fw hts⟩
    · have h1 := hts w hw
      cases w <;> first | (cases hn; done) | exact va_Nw.of rfl h1
    · match k, hk with
      | 0, h => cases h; exact ⟨by decide, vk_R.of (hts _ (pm_wn_of (w := 1025) (by decide +kernel))) (hStE 0 (by decide))⟩
      | 1, h => cases h; exact ⟨by decide, vk_R.of (hts _ (pm_wn_of (w := 1148) (by decide +kernel))) (hStE 1 (by decide))⟩
      | 2, h => cases h; exact ⟨by decide, vk_R.of (hts _ (pm_wn_of (w := 1149) (by decide +kernel))) (hStE 2 (by decide))⟩
      | 3, h => cases h; exact ⟨by decide, vk_R.of (hts _ (pm_wn_of (w := 1150) (by decide +kernel))) (hStE 3 (by decide))⟩
      | 4, h => cases h; exact ⟨by decide, vk_R.of (hts _ (pm_wn_of (w := 1151) (by decide +kernel))) (hStE 4 (by decide))⟩
      | 5, h => cases h; exact ⟨by decide, vk_R.of (hts _ (pm_wn_of (w := 1152) (by decide +kernel))) (hStE 5 (by decide))⟩
      | 6, h => cases h; exact ⟨by decide, vk_R.of (hts _ (pm_wn_of (w := 1157) (by decide +kernel))) (hStE 6 (by decide))⟩
      | 7, h => cases h; exact ⟨by decide, vk_R.of (hts _ (pm_wn_of (w := 1171) (by decide +kernel))) (hStE 7 (by decide))⟩
      | 8, h => cases h; exact ⟨by decide, vk_R.of (hts _ (pm_wn_of (w := 1172) (by decide +kernel))) (hStE 8 (by decide))⟩
      | 9, h => cases h; exact ⟨by decide, vk_R.of (hts _ (pm_wn_of (w := 1173) (by decide +kernel))) (hStE 9 (by decide))⟩
      | 10, h => cases h; exact ⟨by decide, vk_R.of (hts _ (pm_wn_of (w := 1174) (by decide +kernel))) (hStE 10 (by decide))⟩
      | 11, h => cases h; exact ⟨by decide, vk_R.of (hts _ (pm_wn_of (w := 1175) (by decide +kernel))) (hStE 11 (by decide))⟩
      | 12, h => cases h; exact ⟨by decide, vk_R.of (hts _ (pm_wn_of (w := 1176) (by decide +kernel))) (hStE 12 (by decide))⟩
      | 13, h => cases h; exact ⟨by decide, vk_R.of (hts _ (pm_wn_of (w := 1177) (by decide +kernel))) (hStE 13 (by decide))⟩
      | 14, h => cases h; exact ⟨by decide, vk_R.of (hts _ (pm_wn_of (w := 1178) (by decide +kernel))) (hStE 14 (by decide))⟩
      | 15, h => cases h; exact ⟨by decide, vk_R.of (hts _ (pm_wn_of (w := 1179) (by decide +kernel))) (hStE 15 (by decide))⟩
      | 16, h => cases h; exact ⟨by decide, vk_R.of (hts _ (pm_wn_of (w := 1180) (by decide +kernel))) (hStE 16 (by decide))⟩
      | k + 17, h => cases h
  have hE2 : qm_E2 qt_me 6 p s m #[Value.ref b] meth c room_1 D qt_cl (fun t => match t with | 0 => c0 | 1 => c1 | 2 => c2 | 3 => c3 | 4 => c4 | 5 => c5 | _ => c6) qt_qs (qt_C L ((List.range L).map xs)) qt_so qt_sx (pt_R 8 pt_ord) (qs_st s.heap.size J b adK adV adI aE aC d1 d2) (qs_rh s.heap.size J tO (adK 17) (adV 17)) fv s.heap.size pt_tx 1001 := ⟨hx, hb, hml, hown, (fun h => absurd h (by decide +kernel)), hq, by decide +kernel, by decide +kernel, hK, hZf, hNf, rfl, Nat.le_refl _⟩
  have hok : qm_ok qt_qs (qt_C L ((List.range L).map xs)) qt_so J qm_S0 := ⟨Nat.le_refl _, by decide, fun h => absurd h (by decide), fun s' a h => absurd (Nat.lt_of_le_of_lt h.1 h.2.1) (Nat.lt_irrefl _)⟩
  have hlv : qm_lv qt_so J qm_S0 [some (.inr (2, 1)), none, none, none, none, none, none, none, none] := by
    intro i v h
    match i, h with
    | 0, h => cases h; exact Or.inr (Or.inr ⟨by decide, Or.inl (Or.inl ⟨rfl, rfl⟩)⟩)
    | 1, h => cases h
    | 2, h => cases h
    | 3, h => cases h
    | 4, h => cases h
    | 5, h => cases h
    | 6, h => cases h
    | 7, h => cases h
    | 8, h => cases h
    | i + 9, h => cases h
  have key := qm_W (l := l) (e := e) (below := below) (Q := lw_Z below #[Value.ref b] s) (m0 := 0) (qt_E1 L ((List.range L).map xs)) hE3 cO_HO pt_E1 cO_Rt n hrun hE2 (Nat.le_refl _) (Nat.zero_le _) hok (fun _ h => by cases h) hlv (by show S'.1 - 1001 ≤ 600000; omega) (by show S'.2.1 - 0 ≤ 7302249; omega) (fun H locs ls pc i hdi hrt hI => ?_) (H := s.heap) (locs := []) ⟨(fun k q h => absurd (qm_ws_mem h).1 (by show ¬ k < 1001 - 1001; omega)), va_S.rf⟩ (qm_entry (as := [.inr (2, 1)]) (n := 9) hfv (by decide))
  · rw [lg_entry_eq]
    exact key
  · obtain ⟨hP, hS⟩ := hI
    refine va_forget hS.2.2 ?_
    rcases hrt with ⟨rfl, x, ty, hv, -⟩ | ⟨-, s', a, ty, hv, -⟩ | ⟨-, hv, -⟩
    · cases hv
      exact qs_ret (by omega) (by omega) hx hb hr hlocks hdi
    · cases hv
    · cases hv
theorem whole_start {p : Program} {e : Env} {s : State} {m : MethodId} {below : List Frame} {meth : Method} {c : Code} (l : Launch) (hflags : l.flags = flags0) {b L : Nat} {xs : Nat → Int32} (hL : L ≤ 260) (C0 : lw_At p s m meth c b L xs) : W p l e room_1 s m #[Value.ref b] below meth c s.heap [] 0 0 (lw_Z below #[Value.ref b] s) (entryFrame m ([Value.ref b] : List Value).toArray 9) := whole_of l (by omega) C0
-- ===== YOUR PART ENDS =====
set_option maxHeartbeats 4000000 in
theorem lw_walk (l : Launch) (hflags : l.flags = flags0) (b : Addr) (xs : List Int32) : MetFree l x (headSpec (Jvm.Cond.code x code maxLocals ret :: tables_1) room_1) (lw_P b xs) (fun _ _ _ _ _ => True) lw_Q := by
  refine MetFree.of_bodyS (code := code) (maxLocals := maxLocals) (ret := ret) (by decide) ?_ ?_
  · intro args s m h hn
    obtain ⟨meth, c, h1, h2, h3, h4, h5, h6, -, -⟩ := Cond.code_spec hn (atoms_spec (ws := Jvm.Cond.code x code maxLocals ret :: tables_1) h _ List.mem_cons_self)
    exact ⟨meth, c, h1, h2, h3, h4, h5, h6⟩
  · intro p e s m args below meth c s₁ B hml0 hP _
    obtain ⟨rfl, hx, hbd, hgv⟩ := hP
    obtain ⟨scr, harrAt, hlist, hof, hsmall⟩ := hx
    obtain ⟨hcb, hkn, -, -⟩ := State.arrayAt?_spec harrAt
    have hown : s.vm.findClass R_law = some m.cls := findClass_of_methodNamed B.named
    have hts0 : ∀ c ∈ (Jvm.Cond.code x code maxLocals ret :: tables_1), c.before #[Value.ref b] s = true := atoms_spec (ws := Jvm.Cond.code x code maxLocals ret :: tables_1) B.pre
    have hts : ∀ w ∈ lw_tbl, w.before #[Value.ref b] s = true := k2_hts_sels lw_privs (fun w hw => hts0 w (List.mem_cons_of_mem _ hw)) lw_privs_ok
    have hml : c.maxLocals = 9 := B.maxLocals_eq (hts0 _ List.mem_cons_self)
    have X₀ : Stand p l e room_1 s m #[Value.ref b] below meth c s₁ [] 0 0 := Stand.of_body B
    have hh0 : s₁.heap = s.heap := by rw [B.state]; rfl
    have hsz : scr.slots.size = xs.length := by rw [← Array.length_toList, hlist, List.length_map]
    have hval : ∀ j : Nat, j < xs.length → scr.slots[j]? = some (.int (xs.getD j 0)) := fun j hj => by
      rw [← Array.getElem?_toList, hlist]
      simp [hj]
    have hbl : b < s.heap.size := (Array.getElem?_eq_some_iff.mp hcb).1
    have hX : va_X b xs.length (fun j => xs.getD j 0) s s.heap := ⟨scr, hcb, hof, hkn, hsz, hval⟩
    have K : W p l e room_1 s m #[Value.ref b] below meth c s₁.heap [] 0 0 (lw_Z below #[Value.ref b] s) (entryFrame m ([Value.ref b] : List Value).toArray 9) := by
      rw [hh0]
      exact whole_start l hflags hbd ⟨B.exec, B.bytes, B.returns, hml, hown, hts, hX, hbl, B.notSynchronized, hgv⟩
    obtain ⟨t, a1, o, b1, b2, b3⟩ := K s₁ rfl X₀
    exact ⟨t, o, a1, b1, b2, b3⟩
theorem lw_pre_spec {args : Array Value} {s : State} (h : (Jvm.Cond.and given_1 narrow_1).before args s = true) (hr : rest_1_c.before args s = true) : ∃ (b : Addr) (xs : List Int32), lw_P b xs args s := by
  have hs := flat_of_before _ h
  have hq := flat_of_before _ hr
  have hc : (Cond.count 1).before args s = true := hs _ (by decide +kernel)
  have harr : (Cond.arrayOf (.arg 0) .int).before args s = true := hs _ (by decide +kernel)
  have hle : (Cond.le (.length (.arg 0)) (.int 260)).before args s = true := hs _ (by decide +kernel)
  have hlen : (Cond.isInt (.length (.arg 0))).before args s = true := hq _ (by decide +kernel)
  have hall : (Cond.all (.arg 0) (.isInt (.elem (.arg 0) (.index 0)))).before args s = true := hq _ (by decide +kernel)
  obtain ⟨b, xs, hb, hx⟩ := State.ints_of_pre rfl harr hlen hall
  have hsm : xs.length < 2 ^ 31 := hx.choose_spec.2.2.2
  have hev : (Term.length (.arg 0)).eval args s none [] s = some (.int xs.length.toInt32) := hx.length_eval hb
  have hv := Cond.le_ints hev (show (Term.int 260).eval args s none [] s = some (.int 260) from rfl)
  have hd : xs.length.toInt32 ≤ 260 := by
    simpa [Cond.before, Cond.holds, hv] using hle
  have hN : xs.length ≤ 260 := (Int32.ofNat_le_ofNat hsm (by decide)).mp (show Int32.ofNat xs.length ≤ Int32.ofNat 260 from hd)
  exact ⟨b, xs, Cond.one_arg hc (show args[0]? = some (.ref b) from hb), hx, hN, h⟩
theorem lw_comes (l : Launch) (hflags : l.flags = flags0) : Comes l x (Jvm.Cond.code x code maxLocals ret :: tables_1) room_1 (fun tb e args s => Calls_1 tb e args s ∧ rest_1 tb e args s ∧ Pre_1 tb e args s)
    (fun _ _ args s o t => lw_Q args s o t) := by
  intro p e ha hc hk s m args below hf hfit hheap happ hpre
  obtain ⟨b, xs, hP⟩ := lw_pre_spec hpre.2.2 hpre.2.1
  obtain ⟨k, o, h1, h2, h3, hQ⟩ := lw_walk l hflags b xs p e ha hc hk s m args below hf ((Spec.applies_iff_loose hf).mp happ).1 hP trivial
  exact ⟨k, o, h1, h2, h3, hQ⟩
theorem lw_frame {s t : State} {o : Outcome} {args : Array Value} (h : Framed s o t [] 600000 7302249) :
    Framed s o t (fieldLocs frame_1_writes args s ++ arrayLocs frame_1_arrays args s ++ staticLocs frame_1_statics s) 600000 7302249 := h
theorem lw_limb (L : Cond) (hL : ∀ (args : Array Value) (s t : State), L.after args s (.returned (some (.int 1))) t = true) :
    ArmFor flags0 classFile x code maxLocals ret World_1 tables_1 room_1 Calls_1 rest_1 Pre_1
      (fun tb e a s o t => postC L tb e a s o t ∧ Framed s o t (fieldLocs frame_1_writes a s ++ arrayLocs frame_1_arrays a s ++ staticLocs frame_1_statics s) 600000 7302249) := by
  intro l hflags _ _ p e ha hc hk s m args below hf hfit hheap happ hpre
  obtain ⟨k, o, h1, h2, h3, rfl, hF⟩ := lw_comes l hflags p e ha hc hk s m args below hf hfit hheap happ hpre
  exact ⟨k, _, h1, h2, h3, hL args s _, lw_frame hF⟩
theorem i_vc : Claimed_1_1 ∧ Claimed_1_2 := ⟨lw_limb limb_1_1 (fun args s t => by simp [limb_1_1, Cond.after, Cond.holds, Cond.value]), lw_limb limb_1_2 (fun args s t => Cond.after_iff.mpr (by
  first | (rw [show limb_1_2 = Cond.eq .result (.int 1) from rfl, Cond.eq_ints (x := 1) (y := 1) rfl rfl]; simp; done) | (simp [limb_1_2, Cond.value, Term.eval]; done)))⟩
