/-! ===== one instruction of the law's machine is one of the machine's ===== -/
def qm_wn (w : Nat) (x : Cond) : Bool := decide (qm_tbl[w]? = some x)
def qm_wk (w : Nat) (x : Cond) : Bool := qm_wn w x && goodWord x
def qm_fk (cl : List vw_C) (c k : Nat) : Option (String × String × String × Bool) := match cl[c]? with
  | some (_, T, N) => bif Nat.blt k N then some (T k) else none
  | none => none
def qm_flk (own : String) (idx w w2 tag : Nat) (t : String × String × String × Bool) : Bool := match tag with
  | 2 => qm_wk w (.fieldLink own idx "java/util/ArrayList" t.2.1 t.2.2.1) && qm_wk w2 (.sameField "java/util/ArrayList" t.1 t.2.1 t.2.2.1)
  | _ => qm_wk w (.fieldLink own idx t.1 t.2.1 t.2.2.1)
/-- one that is read, perhaps another's of the nest -/
def qm_flg (own : String) (idx w w2 tag : Nat) (t : String × String × String × Bool) : Bool := bif Nat.beq tag 3 then pm_wn w (.fieldLinkNest own idx t.1 t.2.1 t.2.2.1 "java/util/ArrayList") && decide (t.1 = "java/util/ArrayList") else qm_flk own idx w w2 tag t
/-- one that is called -/
def qm_cc (me : Nat → pm_Me) (mi mj n wi wc : Nat) : Bool := qm_wk wi (.initialized (me mj).1.cls) && (qm_wk wc (.code (me mj).1 (me mj).2.1 (me mj).2.2.1 (me mj).2.2.2.1) && (decide ((me mj).1.cls ≠ "java/lang/invoke/MethodHandle") && (decide ((me mj).1.cls ≠ "java/lang/invoke/VarHandle") && (decide ((parseMethodDescriptor (me mj).1.desc).map (fun d => d.parameters.length) = some n) && (Nat.ble ((me mj).2.2.2.2.1 + 1) (me mi).2.2.2.2.1 && (Nat.ble (8 + ((me mj).2.2.1 + 11) + (me mj).2.2.2.2.2.1) (me mi).2.2.2.2.2.1 && plainFor (me mj).1))))))
/-- one of the class that is called -/
def qm_ccc (me : Nat → pm_Me) (mi mj n wi wc : Nat) : Bool := pm_wk wi (.initialized (pt_me mj).1.cls) && (pm_wk wc (.code (pt_me mj).1 (pt_me mj).2.1 (pt_me mj).2.2.1 (pt_me mj).2.2.2.1) && (decide ((pt_me mj).1.cls ≠ "java/lang/invoke/MethodHandle") && (decide ((pt_me mj).1.cls ≠ "java/lang/invoke/VarHandle") && (decide ((parseMethodDescriptor (pt_me mj).1.desc).map (fun d => d.parameters.length) = some n) && (Nat.ble ((pt_me mj).2.2.2.2.1 + 1) (me mi).2.2.2.2.1 && (Nat.ble (8 + ((pt_me mj).2.2.1 + 11) + (pt_me mj).2.2.2.2.2.1) (me mi).2.2.2.2.2.1 && plainFor (pt_me mj).1))))))
/-- whose cells lie at a place, by name -/
def qm_cn (cl : List vw_C) (qs : Nat → qm_K) (s : Nat) : String := bif Nat.beq s 0 then "TurnCabinet" else (match qs s with
  | .inr (c, _) => (match cl[c]? with | some (C, _, _) => C | none => "")
  | .inl _ => "")
/-- the receiver: of one of these places, all of one class -/
def qm_pl (cl : List vw_C) (qs : Nat → qm_K) (pl : List Nat) : Bool := pl.all fun s => Nat.blt s 30 && (decide (qm_cn cl qs s = qm_cn cl qs (pl.getD 0 0)) && (decide (qm_cn cl qs s ≠ "") && !(Nat.beq s 0)))
def qm_xl : MethodName := ⟨"java/lang/AbstractStringBuilder", "length", "()I"⟩
def qm_kV (cl : List vw_C) (qs : Nat → qm_K) (me : Nat → pm_Me) (mi idx w : Nat) (xs : List Nat) : Bool := qm_wk w (.methodLink (me mi).1.cls idx (me (xs.getD 0 0)).1) && (qm_wk (xs.getD 5 0) (.selects (qm_cn cl qs ((xs.drop 7).getD 0 0)) (me (xs.getD 0 0)).1 (me (xs.getD 0 0)).1) && (qm_wk (xs.getD 6 0) (.instanceMethod (me (xs.getD 0 0)).1) && (qm_cc me mi (xs.getD 0 0) (xs.getD 1 0 - 1) (xs.getD 3 0) (xs.getD 4 0) && qm_pl cl qs (xs.drop 7))))
def qm_kU (cl : List vw_C) (qs : Nat → qm_K) (me : Nat → pm_Me) (mi idx w : Nat) (xs : List Nat) : Bool := qm_wk w (.methodLink (me mi).1.cls idx qm_xl) && (qm_G.contains (.sameMethod qm_xl.cls qm_xl.cls qm_xl.name qm_xl.desc) && (qm_G.contains (.instanceMethod qm_xl) && (qm_G.contains (.code qm_xl (me 1553).2.1 (me 1553).2.2.1 (me 1553).2.2.2.1) && (qm_wk (xs.getD 5 0) (.selects (qm_cn cl qs ((xs.drop 7).getD 0 0)) qm_xl (me (xs.getD 0 0)).1) && (qm_wk (xs.getD 6 0) (.instanceMethod (me (xs.getD 0 0)).1) && (qm_cc me mi (xs.getD 0 0) (xs.getD 1 0 - 1) (xs.getD 3 0) (xs.getD 4 0) && (Nat.beq (xs.getD 1 0) 1 && qm_pl cl qs (xs.drop 7))))))))
def qm_kC (cl : List vw_C) (qs : Nat → qm_K) (me : Nat → pm_Me) (mi idx w : Nat) (xs : List Nat) : Bool := qm_wk w (.methodLink (me mi).1.cls idx (pt_me (xs.getD 0 0)).1) && (qm_wk (xs.getD 5 0) (.selects "TurnCabinet" (pt_me (xs.getD 0 0)).1 (pt_me (xs.getD 0 0)).1) && (qm_wk (xs.getD 6 0) (.instanceMethod (pt_me (xs.getD 0 0)).1) && (qm_ccc me mi (xs.getD 0 0) (xs.getD 1 0 - 1) (xs.getD 3 0) (xs.getD 4 0) && (match xs.drop 7 with | [0] => true | _ => false))))
def qm_kSU (cl : List vw_C) (qs : Nat → qm_K) (me : Nat → pm_Me) (mi idx w : Nat) (xs : List Nat) : Bool := qm_wk w (.methodLink (me mi).1.cls idx (me (xs.getD 0 0)).1) && (qm_G.contains (.sameMethod (me (xs.getD 0 0)).1.cls (me (xs.getD 0 0)).1.cls (me (xs.getD 0 0)).1.name (me (xs.getD 0 0)).1.desc) && (qm_G.contains (.superclass (me mi).1.cls (me (xs.getD 0 0)).1.cls) && (qm_wk (xs.getD 6 0) (.instanceMethod (me (xs.getD 0 0)).1) && (decide ((me (xs.getD 0 0)).1.name ≠ "<init>") && (qm_cc me mi (xs.getD 0 0) (xs.getD 1 0 - 1) (xs.getD 3 0) (xs.getD 4 0) && qm_pl cl qs (xs.drop 7))))))
def qm_kI (cl : List vw_C) (qs : Nat → qm_K) (me : Nat → pm_Me) (mi idx w : Nat) (xs : List Nat) : Bool := qm_wk w (.methodLink (me mi).1.cls idx (me (xs.getD 0 0)).1) && (qm_wk (xs.getD 6 0) (.instanceMethod (me (xs.getD 0 0)).1) && (decide ((me (xs.getD 0 0)).1.name = "<init>") && (decide ((me (xs.getD 0 0)).2.2.2.1 = none) && (qm_cc me mi (xs.getD 0 0) (xs.getD 1 0 - 1) (xs.getD 3 0) (xs.getD 4 0) && qm_pl cl qs (xs.drop 7)))))
def qm_kCI (cl : List vw_C) (qs : Nat → qm_K) (me : Nat → pm_Me) (mi idx w : Nat) (xs : List Nat) : Bool := qm_wk w (.methodLink (me mi).1.cls idx (pt_me (xs.getD 0 0)).1) && (qm_wk (xs.getD 6 0) (.instanceMethod (pt_me (xs.getD 0 0)).1) && (decide ((pt_me (xs.getD 0 0)).1.name = "<init>") && (decide ((pt_me (xs.getD 0 0)).2.2.2.1 = none) && (qm_ccc me mi (xs.getD 0 0) (xs.getD 1 0 - 1) (xs.getD 3 0) (xs.getD 4 0) && (match xs.drop 7 with | [0] => true | _ => false)))))
def qm_kS (cl : List vw_C) (qs : Nat → qm_K) (me : Nat → pm_Me) (mi idx w : Nat) (xs : List Nat) : Bool := qm_wk w (.methodLink (me mi).1.cls idx (me (xs.getD 0 0)).1) && (qm_wk (xs.getD 6 0) (.static (me (xs.getD 0 0)).1) && qm_cc me mi (xs.getD 0 0) (xs.getD 1 0) (xs.getD 3 0) (xs.getD 4 0))
def qm_kSN (cl : List vw_C) (qs : Nat → qm_K) (me : Nat → pm_Me) (mi idx w : Nat) (xs : List Nat) : Bool := pm_wn w (.methodLinkNest (me mi).1.cls idx (me (xs.getD 0 0)).1 "TurnCabinetLaw") && (qm_wk (xs.getD 6 0) (.static (me (xs.getD 0 0)).1) && qm_cc me mi (xs.getD 0 0) (xs.getD 1 0) (xs.getD 3 0) (xs.getD 4 0))
def qm_kF (cl : List vw_C) (qs : Nat → qm_K) (me : Nat → pm_Me) (mi idx w : Nat) (xs : List Nat) (tg : Nat) : Bool := Nat.ble 40 tg && (match qm_fw[tg - 40]? with
    | some (C, x, y) => qm_wk w (.methodLink (me mi).1.cls idx x) && (qm_wk (xs.getD 5 0) (.selects C x y) && (qm_wk (xs.getD 6 0) (.instanceMethod y) && (decide (y = (me (xs.getD 0 0)).1) && (decide (x.desc = y.desc) && (decide (C = qm_cn cl qs ((xs.drop 7).getD 0 0)) && (qm_cc me mi (xs.getD 0 0) (xs.getD 1 0 - 1) (xs.getD 3 0) (xs.getD 4 0) && qm_pl cl qs (xs.drop 7)))))))
    | none => false)
/-- a call: whom, how many, tag, words -/
def qm_ck (cl : List vw_C) (qs : Nat → qm_K) (me : Nat → pm_Me) (mi idx w : Nat) (ins : Nat) (xs : List Nat) : Bool := match ins, xs.getD 2 99 with
  | 0, 0 => qm_kV cl qs me mi idx w xs
  | 0, 2 => qm_kU cl qs me mi idx w xs
  | 0, 9 => qm_kC cl qs me mi idx w xs
  | 1, 3 => qm_kSU cl qs me mi idx w xs
  | 1, 7 => qm_kI cl qs me mi idx w xs
  | 1, 10 => qm_kCI cl qs me mi idx w xs
  | 2, 5 => qm_kS cl qs me mi idx w xs
  | 2, 6 => qm_kSN cl qs me mi idx w xs
  | 3, tg => qm_kF cl qs me mi idx w xs tg
  | _, _ => false
theorem qm_ck0 {cl : List vw_C} {qs : Nat → qm_K} {me : Nat → pm_Me} {mi idx w : Nat} {xs : List Nat} (h : qm_ck cl qs me mi idx w 0 xs = true) : (xs.getD 2 99 = 0 ∧ qm_kV cl qs me mi idx w xs = true) ∨ (xs.getD 2 99 = 2 ∧ qm_kU cl qs me mi idx w xs = true) ∨ (xs.getD 2 99 = 9 ∧ qm_kC cl qs me mi idx w xs = true) := by
  unfold qm_ck at h
  generalize xs.getD 2 99 = t at h
  match t, h with
  | 0, h => exact Or.inl ⟨rfl, h⟩
  | 2, h => exact Or.inr (Or.inl ⟨rfl, h⟩)
  | 9, h => exact Or.inr (Or.inr ⟨rfl, h⟩)
  | 1, h => cases h
  | 3, h => cases h
  | 4, h => cases h
  | 5, h => cases h
  | 6, h => cases h
  | 7, h => cases h
  | 8, h => cases h
  | (n + 10), h => cases h
theorem qm_ck1 {cl : List vw_C} {qs : Nat → qm_K} {me : Nat → pm_Me} {mi idx w : Nat} {xs : List Nat} (h : qm_ck cl qs me mi idx w 1 xs = true) : (xs.getD 2 99 = 3 ∧ qm_kSU cl qs me mi idx w xs = true) ∨ (xs.getD 2 99 = 7 ∧ qm_kI cl qs me mi idx w xs = true) ∨ (xs.getD 2 99 = 10 ∧ qm_kCI cl qs me mi idx w xs = true) := by
  unfold qm_ck at h
  generalize xs.getD 2 99 = t at h
  match t, h with
  | 3, h => exact Or.inl ⟨rfl, h⟩
  | 7, h => exact Or.inr (Or.inl ⟨rfl, h⟩)
  | 10, h => exact Or.inr (Or.inr ⟨rfl, h⟩)
  | 0, h => cases h
  | 1, h => cases h
  | 2, h => cases h
  | 4, h => cases h
  | 5, h => cases h
  | 6, h => cases h
  | 8, h => cases h
  | 9, h => cases h
  | (n + 11), h => cases h
theorem qm_ck2 {cl : List vw_C} {qs : Nat → qm_K} {me : Nat → pm_Me} {mi idx w : Nat} {xs : List Nat} (h : qm_ck cl qs me mi idx w 2 xs = true) : (xs.getD 2 99 = 5 ∧ qm_kS cl qs me mi idx w xs = true) ∨ (xs.getD 2 99 = 6 ∧ qm_kSN cl qs me mi idx w xs = true) := by
  unfold qm_ck at h
  generalize xs.getD 2 99 = t at h
  match t, h with
  | 5, h => exact Or.inl ⟨rfl, h⟩
  | 6, h => exact Or.inr ⟨rfl, h⟩
  | 0, h => cases h
  | 1, h => cases h
  | 2, h => cases h
  | 3, h => cases h
  | 4, h => cases h
  | (n + 7), h => cases h
theorem qm_ck3 {cl : List vw_C} {qs : Nat → qm_K} {me : Nat → pm_Me} {mi idx w : Nat} {xs : List Nat} (h : qm_ck cl qs me mi idx w 3 xs = true) : qm_kF cl qs me mi idx w xs (xs.getD 2 99) = true := h
def qm_chk (cl : List vw_C) (qs : Nat → qm_K) (sx : qm_X) (me : Nat → pm_Me) (mi : Nat) (q : pm_Q) : Bool := match q with
  | (pc, ins, nx, w, xs, ci, _) => match ins with
    | .iload_n n | .aload_n n | .istore_n n | .astore_n n => pm_d (me mi).2.1 pc ins nx 1 && Nat.beq n.val (xs.getD 0 0)
    | .iload i | .aload i | .istore i | .astore i => pm_d (me mi).2.1 pc ins nx 2 && Nat.beq i (xs.getD 0 0)
    | .iinc i n => pm_d (me mi).2.1 pc ins nx 3 && (Nat.beq i (xs.getD 0 0) && decide (Int32.ofInt n = ci))
    | .iconst n => pm_d (me mi).2.1 pc ins nx 1 && decide (Int32.ofInt n = ci)
    | .bipush n => pm_d (me mi).2.1 pc ins nx 2 && decide ((Int8.ofInt n).toInt32 = ci)
    | .sipush n => pm_d (me mi).2.1 pc ins nx 3 && decide ((Int16.ofInt n).toInt32 = ci)
    | .ldc idx => pm_d (me mi).2.1 pc ins nx 2 && (match xs with
      | [] => qm_wk w (.constant (me mi).1.cls idx ci)
      | a :: _ => match sx[a - 11]? with
        | some (o, i, _) => decide (o = (me mi).1.cls) && Nat.beq i idx
        | none => false)
    | .ldc_w idx => pm_d (me mi).2.1 pc ins nx 3 && qm_wk w (.constant (me mi).1.cls idx ci)
    | .ifCond _ o | .if_icmp _ o | .if_acmp _ o | .ifnonnull o | .goto o => pm_d (me mi).2.1 pc ins nx 3 && decide ((pc : Int) + o = (xs.getD 0 0 : Int))
    | .tableswitch d lo hi offs => pm_d (me mi).2.1 pc ins nx (nx - pc) && (decide (lo = 0) && (decide (hi + 1 = (offs.size : Int)) && (decide (offs.size < 1000) && (decide ((pc : Int) + d = (xs.getD 0 0 : Int)) && pm_swk pc offs.toList (xs.drop 1)))))
    | .getfield idx => pm_d (me mi).2.1 pc ins nx 3 && (match qm_fk cl (xs.getD 1 0) (xs.getD 2 0) with
        | some t => qm_flg (me mi).1.cls idx w (xs.getD 3 0) (xs.getD 0 9) t
        | none => false)
    | .putfield idx => pm_d (me mi).2.1 pc ins nx 3 && (match qm_fk cl (xs.getD 1 0) (xs.getD 2 0) with
        | some t => qm_flk (me mi).1.cls idx w (xs.getD 3 0) (xs.getD 0 9) t && (bif t.2.2.2 then decide ((me mi).1.name = "<init>") && decide (t.1 = (me mi).1.cls) else true)
        | none => false)
    | .getstatic idx => pm_d (me mi).2.1 pc ins nx 3 && (match xs.getD 0 0 with
      | 1 => qm_wk w (.fieldLink (me mi).1.cls idx "java/lang/String" "COMPACT_STRINGS" "Z")
      | 2 => qm_wk w (.fieldLink (me mi).1.cls idx "jdk/internal/util/Preconditions" "SIOOBE_FORMATTER" "Ljava/util/function/BiFunction;")
      | 3 => qm_wk w (.fieldLink (me mi).1.cls idx "java/util/ArrayList" "DEFAULTCAPACITY_EMPTY_ELEMENTDATA" "[Ljava/lang/Object;")
      | 4 => qm_wk w (.fieldLink (me mi).1.cls idx "java/lang/Integer$IntegerCache" "cache" "[Ljava/lang/Integer;")
      | 5 => qm_wk w (.fieldLink (me mi).1.cls idx "java/lang/Integer$IntegerCache" "high" "I")
      | 6 => qm_wk w (.fieldLink (me mi).1.cls idx "java/lang/Integer" "DigitOnes" "[B")
      | 7 => qm_wk w (.fieldLink (me mi).1.cls idx "java/lang/Integer" "DigitTens" "[B")
      | _ => false)
    | .newarray a => pm_d (me mi).2.1 pc ins nx 2 && (qm_wk w (.arrayClass (newarray.typeOf a)) && (decide (newarray.typeOf a = qm_ty (xs.getD 1 9)) && Nat.ble (xs.getD 1 9) 3))
    | .anewarray idx => pm_d (me mi).2.1 pc ins nx 3 && qm_wk w (.classLink (me mi).1.cls idx "java/lang/Object")
    | .multianewarray idx n => pm_d (me mi).2.1 pc ins nx 4 && (Nat.beq n 2 && (match xs.getD 2 9 with
      | 4 => qm_wk w (.classLink (me mi).1.cls idx "[[I") && Nat.beq (xs.getD 3 9) 0
      | 5 => qm_wk w (.classLink (me mi).1.cls idx "[[Z") && Nat.beq (xs.getD 3 9) 3
      | _ => false))
    | .new idx => pm_d (me mi).2.1 pc ins nx 3 && (match cl[xs.getD 1 99]? with
      | some (C, _, N) => qm_wk w (.classLink (me mi).1.cls idx C) && (qm_wk (xs.getD 2 0) (.instantiable C N) && (qm_wk (xs.getD 3 0) (.initialized C) && (bif Nat.beq (xs.getD 0 99) 0 then Nat.beq (xs.getD 1 99) 0 else true)))
      | none => false)
    | .checkcast idx => pm_d (me mi).2.1 pc ins nx 3 && (match xs.getD 0 0 with
      | 25 => qm_wk w (.classLink (me mi).1.cls idx "java/lang/Integer")
      | 15 => qm_wk w (.classLink (me mi).1.cls idx "[B")
      | _ => false)
    | .invokespecial idx => pm_d (me mi).2.1 pc ins nx 3 && (match xs with
      | [] => qm_wk w (.methodLink (me mi).1.cls idx objectInit) && (qm_G.contains (.instanceMethod objectInit) && (qm_G.contains (.code objectInit ⟨#[0xb1]⟩ 1 none) && (Nat.ble 1 (me mi).2.2.2.2.1 && Nat.ble 20 (me mi).2.2.2.2.2.1)))
      | _ => qm_ck cl qs me mi idx w 1 xs)
    | .invokevirtual idx => pm_d (me mi).2.1 pc ins nx 3 && (bif Nat.beq (xs.getD 0 0) 9002 then qm_wk w (.methodLink (me mi).1.cls idx ⟨"[B", "clone", "()Ljava/lang/Object;"⟩) && (qm_G.contains (.sameMethod "[B" "java/lang/Object" "clone" "()Ljava/lang/Object;") && (qm_G.contains (.native ⟨"java/lang/Object", "clone", "()Ljava/lang/Object;"⟩) && (qm_G.contains (.instanceMethod ⟨"java/lang/Object", "clone", "()Ljava/lang/Object;"⟩) && (qm_G.contains (.selects "[B" ⟨"[B", "clone", "()Ljava/lang/Object;"⟩ ⟨"java/lang/Object", "clone", "()Ljava/lang/Object;"⟩) && (Nat.ble 1 (me mi).2.2.2.2.1 && Nat.ble 40 (me mi).2.2.2.2.2.1))))) else qm_ck cl qs me mi idx w 0 xs)
    | .invokestatic idx => pm_d (me mi).2.1 pc ins nx 3 && (bif Nat.beq (xs.getD 0 0) 9001 then qm_wk w (.methodLink (me mi).1.cls idx arraycopyName) && (qm_G.contains (.native arraycopyName) && (qm_G.contains (.static arraycopyName) && (qm_G.contains (.initialized "java/lang/System") && (Nat.ble 1 (me mi).2.2.2.2.1 && Nat.ble (8 + (nativeFrameWords "java/lang/System" "arraycopy" 5 + 11)) (me mi).2.2.2.2.2.1)))) else qm_ck cl qs me mi idx w 2 xs)
    | .invokeinterface idx _ => pm_d (me mi).2.1 pc ins nx 5 && qm_ck cl qs me mi idx w 3 xs
    | _ => pm_d (me mi).2.1 pc ins nx 1
def qm_kt (kd : Nat) (ty : FieldType) : Prop := match kd with
  | 0 => ty = .int
  | 2 => ty = .boolean
  | 4 => ty = .byte
  | 3 => (∃ n, ty = .object n) ∨ ∃ t, ty = .array t
  | _ => False
/-- the tables are right -/
def qm_E1 (me : Nat → pm_Me) (qs : Nat → qm_K) (T : qm_T) (sx : qm_X) (cl : List vw_C) : Prop := (∀ mi q, q ∈ (me mi).2.2.2.2.2.2 → qm_chk cl qs sx me mi q = true) ∧
  (∀ c C T' N, cl[c]? = some (C, T', N) → ∃ ty : Nat → FieldType, (∀ w ∈ u_ws C T' N, w ∈ qm_G) ∧ (∀ a, a < N → ∀ b, b < N → a ≠ b → (T' a).2.1 ≠ (T' b).2.1) ∧ (∀ k, k < N → parseFieldDescriptor (T' k).2.2.1 = some (ty k)) ∧ (∀ s ks, qs s = .inr (c, ks) → T.2.2 s = false → ks.length = N ∧ ∀ k, k < N → qm_kt (ks.getD k (9, 9)).1 (ty k)) ∧ (c = 0 → ∀ ks, pt_Sg 0 = .inr (0, ks) → ks.length = N ∧ ∀ k, k < N → pm_kt (ks.getD k 9) (ty k))) ∧
  (T.2.2 25 = true ∧ qm_cn cl qs 25 = "java/lang/Integer") ∧ (∃ T0 N0, cl[0]? = some ("TurnCabinet", T0, N0)) ∧
  ∀ s c ks C T' N, qs s = .inr (c, ks) → T.2.2 s = true → cl[c]? = some (C, T', N) → ∀ k, (T' k).1 ≠ "java/util/ArrayList"
/-- where a method stands -/
def qm_E2 (me : Nat → pm_Me) (mi : Nat) (p : Program) (s : State) (m : MethodId) (args : Array Value) (meth : Method) (c : Code) (R : Room) (D : va_G) (cl : List vw_C) (cA : Nat → ClassId) (qs : Nat → qm_K) (T : qm_T) (so : Nat → Nat → Prop) (sx : qm_X) (Rt : pm_T) (st : Nat → Nat → Nat) (ρ : Nat → Nat) (fv : Value) (base : Nat) (tx : String) (c0 : Nat) : Prop :=
  p.tables.exec = Jvm.exec ∧ c.code = (me mi).2.1 ∧ c.maxLocals = (me mi).2.2.1 ∧ s.vm.findClass (me mi).1.cls = some m.cls ∧ ((me mi).1.name = "<init>" → meth.name = "<init>") ∧ (∀ w ∈ qm_G, w.before args s = true) ∧ (me mi).2.2.2.2.1 ≤ R.frames ∧ (me mi).2.2.2.2.2.1 ≤ R.locals ∧ va_K D cl (qm_tys cA) s ∧ qm_Zf qs T so st fv ρ cl Rt (fun q => base ≤ q) s s.heap ∧ qm_Nf sx tx st ρ cA s ∧ s.heap.size + 1001 = base + c0 ∧ 1001 ≤ c0
def qm_I (D : va_G) (cl : List vw_C) (cA : Nat → ClassId) (qs : Nat → qm_K) (st : Nat → Nat → Nat) (ρ : Nat → Nat) (fv : Value) (base J : Nat) (S : qm_S) (s : State) (H : Heap) (locs : List Loc) : Prop :=
  va_P D cl (qm_ws qs cA st base J ρ fv S) H ∧ va_S (fun q : Nat => base ≤ q) s.heap H locs
theorem qm_n_inj {g : Bool} {pc pc' : Nat} {ls ls' : qm_L} {st st' : List qm_V} {S S' : qm_S} (h : qm_n g pc ls st S = some (true, .inl (pc', ls', st', S'))) : g = true ∧ pc = pc' ∧ ls = ls' ∧ st = st' ∧ S = S' := by
  unfold qm_n at h
  cases h
  exact ⟨rfl, rfl, rfl, rfl, rfl⟩
theorem qm_wn_of {w : Nat} {x : Cond} (h : qm_wn w x = true) : x ∈ qm_tbl := List.mem_of_getElem? (of_decide_eq_true h)
theorem qm_wk_of {w : Nat} {x : Cond} (h : qm_wk w x = true) : x ∈ qm_G := by
  unfold qm_wk at h
  rw [Bool.and_eq_true] at h
  exact List.mem_filter.mpr ⟨qm_wn_of h.1, h.2⟩
theorem qm_ct_of {x : Cond} (h : qm_G.contains x = true) : x ∈ qm_G := List.contains_iff_mem.mp h
theorem qm_fk_of {cl : List vw_C} {c k : Nat} {t : String × String × String × Bool} (h : qm_fk cl c k = some t) : ∃ C T N, cl[c]? = some (C, T, N) ∧ k < N ∧ t = T k := by
  unfold qm_fk at h
  split at h
  · rename_i C T N hc
    obtain ⟨h1, h2⟩ := pm_cond h
    exact ⟨C, T, N, hc, by simpa [Nat.blt_eq] using h1, (Option.some.inj h2).symm⟩
  · cases h
theorem qm_b_ne {o : Nat} {x y : Int32} {t e : Nat} {ls : qm_L} {st : List qm_V} {S : qm_S} {g : Bool} {z} (h : qm_b o x y t e ls st S = some (g, .inl z)) : False := by unfold qm_b at h; cases h
theorem qm_w_ne {x : Int32} {d : Nat} {ts : List Nat} {ls : qm_L} {st : List qm_V} {S : qm_S} {g : Bool} {z} (h : qm_w x d ts ls st S = some (g, .inl z)) : False := by unfold qm_w at h; cases h
theorem qm_j_ne {cl : Bool} {mj : Nat} {as : List qm_V} {nx : Nat} {ls : qm_L} {st : List qm_V} {S : qm_S} {g : Bool} {z} (h : qm_j cl mj as nx ls st S = some (g, .inl z)) : False := by unfold qm_j at h; cases h
theorem qm_e_ne {b : Bool} {v : Option qm_V} {S : qm_S} {g : Bool} {z} (h : qm_e b v S = some (g, .inl z)) : False := by unfold qm_e at h; cases h
theorem qm_call_ne {cl : Bool} {nx : Nat} {xs : List Nat} {ls : qm_L} {st : List qm_V} {S : qm_S} {g : Bool} {z} (h : qm_call cl nx xs ls st S = some (g, .inl z)) : False := by
  unfold qm_call at h
  split at h
  · exact qm_j_ne (pm_cond h).2
  · cases h
theorem qm_callV_ne {nx : Nat} {xs : List Nat} {ls : qm_L} {st : List qm_V} {S : qm_S} {g : Bool} {z} (h : qm_callV nx xs ls st S = some (g, .inl z)) : False := by
  unfold qm_callV at h
  split at h
  · exact qm_j_ne (pm_cond h).2
  · cases h
theorem qm_bytes_of {f : Nat → Int32} {p n : Nat} (h : qm_bytes f p n = true) : ∀ i, i < n → fits .byte (.int (f (p + i))) = true := by
  intro i hi
  have := List.all_eq_true.mp h i (List.mem_range.mpr hi)
  have e := of_decide_eq_true this
  have e2 : fits .byte (.int (f (p + i)).toInt8.toInt32) = true := by
    exact pk_fb _
  rwa [e] at e2

