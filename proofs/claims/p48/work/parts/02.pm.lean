/-! ===== the pure machine: the same bytecode over cells that have numbers of their own; no heap, no frames below ===== -/
abbrev pm_L : Type := List (Option Value)
/-- how many cells there are; references in fields (0: null, else the cell and 1); ints; longs -/
abbrev pm_S : Type := Nat × (Nat → Nat → Nat) × (Nat → Nat → Int32) × (Nat → Nat → Int64)
abbrev pm_R : Type := Option (Option Value × pm_S)
abbrev pm_F : Type := Nat → Nat → pm_L → List Value → pm_S → pm_R
/-- an instruction: its place, itself, the next one's place, its word's place, what it is tied to, its constants -/
abbrev pm_Q : Type := Nat × Instr × Nat × Nat × List Nat × Int32 × Int64
/-- a method: its name, code, locals, answer; frames and locals' words below it; its instructions -/
abbrev pm_Me : Type := MethodName × ByteArray × Nat × Option FieldType × Nat × Nat × List pm_Q
/-- a cell's kind: an array (its type's place, its length), an object (its class' place, its fields' kinds: 0 int, 1 long, 2 boolean, 3 a reference) -/
abbrev pm_K : Type := (Nat × Nat) ⊕ (Nat × List Nat)
/-- tables that nobody writes: type's place, length, contents -/
abbrev pm_T : Type := Nat → Option (Nat × Nat × (Nat → Int32))
def pm_ui (f : Nat → Nat → Int32) (r k : Nat) (v : Int32) : Nat → Nat → Int32 := fun a b => bif Nat.beq a r && Nat.beq b k then v else f a b
def pm_ul (f : Nat → Nat → Int64) (r k : Nat) (v : Int64) : Nat → Nat → Int64 := fun a b => bif Nat.beq a r && Nat.beq b k then v else f a b
def pm_ug (f : Nat → Nat → Nat) (r k : Nat) (v : Nat) : Nat → Nat → Nat := fun a b => bif Nat.beq a r && Nat.beq b k then v else f a b
def pm_ci (f : Nat → Nat → Int32) (r : Nat) : Nat → Nat → Int32 := fun a b => bif Nat.beq a r then 0 else f a b
def pm_cl (f : Nat → Nat → Int64) (r : Nat) : Nat → Nat → Int64 := fun a b => bif Nat.beq a r then 0 else f a b
def pm_cg (f : Nat → Nat → Nat) (r : Nat) : Nat → Nat → Nat := fun a b => bif Nat.beq a r then 0 else f a b
def pm_at : List pm_Q → Nat → Option pm_Q
  | [], _ => none
  | q :: t, pc => bif Nat.beq q.1 pc then some q else pm_at t pc
def pm_pop : Nat → List Value → List Value → Option (List Value × List Value)
  | 0, acc, st => some (acc, st)
  | _ + 1, _, [] => none
  | n + 1, acc, v :: st => pm_pop n (v :: acc) st
/-- a method's locals at its entry -/
def pm_en : Nat → List Value → pm_L
  | n, [] => List.replicate n none
  | n, v :: vs => bif Nat.beq v.category 2 then some v :: none :: pm_en (n - 2) vs else some v :: pm_en (n - 1) vs
def pm_wd : List Value → Nat
  | [] => 0
  | v :: vs => v.category + pm_wd vs
def pm_st1 (ls : pm_L) (i : Nat) (v : Value) : Option pm_L := bif Nat.blt i ls.length then some (ls.set i (some v)) else none
def pm_st2 (ls : pm_L) (i : Nat) (v : Value) : Option pm_L := bif Nat.blt (i + 1) ls.length then some ((ls.set i (some v)).set (i + 1) none) else none
/-- an index within -/
def pm_ib (i : Int32) (n : Nat) : Bool := !(decide (i < 0)) && Nat.blt i.toNatClampNeg n
def pm_sw (k : Nat → pm_R) (x : Int32) (d : Nat) : List Nat → Nat → pm_R
  | [], _ => k d
  | t :: ts, j => if x = nI j then k t else pm_sw k x d ts (j + 1)
/-- what an instruction does: on to a place; by a comparison; by a switch; a call; an answer -/
abbrev pm_C : Type := (Nat × pm_L × List Value × pm_S) ⊕ (Nat × Int32 × Int32 × Nat × Nat × pm_L × List Value × pm_S) ⊕ (Int32 × Nat × List Nat × pm_L × List Value × pm_S) ⊕ (Nat × List Value × Nat × pm_L × List Value × pm_S) ⊕ (Option Value × pm_S)
/-- if it can be done at all: under which condition, and what -/
abbrev pm_Z : Type := Option (Bool × pm_C)
def pm_n (g : Bool) (pc : Nat) (ls : pm_L) (st : List Value) (S : pm_S) : pm_Z := some (g, .inl (pc, ls, st, S))
def pm_b (o : Nat) (x y : Int32) (t e : Nat) (ls : pm_L) (st : List Value) (S : pm_S) : pm_Z := some (true, .inr (.inl (o, x, y, t, e, ls, st, S)))
def pm_w (x : Int32) (d : Nat) (ts : List Nat) (ls : pm_L) (st : List Value) (S : pm_S) : pm_Z := some (true, .inr (.inr (.inl (x, d, ts, ls, st, S))))
def pm_j (mj : Nat) (as : List Value) (nx : Nat) (ls : pm_L) (st : List Value) (S : pm_S) : pm_Z := some (true, .inr (.inr (.inr (.inl (mj, as, nx, ls, st, S)))))
def pm_e (g : Bool) (v : Option Value) (S : pm_S) : pm_Z := some (g, .inr (.inr (.inr (.inr (v, S)))))
def pm_call (nx : Nat) (xs : List Nat) (ls : pm_L) (st : List Value) (S : pm_S) : pm_Z := match pm_pop (xs.getD 1 0) [] st with
  | some (as, rest) => bif Nat.ble (pm_wd rest) 8 then pm_j (xs.getD 0 0) as nx ls rest S else none
  | none => none
/-- an object's field -/
def pm_fv (S : pm_S) (r k : Nat) (kd : Nat) : Option Value := match kd with
  | 0 => some (.int (S.2.2.1 r k))
  | 1 => some (.long (S.2.2.2 r k))
  | 2 => some (.int (S.2.2.1 r k))
  | 3 => match S.2.1 r k with
    | 0 => none
    | j + 1 => some (.ref j)
  | _ => none
def pm_us (x y : Int32) : Int32 := (x.toUInt32 >>> (y.toUInt32 &&& Int32.toUInt32 31)).toInt32
def pm_uls (x : Int64) (y : Int32) : Int64 := (x.toUInt64 >>> (y.toInt64.toUInt64 &&& Int64.toUInt64 63)).toInt64
def pm_rc (Sg : Nat → pm_K) (S : pm_S) (r c : Nat) : Bool := bif Nat.beq c 99 then Nat.beq r 201 else Nat.blt r S.1 && (match Sg r with
  | .inr (c', _) => Nat.beq c' c
  | .inl _ => false)
def pm_callV (Sg : Nat → pm_K) (nx : Nat) (xs : List Nat) (ls : pm_L) (st : List Value) (S : pm_S) : pm_Z := match pm_pop (xs.getD 1 0) [] st with
  | some (.ref r :: as, rest) => bif pm_rc Sg S r (xs.getD 3 0) && Nat.ble (pm_wd rest) 8 then pm_j (xs.getD 0 0) (.ref r :: as) nx ls rest S else none
  | _ => none
def pm_callI (nx : Nat) (xs : List Nat) (ls : pm_L) (st : List Value) (S : pm_S) : pm_Z := match pm_pop (xs.getD 1 0) [] st with
  | some (.ref r :: as, rest) => bif Nat.blt r S.1 && Nat.ble (pm_wd rest) 8 then pm_j (xs.getD 0 0) (.ref r :: as) nx ls rest S else none
  | _ => none
/-- a goto may forget locals -/
def pm_lg : Option Value → Bool
  | some v => Nat.beq v.category 2
  | none => false
def pm_clr : List Nat → pm_L → pm_L
  | [], ls => ls
  | j :: t, ls => pm_clr t (bif pm_lg (ls.getD (j - 1) none) then ls else ls.set j none)
def pm_x (Sg : Nat → pm_K) (Rt : pm_T) (ret : Option FieldType) (q : pm_Q) (ls : pm_L) (st : List Value) (S : pm_S)   : pm_Z := match q with
  | (_, ins, nx, _, xs, ci, cl) => match ins with
    | .iload_n _ | .iload _ => match ls.getD (xs.getD 0 0) none with
      | some (.int x) => pm_n true nx ls (.int x :: st) S
      | _ => none
    | .lload_n _ | .lload _ => match ls.getD (xs.getD 0 0) none with
      | some (.long x) => match ls.getD (xs.getD 0 0 + 1) (some .null) with
        | none => pm_n true nx ls (.long x :: st) S
        | some _ => none
      | _ => none
    | .aload_n _ | .aload _ => match ls.getD (xs.getD 0 0) none with
      | some (.ref x) => bif Nat.beq x 204 then none else pm_n true nx ls (.ref x :: st) S
      | _ => none
    | .istore_n _ | .istore _ => match st with
      | .int x :: r => match pm_st1 ls (xs.getD 0 0) (.int x) with
        | some ls' => pm_n true nx ls' r S
        | none => none
      | _ => none
    | .astore_n _ | .astore _ => match st with
      | .ref x :: r => bif Nat.beq x 204 then none else (match pm_st1 ls (xs.getD 0 0) (.ref x) with
        | some ls' => pm_n true nx ls' r S
        | none => none)
      | _ => none
    | .lstore_n _ | .lstore _ => match st with
      | .long x :: r => match pm_st2 ls (xs.getD 0 0) (.long x) with
        | some ls' => pm_n true nx ls' r S
        | none => none
      | _ => none
    | .iinc _ _ => match ls.getD (xs.getD 0 0) none with
      | some (.int x) => match pm_st1 ls (xs.getD 0 0) (.int (x + ci)) with
        | some ls' => pm_n true nx ls' st S
        | none => none
      | _ => none
    | .iconst _ | .bipush _ | .sipush _ | .ldc_w _ => pm_n true nx ls (.int ci :: st) S
    | .ldc _ => match xs with
      | [] => pm_n true nx ls (.int ci :: st) S
      | r :: _ => pm_n true nx ls (.ref r :: st) S
    | .lconst _ | .ldc2_w _ => pm_n true nx ls (.long cl :: st) S
    | .iadd => match st with
      | .int y :: .int x :: r => pm_n true nx ls (.int (x + y) :: r) S
      | _ => none
    | .isub => match st with
      | .int y :: .int x :: r => pm_n true nx ls (.int (x - y) :: r) S
      | _ => none
    | .imul => match st with
      | .int y :: .int x :: r => pm_n true nx ls (.int (x * y) :: r) S
      | _ => none
    | .idiv => match st with
      | .int y :: .int x :: r => pm_n (!(decide (y = 0))) nx ls (.int (x / y) :: r) S
      | _ => none
    | .iand => match st with
      | .int y :: .int x :: r => pm_n true nx ls (.int (x &&& y) :: r) S
      | _ => none
    | .ior => match st with
      | .int y :: .int x :: r => pm_n true nx ls (.int (x ||| y) :: r) S
      | _ => none
    | .ixor => match st with
      | .int y :: .int x :: r => pm_n true nx ls (.int (x ^^^ y) :: r) S
      | _ => none
    | .ishl => match st with
      | .int y :: .int x :: r => pm_n true nx ls (.int (x <<< (y &&& 31)) :: r) S
      | _ => none
    | .ishr => match st with
      | .int y :: .int x :: r => pm_n true nx ls (.int (x >>> (y &&& 31)) :: r) S
      | _ => none
    | .iushr => match st with
      | .int y :: .int x :: r => pm_n true nx ls (.int (pm_us x y) :: r) S
      | _ => none
    | .ineg => match st with
      | .int x :: r => pm_n true nx ls (.int (-x) :: r) S
      | _ => none
    | .ladd => match st with
      | .long y :: .long x :: r => pm_n true nx ls (.long (x + y) :: r) S
      | _ => none
    | .lmul => match st with
      | .long y :: .long x :: r => pm_n true nx ls (.long (x * y) :: r) S
      | _ => none
    | .land => match st with
      | .long y :: .long x :: r => pm_n true nx ls (.long (x &&& y) :: r) S
      | _ => none
    | .lor => match st with
      | .long y :: .long x :: r => pm_n true nx ls (.long (x ||| y) :: r) S
      | _ => none
    | .lcmp => match st with
      | .long y :: .long x :: r => pm_n true nx ls (.int (lg_cmp x y) :: r) S
      | _ => none
    | .lshl => match st with
      | .int y :: .long x :: r => pm_n true nx ls (.long (x <<< (y.toInt64 &&& 63)) :: r) S
      | _ => none
    | .lushr => match st with
      | .int y :: .long x :: r => pm_n true nx ls (.long (pm_uls x y) :: r) S
      | _ => none
    | .i2l => match st with
      | .int x :: r => pm_n true nx ls (.long x.toInt64 :: r) S
      | _ => none
    | .l2i => match st with
      | .long x :: r => pm_n true nx ls (.int x.toInt32 :: r) S
      | _ => none
    | .i2b => match st with
      | .int x :: r => pm_n true nx ls (.int x.toInt8.toInt32 :: r) S
      | _ => none
    | .i2c => match st with
      | .int x :: r => pm_n true nx ls (.int (x.toUInt32 % 65536).toInt32 :: r) S
      | _ => none
    | .dup => match st with
      | .int x :: r => pm_n true nx ls (.int x :: .int x :: r) S
      | .ref x :: r => pm_n true nx ls (.ref x :: .ref x :: r) S
      | _ => none
    | .dup2 => match st with
      | .int y :: .ref x :: r => pm_n true nx ls (.int y :: .ref x :: .int y :: .ref x :: r) S
      | _ => none
    | .pop => match st with
      | .int _ :: r => pm_n true nx ls r S
      | _ => none
    | .ifCond .eq _ => match st with
      | .int x :: r => pm_b 0 x 0 (xs.getD 0 0) nx ls r S
      | _ => none
    | .ifCond .ne _ => match st with
      | .int x :: r => pm_b 0 x 0 nx (xs.getD 0 0) ls r S
      | _ => none
    | .ifCond .lt _ => match st with
      | .int x :: r => pm_b 1 x 0 (xs.getD 0 0) nx ls r S
      | _ => none
    | .ifCond .ge _ => match st with
      | .int x :: r => pm_b 1 x 0 nx (xs.getD 0 0) ls r S
      | _ => none
    | .ifCond .gt _ => match st with
      | .int x :: r => pm_b 2 x 0 nx (xs.getD 0 0) ls r S
      | _ => none
    | .ifCond .le _ => match st with
      | .int x :: r => pm_b 2 x 0 (xs.getD 0 0) nx ls r S
      | _ => none
    | .if_icmp .eq _ => match st with
      | .int y :: .int x :: r => pm_b 0 x y (xs.getD 0 0) nx ls r S
      | _ => none
    | .if_icmp .ne _ => match st with
      | .int y :: .int x :: r => pm_b 0 x y nx (xs.getD 0 0) ls r S
      | _ => none
    | .if_icmp .lt _ => match st with
      | .int y :: .int x :: r => pm_b 1 x y (xs.getD 0 0) nx ls r S
      | _ => none
    | .if_icmp .ge _ => match st with
      | .int y :: .int x :: r => pm_b 1 x y nx (xs.getD 0 0) ls r S
      | _ => none
    | .if_icmp .gt _ => match st with
      | .int y :: .int x :: r => pm_b 2 x y nx (xs.getD 0 0) ls r S
      | _ => none
    | .if_icmp .le _ => match st with
      | .int y :: .int x :: r => pm_b 2 x y (xs.getD 0 0) nx ls r S
      | _ => none
    | .goto _ => pm_n true (xs.getD 0 0) (pm_clr (xs.drop 1) ls) st S
    | .tableswitch _ _ _ _ => match st with
      | .int x :: r => pm_w x (xs.getD 0 0) (xs.drop 1) ls r S
      | _ => none
    | .getfield _ => match st with
      | .ref r :: rest => bif Nat.ble (xs.getD 0 9) 1 then (bif Nat.blt r S.1 then (match Sg r with
          | .inr (c, ks) => bif Nat.beq c (xs.getD 1 0) then (match pm_fv S r (xs.getD 2 0) (ks.getD (xs.getD 2 0) 9) with
              | some v => pm_n true nx ls (v :: rest) S
              | none => none) else none
          | .inl _ => none) else none)
        else (bif Nat.beq r 201 then (match xs.getD 0 9 with
          | 2 => pm_n true nx ls (.ref 202 :: rest) S
          | 3 => pm_n true nx ls (.int 0 :: rest) S
          | _ => none) else none)
      | _ => none
    | .putfield _ => match st with
      | .int x :: .ref r :: rest => bif Nat.blt r S.1 && Nat.ble (xs.getD 0 9) 1 then (match Sg r with
          | .inr (c, ks) => bif Nat.beq c (xs.getD 1 0) then (match ks.getD (xs.getD 2 0) 9 with
              | 0 => pm_n true nx ls rest (S.1, S.2.1, pm_ui S.2.2.1 r (xs.getD 2 0) x, S.2.2.2)
              | 2 => pm_n (decide (x &&& 1 = x)) nx ls rest (S.1, S.2.1, pm_ui S.2.2.1 r (xs.getD 2 0) x, S.2.2.2)
              | _ => none) else none
          | .inl _ => none) else none
      | .long x :: .ref r :: rest => bif Nat.blt r S.1 && Nat.ble (xs.getD 0 9) 1 then (match Sg r with
          | .inr (c, ks) => bif Nat.beq c (xs.getD 1 0) && Nat.beq (ks.getD (xs.getD 2 0) 9) 1 then pm_n true nx ls rest (S.1, S.2.1, S.2.2.1, pm_ul S.2.2.2 r (xs.getD 2 0) x) else none
          | .inl _ => none) else none
      | .ref z :: .ref r :: rest => bif Nat.blt r S.1 && (Nat.blt z S.1 && Nat.beq (xs.getD 0 9) 4) then (match Sg r with
          | .inr (c, ks) => bif Nat.beq c (xs.getD 1 0) && Nat.beq (ks.getD (xs.getD 2 0) 9) 3 then pm_n true nx ls rest (S.1, pm_ug S.2.1 r (xs.getD 2 0) (z + 1), S.2.2.1, S.2.2.2) else none
          | .inl _ => none) else none
      | _ => none
    | .getstatic _ => match xs.getD 0 0 with
      | 0 => pm_n true nx ls (.ref 200 :: st) S
      | 1 => pm_n true nx ls (.int 1 :: st) S
      | 2 => pm_n true nx ls (.ref 204 :: st) S
      | _ => none
    | .iaload => match st with
      | .int i :: .ref r :: rest => bif Nat.blt r S.1 then (match Sg r with
          | .inl (0, n) => pm_n (pm_ib i n) nx ls (.int (S.2.2.1 r i.toNatClampNeg) :: rest) S
          | _ => none)
        else (match Rt r with
          | some (0, n, f) => pm_n (pm_ib i n) nx ls (.int (f i.toNatClampNeg) :: rest) S
          | _ => none)
      | _ => none
    | .baload => match st with
      | .int i :: .ref r :: rest => bif Nat.blt r S.1 then (match Sg r with
          | .inl (2, n) => pm_n (pm_ib i n) nx ls (.int (S.2.2.1 r i.toNatClampNeg) :: rest) S
          | .inl (3, n) => pm_n (pm_ib i n) nx ls (.int (S.2.2.1 r i.toNatClampNeg) :: rest) S
          | _ => none)
        else (match Rt r with
          | some (2, n, f) => pm_n (pm_ib i n) nx ls (.int (f i.toNatClampNeg) :: rest) S
          | _ => none)
      | _ => none
    | .laload => match st with
      | .int i :: .ref r :: rest => bif Nat.blt r S.1 then (match Sg r with
          | .inl (1, n) => pm_n (pm_ib i n) nx ls (.long (S.2.2.2 r i.toNatClampNeg) :: rest) S
          | _ => none) else none
      | _ => none
    | .iastore => match st with
      | .int x :: .int i :: .ref r :: rest => bif Nat.blt r S.1 then (match Sg r with
          | .inl (0, n) => pm_n (pm_ib i n) nx ls rest (S.1, S.2.1, pm_ui S.2.2.1 r i.toNatClampNeg x, S.2.2.2)
          | _ => none) else none
      | _ => none
    | .bastore => match st with
      | .int x :: .int i :: .ref r :: rest => bif Nat.blt r S.1 then (match Sg r with
          | .inl (2, n) => pm_n (pm_ib i n) nx ls rest (S.1, S.2.1, pm_ui S.2.2.1 r i.toNatClampNeg (vp_nar .byte x), S.2.2.2)
          | .inl (3, n) => pm_n (pm_ib i n) nx ls rest (S.1, S.2.1, pm_ui S.2.2.1 r i.toNatClampNeg (vp_nar .boolean x), S.2.2.2)
          | _ => none) else none
      | _ => none
    | .lastore => match st with
      | .long x :: .int i :: .ref r :: rest => bif Nat.blt r S.1 then (match Sg r with
          | .inl (1, n) => pm_n (pm_ib i n) nx ls rest (S.1, S.2.1, S.2.2.1, pm_ul S.2.2.2 r i.toNatClampNeg x)
          | _ => none) else none
      | _ => none
    | .arraylength => match st with
      | .ref r :: rest => bif Nat.blt r S.1 then (match Sg r with
          | .inl (t, n) => bif Nat.ble t 3 then pm_n true nx ls (.int (nI n) :: rest) S else none
          | _ => none)
        else (match Rt r with
          | some (_, n, _) => pm_n true nx ls (.int (nI n) :: rest) S
          | _ => none)
      | _ => none
    | .newarray _ => match st with
      | .int n :: rest => match Sg S.1 with
        | .inl (t, w) => bif Nat.beq t (xs.getD 0 9) && Nat.blt S.1 49 then (pm_n (decide (n = nI w)) nx ls (.ref S.1 :: rest) (S.1 + 1, pm_cg S.2.1 S.1, pm_ci S.2.2.1 S.1, pm_cl S.2.2.2 S.1)) else none
        | _ => none
      | _ => none
    | .new _ => match Sg S.1 with
      | .inr (c, _) => bif Nat.beq c (xs.getD 1 0) && Nat.blt S.1 49 then pm_n true nx ls (.ref S.1 :: st) (S.1 + 1, pm_cg S.2.1 S.1, pm_ci S.2.2.1 S.1, pm_cl S.2.2.2 S.1) else none
      | _ => none
    | .invokespecial _ => match xs with
      | [] => match st with
        | .ref r :: rest => bif Nat.blt r S.1 && Nat.ble (pm_wd rest) 8 then pm_n true nx ls rest S else none
        | _ => none
      | xs => pm_callI nx xs ls st S
    | .invokevirtual _ => pm_callV Sg nx xs ls st S
    | .invokestatic _ => pm_call nx xs ls st S
    | .ireturn => match st with
      | [.int x] => match ret with
        | some .int => pm_e true (some (.int x)) S
        | some .boolean => pm_e (decide (x &&& 1 = x)) (some (.int x)) S
        | some .byte => pm_e (decide (x.toInt8.toInt32 = x)) (some (.int x)) S
        | some .char => pm_e (decide ((x.toUInt32 % 65536).toInt32 = x)) (some (.int x)) S
        | _ => none
      | _ => none
    | .lreturn => match st with
      | [.long x] => match ret with
        | some .long => pm_e true (some (.long x)) S
        | _ => none
      | _ => none
    | .return_ => match st with
      | [] => match ret with
        | none => pm_e true none S
        | _ => none
      | _ => none
    | _ => none
/-- behind a call -/
def pm_k (r : pm_R) (k : Option Value → pm_S → pm_R) : pm_R := match r with
  | some (v, S) => k v S
  | none => none
def pm_c (me : Nat → pm_Me) (F : pm_F) (mj : Nat) (as : List Value) (S : pm_S) : pm_R := bif Nat.ble (pm_wd as) (me mj).2.2.1 then F mj 0 (pm_en (me mj).2.2.1 as) [] S else none
def pm_dc (me : Nat → pm_Me) (F : pm_F) (mi : Nat) : pm_C → pm_R
  | .inl (pc, ls, st, S) => F mi pc ls st S
  | .inr (.inl (o, x, y, t, e, ls, st, S)) => match o with
    | 0 => if x = y then F mi t ls st S else F mi e ls st S
    | 1 => if x < y then F mi t ls st S else F mi e ls st S
    | _ => if x ≤ y then F mi t ls st S else F mi e ls st S
  | .inr (.inr (.inl (x, d, ts, ls, st, S))) => pm_sw (fun t => F mi t ls st S) x d ts 0
  | .inr (.inr (.inr (.inl (mj, as, nx, ls, st, S)))) => pm_k (pm_c me F mj as S) (fun v S' => F mi nx ls (v.toList ++ st) S')
  | .inr (.inr (.inr (.inr (v, S)))) => some (v, S)
def pm_do (me : Nat → pm_Me) (F : pm_F) (mi : Nat) : pm_Z → pm_R
  | none => none
  | some (g, c) => bif g then pm_dc me F mi c else none
def pm_body (me : Nat → pm_Me) (Sg : Nat → pm_K) (Rt : pm_T) (F : pm_F) : pm_F := fun mi pc ls st S => match pm_at (me mi).2.2.2.2.2.2 pc with
  | some q => pm_do me F mi (pm_x Sg Rt (me mi).2.2.2.1 q ls st S)
  | none => none
/-- so many instructions deep at most -/
def pm_run (me : Nat → pm_Me) (Sg : Nat → pm_K) (Rt : pm_T) : Nat → pm_F
  | 0 => fun _ _ _ _ _ => none
  | n + 1 => pm_body me Sg Rt (pm_run me Sg Rt n)
/-- a block: till a place where it stops; at most k instructions -/
def pm_blk (me : Nat → pm_Me) (Sg : Nat → pm_K) (Rt : pm_T) (F : pm_F) (stop : Nat → Nat → Bool) : Nat → pm_F
  | 0 => F
  | k + 1 => fun mi pc ls st S => pm_body me Sg Rt (fun mi pc ls st S => bif stop mi pc then F mi pc ls st S else pm_blk me Sg Rt F stop k mi pc ls st S) mi pc ls st S
def pm_fix (me : Nat → pm_Me) (Sg : Nat → pm_K) (Rt : pm_T) (F : pm_F) : Prop := ∀ mi pc ls st S, F mi pc ls st S = pm_body me Sg Rt F mi pc ls st S
theorem pm_blk_eq {me : Nat → pm_Me} {Sg : Nat → pm_K} {Rt : pm_T} {F : pm_F} (h : pm_fix me Sg Rt F) (stop : Nat → Nat → Bool) : ∀ (k : Nat), pm_blk me Sg Rt F stop k = F := by
  intro k
  induction k with
  | zero => rfl
  | succ k ih =>
    funext mi pc ls st S
    rw [h mi pc ls st S]
    show pm_body me Sg Rt (fun mi pc ls st S => bif stop mi pc then F mi pc ls st S else pm_blk me Sg Rt F stop k mi pc ls st S) mi pc ls st S = _
    rw [ih]
    congr 1
    funext mi pc ls st S
    cases stop mi pc <;> rfl
theorem pm_blk_to {me : Nat → pm_Me} {Sg : Nat → pm_K} {Rt : pm_T} {F : pm_F} (h : pm_fix me Sg Rt F) (stop : Nat → Nat → Bool) (k : Nat) {mi pc : Nat} {ls : pm_L} {st : List Value} {S : pm_S} {r : pm_R} (hr : pm_blk me Sg Rt F stop k mi pc ls st S = r) : F mi pc ls st S = r := by
  rw [← hr, pm_blk_eq h]
/-! the least machine: what some depth answers -/
def pm_le (F F' : pm_F) : Prop := ∀ mi pc ls st S r, F mi pc ls st S = some r → F' mi pc ls st S = some r
theorem pm_k_some {r : pm_R} {k : Option Value → pm_S → pm_R} {z : Option Value × pm_S} (h : pm_k r k = some z) : ∃ v S, r = some (v, S) ∧ k v S = some z := by
  cases r with
  | none => cases h
  | some a => exact ⟨a.1, a.2, rfl, h⟩
theorem pm_c_some {me : Nat → pm_Me} {F : pm_F} {mj : Nat} {as : List Value} {S : pm_S} {z : Option Value × pm_S} (h : pm_c me F mj as S = some z) : Nat.ble (pm_wd as) (me mj).2.2.1 = true ∧ F mj 0 (pm_en (me mj).2.2.1 as) [] S = some z := by
  unfold pm_c at h
  cases hb : Nat.ble (pm_wd as) (me mj).2.2.1 with
  | true => rw [hb] at h; exact ⟨rfl, h⟩
  | false => rw [hb] at h; cases h
theorem pm_sw_some {k k' : Nat → pm_R} {x : Int32} {d : Nat} {z : Option Value × pm_S} (hk : ∀ t, k t = some z → k' t = some z) : ∀ (ts : List Nat) (j : Nat), pm_sw k x d ts j = some z → pm_sw k' x d ts j = some z := by
  intro ts
  induction ts with
  | nil => intro j h; exact hk _ h
  | cons t ts ih =>
    intro j h
    unfold pm_sw at h ⊢
    by_cases c : x = nI j
    · rw [if_pos c] at h ⊢; exact hk _ h
    · rw [if_neg c] at h ⊢; exact ih _ h
theorem pm_sw_which {k : Nat → pm_R} {x : Int32} {d : Nat} : ∀ (ts : List Nat) (j : Nat), ∃ t, pm_sw k x d ts j = k t ∧ ∀ k', pm_sw k' x d ts j = k' t := by
  intro ts
  induction ts with
  | nil => intro j; exact ⟨d, rfl, fun _ => rfl⟩
  | cons t ts ih =>
    intro j
    by_cases c : x = nI j
    · exact ⟨t, by unfold pm_sw; rw [if_pos c], fun k' => by unfold pm_sw; rw [if_pos c]⟩
    · obtain ⟨u, h1, h2⟩ := ih (j + 1)
      exact ⟨u, by unfold pm_sw; rw [if_neg c]; exact h1, fun k' => by unfold pm_sw; rw [if_neg c]; exact h2 k'⟩
theorem pm_body_mono {me : Nat → pm_Me} {Sg : Nat → pm_K} {Rt : pm_T} {F F' : pm_F} (h : pm_le F F') : pm_le (pm_body me Sg Rt F) (pm_body me Sg Rt F') := by
  intro mi pc ls st S r hr
  unfold pm_body at hr ⊢
  cases hq : pm_at (me mi).2.2.2.2.2.2 pc with
  | none => rw [hq] at hr; cases hr
  | some q =>
    rw [hq] at hr
    dsimp only at hr ⊢
    cases hz : pm_x Sg Rt (me mi).2.2.2.1 q ls st S with
    | none => rw [hz] at hr; cases hr
    | some gc =>
      obtain ⟨g, c⟩ := gc
      rw [hz] at hr
      cases g with
      | false => cases hr
      | true =>
        show pm_dc me F' mi c = some r
        have hr : pm_dc me F mi c = some r := hr
        rcases c with ⟨pc', ls', st', S'⟩ | ⟨o, x, y, t, e, ls', st', S'⟩ | ⟨x, d, ts, ls', st', S'⟩ | ⟨mj, as, nx, ls', st', S'⟩ | ⟨v, S'⟩
        · exact h _ _ _ _ _ _ hr
        · unfold pm_dc at hr ⊢
          dsimp only at hr ⊢
          split at hr <;> split at hr <;> rename_i c1 <;> first | (rw [if_pos c1]; exact h _ _ _ _ _ _ hr) | (rw [if_neg c1]; exact h _ _ _ _ _ _ hr)
        · exact pm_sw_some (fun t ht => h _ _ _ _ _ _ ht) ts 0 hr
        · obtain ⟨v, S2, h1, h2⟩ := pm_k_some hr
          obtain ⟨h3, h4⟩ := pm_c_some h1
          show pm_k (pm_c me F' mj as S') _ = _
          have : pm_c me F' mj as S' = some (v, S2) := by unfold pm_c; rw [h3]; exact h _ _ _ _ _ _ h4
          rw [this]
          exact h _ _ _ _ _ _ h2
        · exact hr
theorem pm_run_le {me : Nat → pm_Me} {Sg : Nat → pm_K} {Rt : pm_T} : ∀ (n : Nat), pm_le (pm_run me Sg Rt n) (pm_run me Sg Rt (n + 1)) := by
  intro n
  induction n with
  | zero => intro mi pc ls st S r h; cases h
  | succ n ih => exact pm_body_mono ih
theorem pm_run_mono {me : Nat → pm_Me} {Sg : Nat → pm_K} {Rt : pm_T} {n m : Nat} (h : n ≤ m) : pm_le (pm_run me Sg Rt n) (pm_run me Sg Rt m) := by
  induction h with
  | refl => exact fun _ _ _ _ _ _ h => h
  | step _ ih => exact fun mi pc ls st S r hr => pm_run_le _ _ _ _ _ _ _ (ih _ _ _ _ _ _ hr)
noncomputable def pm_sem (me : Nat → pm_Me) (Sg : Nat → pm_K) (Rt : pm_T) : pm_F := fun mi pc ls st S => by
  classical
  exact if h : ∃ n r, pm_run me Sg Rt n mi pc ls st S = some r then some (Classical.choose (Classical.choose_spec h)) else none
theorem pm_sem_iff {me : Nat → pm_Me} {Sg : Nat → pm_K} {Rt : pm_T} {mi pc : Nat} {ls : pm_L} {st : List Value} {S : pm_S} {r : Option Value × pm_S} : pm_sem me Sg Rt mi pc ls st S = some r ↔ ∃ n, pm_run me Sg Rt n mi pc ls st S = some r := by
  unfold pm_sem
  constructor
  · intro h
    by_cases c : ∃ n r, pm_run me Sg Rt n mi pc ls st S = some r
    · rw [dif_pos c] at h
      cases h
      exact ⟨_, Classical.choose_spec (Classical.choose_spec c)⟩
    · rw [dif_neg c] at h; cases h
  · rintro ⟨n, hn⟩
    have c : ∃ n r, pm_run me Sg Rt n mi pc ls st S = some r := ⟨n, r, hn⟩
    rw [dif_pos c]
    have h2 := Classical.choose_spec (Classical.choose_spec c)
    have h3 := pm_run_mono (Nat.le_max_left (Classical.choose c) n) _ _ _ _ _ _ h2
    have h4 := pm_run_mono (Nat.le_max_right (Classical.choose c) n) _ _ _ _ _ _ hn
    rw [h3] at h4
    exact h4
theorem pm_sem_cont {me : Nat → pm_Me} {Sg : Nat → pm_K} {Rt : pm_T} {mi pc : Nat} {ls : pm_L} {st : List Value} {S : pm_S} {r : Option Value × pm_S} (hr : pm_body me Sg Rt (pm_sem me Sg Rt) mi pc ls st S = some r) : ∃ n, pm_body me Sg Rt (pm_run me Sg Rt n) mi pc ls st S = some r := by
  unfold pm_body at hr ⊢
  cases hq : pm_at (me mi).2.2.2.2.2.2 pc with
  | none => rw [hq] at hr; cases hr
  | some q =>
    rw [hq] at hr
    dsimp only at hr ⊢
    cases hz : pm_x Sg Rt (me mi).2.2.2.1 q ls st S with
    | none => rw [hz] at hr; cases hr
    | some gc =>
      obtain ⟨g, c⟩ := gc
      rw [hz] at hr
      cases g with
      | false => cases hr
      | true =>
        show ∃ n, pm_dc me (pm_run me Sg Rt n) mi c = some r
        have hr : pm_dc me (pm_sem me Sg Rt) mi c = some r := hr
        rcases c with ⟨pc', ls', st', S'⟩ | ⟨o, x, y, t, e, ls', st', S'⟩ | ⟨x, d, ts, ls', st', S'⟩ | ⟨mj, as, nx, ls', st', S'⟩ | ⟨v, S'⟩
        · exact pm_sem_iff.mp hr
        · unfold pm_dc at hr ⊢
          dsimp only at hr ⊢
          split at hr <;> split at hr <;> rename_i c1 <;> (obtain ⟨n, hn⟩ := pm_sem_iff.mp hr; refine ⟨n, ?_⟩) <;> first | (rw [if_pos c1]; exact hn) | (rw [if_neg c1]; exact hn)
        · obtain ⟨t, h1, h2⟩ := pm_sw_which (k := fun t => pm_sem me Sg Rt mi t ls' st' S') (x := x) (d := d) ts 0
          obtain ⟨n, hn⟩ := pm_sem_iff.mp (h1.symm.trans hr)
          exact ⟨n, (h2 _).trans hn⟩
        · obtain ⟨v, S2, h1, h2⟩ := pm_k_some hr
          obtain ⟨h3, h4⟩ := pm_c_some h1
          obtain ⟨n1, h5⟩ := pm_sem_iff.mp h4
          obtain ⟨n2, h6⟩ := pm_sem_iff.mp h2
          refine ⟨max n1 n2, ?_⟩
          show pm_k (pm_c me _ mj as S') _ = _
          have : pm_c me (pm_run me Sg Rt (max n1 n2)) mj as S' = some (v, S2) := by unfold pm_c; rw [h3]; exact pm_run_mono (Nat.le_max_left _ _) _ _ _ _ _ _ h5
          rw [this]
          exact pm_run_mono (Nat.le_max_right _ _) _ _ _ _ _ _ h6
        · exact ⟨0, hr⟩
theorem pm_sem_fix (me : Nat → pm_Me) (Sg : Nat → pm_K) (Rt : pm_T) : pm_fix me Sg Rt (pm_sem me Sg Rt) := by
  intro mi pc ls st S
  apply Option.ext
  intro r
  constructor
  · intro h
    obtain ⟨n, hn⟩ := pm_sem_iff.mp h
    cases n with
    | zero => cases hn
    | succ n => exact pm_body_mono (fun _ _ _ _ _ _ h => pm_sem_iff.mpr ⟨n, h⟩) _ _ _ _ _ _ hn
  · intro h
    obtain ⟨n, hn⟩ := pm_sem_cont h
    exact pm_sem_iff.mpr ⟨n + 1, hn⟩
/-- a block of a method stops at its cuts, and at every other method -/
def pm_el (b : Nat) : List Nat → Bool
  | [] => false
  | a :: l => Nat.beq a b || pm_el b l
def pm_stp (mi : Nat) (C : List Nat) (a b : Nat) : Bool := !(Nat.beq a mi) || pm_el b C
theorem pm_k_i {v : Option Value} {S : pm_S} {k : Option Value → pm_S → pm_R} : pm_k (some (v, S)) k = k v S := rfl
