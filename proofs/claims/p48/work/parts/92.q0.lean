/-! ===== the law's machine: the law's bytecode and the library's, over references of a place (what they lead to) and a number; the class is asked ===== -/
abbrev qm_V : Type := Int32 ⊕ (Nat × Nat)
abbrev qm_L : Type := List (Option qm_V)
/-- the next cell's number; slots so far; each cell's place; lengths; references (place, cell, slot), 0: null; ints (place, cell, slot); the class -/
abbrev qm_S : Type := Nat × Nat × (Nat → Nat) × (Nat → Nat) × (Nat → Nat → Nat → Nat) × (Nat → Nat → Nat → Int32) × pm_S
abbrev qm_R : Type := Option (Option qm_V × qm_S)
abbrev qm_F : Type := Nat → Nat → qm_L → List qm_V → qm_S → qm_R
/-- a place: arrays (their type's number, where their references lead), objects (class, fields: kind (0 int, 2 boolean, 3 a reference, 4 byte) and where they lead) -/
abbrev qm_K : Type := (Nat × Nat) ⊕ (Nat × List (Nat × Nat))
/-- what nobody writes: ints by place, cell, slot; lengths; which places -/
abbrev qm_T : Type := (Nat → Nat → Nat → Int32) × (Nat → Nat → Nat) × (Nat → Bool)
/-- the class asked -/
abbrev qm_O : Type := Nat → List Value → pm_S → pm_R
def qm_ui (f : Nat → Nat → Nat → Int32) (s a k : Nat) (v : Int32) : Nat → Nat → Nat → Int32 := fun x b j => bif Nat.beq x s && (Nat.beq j k && Nat.beq b a) then v else f x b j
def qm_ci (f : Nat → Nat → Nat → Int32) (s a : Nat) : Nat → Nat → Nat → Int32 := fun x b j => bif Nat.beq x s && Nat.beq b a then 0 else f x b j
def qm_ug (f : Nat → Nat → Nat → Nat) (s a k v : Nat) : Nat → Nat → Nat → Nat := fun x b j => bif Nat.beq x s && (Nat.beq j k && Nat.beq b a) then v else f x b j
def qm_cg (f : Nat → Nat → Nat → Nat) (s a : Nat) : Nat → Nat → Nat → Nat := fun x b j => bif Nat.beq x s && Nat.beq b a then 0 else f x b j
def qm_un (f : Nat → Nat) (a v : Nat) : Nat → Nat := fun b => bif Nat.beq b a then v else f b
/-- a row copied -/
def qm_cp (f : Nat → Nat → Nat → Int32) (s a t b sp dp n : Nat) : Nat → Nat → Nat → Int32 := fun x c j => bif Nat.beq x t && Nat.beq c b then va_cpy (f s a) (f t b) sp dp n j else f x c j
/-- a row of what nobody writes, copied -/
def qm_ct (g : Nat → Int32) (f : Nat → Nat → Nat → Int32) (t b sp dp n : Nat) : Nat → Nat → Nat → Int32 := fun x c j => bif Nat.beq x t && Nat.beq c b then va_cpy g (f t b) sp dp n j else f x c j
/-- a row of another's contents -/
def qm_cw (f : Nat → Nat → Nat → Int32) (s a t b : Nat) : Nat → Nat → Nat → Int32 := fun x c j => bif Nat.beq x t && Nat.beq c b then f s a j else f x c j
/-- rows of rows: the outer's references, the inners' zeroes, what they are, their lengths -/
def qm_mg (f : Nat → Nat → Nat → Nat) (s a n : Nat) : Nat → Nat → Nat → Nat := fun x b j => bif Nat.beq x s && Nat.beq b a then (bif Nat.blt j n then a + 1 + j else 0) else f x b j
def qm_mi (f : Nat → Nat → Nat → Int32) (t a n : Nat) : Nat → Nat → Nat → Int32 := fun x b j => bif Nat.beq x t && (Nat.blt a b && Nat.ble b (a + n)) then 0 else f x b j
def qm_mn (f : Nat → Nat) (a n v : Nat) : Nat → Nat := fun b => bif Nat.blt a b && Nat.ble b (a + n) then v else f b
def qm_bytes (f : Nat → Int32) (p n : Nat) : Bool := (List.range n).all fun i => decide ((f (p + i)).toInt8.toInt32 = f (p + i))
def qm_pop : Nat → List qm_V → List qm_V → Option (List qm_V × List qm_V)
  | 0, acc, st => some (acc, st)
  | _ + 1, _, [] => none
  | n + 1, acc, v :: st => qm_pop n (v :: acc) st
def qm_en : Nat → List qm_V → qm_L
  | n, [] => List.replicate n none
  | n, v :: vs => some v :: qm_en (n - 1) vs
def qm_st1 (ls : qm_L) (i : Nat) (v : qm_V) : Option qm_L := bif Nat.blt i ls.length then some (ls.set i (some v)) else none
def qm_sw (k : Nat → qm_R) (x : Int32) (d : Nat) : List Nat → Nat → qm_R
  | [], _ => k d
  | t :: ts, j => if x = nI j then k t else qm_sw k x d ts (j + 1)
/-- on to a place; by a comparison; by a switch; a call (of the class, of whom, with what, on to); an answer -/
abbrev qm_C : Type := (Nat × qm_L × List qm_V × qm_S) ⊕ (Nat × Int32 × Int32 × Nat × Nat × qm_L × List qm_V × qm_S) ⊕ (Int32 × Nat × List Nat × qm_L × List qm_V × qm_S) ⊕ (Bool × Nat × List qm_V × Nat × qm_L × List qm_V × qm_S) ⊕ (Option qm_V × qm_S)
abbrev qm_Z : Type := Option (Bool × qm_C)
def qm_n (g : Bool) (pc : Nat) (ls : qm_L) (st : List qm_V) (S : qm_S) : qm_Z := some (g, .inl (pc, ls, st, S))
def qm_b (o : Nat) (x y : Int32) (t e : Nat) (ls : qm_L) (st : List qm_V) (S : qm_S) : qm_Z := some (true, .inr (.inl (o, x, y, t, e, ls, st, S)))
def qm_w (x : Int32) (d : Nat) (ts : List Nat) (ls : qm_L) (st : List qm_V) (S : qm_S) : qm_Z := some (true, .inr (.inr (.inl (x, d, ts, ls, st, S))))
def qm_j (cl : Bool) (mj : Nat) (as : List qm_V) (nx : Nat) (ls : qm_L) (st : List qm_V) (S : qm_S) : qm_Z := some (true, .inr (.inr (.inr (.inl (cl, mj, as, nx, ls, st, S)))))
def qm_e (g : Bool) (v : Option qm_V) (S : qm_S) : qm_Z := some (g, .inr (.inr (.inr (.inr (v, S)))))
/-- the state with another of its parts -/
def qm_sI (S : qm_S) (I : Nat → Nat → Nat → Int32) : qm_S := (S.1, S.2.1, S.2.2.1, S.2.2.2.1, S.2.2.2.2.1, I, S.2.2.2.2.2.2)
def qm_sG (S : qm_S) (G : Nat → Nat → Nat → Nat) : qm_S := (S.1, S.2.1, S.2.2.1, S.2.2.2.1, G, S.2.2.2.2.2.1, S.2.2.2.2.2.2)
/-- a cell more -/
def qm_mk (S : qm_S) (s w : Nat) : qm_S := (S.1 + 1, S.2.1 + w, qm_un S.2.2.1 S.1 s, qm_un S.2.2.2.1 S.1 w, qm_cg S.2.2.2.2.1 s S.1, qm_ci S.2.2.2.2.2.1 s S.1, S.2.2.2.2.2.2)
def qm_mm (S : qm_S) (s t n k : Nat) : qm_S := (S.1 + 1 + n, S.2.1 + (n + n * k), qm_mn (qm_un S.2.2.1 S.1 s) S.1 n t, qm_mn (qm_un S.2.2.2.1 S.1 n) S.1 n k, qm_mg S.2.2.2.2.1 s S.1 n, qm_mi S.2.2.2.2.2.1 t S.1 n, S.2.2.2.2.2.2)
/-- how long a row is -/
def qm_len (T : qm_T) (S : qm_S) (s a : Nat) : Nat := bif T.2.2 s then T.2.1 s a else (bif Nat.beq s 24 then (bif Nat.blt a 1001 then 0 else S.2.2.2.1 a) else S.2.2.2.1 a)
def qm_rd (T : qm_T) (S : qm_S) (s a k : Nat) : Int32 := bif T.2.2 s then T.1 s a k else S.2.2.2.2.2.1 s a k
/-- may be left on the stack below a call -/
def qm_call (cl : Bool) (nx : Nat) (xs : List Nat) (ls : qm_L) (st : List qm_V) (S : qm_S) : qm_Z := match qm_pop (xs.getD 1 0) [] st with
  | some (as, rest) => bif Nat.ble rest.length 8 then qm_j cl (xs.getD 0 0) as nx ls rest S else none
  | none => none
def qm_isr : List qm_V → Nat → Bool
  | .inr (s, _) :: _, c => Nat.beq s c
  | _, _ => false
/-- the receiver is of that place -/
def qm_callV (nx : Nat) (xs : List Nat) (ls : qm_L) (st : List qm_V) (S : qm_S) : qm_Z := match qm_pop (xs.getD 1 0) [] st with
  | some (as, rest) => bif Nat.ble rest.length 8 && (match as with
    | .inr (s, _) :: _ => (xs.drop 7).any (Nat.beq s)
    | _ => false) then qm_j (Nat.beq (xs.getD 2 0) 9 || Nat.beq (xs.getD 2 0) 10) (xs.getD 0 0) as nx ls rest S else none
  | none => none
def qm_av : qm_V → Value
  | .inl x => .int x
  | .inr _ => .ref 0
def qm_cls : qm_V → Bool
  | .inl _ => true
  | .inr (s, _) => Nat.beq s 0
/-- a field -/
def qm_fv (T : qm_T) (S : qm_S) (s a k : Nat) (kd : Nat × Nat) : Option (Bool × qm_V) := match kd.1 with
  | 0 => some (true, .inl (qm_rd T S s a k))
  | 2 => some (true, .inl (qm_rd T S s a k))
  | 4 => some (true, .inl (qm_rd T S s a k))
  | 3 => bif T.2.2 s then some (true, .inr (kd.2, a + 20)) else some (Nat.blt 0 (S.2.2.2.2.1 s a k), .inr (kd.2, S.2.2.2.2.1 s a k))
  | _ => none
def qm_x (qs : Nat → qm_K) (T : qm_T) (J : Nat) (ret : Option FieldType) (q : pm_Q) (ls : qm_L) (st : List qm_V) (S : qm_S) : qm_Z := match q with
  | (_, ins, nx, _, xs, ci, _) => match ins with
    | .iload_n _ | .iload _ => match ls.getD (xs.getD 0 0) none with
      | some (.inl x) => qm_n true nx ls (.inl x :: st) S
      | _ => none
    | .aload_n _ | .aload _ => match ls.getD (xs.getD 0 0) none with
      | some (.inr (s, a)) => bif Nat.blt s 30 then qm_n true nx ls (.inr (s, a) :: st) S else none
      | _ => none
    | .istore_n _ | .istore _ => match st with
      | .inl x :: r => match qm_st1 ls (xs.getD 0 0) (.inl x) with
        | some ls' => qm_n true nx ls' r S
        | none => none
      | _ => none
    | .astore_n _ | .astore _ => match st with
      | .inr (s, a) :: r => bif Nat.blt s 30 then (match qm_st1 ls (xs.getD 0 0) (.inr (s, a)) with
        | some ls' => qm_n true nx ls' r S
        | none => none) else none
      | _ => none
    | .iinc _ _ => match ls.getD (xs.getD 0 0) none with
      | some (.inl x) => match qm_st1 ls (xs.getD 0 0) (.inl (x + ci)) with
        | some ls' => qm_n true nx ls' st S
        | none => none
      | _ => none
    | .iconst _ | .bipush _ | .sipush _ | .ldc_w _ => qm_n true nx ls (.inl ci :: st) S
    | .ldc _ => match xs with
      | [] => qm_n true nx ls (.inl ci :: st) S
      | a :: _ => bif Nat.ble 11 a && Nat.blt a 29 then qm_n true nx ls (.inr (16, a) :: st) S else none
    | .aconst_null => qm_n true nx ls (.inr (31, 0) :: st) S
    | .iadd => match st with
      | .inl y :: .inl x :: r => qm_n true nx ls (.inl (x + y) :: r) S
      | _ => none
    | .isub => match st with
      | .inl y :: .inl x :: r => qm_n true nx ls (.inl (x - y) :: r) S
      | _ => none
    | .imul => match st with
      | .inl y :: .inl x :: r => qm_n true nx ls (.inl (x * y) :: r) S
      | _ => none
    | .idiv => match st with
      | .inl y :: .inl x :: r => qm_n (!(decide (y = 0))) nx ls (.inl (x / y) :: r) S
      | _ => none
    | .irem => match st with
      | .inl y :: .inl x :: r => qm_n (!(decide (y = 0))) nx ls (.inl (x - x / y * y) :: r) S
      | _ => none
    | .iand => match st with
      | .inl y :: .inl x :: r => qm_n true nx ls (.inl (x &&& y) :: r) S
      | _ => none
    | .ior => match st with
      | .inl y :: .inl x :: r => qm_n true nx ls (.inl (x ||| y) :: r) S
      | _ => none
    | .ishl => match st with
      | .inl y :: .inl x :: r => qm_n true nx ls (.inl (x <<< (y &&& 31)) :: r) S
      | _ => none
    | .ishr => match st with
      | .inl y :: .inl x :: r => qm_n true nx ls (.inl (x >>> (y &&& 31)) :: r) S
      | _ => none
    | .iushr => match st with
      | .inl y :: .inl x :: r => qm_n true nx ls (.inl (pm_us x y) :: r) S
      | _ => none
    | .ineg => match st with
      | .inl x :: r => qm_n true nx ls (.inl (-x) :: r) S
      | _ => none
    | .i2b => match st with
      | .inl x :: r => qm_n true nx ls (.inl x.toInt8.toInt32 :: r) S
      | _ => none
    | .i2c => match st with
      | .inl x :: r => qm_n true nx ls (.inl (x.toUInt32 % 65536).toInt32 :: r) S
      | _ => none
    | .dup => match st with
      | v :: r => qm_n true nx ls (v :: v :: r) S
      | _ => none
    | .dup_x1 => match st with
      | v :: u :: r => qm_n true nx ls (v :: u :: v :: r) S
      | _ => none
    | .dup2 => match st with
      | v :: u :: r => qm_n true nx ls (v :: u :: v :: u :: r) S
      | _ => none
    | .pop => match st with
      | _ :: r => qm_n true nx ls r S
      | _ => none
    | .ifCond .eq _ => match st with
      | .inl x :: r => qm_b 0 x 0 (xs.getD 0 0) nx ls r S
      | _ => none
    | .ifCond .ne _ => match st with
      | .inl x :: r => qm_b 0 x 0 nx (xs.getD 0 0) ls r S
      | _ => none
    | .ifCond .lt _ => match st with
      | .inl x :: r => qm_b 1 x 0 (xs.getD 0 0) nx ls r S
      | _ => none
    | .ifCond .ge _ => match st with
      | .inl x :: r => qm_b 1 x 0 nx (xs.getD 0 0) ls r S
      | _ => none
    | .ifCond .gt _ => match st with
      | .inl x :: r => qm_b 2 x 0 nx (xs.getD 0 0) ls r S
      | _ => none
    | .ifCond .le _ => match st with
      | .inl x :: r => qm_b 2 x 0 (xs.getD 0 0) nx ls r S
      | _ => none
    | .if_icmp .eq _ => match st with
      | .inl y :: .inl x :: r => qm_b 0 x y (xs.getD 0 0) nx ls r S
      | _ => none
    | .if_icmp .ne _ => match st with
      | .inl y :: .inl x :: r => qm_b 0 x y nx (xs.getD 0 0) ls r S
      | _ => none
    | .if_icmp .lt _ => match st with
      | .inl y :: .inl x :: r => qm_b 1 x y (xs.getD 0 0) nx ls r S
      | _ => none
    | .if_icmp .ge _ => match st with
      | .inl y :: .inl x :: r => qm_b 1 x y nx (xs.getD 0 0) ls r S
      | _ => none
    | .if_icmp .gt _ => match st with
      | .inl y :: .inl x :: r => qm_b 2 x y nx (xs.getD 0 0) ls r S
      | _ => none
    | .if_icmp .le _ => match st with
      | .inl y :: .inl x :: r => qm_b 2 x y (xs.getD 0 0) nx ls r S
      | _ => none
    | .if_acmp .eq _ => match st with
      | .inr (s, b) :: .inr (t, a) :: r => bif Nat.beq s 24 && Nat.beq t 24 then qm_n true (bif Nat.beq a b then xs.getD 0 0 else nx) ls r S else none
      | _ => none
    | .ifnonnull _ => match st with
      | .inr (s, _) :: r => bif Nat.blt s 30 then qm_n true (xs.getD 0 0) ls r S else none
      | _ => none
    | .goto _ => qm_n true (xs.getD 0 0) (ls.mapIdx (fun j v => bif (xs.drop 1).any (Nat.beq j) then none else v)) st S
    | .tableswitch _ _ _ _ => match st with
      | .inl x :: r => qm_w x (xs.getD 0 0) (xs.drop 1) ls r S
      | _ => none
    | .getfield _ => match st with
      | .inr (s, a) :: r => match qs s with
        | .inr (c, ks) => bif Nat.beq c (xs.getD 1 0) then (match qm_fv T S s a (xs.getD 2 0) (ks.getD (xs.getD 2 0) (9, 9)) with
          | some (g, v) => qm_n g nx ls (v :: r) S
          | none => none) else none
        | .inl _ => none
      | _ => none
    | .putfield _ => match st with
      | .inl x :: .inr (s, a) :: r => bif T.2.2 s then none else (match qs s with
        | .inr (c, ks) => bif Nat.beq c (xs.getD 1 0) then (match (ks.getD (xs.getD 2 0) (9, 9)).1 with
            | 0 => qm_n true nx ls r (qm_sI S (qm_ui S.2.2.2.2.2.1 s a (xs.getD 2 0) x))
            | 2 => qm_n (decide (x &&& 1 = x)) nx ls r (qm_sI S (qm_ui S.2.2.2.2.2.1 s a (xs.getD 2 0) x))
            | 4 => qm_n (decide (x.toInt8.toInt32 = x)) nx ls r (qm_sI S (qm_ui S.2.2.2.2.2.1 s a (xs.getD 2 0) x))
            | _ => none) else none
        | .inl _ => none)
      | .inr (t, b) :: .inr (s, a) :: r => bif T.2.2 s then none else (match qs s with
        | .inr (c, ks) => bif Nat.beq c (xs.getD 1 0) && (Nat.blt t 30 && (Nat.beq (ks.getD (xs.getD 2 0) (9, 9)).1 3 && Nat.beq (ks.getD (xs.getD 2 0) (9, 9)).2 t)) then qm_n true nx ls r (qm_sG S (qm_ug S.2.2.2.2.1 s a (xs.getD 2 0) b)) else none
        | .inl _ => none)
      | _ => none
    | .getstatic _ => match xs.getD 0 0 with
      | 1 => qm_n true nx ls (.inl 1 :: st) S
      | 2 => qm_n true nx ls (.inr (30, 0) :: st) S
      | 3 => qm_n true nx ls (.inr (24, 2) :: st) S
      | 4 => qm_n true nx ls (.inr (26, 3) :: st) S
      | 5 => qm_n true nx ls (.inl 127 :: st) S
      | 6 => qm_n true nx ls (.inr (28, 4) :: st) S
      | 7 => qm_n true nx ls (.inr (29, 5) :: st) S
      | _ => none
    | .iaload => match st with
      | .inl i :: .inr (s, a) :: r => match qs s with
        | .inl (0, _) => qm_n (pm_ib i (qm_len T S s a)) nx ls (.inl (qm_rd T S s a i.toNatClampNeg) :: r) S
        | _ => none
      | _ => none
    | .baload => match st with
      | .inl i :: .inr (s, a) :: r => match qs s with
        | .inl (2, _) => qm_n (pm_ib i (qm_len T S s a)) nx ls (.inl (qm_rd T S s a i.toNatClampNeg) :: r) S
        | _ => none
      | _ => none
    | .aaload => match st with
      | .inl i :: .inr (s, a) :: r => match qs s with
        | .inl (t, u) => bif Nat.ble 4 t && Nat.ble t 7 then (bif T.2.2 s then qm_n (pm_ib i (qm_len T S s a)) nx ls (.inr (u, i.toNatClampNeg + 101) :: r) S
            else qm_n (pm_ib i (qm_len T S s a) && Nat.blt 0 (S.2.2.2.2.1 s a i.toNatClampNeg)) nx ls (.inr (u, S.2.2.2.2.1 s a i.toNatClampNeg) :: r) S) else none
        | _ => none
      | _ => none
    | .iastore => match st with
      | .inl x :: .inl i :: .inr (s, a) :: r => bif T.2.2 s then none else (match qs s with
        | .inl (0, _) => qm_n (pm_ib i (qm_len T S s a)) nx ls r (qm_sI S (qm_ui S.2.2.2.2.2.1 s a i.toNatClampNeg x))
        | _ => none)
      | _ => none
    | .bastore => match st with
      | .inl x :: .inl i :: .inr (s, a) :: r => bif T.2.2 s then none else (match qs s with
        | .inl (2, _) => qm_n (pm_ib i (qm_len T S s a)) nx ls r (qm_sI S (qm_ui S.2.2.2.2.2.1 s a i.toNatClampNeg (vp_nar .byte x)))
        | .inl (3, _) => qm_n (pm_ib i (qm_len T S s a)) nx ls r (qm_sI S (qm_ui S.2.2.2.2.2.1 s a i.toNatClampNeg (vp_nar .boolean x)))
        | _ => none)
      | _ => none
    | .aastore => match st with
      | .inr (u, b) :: .inl i :: .inr (s, a) :: r => bif T.2.2 s then none else (match qs s with
        | .inl (6, v) => bif Nat.beq u v && Nat.beq u 25 then qm_n (pm_ib i (qm_len T S s a)) nx ls r (qm_sG S (qm_ug S.2.2.2.2.1 s a i.toNatClampNeg b)) else none
        | _ => none)
      | _ => none
    | .arraylength => match st with
      | .inr (s, a) :: r => match qs s with
        | .inl (t, _) => bif Nat.ble t 7 then qm_n true nx ls (.inl (nI (qm_len T S s a)) :: r) S else none
        | _ => none
      | _ => none
    | .newarray _ => match st with
      | .inl x :: r => match qs (xs.getD 0 99) with
        | .inl (t, _) => bif Nat.beq t (xs.getD 1 9) && !(T.2.2 (xs.getD 0 99)) then qm_n (!(decide (x < 0)) && Nat.ble x.toNatClampNeg 100000) nx ls (.inr (xs.getD 0 99, S.1) :: r) (qm_mk S (xs.getD 0 99) x.toNatClampNeg) else none
        | _ => none
      | _ => none
    | .anewarray _ => match st with
      | .inl x :: r => match qs (xs.getD 0 99) with
        | .inl (t, _) => bif Nat.beq t 6 && !(T.2.2 (xs.getD 0 99)) then qm_n (!(decide (x < 0)) && Nat.ble x.toNatClampNeg 100000) nx ls (.inr (xs.getD 0 99, S.1) :: r) (qm_mk S (xs.getD 0 99) x.toNatClampNeg) else none
        | _ => none
      | _ => none
    | .multianewarray _ _ => match st with
      | .inl y :: .inl x :: r => match qs (xs.getD 0 99), qs (xs.getD 1 99) with
        | .inl (t, u), .inl (t', _) => bif Nat.beq u (xs.getD 1 99) && (Nat.beq t (xs.getD 2 9) && ((Nat.beq t' (xs.getD 3 9) && Nat.blt t' 4) && (!(T.2.2 (xs.getD 0 99)) && (!(T.2.2 (xs.getD 1 99)) && !(Nat.beq (xs.getD 0 99) (xs.getD 1 99)))))) then
            qm_n (!(decide (x < 0)) && (!(decide (y < 0)) && (Nat.ble x.toNatClampNeg 1000 && Nat.ble y.toNatClampNeg 1000))) nx ls (.inr (xs.getD 0 99, S.1) :: r) (qm_mm S (xs.getD 0 99) (xs.getD 1 99) x.toNatClampNeg y.toNatClampNeg) else none
        | _, _ => none
      | _ => none
    | .new _ => bif Nat.beq (xs.getD 0 99) 0 then
        qm_n (Nat.beq S.1 (1001 + J) && Nat.beq S.2.2.2.2.2.2.1 0) nx ls (.inr (0, 6) :: st) (S.1 + 1, S.2.1 + pm_sz (pt_Sg 0), S.2.2.1, S.2.2.2.1, S.2.2.2.2.1, S.2.2.2.2.2.1, (1, pm_cg S.2.2.2.2.2.2.2.1 0, pm_ci S.2.2.2.2.2.2.2.2.1 0, pm_cl S.2.2.2.2.2.2.2.2.2 0))
      else (match qs (xs.getD 0 99) with
        | .inr (c, ks) => bif Nat.beq c (xs.getD 1 99) && !(T.2.2 (xs.getD 0 99)) then qm_n true nx ls (.inr (xs.getD 0 99, S.1) :: st) (qm_mk S (xs.getD 0 99) ks.length) else none
        | _ => none)
    | .checkcast _ => match st with
      | .inr (s, a) :: r => bif Nat.beq s (xs.getD 0 99) then qm_n true nx ls (.inr (s, a) :: r) S else none
      | _ => none
    | .invokespecial _ => match xs with
      | [] => match st with
        | .inr (s, _) :: r => bif Nat.ble r.length 8 && Nat.blt s 30 then qm_n true nx ls r S else none
        | _ => none
      | xs => qm_callV nx xs ls st S
    | .invokevirtual _ => bif Nat.beq (xs.getD 0 0) 9002 then (match st with
        | .inr (s, a) :: r => bif Nat.beq s 14 && Nat.ble r.length 8 then qm_n (Nat.ble (S.2.2.2.1 a) 100000 && qm_bytes (S.2.2.2.2.2.1 s a) 0 (S.2.2.2.1 a)) nx ls (.inr (15, S.1) :: r) (S.1 + 1, S.2.1 + S.2.2.2.1 a, qm_un S.2.2.1 S.1 15, qm_un S.2.2.2.1 S.1 (S.2.2.2.1 a), qm_cg S.2.2.2.2.1 15 S.1, qm_cw S.2.2.2.2.2.1 s a 15 S.1, S.2.2.2.2.2.2) else none
        | _ => none)
      else qm_callV nx xs ls st S
    | .invokestatic _ => bif Nat.beq (xs.getD 0 0) 9001 then (match st with
        | .inl n :: .inl dp :: .inr (t, b) :: .inl sp :: .inr (s, a) :: r => bif Nat.ble r.length 8 && !(T.2.2 t) then (match qs s, qs t with
          | .inl (2, _), .inl (2, _) => bif T.2.2 s then
              qm_n (!(decide (n < 0)) && (!(decide (sp < 0)) && (!(decide (dp < 0)) && (Nat.ble (sp.toNatClampNeg + n.toNatClampNeg) (T.2.1 s a) && (Nat.ble (dp.toNatClampNeg + n.toNatClampNeg) (S.2.2.2.1 b) && qm_bytes (T.1 s a) sp.toNatClampNeg n.toNatClampNeg))))) nx ls r (qm_sI S (qm_ct (T.1 s a) S.2.2.2.2.2.1 t b sp.toNatClampNeg dp.toNatClampNeg n.toNatClampNeg))
            else qm_n (!(decide (n < 0)) && (!(decide (sp < 0)) && (!(decide (dp < 0)) && (Nat.ble (sp.toNatClampNeg + n.toNatClampNeg) (S.2.2.2.1 a) && (Nat.ble (dp.toNatClampNeg + n.toNatClampNeg) (S.2.2.2.1 b) && qm_bytes (S.2.2.2.2.2.1 s a) sp.toNatClampNeg n.toNatClampNeg))))) nx ls r (qm_sI S (qm_cp S.2.2.2.2.2.1 s a t b sp.toNatClampNeg dp.toNatClampNeg n.toNatClampNeg))
          | _, _ => none) else none
        | _ => none)
      else qm_call false nx xs ls st S
    | .invokeinterface _ _ => qm_callV nx xs ls st S
    | .ireturn => match st with
      | [.inl x] => match ret with
        | some .int => qm_e true (some (.inl x)) S
        | some .boolean => qm_e (decide (x &&& 1 = x)) (some (.inl x)) S
        | some .byte => qm_e (decide (x.toInt8.toInt32 = x)) (some (.inl x)) S
        | some .char => qm_e (decide ((x.toUInt32 % 65536).toInt32 = x)) (some (.inl x)) S
        | _ => none
      | _ => none
    | .areturn => match st with
      | [.inr (s, a)] => bif Nat.blt s 30 then (match ret with
        | some (.object _) => qm_e true (some (.inr (s, a))) S
        | some (.array _) => qm_e true (some (.inr (s, a))) S
        | _ => none) else none
      | _ => none
    | .return_ => match st with
      | [] => match ret with
        | none => qm_e true none S
        | _ => none
      | _ => none
    | _ => none
def qm_k (r : qm_R) (k : Option qm_V → qm_S → qm_R) : qm_R := match r with
  | some (v, S) => k v S
  | none => none
def qm_c (me : Nat → pm_Me) (F : qm_F) (mj : Nat) (as : List qm_V) (S : qm_S) : qm_R := bif Nat.ble as.length (me mj).2.2.1 then F mj 0 (qm_en (me mj).2.2.1 as) [] S else none
/-- the class asked: its cells are all made, or it is being made -/
def qm_o (O : qm_O) (J : Nat) (mj : Nat) (as : List qm_V) (S : qm_S) (k : Option qm_V → qm_S → qm_R) : qm_R := bif (Nat.beq S.2.2.2.2.2.2.1 49 || (Nat.beq S.2.2.2.2.2.2.1 1 && Nat.beq S.1 (1002 + J))) && as.all qm_cls then (match O mj (as.map qm_av) S.2.2.2.2.2.2 with
  | some (some (.int x), C) => k (some (.inl x)) (S.1 + (C.1 - S.2.2.2.2.2.2.1), S.2.1 + (pm_ss pt_Sg C.1 - pm_ss pt_Sg S.2.2.2.2.2.2.1), S.2.2.1, S.2.2.2.1, S.2.2.2.2.1, S.2.2.2.2.2.1, C)
  | some (none, C) => k none (S.1 + (C.1 - S.2.2.2.2.2.2.1), S.2.1 + (pm_ss pt_Sg C.1 - pm_ss pt_Sg S.2.2.2.2.2.2.1), S.2.2.1, S.2.2.2.1, S.2.2.2.2.1, S.2.2.2.2.2.1, C)
  | _ => none) else none
def qm_dc (O : qm_O) (J : Nat) (me : Nat → pm_Me) (F : qm_F) (mi : Nat) : qm_C → qm_R
  | .inl (pc, ls, st, S) => F mi pc ls st S
  | .inr (.inl (o, x, y, t, e, ls, st, S)) => match o with
    | 0 => if x = y then F mi t ls st S else F mi e ls st S
    | 1 => if x < y then F mi t ls st S else F mi e ls st S
    | _ => if x ≤ y then F mi t ls st S else F mi e ls st S
  | .inr (.inr (.inl (x, d, ts, ls, st, S))) => qm_sw (fun t => F mi t ls st S) x d ts 0
  | .inr (.inr (.inr (.inl (b, mj, as, nx, ls, st, S)))) => bif b then qm_o O J mj as S (fun v S' => F mi nx ls (v.toList ++ st) S') else qm_k (qm_c me F mj as S) (fun v S' => F mi nx ls (v.toList ++ st) S')
  | .inr (.inr (.inr (.inr (v, S)))) => some (v, S)
def qm_do (O : qm_O) (J : Nat) (me : Nat → pm_Me) (F : qm_F) (mi : Nat) : qm_Z → qm_R
  | none => none
  | some (g, c) => bif g then qm_dc O J me F mi c else none
def qm_body (O : qm_O) (me : Nat → pm_Me) (qs : Nat → qm_K) (T : qm_T) (J : Nat) (F : qm_F) : qm_F := fun mi pc ls st S => match pm_at (me mi).2.2.2.2.2.2 pc with
  | some q => qm_do O J me F mi (qm_x qs T J (me mi).2.2.2.1 q ls st S)
  | none => none
def qm_run (O : qm_O) (me : Nat → pm_Me) (qs : Nat → qm_K) (T : qm_T) (J : Nat) : Nat → qm_F
  | 0 => fun _ _ _ _ _ => none
  | n + 1 => qm_body O me qs T J (qm_run O me qs T J n)
def qm_blk (O : qm_O) (me : Nat → pm_Me) (qs : Nat → qm_K) (T : qm_T) (J : Nat) (F : qm_F) (stop : Nat → Nat → Bool) : Nat → qm_F
  | 0 => F
  | k + 1 => fun mi pc ls st S => qm_body O me qs T J (fun mi pc ls st S => bif stop mi pc then F mi pc ls st S else qm_blk O me qs T J F stop k mi pc ls st S) mi pc ls st S
def qm_fix (O : qm_O) (me : Nat → pm_Me) (qs : Nat → qm_K) (T : qm_T) (J : Nat) (F : qm_F) : Prop := ∀ mi pc ls st S, F mi pc ls st S = qm_body O me qs T J F mi pc ls st S
section
variable {O : qm_O} {me : Nat → pm_Me} {qs : Nat → qm_K} {T : qm_T} {J : Nat} {F : qm_F}
theorem qm_blk_eq (h : qm_fix O me qs T J F) (stop : Nat → Nat → Bool) : ∀ (k : Nat), qm_blk O me qs T J F stop k = F := by
  intro k
  induction k with
  | zero => rfl
  | succ k ih =>
    funext mi pc ls st S
    rw [h mi pc ls st S]
    show qm_body O me qs T J (fun mi pc ls st S => bif stop mi pc then F mi pc ls st S else qm_blk O me qs T J F stop k mi pc ls st S) mi pc ls st S = _
    rw [ih]
    congr 1
    funext mi pc ls st S
    cases stop mi pc <;> rfl
theorem qm_blk_to (h : qm_fix O me qs T J F) (stop : Nat → Nat → Bool) (k : Nat) {mi pc : Nat} {ls : qm_L} {st : List qm_V} {S : qm_S} {r : qm_R} (hr : qm_blk O me qs T J F stop k mi pc ls st S = r) : F mi pc ls st S = r := by
  rw [← hr, qm_blk_eq h]
def qm_le (F F' : qm_F) : Prop := ∀ mi pc ls st S r, F mi pc ls st S = some r → F' mi pc ls st S = some r
theorem qm_k_some {r : qm_R} {k : Option qm_V → qm_S → qm_R} {z : Option qm_V × qm_S} (h : qm_k r k = some z) : ∃ v S, r = some (v, S) ∧ k v S = some z := by
  cases r with
  | none => cases h
  | some a => exact ⟨a.1, a.2, rfl, h⟩
theorem qm_c_some {mj : Nat} {as : List qm_V} {S : qm_S} {z : Option qm_V × qm_S} (h : qm_c me F mj as S = some z) : Nat.ble as.length (me mj).2.2.1 = true ∧ F mj 0 (qm_en (me mj).2.2.1 as) [] S = some z := by
  unfold qm_c at h
  cases hb : Nat.ble as.length (me mj).2.2.1 with
  | true => rw [hb] at h; exact ⟨rfl, h⟩
  | false => rw [hb] at h; cases h
/-- what the class answered, and the state behind it -/
def qm_oS (S : qm_S) (C : pm_S) : qm_S := (S.1 + (C.1 - S.2.2.2.2.2.2.1), S.2.1 + (pm_ss pt_Sg C.1 - pm_ss pt_Sg S.2.2.2.2.2.2.1), S.2.2.1, S.2.2.2.1, S.2.2.2.2.1, S.2.2.2.2.2.1, C)
theorem qm_o_some {mj : Nat} {as : List qm_V} {S : qm_S} {k : Option qm_V → qm_S → qm_R} {z : Option qm_V × qm_S} (h : qm_o O J mj as S k = some z) : (Nat.beq S.2.2.2.2.2.2.1 49 || (Nat.beq S.2.2.2.2.2.2.1 1 && Nat.beq S.1 (1002 + J))) = true ∧ as.all qm_cls = true ∧ ∃ v C, O mj (as.map qm_av) S.2.2.2.2.2.2 = some (v, C) ∧ ((∃ x, v = some (.int x) ∧ k (some (.inl x)) (qm_oS S C) = some z) ∨ (v = none ∧ k none (qm_oS S C) = some z)) := by
  unfold qm_o at h
  cases hb : (Nat.beq S.2.2.2.2.2.2.1 49 || (Nat.beq S.2.2.2.2.2.2.1 1 && Nat.beq S.1 (1002 + J))) && as.all qm_cls with
  | false => rw [hb] at h; cases h
  | true =>
    rw [hb] at h
    rw [Bool.and_eq_true] at hb
    refine ⟨hb.1, hb.2, ?_⟩
    cases ho : O mj (as.map qm_av) S.2.2.2.2.2.2 with
    | none => rw [ho] at h; cases h
    | some r =>
      obtain ⟨v, C⟩ := r
      rw [ho] at h
      refine ⟨v, C, rfl, ?_⟩
      cases v with
      | none => exact Or.inr ⟨rfl, h⟩
      | some v => cases v <;> first | exact Or.inl ⟨_, rfl, h⟩ | cases h
theorem qm_o_of {mj : Nat} {as : List qm_V} {S : qm_S} {k k' : Option qm_V → qm_S → qm_R} {z : Option qm_V × qm_S} (hk : ∀ v S', k v S' = some z → k' v S' = some z) (h : qm_o O J mj as S k = some z) : qm_o O J mj as S k' = some z := by
  unfold qm_o at h ⊢
  cases hb : (Nat.beq S.2.2.2.2.2.2.1 49 || (Nat.beq S.2.2.2.2.2.2.1 1 && Nat.beq S.1 (1002 + J))) && as.all qm_cls with
  | false => rw [hb] at h; cases h
  | true =>
    rw [hb] at h
    cases ho : O mj (as.map qm_av) S.2.2.2.2.2.2 with
    | none => rw [ho] at h; cases h
    | some r =>
      obtain ⟨v, C⟩ := r
      rw [ho] at h
      cases v with
      | none => exact hk _ _ h
      | some v => cases v <;> first | exact hk _ _ h | cases h
theorem qm_sw_which {k : Nat → qm_R} {x : Int32} {d : Nat} : ∀ (ts : List Nat) (j : Nat), ∃ t, qm_sw k x d ts j = k t ∧ ∀ k', qm_sw k' x d ts j = k' t := by
  intro ts
  induction ts with
  | nil => intro j; exact ⟨d, rfl, fun _ => rfl⟩
  | cons t ts ih =>
    intro j
    by_cases c : x = nI j
    · exact ⟨t, by unfold qm_sw; rw [if_pos c], fun k' => by unfold qm_sw; rw [if_pos c]⟩
    · obtain ⟨u, h1, h2⟩ := ih (j + 1)
      exact ⟨u, by unfold qm_sw; rw [if_neg c]; exact h1, fun k' => by unfold qm_sw; rw [if_neg c]; exact h2 k'⟩
theorem qm_dc_mono {F F' : qm_F} (h : qm_le F F') {mi : Nat} {c : qm_C} {r : Option qm_V × qm_S} (hr : qm_dc O J me F mi c = some r) : qm_dc O J me F' mi c = some r := by
  rcases c with ⟨pc', ls', st', S'⟩ | ⟨o, x, y, t, e, ls', st', S'⟩ | ⟨x, d, ts, ls', st', S'⟩ | ⟨b, mj, as, nx, ls', st', S'⟩ | ⟨v, S'⟩
  · exact h _ _ _ _ _ _ hr
  · unfold qm_dc at hr ⊢
    dsimp only at hr ⊢
    split at hr <;> split at hr <;> rename_i c1 <;> first | (rw [if_pos c1]; exact h _ _ _ _ _ _ hr) | (rw [if_neg c1]; exact h _ _ _ _ _ _ hr)
  · obtain ⟨t, h1, h2⟩ := qm_sw_which (k := fun t => F mi t ls' st' S') (x := x) (d := d) ts 0
    exact (h2 (fun t => F' mi t ls' st' S')).trans (h _ _ _ _ _ _ (h1.symm.trans hr))
  · cases b with
    | false =>
      obtain ⟨v, S2, h1, h2⟩ := qm_k_some hr
      obtain ⟨h3, h4⟩ := qm_c_some h1
      show qm_k (qm_c me F' mj as S') _ = _
      have : qm_c me F' mj as S' = some (v, S2) := by unfold qm_c; rw [h3]; exact h _ _ _ _ _ _ h4
      rw [this]
      exact h _ _ _ _ _ _ h2
    | true => exact qm_o_of (k := fun v S2 => F mi nx ls' (v.toList ++ st') S2) (fun v S2 h2 => h _ _ _ _ _ _ h2) hr
  · exact hr
theorem qm_body_mono {F F' : qm_F} (h : qm_le F F') : qm_le (qm_body O me qs T J F) (qm_body O me qs T J F') := by
  intro mi pc ls st S r hr
  unfold qm_body at hr ⊢
  cases hq : pm_at (me mi).2.2.2.2.2.2 pc with
  | none => rw [hq] at hr; cases hr
  | some q =>
    rw [hq] at hr
    dsimp only at hr ⊢
    cases hz : qm_x qs T J (me mi).2.2.2.1 q ls st S with
    | none => rw [hz] at hr; cases hr
    | some gc =>
      obtain ⟨g, c⟩ := gc
      rw [hz] at hr
      cases g with
      | false => cases hr
      | true => exact qm_dc_mono h (show qm_dc O J me F mi c = some r from hr)
theorem qm_run_le : ∀ (n : Nat), qm_le (qm_run O me qs T J n) (qm_run O me qs T J (n + 1)) := by
  intro n
  induction n with
  | zero => intro mi pc ls st S r h; cases h
  | succ n ih => exact qm_body_mono ih
theorem qm_run_mono {n m : Nat} (h : n ≤ m) : qm_le (qm_run O me qs T J n) (qm_run O me qs T J m) := by
  induction h with
  | refl => exact fun _ _ _ _ _ _ h => h
  | step _ ih => exact fun mi pc ls st S r hr => qm_run_le _ _ _ _ _ _ _ (ih _ _ _ _ _ _ hr)
noncomputable def qm_sem (O : qm_O) (me : Nat → pm_Me) (qs : Nat → qm_K) (T : qm_T) (J : Nat) : qm_F := fun mi pc ls st S => by
  classical
  exact if h : ∃ n r, qm_run O me qs T J n mi pc ls st S = some r then some (Classical.choose (Classical.choose_spec h)) else none
theorem qm_sem_iff {mi pc : Nat} {ls : qm_L} {st : List qm_V} {S : qm_S} {r : Option qm_V × qm_S} : qm_sem O me qs T J mi pc ls st S = some r ↔ ∃ n, qm_run O me qs T J n mi pc ls st S = some r := by
  unfold qm_sem
  constructor
  · intro h
    by_cases c : ∃ n r, qm_run O me qs T J n mi pc ls st S = some r
    · rw [dif_pos c] at h
      cases h
      exact ⟨_, Classical.choose_spec (Classical.choose_spec c)⟩
    · rw [dif_neg c] at h; cases h
  · rintro ⟨n, hn⟩
    have c : ∃ n r, qm_run O me qs T J n mi pc ls st S = some r := ⟨n, r, hn⟩
    rw [dif_pos c]
    have h2 := Classical.choose_spec (Classical.choose_spec c)
    have h3 := qm_run_mono (Nat.le_max_left (Classical.choose c) n) _ _ _ _ _ _ h2
    have h4 := qm_run_mono (Nat.le_max_right (Classical.choose c) n) _ _ _ _ _ _ hn
    rw [h3] at h4
    exact h4
theorem qm_dc_cont {mi : Nat} {c : qm_C} {r : Option qm_V × qm_S} (hr : qm_dc O J me (qm_sem O me qs T J) mi c = some r) : ∃ n, qm_dc O J me (qm_run O me qs T J n) mi c = some r := by
  rcases c with ⟨pc', ls', st', S'⟩ | ⟨o, x, y, t, e, ls', st', S'⟩ | ⟨x, d, ts, ls', st', S'⟩ | ⟨b, mj, as, nx, ls', st', S'⟩ | ⟨v, S'⟩
  · exact qm_sem_iff.mp hr
  · unfold qm_dc at hr ⊢
    dsimp only at hr ⊢
    split at hr <;> split at hr <;> rename_i c1 <;> (obtain ⟨n, hn⟩ := qm_sem_iff.mp hr; refine ⟨n, ?_⟩) <;> first | (rw [if_pos c1]; exact hn) | (rw [if_neg c1]; exact hn)
  · obtain ⟨t, h1, h2⟩ := qm_sw_which (k := fun t => qm_sem O me qs T J mi t ls' st' S') (x := x) (d := d) ts 0
    obtain ⟨n, hn⟩ := qm_sem_iff.mp (h1.symm.trans hr)
    exact ⟨n, (h2 _).trans hn⟩
  · cases b with
    | false =>
      obtain ⟨v, S2, h1, h2⟩ := qm_k_some hr
      obtain ⟨h3, h4⟩ := qm_c_some h1
      obtain ⟨n1, h5⟩ := qm_sem_iff.mp h4
      obtain ⟨n2, h6⟩ := qm_sem_iff.mp h2
      refine ⟨max n1 n2, ?_⟩
      show qm_k (qm_c me _ mj as S') _ = _
      have : qm_c me (qm_run O me qs T J (max n1 n2)) mj as S' = some (v, S2) := by unfold qm_c; rw [h3]; exact qm_run_mono (Nat.le_max_left _ _) _ _ _ _ _ _ h5
      rw [this]
      exact qm_run_mono (Nat.le_max_right _ _) _ _ _ _ _ _ h6
    | true =>
      obtain ⟨h1, h2, v, C, h3, h4⟩ := qm_o_some (k := fun v S2 => qm_sem O me qs T J mi nx ls' (v.toList ++ st') S2) (show qm_o O J mj as S' _ = some r from hr)
      have hgo : ∀ (v' : Option qm_V) (S2 : qm_S), qm_sem O me qs T J mi nx ls' (v'.toList ++ st') S2 = some r → ∃ n, qm_run O me qs T J n mi nx ls' (v'.toList ++ st') S2 = some r := fun _ _ h => qm_sem_iff.mp h
      have key : ∀ n, (∀ (v' : Option qm_V) (S2 : qm_S), qm_sem O me qs T J mi nx ls' (v'.toList ++ st') S2 = some r → (v' = none ∧ v = none ∨ ∃ x, v = some (.int x) ∧ v' = some (.inl x)) → S2 = qm_oS S' C → qm_run O me qs T J n mi nx ls' (v'.toList ++ st') S2 = some r) → qm_dc O J me (qm_run O me qs T J n) mi (.inr (.inr (.inr (.inl (true, mj, as, nx, ls', st', S'))))) = some r := by
        intro n hn
        show qm_o O J mj as S' (fun v S2 => qm_run O me qs T J n mi nx ls' (v.toList ++ st') S2) = some r
        unfold qm_o
        rw [h1, h2, h3]
        rcases h4 with ⟨x, rfl, h5⟩ | ⟨rfl, h5⟩
        · exact hn _ _ h5 (Or.inr ⟨x, rfl, rfl⟩) rfl
        · exact hn _ _ h5 (Or.inl ⟨rfl, rfl⟩) rfl
      rcases h4 with ⟨x, rfl, h5⟩ | ⟨rfl, h5⟩
      · obtain ⟨n, hn⟩ := qm_sem_iff.mp h5
        refine ⟨n, key n fun v' S2 _ hv hS => ?_⟩
        rcases hv with ⟨-, hv⟩ | ⟨y, hv, rfl⟩
        · cases hv
        · cases hv; rw [hS]; exact hn
      · obtain ⟨n, hn⟩ := qm_sem_iff.mp h5
        refine ⟨n, key n fun v' S2 _ hv hS => ?_⟩
        rcases hv with ⟨rfl, -⟩ | ⟨y, hv, -⟩
        · rw [hS]; exact hn
        · cases hv
  · exact ⟨0, hr⟩
theorem qm_sem_cont {mi pc : Nat} {ls : qm_L} {st : List qm_V} {S : qm_S} {r : Option qm_V × qm_S} (hr : qm_body O me qs T J (qm_sem O me qs T J) mi pc ls st S = some r) : ∃ n, qm_body O me qs T J (qm_run O me qs T J n) mi pc ls st S = some r := by
  unfold qm_body at hr ⊢
  cases hq : pm_at (me mi).2.2.2.2.2.2 pc with
  | none => rw [hq] at hr; cases hr
  | some q =>
    rw [hq] at hr
    dsimp only at hr ⊢
    cases hz : qm_x qs T J (me mi).2.2.2.1 q ls st S with
    | none => rw [hz] at hr; cases hr
    | some gc =>
      obtain ⟨g, c⟩ := gc
      rw [hz] at hr
      cases g with
      | false => cases hr
      | true => exact qm_dc_cont (show qm_dc O J me (qm_sem O me qs T J) mi c = some r from hr)
theorem qm_sem_fix (O : qm_O) (me : Nat → pm_Me) (qs : Nat → qm_K) (T : qm_T) (J : Nat) : qm_fix O me qs T J (qm_sem O me qs T J) := by
  intro mi pc ls st S
  apply Option.ext
  intro r
  constructor
  · intro h
    obtain ⟨n, hn⟩ := qm_sem_iff.mp h
    cases n with
    | zero => cases hn
    | succ n => exact qm_body_mono (fun _ _ _ _ _ _ h => qm_sem_iff.mpr ⟨n, h⟩) _ _ _ _ _ _ hn
  · intro h
    obtain ⟨n, hn⟩ := qm_sem_cont h
    exact qm_sem_iff.mpr ⟨n + 1, hn⟩
theorem qm_k_i {v : Option qm_V} {S : qm_S} {k : Option qm_V → qm_S → qm_R} : qm_k (some (v, S)) k = k v S := rfl
end
