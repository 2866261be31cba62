/-! ===== printed by gen/qeqs.py: what the law's and the library's methods do between cuts ===== -/
/-- operations on the state, and what is read -/
def qu_i (S : qm_S) (s a k : Nat) (v : Int32) : qm_S := qm_sI S (qm_ui S.2.2.2.2.2.1 s a k v)
def qu_g (S : qm_S) (s a k b : Nat) : qm_S := qm_sG S (qm_ug S.2.2.2.2.1 s a k b)
def qu_ct (g : Nat → Int32) (S : qm_S) (t b sp dp n : Nat) : qm_S := qm_sI S (qm_ct g S.2.2.2.2.2.1 t b sp dp n)
def qu_cp (S : qm_S) (s a t b sp dp n : Nat) : qm_S := qm_sI S (qm_cp S.2.2.2.2.2.1 s a t b sp dp n)
/-- a row cloned -/
def qu_c (S : qm_S) (s a : Nat) : qm_S := (S.1 + 1, S.2.1 + S.2.2.2.1 a, qm_un S.2.2.1 S.1 15, qm_un S.2.2.2.1 S.1 (S.2.2.2.1 a), qm_cg S.2.2.2.2.1 15 S.1, qm_cw S.2.2.2.2.2.1 s a 15 S.1, S.2.2.2.2.2.2)
/-- the class is being made -/
def qu_o (S : qm_S) : qm_S := (S.1 + 1, S.2.1 + pm_sz (pt_Sg 0), S.2.2.1, S.2.2.2.1, S.2.2.2.2.1, S.2.2.2.2.2.1, (1, pm_cg S.2.2.2.2.2.2.2.1 0, pm_ci S.2.2.2.2.2.2.2.2.1 0, pm_cl S.2.2.2.2.2.2.2.2.2 0))
def qr_i (S : qm_S) (s a k : Nat) : Int32 := S.2.2.2.2.2.1 s a k
def qr_g (S : qm_S) (s a k : Nat) : Nat := S.2.2.2.2.1 s a k
def qr_n (S : qm_S) (a : Nat) : Nat := S.2.2.2.1 a
section
variable {O : qm_O} {F : qm_F} {J L0 : Nat} {xs : List Int32} {S : qm_S}
-- TurnCabinetLaw.cell([II)I 2
set_option maxRecDepth 100000 in
theorem q2_0 (hF : qm_fix O qt_me qt_qs (qt_C L0 xs) J F) {a0 : Nat} {x1 : Int32} : F 2 0 [some (.inr (2, a0)), some (.inl x1)] [] S =
    if x1 < (nI L0) then
      bif pm_ib x1 L0 then
        some (some (.inl (qt_ci xs 2 a0 (Int32.toNatClampNeg x1))), S)
      else none
    else
      some (some (.inl ((1664525 * x1) + 14378)), S) := qm_blk_to hF (pm_stp 2 [0]) 19 rfl
-- TurnCabinetLaw.pick([III)I 2
set_option maxRecDepth 100000 in
theorem q3_0 (hF : qm_fix O qt_me qt_qs (qt_C L0 xs) J F) {a0 : Nat} {x1 : Int32} {x2 : Int32} : F 3 0 [some (.inr (2, a0)), some (.inl x1), some (.inl x2)] [] S =
    qm_k (F 2 0 [some (.inr (2, a0)), some (.inl x1)] [] S) (fun v U => F 3 5 [some (.inr (2, a0)), some (.inl x1), some (.inl x2)] (v.toList ++ []) U) := qm_blk_to hF (pm_stp 3 [0, 5]) 13 rfl
set_option maxRecDepth 100000 in
theorem q3_5 (hF : qm_fix O qt_me qt_qs (qt_C L0 xs) J F) {a0 : Nat} {x1 : Int32} {x2 : Int32} {s0 : Int32} : F 3 5 [some (.inr (2, a0)), some (.inl x1), some (.inl x2)] [.inl s0] S =
    bif !(decide (x2 = 0)) then
      some (some (.inl ((s0 &&& 2147483647) - (s0 &&& 2147483647) / x2 * x2)), S)
    else none := qm_blk_to hF (pm_stp 3 [0, 5]) 13 rfl
-- TurnCabinetLaw$World.next(I)I 1
set_option maxRecDepth 100000 in
theorem q1201_0 (hF : qm_fix O qt_me qt_qs (qt_C L0 xs) J F) {a0 : Nat} {x1 : Int32} : F 1201 0 [some (.inr (1, a0)), some (.inl x1)] [] S =
    bif Nat.blt 0 (qr_g S 1 a0 15) then
      qm_k (F 3 0 [some (.inr (2, (qr_g S 1 a0 15))), some (.inl (qr_i (qu_i S 1 a0 16 ((qr_i S 1 a0 16) + 1)) 1 a0 16)), some (.inl x1)] [] (qu_i S 1 a0 16 ((qr_i S 1 a0 16) + 1))) (fun v U => F 1201 22 [some (.inr (1, a0)), some (.inl x1)] (v.toList ++ []) U)
    else none := qm_blk_to hF (pm_stp 1201 [0, 22]) 18 rfl
set_option maxRecDepth 100000 in
theorem q1201_22 (hF : qm_fix O qt_me qt_qs (qt_C L0 xs) J F) {a0 : Nat} {x1 : Int32} {s0 : Int32} : F 1201 22 [some (.inr (1, a0)), some (.inl x1)] [.inl s0] S =
    some (some (.inl s0), S) := qm_blk_to hF (pm_stp 1201 [0, 22]) 18 rfl
-- java/lang/AbstractStringBuilder.<init>(I)V 12
set_option maxRecDepth 100000 in
theorem q1522_0 (hF : qm_fix O qt_me qt_qs (qt_C L0 xs) J F) {a0 : Nat} {x1 : Int32} : F 1522 0 [some (.inr (12, a0)), some (.inl x1)] [] S =
    if (1 : Int32) = 0 then
      none
    else
      bif (!(decide (x1 < 0)) && Nat.ble (Int32.toNatClampNeg x1) 100000) then
        some (none, (qu_i (qu_g (qm_mk S 14 (Int32.toNatClampNeg x1)) 12 a0 0 S.1) 12 a0 1 0))
      else none := qm_blk_to hF (pm_stp 1522 [0]) 20 rfl
-- java/lang/StringBuilder.<init>()V 12
set_option maxRecDepth 100000 in
theorem q1521_0 (hF : qm_fix O qt_me qt_qs (qt_C L0 xs) J F) {a0 : Nat} : F 1521 0 [some (.inr (12, a0))] [] S =
    qm_k (F 1522 0 [some (.inr (12, a0)), some (.inl 16)] [] S) (fun v U => F 1521 6 [some (.inr (12, a0))] (v.toList ++ []) U) := qm_blk_to hF (pm_stp 1521 [0, 6]) 9 rfl
set_option maxRecDepth 100000 in
theorem q1521_6 (hF : qm_fix O qt_me qt_qs (qt_C L0 xs) J F) {a0 : Nat} : F 1521 6 [some (.inr (12, a0))] [] S =
    some (none, S) := qm_blk_to hF (pm_stp 1521 [0, 6]) 9 rfl
-- java/lang/String.coder()B 16
set_option maxRecDepth 100000 in
theorem q1502_0b (hF : qm_fix O qt_me qt_qs (qt_C L0 xs) J F) {a0 : Nat} : F 1502 0 [some (.inr (16, a0))] [] S =
    if (1 : Int32) = 0 then
      bif decide (Int8.toInt32 (Int32.toInt8 1) = 1) then some (some (.inl 1), S) else none
    else
      bif decide (Int8.toInt32 (Int32.toInt8 (qt_ci xs 16 a0 1)) = (qt_ci xs 16 a0 1)) then some (some (.inl (qt_ci xs 16 a0 1)), S) else none := qm_blk_to hF (pm_stp 1502 [0]) 12 rfl
-- java/lang/String.length()I 16
set_option maxRecDepth 100000 in
theorem q1501_0b (hF : qm_fix O qt_me qt_qs (qt_C L0 xs) J F) {a0 : Nat} : F 1501 0 [some (.inr (16, a0))] [] S =
    qm_k (F 1502 0 [some (.inr (16, a0))] [] S) (fun v U => F 1501 9 [some (.inr (16, a0))] (v.toList ++ [.inl (nI (qt_cn L0 17 (a0 + 20)))]) U) := qm_blk_to hF (pm_stp 1501 [0, 9]) 12 rfl
set_option maxRecDepth 100000 in
theorem q1501_9b (hF : qm_fix O qt_me qt_qs (qt_C L0 xs) J F) {a0 : Nat} {s0 : Int32} {s1 : Int32} : F 1501 9 [some (.inr (16, a0))] [.inl s0, .inl s1] S =
    some (some (.inl ((s1 : Int32) >>> (s0 &&& 31))), S) := qm_blk_to hF (pm_stp 1501 [0, 9]) 12 rfl
-- java/lang/Math.max(II)I 
set_option maxRecDepth 100000 in
theorem q1512_0 (hF : qm_fix O qt_me qt_qs (qt_C L0 xs) J F) {x0 : Int32} {x1 : Int32} : F 1512 0 [some (.inl x0), some (.inl x1)] [] S =
    if x0 < x1 then
      some (some (.inl x1), S)
    else
      some (some (.inl x0), S) := qm_blk_to hF (pm_stp 1512 [0]) 12 rfl
-- jdk/internal/util/ArraysSupport.hugeLength(II)I 
set_option maxRecDepth 100000 in
theorem q1529_0 (hF : qm_fix O qt_me qt_qs (qt_C L0 xs) J F) {x0 : Int32} {x1 : Int32} : F 1529 0 [some (.inl x0), some (.inl x1), none] [] S =
    if (x0 + x1) < 0 then
      none
    else
      if (x0 + x1) ≤ 2147483639 then
        some (some (.inl 2147483639), S)
      else
        some (some (.inl (x0 + x1)), S) := qm_blk_to hF (pm_stp 1529 [0]) 18 rfl
-- jdk/internal/util/ArraysSupport.newLength(III)I 
set_option maxRecDepth 100000 in
theorem q1528_0 (hF : qm_fix O qt_me qt_qs (qt_C L0 xs) J F) {x0 : Int32} {x1 : Int32} {x2 : Int32} : F 1528 0 [some (.inl x0), some (.inl x1), some (.inl x2), none] [] S =
    qm_k (F 1512 0 [some (.inl x1), some (.inl x2)] [] S) (fun v U => F 1528 6 [some (.inl x0), some (.inl x1), some (.inl x2), none] (v.toList ++ [.inl x0]) U) := qm_blk_to hF (pm_stp 1528 [0, 6, 26]) 23 rfl
set_option maxRecDepth 100000 in
theorem q1528_6 (hF : qm_fix O qt_me qt_qs (qt_C L0 xs) J F) {x0 : Int32} {x1 : Int32} {x2 : Int32} {s0 : Int32} {s1 : Int32} : F 1528 6 [some (.inl x0), some (.inl x1), some (.inl x2), none] [.inl s0, .inl s1] S =
    if (0 : Int32) < (s1 + s0) then
      if (s1 + s0) ≤ 2147483639 then
        some (some (.inl (s1 + s0)), S)
      else
        qm_k (F 1529 0 [some (.inl x0), some (.inl x1), none] [] S) (fun v U => F 1528 26 [some (.inl x0), some (.inl x1), some (.inl x2), some (.inl (s1 + s0))] (v.toList ++ []) U)
    else
      qm_k (F 1529 0 [some (.inl x0), some (.inl x1), none] [] S) (fun v U => F 1528 26 [some (.inl x0), some (.inl x1), some (.inl x2), some (.inl (s1 + s0))] (v.toList ++ []) U) := qm_blk_to hF (pm_stp 1528 [0, 6, 26]) 23 rfl
set_option maxRecDepth 100000 in
theorem q1528_26 (hF : qm_fix O qt_me qt_qs (qt_C L0 xs) J F) {x0 : Int32} {x1 : Int32} {x2 : Int32} {x3 : Int32} {s0 : Int32} : F 1528 26 [some (.inl x0), some (.inl x1), some (.inl x2), some (.inl x3)] [.inl s0] S =
    some (some (.inl s0), S) := qm_blk_to hF (pm_stp 1528 [0, 6, 26]) 23 rfl
-- java/lang/AbstractStringBuilder.newCapacity(I)I 12
set_option maxRecDepth 100000 in
theorem q1527_0 (hF : qm_fix O qt_me qt_qs (qt_C L0 xs) J F) {a0 : Nat} {x1 : Int32} : F 1527 0 [some (.inr (12, a0)), some (.inl x1), none, none, none, none] [] S =
    bif Nat.blt 0 (qr_g S 12 a0 0) then
      qm_k (F 1528 0 [some (.inl (nI (qr_n S (qr_g S 12 a0 0)))), some (.inl (((x1 : Int32) <<< ((qr_i S 12 a0 1) &&& 31)) - (nI (qr_n S (qr_g S 12 a0 0))))), some (.inl ((nI (qr_n S (qr_g S 12 a0 0))) + ((2 : Int32) <<< ((qr_i S 12 a0 1) &&& 31)))), none] [] S) (fun v U => F 1527 32 [some (.inr (12, a0)), some (.inl x1), some (.inl (nI (qr_n S (qr_g S 12 a0 0)))), some (.inl ((x1 : Int32) <<< ((qr_i S 12 a0 1) &&& 31))), some (.inl (((x1 : Int32) <<< ((qr_i S 12 a0 1) &&& 31)) - (nI (qr_n S (qr_g S 12 a0 0))))), none] (v.toList ++ []) U)
    else none := qm_blk_to hF (pm_stp 1527 [0, 32]) 36 rfl
set_option maxRecDepth 100000 in
theorem q1527_32 (hF : qm_fix O qt_me qt_qs (qt_C L0 xs) J F) {a0 : Nat} {x1 : Int32} {x2 : Int32} {x3 : Int32} {x4 : Int32} {s0 : Int32} : F 1527 32 [some (.inr (12, a0)), some (.inl x1), some (.inl x2), some (.inl x3), some (.inl x4), none] [.inl s0] S =
    if s0 = 2147483647 then
      none
    else
      some (some (.inl ((s0 : Int32) >>> ((qr_i S 12 a0 1) &&& 31))), S) := qm_blk_to hF (pm_stp 1527 [0, 32]) 36 rfl
-- java/lang/Math.min(II)I 
set_option maxRecDepth 100000 in
theorem q1511_0 (hF : qm_fix O qt_me qt_qs (qt_C L0 xs) J F) {x0 : Int32} {x1 : Int32} : F 1511 0 [some (.inl x0), some (.inl x1)] [] S =
    if x0 ≤ x1 then
      some (some (.inl x0), S)
    else
      some (some (.inl x1), S) := qm_blk_to hF (pm_stp 1511 [0]) 12 rfl
-- java/util/Arrays.copyOf([BI)[B 14
set_option maxRecDepth 100000 in
theorem q1530_0 (hF : qm_fix O qt_me qt_qs (qt_C L0 xs) J F) {a0 : Nat} {x1 : Int32} : F 1530 0 [some (.inr (14, a0)), some (.inl x1), none] [] S =
    if x1 = (nI (qr_n S a0)) then
      none
    else
      bif (!(decide (x1 < 0)) && Nat.ble (Int32.toNatClampNeg x1) 100000) then
        qm_k (F 1511 0 [some (.inl (nI (qr_n (qm_mk S 14 (Int32.toNatClampNeg x1)) a0))), some (.inl x1)] [] (qm_mk S 14 (Int32.toNatClampNeg x1))) (fun v U => F 1530 28 [some (.inr (14, a0)), some (.inl x1), some (.inr (14, S.1))] (v.toList ++ [.inl 0, .inr (14, S.1), .inl 0, .inr (14, a0)]) U)
      else none := qm_blk_to hF (pm_stp 1530 [0, 28]) 24 rfl
set_option maxRecDepth 100000 in
theorem q1530_28 (hF : qm_fix O qt_me qt_qs (qt_C L0 xs) J F) {a0 : Nat} {x1 : Int32} {a2 : Nat} {s0 : Int32} {s1 : Int32} {b2 : Nat} {s3 : Int32} {b4 : Nat} : F 1530 28 [some (.inr (14, a0)), some (.inl x1), some (.inr (14, a2))] [.inl s0, .inl s1, .inr (14, b2), .inl s3, .inr (14, b4)] S =
    bif (!(decide (s0 < 0)) && (!(decide (s3 < 0)) && (!(decide (s1 < 0)) && (Nat.ble ((Int32.toNatClampNeg s3) + (Int32.toNatClampNeg s0)) (qr_n S b4) && (Nat.ble ((Int32.toNatClampNeg s1) + (Int32.toNatClampNeg s0)) (qr_n S b2) && qm_bytes (S.2.2.2.2.2.1 14 b4) (Int32.toNatClampNeg s3) (Int32.toNatClampNeg s0)))))) then
      some (some (.inr (14, a2)), (qu_cp S 14 b4 14 b2 (Int32.toNatClampNeg s3) (Int32.toNatClampNeg s1) (Int32.toNatClampNeg s0)))
    else none := qm_blk_to hF (pm_stp 1530 [0, 28]) 24 rfl
-- java/lang/AbstractStringBuilder.ensureCapacityInternal(I)V 12
set_option maxRecDepth 100000 in
theorem q1526_0 (hF : qm_fix O qt_me qt_qs (qt_C L0 xs) J F) {a0 : Nat} {x1 : Int32} : F 1526 0 [some (.inr (12, a0)), some (.inl x1), none] [] S =
    bif Nat.blt 0 (qr_g S 12 a0 0) then
      if (x1 - (((nI (qr_n S (qr_g S 12 a0 0))) : Int32) >>> ((qr_i S 12 a0 1) &&& 31))) ≤ 0 then
        some (none, S)
      else
        bif Nat.blt 0 (qr_g S 12 a0 0) then
          qm_k (F 1527 0 [some (.inr (12, a0)), some (.inl x1), none, none, none, none] [] S) (fun v U => F 1526 27 [some (.inr (12, a0)), some (.inl x1), some (.inl (((nI (qr_n S (qr_g S 12 a0 0))) : Int32) >>> ((qr_i S 12 a0 1) &&& 31)))] (v.toList ++ [.inr (14, (qr_g S 12 a0 0)), .inr (12, a0)]) U)
        else none
    else none := qm_blk_to hF (pm_stp 1526 [0, 27, 35]) 28 rfl
set_option maxRecDepth 100000 in
theorem q1526_27 (hF : qm_fix O qt_me qt_qs (qt_C L0 xs) J F) {a0 : Nat} {x1 : Int32} {x2 : Int32} {s0 : Int32} {b1 : Nat} {b2 : Nat} : F 1526 27 [some (.inr (12, a0)), some (.inl x1), some (.inl x2)] [.inl s0, .inr (14, b1), .inr (12, b2)] S =
    qm_k (F 1530 0 [some (.inr (14, b1)), some (.inl ((s0 : Int32) <<< ((qr_i S 12 a0 1) &&& 31))), none] [] S) (fun v U => F 1526 35 [some (.inr (12, a0)), some (.inl x1), some (.inl x2)] (v.toList ++ [.inr (12, b2)]) U) := qm_blk_to hF (pm_stp 1526 [0, 27, 35]) 28 rfl
set_option maxRecDepth 100000 in
theorem q1526_35 (hF : qm_fix O qt_me qt_qs (qt_C L0 xs) J F) {a0 : Nat} {x1 : Int32} {x2 : Int32} {b0 : Nat} {b1 : Nat} : F 1526 35 [some (.inr (12, a0)), some (.inl x1), some (.inl x2)] [.inr (14, b0), .inr (12, b1)] S =
    some (none, (qu_g S 12 b1 0 b0)) := qm_blk_to hF (pm_stp 1526 [0, 27, 35]) 28 rfl
-- java/lang/AbstractStringBuilder.inflateIfNeededFor(Ljava/lang/String;)V 12 16
set_option maxRecDepth 100000 in
theorem q1535_0 (hF : qm_fix O qt_me qt_qs (qt_C L0 xs) J F) {a0 : Nat} {a1 : Nat} : F 1535 0 [some (.inr (12, a0)), some (.inr (16, a1))] [] S =
    if (1 : Int32) = 0 then
      some (none, S)
    else
      qm_k (F 1502 0 [some (.inr (16, a1))] [] S) (fun v U => F 1535 14 [some (.inr (12, a0)), some (.inr (16, a1))] (v.toList ++ [.inl (qr_i S 12 a0 1)]) U) := qm_blk_to hF (pm_stp 1535 [0, 14]) 14 rfl
set_option maxRecDepth 100000 in
theorem q1535_14 (hF : qm_fix O qt_me qt_qs (qt_C L0 xs) J F) {a0 : Nat} {a1 : Nat} {s0 : Int32} {s1 : Int32} : F 1535 14 [some (.inr (12, a0)), some (.inr (16, a1))] [.inl s0, .inl s1] S =
    if s1 = s0 then
      some (none, S)
    else
      none := qm_blk_to hF (pm_stp 1535 [0, 14]) 14 rfl
-- java/lang/StringLatin1.inflate([BI[BII)V 17 14
set_option maxRecDepth 100000 in
theorem q1537_0 (hF : qm_fix O qt_me qt_qs (qt_C L0 xs) J F) {a0 : Nat} {x1 : Int32} {a2 : Nat} {x3 : Int32} {x4 : Int32} : F 1537 0 [some (.inr (17, a0)), some (.inl x1), some (.inr (14, a2)), some (.inl x3), some (.inl x4)] [] S =
    none := qm_blk_to hF (pm_stp 1537 [0]) 10 rfl
-- java/lang/String.getBytes([BIB)V 16 14
set_option maxRecDepth 100000 in
theorem q1540_0 (hF : qm_fix O qt_me qt_qs (qt_C L0 xs) J F) {a0 : Nat} {a1 : Nat} {x2 : Int32} {x3 : Int32} : F 1540 0 [some (.inr (16, a0)), some (.inr (14, a1)), some (.inl x2), some (.inl x3)] [] S =
    qm_k (F 1502 0 [some (.inr (16, a0))] [] S) (fun v U => F 1540 4 [some (.inr (16, a0)), some (.inr (14, a1)), some (.inl x2), some (.inl x3)] (v.toList ++ []) U) := qm_blk_to hF (pm_stp 1540 [0, 4, 43]) 31 rfl
set_option maxRecDepth 100000 in
theorem q1540_4 (hF : qm_fix O qt_me qt_qs (qt_C L0 xs) J F) {a0 : Nat} {a1 : Nat} {x2 : Int32} {x3 : Int32} {s0 : Int32} : F 1540 4 [some (.inr (16, a0)), some (.inr (14, a1)), some (.inl x2), some (.inl x3)] [.inl s0] S =
    if s0 = x3 then
      bif (!(decide ((nI (qt_cn L0 17 (a0 + 20))) < 0)) && (!(decide ((0 : Int32) < 0)) && (!(decide (((x2 : Int32) <<< (x3 &&& 31)) < 0)) && (Nat.ble ((Int32.toNatClampNeg 0) + (Int32.toNatClampNeg (nI (qt_cn L0 17 (a0 + 20))))) (qt_cn L0 17 (a0 + 20)) && (Nat.ble ((Int32.toNatClampNeg ((x2 : Int32) <<< (x3 &&& 31))) + (Int32.toNatClampNeg (nI (qt_cn L0 17 (a0 + 20))))) (qr_n S a1) && qm_bytes (qt_ci xs 17 (a0 + 20)) (Int32.toNatClampNeg 0) (Int32.toNatClampNeg (nI (qt_cn L0 17 (a0 + 20))))))))) then
        F 1540 43 [some (.inr (16, a0)), some (.inr (14, a1)), some (.inl x2), some (.inl x3)] [] (qu_ct (qt_ci xs 17 (a0 + 20)) S 14 a1 (Int32.toNatClampNeg 0) (Int32.toNatClampNeg ((x2 : Int32) <<< (x3 &&& 31))) (Int32.toNatClampNeg (nI (qt_cn L0 17 (a0 + 20)))))
      else none
    else
      qm_k (F 1537 0 [some (.inr (17, (a0 + 20))), some (.inl 0), some (.inr (14, a1)), some (.inl x2), some (.inl (nI (qt_cn L0 17 (a0 + 20))))] [] S) (fun v U => F 1540 43 [some (.inr (16, a0)), some (.inr (14, a1)), some (.inl x2), some (.inl x3)] (v.toList ++ []) U) := qm_blk_to hF (pm_stp 1540 [0, 4, 43]) 31 rfl
set_option maxRecDepth 100000 in
theorem q1540_43 (hF : qm_fix O qt_me qt_qs (qt_C L0 xs) J F) {a0 : Nat} {a1 : Nat} {x2 : Int32} {x3 : Int32} : F 1540 43 [some (.inr (16, a0)), some (.inr (14, a1)), some (.inl x2), some (.inl x3)] [] S =
    some (none, S) := qm_blk_to hF (pm_stp 1540 [0, 4, 43]) 31 rfl
-- java/lang/AbstractStringBuilder.putStringAt(ILjava/lang/String;)V 12 16
set_option maxRecDepth 100000 in
theorem q1534_0 (hF : qm_fix O qt_me qt_qs (qt_C L0 xs) J F) {a0 : Nat} {x1 : Int32} {a2 : Nat} : F 1534 0 [some (.inr (12, a0)), some (.inl x1), some (.inr (16, a2))] [] S =
    qm_k (F 1535 0 [some (.inr (12, a0)), some (.inr (16, a2))] [] S) (fun v U => F 1534 5 [some (.inr (12, a0)), some (.inl x1), some (.inr (16, a2))] (v.toList ++ []) U) := qm_blk_to hF (pm_stp 1534 [0, 5, 18]) 16 rfl
set_option maxRecDepth 100000 in
theorem q1534_5 (hF : qm_fix O qt_me qt_qs (qt_C L0 xs) J F) {a0 : Nat} {x1 : Int32} {a2 : Nat} : F 1534 5 [some (.inr (12, a0)), some (.inl x1), some (.inr (16, a2))] [] S =
    bif Nat.blt 0 (qr_g S 12 a0 0) then
      qm_k (F 1540 0 [some (.inr (16, a2)), some (.inr (14, (qr_g S 12 a0 0))), some (.inl x1), some (.inl (qr_i S 12 a0 1))] [] S) (fun v U => F 1534 18 [some (.inr (12, a0)), some (.inl x1), some (.inr (16, a2))] (v.toList ++ []) U)
    else none := qm_blk_to hF (pm_stp 1534 [0, 5, 18]) 16 rfl
set_option maxRecDepth 100000 in
theorem q1534_18 (hF : qm_fix O qt_me qt_qs (qt_C L0 xs) J F) {a0 : Nat} {x1 : Int32} {a2 : Nat} : F 1534 18 [some (.inr (12, a0)), some (.inl x1), some (.inr (16, a2))] [] S =
    some (none, S) := qm_blk_to hF (pm_stp 1534 [0, 5, 18]) 16 rfl
-- java/lang/AbstractStringBuilder.append(Ljava/lang/String;)Ljava/lang/AbstractStringBuilder; 12 16
set_option maxRecDepth 100000 in
theorem q1524_0 (hF : qm_fix O qt_me qt_qs (qt_C L0 xs) J F) {a0 : Nat} {a1 : Nat} : F 1524 0 [some (.inr (12, a0)), some (.inr (16, a1)), none] [] S =
    qm_k (F 1501 0 [some (.inr (16, a1))] [] S) (fun v U => F 1524 13 [some (.inr (12, a0)), some (.inr (16, a1)), none] (v.toList ++ []) U) := qm_blk_to hF (pm_stp 1524 [0, 13, 24, 33]) 29 rfl
set_option maxRecDepth 100000 in
theorem q1524_13 (hF : qm_fix O qt_me qt_qs (qt_C L0 xs) J F) {a0 : Nat} {a1 : Nat} {s0 : Int32} : F 1524 13 [some (.inr (12, a0)), some (.inr (16, a1)), none] [.inl s0] S =
    qm_k (F 1526 0 [some (.inr (12, a0)), some (.inl ((qr_i S 12 a0 3) + s0)), none] [] S) (fun v U => F 1524 24 [some (.inr (12, a0)), some (.inr (16, a1)), some (.inl s0)] (v.toList ++ []) U) := qm_blk_to hF (pm_stp 1524 [0, 13, 24, 33]) 29 rfl
set_option maxRecDepth 100000 in
theorem q1524_24 (hF : qm_fix O qt_me qt_qs (qt_C L0 xs) J F) {a0 : Nat} {a1 : Nat} {x2 : Int32} : F 1524 24 [some (.inr (12, a0)), some (.inr (16, a1)), some (.inl x2)] [] S =
    qm_k (F 1534 0 [some (.inr (12, a0)), some (.inl (qr_i S 12 a0 3)), some (.inr (16, a1))] [] S) (fun v U => F 1524 33 [some (.inr (12, a0)), some (.inr (16, a1)), some (.inl x2)] (v.toList ++ []) U) := qm_blk_to hF (pm_stp 1524 [0, 13, 24, 33]) 29 rfl
set_option maxRecDepth 100000 in
theorem q1524_33 (hF : qm_fix O qt_me qt_qs (qt_C L0 xs) J F) {a0 : Nat} {a1 : Nat} {x2 : Int32} : F 1524 33 [some (.inr (12, a0)), some (.inr (16, a1)), some (.inl x2)] [] S =
    some (some (.inr (12, a0)), (qu_i S 12 a0 3 ((qr_i S 12 a0 3) + x2))) := qm_blk_to hF (pm_stp 1524 [0, 13, 24, 33]) 29 rfl
-- java/lang/StringBuilder.append(Ljava/lang/String;)Ljava/lang/StringBuilder; 12 16
set_option maxRecDepth 100000 in
theorem q1523_0 (hF : qm_fix O qt_me qt_qs (qt_C L0 xs) J F) {a0 : Nat} {a1 : Nat} : F 1523 0 [some (.inr (12, a0)), some (.inr (16, a1))] [] S =
    qm_k (F 1524 0 [some (.inr (12, a0)), some (.inr (16, a1)), none] [] S) (fun v U => F 1523 5 [some (.inr (12, a0)), some (.inr (16, a1))] (v.toList ++ []) U) := qm_blk_to hF (pm_stp 1523 [0, 5]) 11 rfl
set_option maxRecDepth 100000 in
theorem q1523_5 (hF : qm_fix O qt_me qt_qs (qt_C L0 xs) J F) {a0 : Nat} {a1 : Nat} {b0 : Nat} : F 1523 5 [some (.inr (12, a0)), some (.inr (16, a1))] [.inr (12, b0)] S =
    some (some (.inr (12, a0)), S) := qm_blk_to hF (pm_stp 1523 [0, 5]) 11 rfl
-- java/lang/Integer.stringSize(I)I 
set_option maxRecDepth 100000 in
theorem q1543_0 (hF : qm_fix O qt_me qt_qs (qt_C L0 xs) J F) {x0 : Int32} : F 1543 0 [some (.inl x0), none, none, none] [] S =
    if x0 < 0 then
      F 1543 16 [some (.inl x0), some (.inl 1), some (.inl (-10)), some (.inl 1)] [] S
    else
      F 1543 16 [some (.inl (-x0)), some (.inl 0), some (.inl (-10)), some (.inl 1)] [] S := qm_blk_to hF (pm_stp 1543 [0, 16]) 38 rfl
set_option maxRecDepth 100000 in
theorem q1543_16 (hF : qm_fix O qt_me qt_qs (qt_C L0 xs) J F) {x0 : Int32} {x1 : Int32} {x2 : Int32} {x3 : Int32} : F 1543 16 [some (.inl x0), some (.inl x1), some (.inl x2), some (.inl x3)] [] S =
    if x3 < 10 then
      if x0 ≤ x2 then
        F 1543 16 [some (.inl x0), some (.inl x1), some (.inl (10 * x2)), some (.inl (x3 + 1))] [] S
      else
        some (some (.inl (x3 + x1)), S)
    else
      some (some (.inl (10 + x1)), S) := qm_blk_to hF (pm_stp 1543 [0, 16]) 38 rfl
-- java/lang/AbstractStringBuilder.isLatin1()Z 12
set_option maxRecDepth 100000 in
theorem q1531_0 (hF : qm_fix O qt_me qt_qs (qt_C L0 xs) J F) {a0 : Nat} : F 1531 0 [some (.inr (12, a0))] [] S =
    if (1 : Int32) = 0 then
      some (some (.inl 0), S)
    else
      if (qr_i S 12 a0 1) = 0 then
        some (some (.inl 1), S)
      else
        some (some (.inl 0), S) := qm_blk_to hF (pm_stp 1531 [0]) 14 rfl
-- java/lang/Integer.getChars(II[B)I 14
set_option maxRecDepth 100000 in
theorem q1544_0 (hF : qm_fix O qt_me qt_qs (qt_C L0 xs) J F) {x0 : Int32} {x1 : Int32} {a2 : Nat} : F 1544 0 [some (.inl x0), some (.inl x1), some (.inr (14, a2)), none, none, none, none] [] S =
    if x0 < 0 then
      if (1 : Int32) = 0 then
        F 1544 22 [some (.inl (-x0)), some (.inl x1), some (.inr (14, a2)), none, none, some (.inl x1), some (.inl 1)] [] S
      else
        F 1544 22 [some (.inl x0), some (.inl x1), some (.inr (14, a2)), none, none, some (.inl x1), some (.inl 1)] [] S
    else
      if (0 : Int32) = 0 then
        F 1544 22 [some (.inl (-x0)), some (.inl x1), some (.inr (14, a2)), none, none, some (.inl x1), some (.inl 0)] [] S
      else
        F 1544 22 [some (.inl x0), some (.inl x1), some (.inr (14, a2)), none, none, some (.inl x1), some (.inl 0)] [] S := qm_blk_to hF (pm_stp 1544 [0, 22, 54, 67, 72, 83, 102, 115]) 76 rfl
set_option maxRecDepth 100000 in
theorem q1544_22 (hF : qm_fix O qt_me qt_qs (qt_C L0 xs) J F) {x0 : Int32} {x1 : Int32} {a2 : Nat} {x5 : Int32} {x6 : Int32} : F 1544 22 [some (.inl x0), some (.inl x1), some (.inr (14, a2)), none, none, some (.inl x5), some (.inl x6)] [] S =
    if x0 ≤ (-100) then
      bif !(decide ((100 : Int32) = 0)) then
        F 1544 54 [some (.inl (x0 / 100)), some (.inl x1), some (.inr (14, a2)), some (.inl (x0 / 100)), some (.inl (((x0 / 100) * 100) - x0)), some (.inl (x5 + (-1))), some (.inl x6)] [.inl (((x0 / 100) * 100) - x0), .inr (28, 4), .inl (x5 + (-1)), .inr (14, a2)] S
      else none
    else
      F 1544 72 [some (.inl x0), some (.inl x1), some (.inr (14, a2)), none, none, some (.inl x5), some (.inl x6)] [] S := qm_blk_to hF (pm_stp 1544 [0, 22, 54, 67, 72, 83, 102, 115]) 76 rfl
set_option maxRecDepth 100000 in
theorem q1544_54 (hF : qm_fix O qt_me qt_qs (qt_C L0 xs) J F) {x0 : Int32} {x1 : Int32} {a2 : Nat} {x3 : Int32} {x4 : Int32} {x5 : Int32} {x6 : Int32} {s0 : Int32} {b1 : Nat} {s2 : Int32} {b3 : Nat} : F 1544 54 [some (.inl x0), some (.inl x1), some (.inr (14, a2)), some (.inl x3), some (.inl x4), some (.inl x5), some (.inl x6)] [.inl s0, .inr (28, b1), .inl s2, .inr (14, b3)] S =
    bif pm_ib s0 (qt_cn L0 28 b1) then
      bif pm_ib s2 (qr_n S b3) then
        F 1544 67 [some (.inl x0), some (.inl x1), some (.inr (14, a2)), some (.inl x3), some (.inl x4), some (.inl (x5 + (-1))), some (.inl x6)] [.inl x4, .inr (29, 5), .inl (x5 + (-1)), .inr (14, a2)] (qu_i S 14 b3 (Int32.toNatClampNeg s2) (vp_nar .byte (qt_ci xs 28 b1 (Int32.toNatClampNeg s0))))
      else none
    else none := qm_blk_to hF (pm_stp 1544 [0, 22, 54, 67, 72, 83, 102, 115]) 76 rfl
set_option maxRecDepth 100000 in
theorem q1544_67 (hF : qm_fix O qt_me qt_qs (qt_C L0 xs) J F) {x0 : Int32} {x1 : Int32} {a2 : Nat} {x3 : Int32} {x4 : Int32} {x5 : Int32} {x6 : Int32} {s0 : Int32} {b1 : Nat} {s2 : Int32} {b3 : Nat} : F 1544 67 [some (.inl x0), some (.inl x1), some (.inr (14, a2)), some (.inl x3), some (.inl x4), some (.inl x5), some (.inl x6)] [.inl s0, .inr (29, b1), .inl s2, .inr (14, b3)] S =
    bif pm_ib s0 (qt_cn L0 29 b1) then
      bif pm_ib s2 (qr_n S b3) then
        F 1544 22 [some (.inl x0), some (.inl x1), some (.inr (14, a2)), none, none, some (.inl x5), some (.inl x6)] [] (qu_i S 14 b3 (Int32.toNatClampNeg s2) (vp_nar .byte (qt_ci xs 29 b1 (Int32.toNatClampNeg s0))))
      else none
    else none := qm_blk_to hF (pm_stp 1544 [0, 22, 54, 67, 72, 83, 102, 115]) 76 rfl
set_option maxRecDepth 100000 in
theorem q1544_72 (hF : qm_fix O qt_me qt_qs (qt_C L0 xs) J F) {x0 : Int32} {x1 : Int32} {a2 : Nat} {x5 : Int32} {x6 : Int32} : F 1544 72 [some (.inl x0), some (.inl x1), some (.inr (14, a2)), none, none, some (.inl x5), some (.inl x6)] [] S =
    F 1544 83 [some (.inl x0), some (.inl x1), some (.inr (14, a2)), none, none, some (.inl (x5 + (-1))), some (.inl x6)] [.inl (-x0), .inr (28, 4), .inl (x5 + (-1)), .inr (14, a2)] S := qm_blk_to hF (pm_stp 1544 [0, 22, 54, 67, 72, 83, 102, 115]) 76 rfl
set_option maxRecDepth 100000 in
theorem q1544_83 (hF : qm_fix O qt_me qt_qs (qt_C L0 xs) J F) {x0 : Int32} {x1 : Int32} {a2 : Nat} {x5 : Int32} {x6 : Int32} {s0 : Int32} {b1 : Nat} {s2 : Int32} {b3 : Nat} : F 1544 83 [some (.inl x0), some (.inl x1), some (.inr (14, a2)), none, none, some (.inl x5), some (.inl x6)] [.inl s0, .inr (28, b1), .inl s2, .inr (14, b3)] S =
    bif pm_ib s0 (qt_cn L0 28 b1) then
      bif pm_ib s2 (qr_n S b3) then
        if x0 < (-9) then
          F 1544 102 [some (.inl x0), some (.inl x1), some (.inr (14, a2)), none, none, some (.inl (x5 + (-1))), some (.inl x6)] [.inl (-x0), .inr (29, 5), .inl (x5 + (-1)), .inr (14, a2)] (qu_i S 14 b3 (Int32.toNatClampNeg s2) (vp_nar .byte (qt_ci xs 28 b1 (Int32.toNatClampNeg s0))))
        else
          if x6 = 0 then
            some (some (.inl x5), (qu_i S 14 b3 (Int32.toNatClampNeg s2) (vp_nar .byte (qt_ci xs 28 b1 (Int32.toNatClampNeg s0)))))
          else
            F 1544 115 [some (.inl x0), some (.inl x1), some (.inr (14, a2)), none, none, some (.inl (x5 + (-1))), some (.inl x6)] [.inl (x5 + (-1)), .inr (14, a2)] (qu_i S 14 b3 (Int32.toNatClampNeg s2) (vp_nar .byte (qt_ci xs 28 b1 (Int32.toNatClampNeg s0))))
      else none
    else none := qm_blk_to hF (pm_stp 1544 [0, 22, 54, 67, 72, 83, 102, 115]) 76 rfl
set_option maxRecDepth 100000 in
theorem q1544_102 (hF : qm_fix O qt_me qt_qs (qt_C L0 xs) J F) {x0 : Int32} {x1 : Int32} {a2 : Nat} {x5 : Int32} {x6 : Int32} {s0 : Int32} {b1 : Nat} {s2 : Int32} {b3 : Nat} : F 1544 102 [some (.inl x0), some (.inl x1), some (.inr (14, a2)), none, none, some (.inl x5), some (.inl x6)] [.inl s0, .inr (29, b1), .inl s2, .inr (14, b3)] S =
    bif pm_ib s0 (qt_cn L0 29 b1) then
      bif pm_ib s2 (qr_n S b3) then
        if x6 = 0 then
          some (some (.inl x5), (qu_i S 14 b3 (Int32.toNatClampNeg s2) (vp_nar .byte (qt_ci xs 29 b1 (Int32.toNatClampNeg s0)))))
        else
          F 1544 115 [some (.inl x0), some (.inl x1), some (.inr (14, a2)), none, none, some (.inl (x5 + (-1))), some (.inl x6)] [.inl (x5 + (-1)), .inr (14, a2)] (qu_i S 14 b3 (Int32.toNatClampNeg s2) (vp_nar .byte (qt_ci xs 29 b1 (Int32.toNatClampNeg s0))))
      else none
    else none := qm_blk_to hF (pm_stp 1544 [0, 22, 54, 67, 72, 83, 102, 115]) 76 rfl
set_option maxRecDepth 100000 in
theorem q1544_115 (hF : qm_fix O qt_me qt_qs (qt_C L0 xs) J F) {x0 : Int32} {x1 : Int32} {a2 : Nat} {x5 : Int32} {x6 : Int32} {s0 : Int32} {b1 : Nat} : F 1544 115 [some (.inl x0), some (.inl x1), some (.inr (14, a2)), none, none, some (.inl x5), some (.inl x6)] [.inl s0, .inr (14, b1)] S =
    bif pm_ib s0 (qr_n S b1) then
      some (some (.inl x5), (qu_i S 14 b1 (Int32.toNatClampNeg s0) (vp_nar .byte 45)))
    else none := qm_blk_to hF (pm_stp 1544 [0, 22, 54, 67, 72, 83, 102, 115]) 76 rfl
-- java/lang/AbstractStringBuilder.append(I)Ljava/lang/AbstractStringBuilder; 12
set_option maxRecDepth 100000 in
theorem q1542_0 (hF : qm_fix O qt_me qt_qs (qt_C L0 xs) J F) {a0 : Nat} {x1 : Int32} : F 1542 0 [some (.inr (12, a0)), some (.inl x1), none, none] [] S =
    qm_k (F 1543 0 [some (.inl x1), none, none, none] [] S) (fun v U => F 1542 10 [some (.inr (12, a0)), some (.inl x1), some (.inl (qr_i S 12 a0 3)), none] (v.toList ++ [.inl (qr_i S 12 a0 3)]) U) := qm_blk_to hF (pm_stp 1542 [0, 10, 17, 21, 33]) 36 rfl
set_option maxRecDepth 100000 in
theorem q1542_10 (hF : qm_fix O qt_me qt_qs (qt_C L0 xs) J F) {a0 : Nat} {x1 : Int32} {x2 : Int32} {s0 : Int32} {s1 : Int32} : F 1542 10 [some (.inr (12, a0)), some (.inl x1), some (.inl x2), none] [.inl s0, .inl s1] S =
    qm_k (F 1526 0 [some (.inr (12, a0)), some (.inl (s1 + s0)), none] [] S) (fun v U => F 1542 17 [some (.inr (12, a0)), some (.inl x1), some (.inl x2), some (.inl (s1 + s0))] (v.toList ++ []) U) := qm_blk_to hF (pm_stp 1542 [0, 10, 17, 21, 33]) 36 rfl
set_option maxRecDepth 100000 in
theorem q1542_17 (hF : qm_fix O qt_me qt_qs (qt_C L0 xs) J F) {a0 : Nat} {x1 : Int32} {x2 : Int32} {x3 : Int32} : F 1542 17 [some (.inr (12, a0)), some (.inl x1), some (.inl x2), some (.inl x3)] [] S =
    qm_k (F 1531 0 [some (.inr (12, a0))] [] S) (fun v U => F 1542 21 [some (.inr (12, a0)), some (.inl x1), some (.inl x2), some (.inl x3)] (v.toList ++ []) U) := qm_blk_to hF (pm_stp 1542 [0, 10, 17, 21, 33]) 36 rfl
set_option maxRecDepth 100000 in
theorem q1542_21 (hF : qm_fix O qt_me qt_qs (qt_C L0 xs) J F) {a0 : Nat} {x1 : Int32} {x2 : Int32} {x3 : Int32} {s0 : Int32} : F 1542 21 [some (.inr (12, a0)), some (.inl x1), some (.inl x2), some (.inl x3)] [.inl s0] S =
    if s0 = 0 then
      bif Nat.blt 0 (qr_g S 12 a0 0) then
        none
      else none
    else
      bif Nat.blt 0 (qr_g S 12 a0 0) then
        qm_k (F 1544 0 [some (.inl x1), some (.inl x3), some (.inr (14, (qr_g S 12 a0 0))), none, none, none, none] [] S) (fun v U => F 1542 33 [some (.inr (12, a0)), some (.inl x1), some (.inl x2), some (.inl x3)] (v.toList ++ []) U)
      else none := qm_blk_to hF (pm_stp 1542 [0, 10, 17, 21, 33]) 36 rfl
set_option maxRecDepth 100000 in
theorem q1542_33 (hF : qm_fix O qt_me qt_qs (qt_C L0 xs) J F) {a0 : Nat} {x1 : Int32} {x2 : Int32} {x3 : Int32} {s0 : Int32} : F 1542 33 [some (.inr (12, a0)), some (.inl x1), some (.inl x2), some (.inl x3)] [.inl s0] S =
    some (some (.inr (12, a0)), (qu_i S 12 a0 3 x3)) := qm_blk_to hF (pm_stp 1542 [0, 10, 17, 21, 33]) 36 rfl
-- java/lang/StringBuilder.append(I)Ljava/lang/StringBuilder; 12
set_option maxRecDepth 100000 in
theorem q1541_0 (hF : qm_fix O qt_me qt_qs (qt_C L0 xs) J F) {a0 : Nat} {x1 : Int32} : F 1541 0 [some (.inr (12, a0)), some (.inl x1)] [] S =
    qm_k (F 1542 0 [some (.inr (12, a0)), some (.inl x1), none, none] [] S) (fun v U => F 1541 5 [some (.inr (12, a0)), some (.inl x1)] (v.toList ++ []) U) := qm_blk_to hF (pm_stp 1541 [0, 5]) 11 rfl
set_option maxRecDepth 100000 in
theorem q1541_5 (hF : qm_fix O qt_me qt_qs (qt_C L0 xs) J F) {a0 : Nat} {x1 : Int32} {b0 : Nat} : F 1541 5 [some (.inr (12, a0)), some (.inl x1)] [.inr (12, b0)] S =
    some (some (.inr (12, a0)), S) := qm_blk_to hF (pm_stp 1541 [0, 5]) 11 rfl
-- java/lang/StringLatin1.canEncode(C)Z 
set_option maxRecDepth 100000 in
theorem q1547_0 (hF : qm_fix O qt_me qt_qs (qt_C L0 xs) J F) {x0 : Int32} : F 1547 0 [some (.inl x0)] [] S =
    if x0 ≤ 255 then
      some (some (.inl 1), S)
    else
      some (some (.inl 0), S) := qm_blk_to hF (pm_stp 1547 [0]) 12 rfl
-- java/lang/AbstractStringBuilder.append(C)Ljava/lang/AbstractStringBuilder; 12
set_option maxRecDepth 100000 in
theorem q1546_0 (hF : qm_fix O qt_me qt_qs (qt_C L0 xs) J F) {a0 : Nat} {x1 : Int32} : F 1546 0 [some (.inr (12, a0)), some (.inl x1)] [] S =
    qm_k (F 1526 0 [some (.inr (12, a0)), some (.inl ((qr_i S 12 a0 3) + 1)), none] [] S) (fun v U => F 1546 10 [some (.inr (12, a0)), some (.inl x1)] (v.toList ++ []) U) := qm_blk_to hF (pm_stp 1546 [0, 10, 14, 21, 49]) 46 rfl
set_option maxRecDepth 100000 in
theorem q1546_10 (hF : qm_fix O qt_me qt_qs (qt_C L0 xs) J F) {a0 : Nat} {x1 : Int32} : F 1546 10 [some (.inr (12, a0)), some (.inl x1)] [] S =
    qm_k (F 1531 0 [some (.inr (12, a0))] [] S) (fun v U => F 1546 14 [some (.inr (12, a0)), some (.inl x1)] (v.toList ++ []) U) := qm_blk_to hF (pm_stp 1546 [0, 10, 14, 21, 49]) 46 rfl
set_option maxRecDepth 100000 in
theorem q1546_14 (hF : qm_fix O qt_me qt_qs (qt_C L0 xs) J F) {a0 : Nat} {x1 : Int32} {s0 : Int32} : F 1546 14 [some (.inr (12, a0)), some (.inl x1)] [.inl s0] S =
    if s0 = 0 then
      qm_k (F 1531 0 [some (.inr (12, a0))] [] S) (fun v U => F 1546 49 [some (.inr (12, a0)), some (.inl x1)] (v.toList ++ []) U)
    else
      qm_k (F 1547 0 [some (.inl x1)] [] S) (fun v U => F 1546 21 [some (.inr (12, a0)), some (.inl x1)] (v.toList ++ []) U) := qm_blk_to hF (pm_stp 1546 [0, 10, 14, 21, 49]) 46 rfl
set_option maxRecDepth 100000 in
theorem q1546_21 (hF : qm_fix O qt_me qt_qs (qt_C L0 xs) J F) {a0 : Nat} {x1 : Int32} {s0 : Int32} : F 1546 21 [some (.inr (12, a0)), some (.inl x1)] [.inl s0] S =
    if s0 = 0 then
      qm_k (F 1531 0 [some (.inr (12, a0))] [] S) (fun v U => F 1546 49 [some (.inr (12, a0)), some (.inl x1)] (v.toList ++ []) U)
    else
      bif Nat.blt 0 (qr_g S 12 a0 0) then
        bif pm_ib (qr_i S 12 a0 3) (qr_n S (qr_g S 12 a0 0)) then
          some (some (.inr (12, a0)), (qu_i (qu_i S 12 a0 3 ((qr_i S 12 a0 3) + 1)) 14 (qr_g S 12 a0 0) (Int32.toNatClampNeg (qr_i S 12 a0 3)) (vp_nar .byte (Int8.toInt32 (Int32.toInt8 x1)))))
        else none
      else none := qm_blk_to hF (pm_stp 1546 [0, 10, 14, 21, 49]) 46 rfl
set_option maxRecDepth 100000 in
theorem q1546_49 (hF : qm_fix O qt_me qt_qs (qt_C L0 xs) J F) {a0 : Nat} {x1 : Int32} {s0 : Int32} : F 1546 49 [some (.inr (12, a0)), some (.inl x1)] [.inl s0] S =
    if s0 = 0 then
      bif Nat.blt 0 (qr_g S 12 a0 0) then
        none
      else none
    else
      none := qm_blk_to hF (pm_stp 1546 [0, 10, 14, 21, 49]) 46 rfl
-- java/lang/StringBuilder.append(C)Ljava/lang/StringBuilder; 12
set_option maxRecDepth 100000 in
theorem q1545_0 (hF : qm_fix O qt_me qt_qs (qt_C L0 xs) J F) {a0 : Nat} {x1 : Int32} : F 1545 0 [some (.inr (12, a0)), some (.inl x1)] [] S =
    qm_k (F 1546 0 [some (.inr (12, a0)), some (.inl x1)] [] S) (fun v U => F 1545 5 [some (.inr (12, a0)), some (.inl x1)] (v.toList ++ []) U) := qm_blk_to hF (pm_stp 1545 [0, 5]) 11 rfl
set_option maxRecDepth 100000 in
theorem q1545_5 (hF : qm_fix O qt_me qt_qs (qt_C L0 xs) J F) {a0 : Nat} {x1 : Int32} {b0 : Nat} : F 1545 5 [some (.inr (12, a0)), some (.inl x1)] [.inr (12, b0)] S =
    some (some (.inr (12, a0)), S) := qm_blk_to hF (pm_stp 1545 [0, 5]) 11 rfl
-- java/lang/AbstractStringBuilder.getValue()[B 12
set_option maxRecDepth 100000 in
theorem q1551_0 (hF : qm_fix O qt_me qt_qs (qt_C L0 xs) J F) {a0 : Nat} : F 1551 0 [some (.inr (12, a0))] [] S =
    bif Nat.blt 0 (qr_g S 12 a0 0) then
      some (some (.inr (14, (qr_g S 12 a0 0))), S)
    else none := qm_blk_to hF (pm_stp 1551 [0]) 8 rfl
-- java/lang/AbstractStringBuilder.length()I 12
set_option maxRecDepth 100000 in
theorem q1553_0 (hF : qm_fix O qt_me qt_qs (qt_C L0 xs) J F) {a0 : Nat} : F 1553 0 [some (.inr (12, a0))] [] S =
    some (some (.inl (qr_i S 12 a0 3)), S) := qm_blk_to hF (pm_stp 1553 [0]) 8 rfl
-- java/lang/StringBuilder.length()I 12
set_option maxRecDepth 100000 in
theorem q1552_0 (hF : qm_fix O qt_me qt_qs (qt_C L0 xs) J F) {a0 : Nat} : F 1552 0 [some (.inr (12, a0))] [] S =
    qm_k (F 1553 0 [some (.inr (12, a0))] [] S) (fun v U => F 1552 4 [some (.inr (12, a0))] (v.toList ++ []) U) := qm_blk_to hF (pm_stp 1552 [0, 4]) 8 rfl
set_option maxRecDepth 100000 in
theorem q1552_4 (hF : qm_fix O qt_me qt_qs (qt_C L0 xs) J F) {a0 : Nat} {s0 : Int32} : F 1552 4 [some (.inr (12, a0))] [.inl s0] S =
    some (some (.inl s0), S) := qm_blk_to hF (pm_stp 1552 [0, 4]) 8 rfl
-- java/util/Arrays.checkLength(II)V 
set_option maxRecDepth 100000 in
theorem q1556_0 (hF : qm_fix O qt_me qt_qs (qt_C L0 xs) J F) {x0 : Int32} {x1 : Int32} : F 1556 0 [some (.inl x0), some (.inl x1)] [] S =
    if x1 < x0 then
      none
    else
      some (none, S) := qm_blk_to hF (pm_stp 1556 [0]) 9 rfl
-- java/util/Arrays.copyOfRangeByte([BII)[B 14
set_option maxRecDepth 100000 in
theorem q1555_0 (hF : qm_fix O qt_me qt_qs (qt_C L0 xs) J F) {a0 : Nat} {x1 : Int32} {x2 : Int32} : F 1555 0 [some (.inr (14, a0)), some (.inl x1), some (.inl x2), none, none] [] S =
    qm_k (F 1556 0 [some (.inl x1), some (.inl x2)] [] S) (fun v U => F 1555 5 [some (.inr (14, a0)), some (.inl x1), some (.inl x2), none, none] (v.toList ++ []) U) := qm_blk_to hF (pm_stp 1555 [0, 5, 27]) 28 rfl
set_option maxRecDepth 100000 in
theorem q1555_5 (hF : qm_fix O qt_me qt_qs (qt_C L0 xs) J F) {a0 : Nat} {x1 : Int32} {x2 : Int32} : F 1555 5 [some (.inr (14, a0)), some (.inl x1), some (.inl x2), none, none] [] S =
    bif (!(decide ((x2 - x1) < 0)) && Nat.ble (Int32.toNatClampNeg (x2 - x1)) 100000) then
      qm_k (F 1511 0 [some (.inl ((nI (qr_n (qm_mk S 15 (Int32.toNatClampNeg (x2 - x1))) a0)) - x1)), some (.inl (x2 - x1))] [] (qm_mk S 15 (Int32.toNatClampNeg (x2 - x1)))) (fun v U => F 1555 27 [some (.inr (14, a0)), some (.inl x1), some (.inl x2), some (.inl (x2 - x1)), some (.inr (15, S.1))] (v.toList ++ [.inl 0, .inr (15, S.1), .inl x1, .inr (14, a0)]) U)
    else none := qm_blk_to hF (pm_stp 1555 [0, 5, 27]) 28 rfl
set_option maxRecDepth 100000 in
theorem q1555_27 (hF : qm_fix O qt_me qt_qs (qt_C L0 xs) J F) {a0 : Nat} {x1 : Int32} {x2 : Int32} {x3 : Int32} {a4 : Nat} {s0 : Int32} {s1 : Int32} {b2 : Nat} {s3 : Int32} {b4 : Nat} : F 1555 27 [some (.inr (14, a0)), some (.inl x1), some (.inl x2), some (.inl x3), some (.inr (15, a4))] [.inl s0, .inl s1, .inr (15, b2), .inl s3, .inr (14, b4)] S =
    bif (!(decide (s0 < 0)) && (!(decide (s3 < 0)) && (!(decide (s1 < 0)) && (Nat.ble ((Int32.toNatClampNeg s3) + (Int32.toNatClampNeg s0)) (qr_n S b4) && (Nat.ble ((Int32.toNatClampNeg s1) + (Int32.toNatClampNeg s0)) (qr_n S b2) && qm_bytes (S.2.2.2.2.2.1 14 b4) (Int32.toNatClampNeg s3) (Int32.toNatClampNeg s0)))))) then
      some (some (.inr (15, a4)), (qu_cp S 14 b4 15 b2 (Int32.toNatClampNeg s3) (Int32.toNatClampNeg s1) (Int32.toNatClampNeg s0)))
    else none := qm_blk_to hF (pm_stp 1555 [0, 5, 27]) 28 rfl
-- java/util/Arrays.copyOfRange([BII)[B 14
set_option maxRecDepth 100000 in
theorem q1554_0 (hF : qm_fix O qt_me qt_qs (qt_C L0 xs) J F) {a0 : Nat} {x1 : Int32} {x2 : Int32} : F 1554 0 [some (.inr (14, a0)), some (.inl x1), some (.inl x2)] [] S =
    if x1 = 0 then
      if x2 = (nI (qr_n S a0)) then
        bif (Nat.ble (qr_n S a0) 100000 && qm_bytes (S.2.2.2.2.2.1 14 a0) 0 (qr_n S a0)) then
          some (some (.inr (15, S.1)), (qu_c S 14 a0))
        else none
      else
        qm_k (F 1555 0 [some (.inr (14, a0)), some (.inl x1), some (.inl x2), none, none] [] S) (fun v U => F 1554 16 [some (.inr (14, a0)), some (.inl x1), some (.inl x2)] (v.toList ++ []) U)
    else
      qm_k (F 1555 0 [some (.inr (14, a0)), some (.inl x1), some (.inl x2), none, none] [] S) (fun v U => F 1554 16 [some (.inr (14, a0)), some (.inl x1), some (.inl x2)] (v.toList ++ []) U) := qm_blk_to hF (pm_stp 1554 [0, 16]) 20 rfl
set_option maxRecDepth 100000 in
theorem q1554_16 (hF : qm_fix O qt_me qt_qs (qt_C L0 xs) J F) {a0 : Nat} {x1 : Int32} {x2 : Int32} {b0 : Nat} : F 1554 16 [some (.inr (14, a0)), some (.inl x1), some (.inl x2)] [.inr (15, b0)] S =
    some (some (.inr (15, b0)), S) := qm_blk_to hF (pm_stp 1554 [0, 16]) 20 rfl
-- java/lang/String.<init>(Ljava/lang/AbstractStringBuilder;Ljava/lang/Void;)V 13 12 31
set_option maxRecDepth 100000 in
theorem q1550_0 (hF : qm_fix O qt_me qt_qs (qt_C L0 xs) J F) {a0 : Nat} {a1 : Nat} {a2 : Nat} : F 1550 0 [some (.inr (13, a0)), some (.inr (12, a1)), some (.inr (31, a2)), none, none] [] S =
    qm_k (F 1551 0 [some (.inr (12, a1))] [] S) (fun v U => F 1550 8 [some (.inr (13, a0)), some (.inr (12, a1)), some (.inr (31, a2)), none, none] (v.toList ++ []) U) := qm_blk_to hF (pm_stp 1550 [0, 8, 13, 19, 35, 94]) 47 rfl
set_option maxRecDepth 100000 in
theorem q1550_8 (hF : qm_fix O qt_me qt_qs (qt_C L0 xs) J F) {a0 : Nat} {a1 : Nat} {a2 : Nat} {b0 : Nat} : F 1550 8 [some (.inr (13, a0)), some (.inr (12, a1)), some (.inr (31, a2)), none, none] [.inr (14, b0)] S =
    qm_k (F 1552 0 [some (.inr (12, a1))] [] S) (fun v U => F 1550 13 [some (.inr (13, a0)), some (.inr (12, a1)), some (.inr (31, a2)), some (.inr (14, b0)), none] (v.toList ++ []) U) := qm_blk_to hF (pm_stp 1550 [0, 8, 13, 19, 35, 94]) 47 rfl
set_option maxRecDepth 100000 in
theorem q1550_13 (hF : qm_fix O qt_me qt_qs (qt_C L0 xs) J F) {a0 : Nat} {a1 : Nat} {a2 : Nat} {a3 : Nat} {s0 : Int32} : F 1550 13 [some (.inr (13, a0)), some (.inr (12, a1)), some (.inr (31, a2)), some (.inr (14, a3)), none] [.inl s0] S =
    qm_k (F 1531 0 [some (.inr (12, a1))] [] S) (fun v U => F 1550 19 [some (.inr (13, a0)), some (.inr (12, a1)), some (.inr (31, a2)), some (.inr (14, a3)), some (.inl s0)] (v.toList ++ []) U) := qm_blk_to hF (pm_stp 1550 [0, 8, 13, 19, 35, 94]) 47 rfl
set_option maxRecDepth 100000 in
theorem q1550_19 (hF : qm_fix O qt_me qt_qs (qt_C L0 xs) J F) {a0 : Nat} {a1 : Nat} {a2 : Nat} {a3 : Nat} {x4 : Int32} {s0 : Int32} : F 1550 19 [some (.inr (13, a0)), some (.inr (12, a1)), some (.inr (31, a2)), some (.inr (14, a3)), some (.inl x4)] [.inl s0] S =
    if s0 = 0 then
      if (1 : Int32) = 0 then
        qm_k (F 1554 0 [some (.inr (14, a3)), some (.inl 0), some (.inl ((x4 : Int32) <<< (1 &&& 31)))] [] (qu_i S 13 a0 1 1)) (fun v U => F 1550 94 [some (.inr (13, a0)), some (.inr (12, a1)), some (.inr (31, a2)), some (.inr (14, a3)), some (.inl x4)] (v.toList ++ [.inr (13, a0)]) U)
      else
        if (qr_i S 12 a1 2) = 0 then
          qm_k (F 1554 0 [some (.inr (14, a3)), some (.inl 0), some (.inl ((x4 : Int32) <<< (1 &&& 31)))] [] (qu_i S 13 a0 1 1)) (fun v U => F 1550 94 [some (.inr (13, a0)), some (.inr (12, a1)), some (.inr (31, a2)), some (.inr (14, a3)), some (.inl x4)] (v.toList ++ [.inr (13, a0)]) U)
        else
          none
    else
      qm_k (F 1554 0 [some (.inr (14, a3)), some (.inl 0), some (.inl x4)] [] (qu_i S 13 a0 1 0)) (fun v U => F 1550 35 [some (.inr (13, a0)), some (.inr (12, a1)), some (.inr (31, a2)), some (.inr (14, a3)), some (.inl x4)] (v.toList ++ [.inr (13, a0)]) U) := qm_blk_to hF (pm_stp 1550 [0, 8, 13, 19, 35, 94]) 47 rfl
set_option maxRecDepth 100000 in
theorem q1550_35 (hF : qm_fix O qt_me qt_qs (qt_C L0 xs) J F) {a0 : Nat} {a1 : Nat} {a2 : Nat} {a3 : Nat} {x4 : Int32} {b0 : Nat} {b1 : Nat} : F 1550 35 [some (.inr (13, a0)), some (.inr (12, a1)), some (.inr (31, a2)), some (.inr (14, a3)), some (.inl x4)] [.inr (15, b0), .inr (13, b1)] S =
    some (none, (qu_g S 13 b1 0 b0)) := qm_blk_to hF (pm_stp 1550 [0, 8, 13, 19, 35, 94]) 47 rfl
set_option maxRecDepth 100000 in
theorem q1550_94 (hF : qm_fix O qt_me qt_qs (qt_C L0 xs) J F) {a0 : Nat} {a1 : Nat} {a2 : Nat} {a3 : Nat} {x4 : Int32} {b0 : Nat} {b1 : Nat} : F 1550 94 [some (.inr (13, a0)), some (.inr (12, a1)), some (.inr (31, a2)), some (.inr (14, a3)), some (.inl x4)] [.inr (15, b0), .inr (13, b1)] S =
    some (none, (qu_g S 13 b1 0 b0)) := qm_blk_to hF (pm_stp 1550 [0, 8, 13, 19, 35, 94]) 47 rfl
end
