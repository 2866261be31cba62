/-! ===== printed by gen/qeqs.py: what the law's and the library's methods do between cuts ===== -/
section
variable {O : qm_O} {F : qm_F} {J L0 : Nat} {xs : List Int32} {S : qm_S}
-- java/lang/String.coder()B 13
set_option maxRecDepth 100000 in
theorem q1502_0a (hF : qm_fix O qt_me qt_qs (qt_C L0 xs) J F) {a0 : Nat} : F 1502 0 [some (.inr (13, a0))] [] S =
    if (1 : Int32) = 0 then
      bif decide (Int8.toInt32 (Int32.toInt8 1) = 1) then some (some (.inl 1), S) else none
    else
      bif decide (Int8.toInt32 (Int32.toInt8 (qr_i S 13 a0 1)) = (qr_i S 13 a0 1)) then some (some (.inl (qr_i S 13 a0 1)), S) else none := qm_blk_to hF (pm_stp 1502 [0]) 12 rfl
-- java/lang/String.length()I 13
set_option maxRecDepth 100000 in
theorem q1501_0a (hF : qm_fix O qt_me qt_qs (qt_C L0 xs) J F) {a0 : Nat} : F 1501 0 [some (.inr (13, a0))] [] S =
    bif Nat.blt 0 (qr_g S 13 a0 0) then
      qm_k (F 1502 0 [some (.inr (13, a0))] [] S) (fun v U => F 1501 9 [some (.inr (13, a0))] (v.toList ++ [.inl (nI (qr_n S (qr_g S 13 a0 0)))]) U)
    else none := qm_blk_to hF (pm_stp 1501 [0, 9]) 12 rfl
set_option maxRecDepth 100000 in
theorem q1501_9a (hF : qm_fix O qt_me qt_qs (qt_C L0 xs) J F) {a0 : Nat} {s0 : Int32} {s1 : Int32} : F 1501 9 [some (.inr (13, a0))] [.inl s0, .inl s1] S =
    some (some (.inl ((s1 : Int32) >>> (s0 &&& 31))), S) := qm_blk_to hF (pm_stp 1501 [0, 9]) 12 rfl
-- java/lang/String.isLatin1()Z 13
set_option maxRecDepth 100000 in
theorem q1504_0 (hF : qm_fix O qt_me qt_qs (qt_C L0 xs) J F) {a0 : Nat} : F 1504 0 [some (.inr (13, a0))] [] S =
    if (1 : Int32) = 0 then
      some (some (.inl 0), S)
    else
      if (qr_i S 13 a0 1) = 0 then
        some (some (.inl 1), S)
      else
        some (some (.inl 0), S) := qm_blk_to hF (pm_stp 1504 [0]) 14 rfl
-- jdk/internal/util/Preconditions.checkIndex(IILjava/util/function/BiFunction;)I 30
set_option maxRecDepth 100000 in
theorem q1507_0 (hF : qm_fix O qt_me qt_qs (qt_C L0 xs) J F) {x0 : Int32} {x1 : Int32} {a2 : Nat} : F 1507 0 [some (.inl x0), some (.inl x1), some (.inr (30, a2))] [] S =
    if x0 < 0 then
      none
    else
      if x0 < x1 then
        some (some (.inl x0), S)
      else
        none := qm_blk_to hF (pm_stp 1507 [0]) 15 rfl
-- java/lang/String.checkIndex(II)V 
set_option maxRecDepth 100000 in
theorem q1506_0 (hF : qm_fix O qt_me qt_qs (qt_C L0 xs) J F) {x0 : Int32} {x1 : Int32} : F 1506 0 [some (.inl x0), some (.inl x1)] [] S =
    qm_k (F 1507 0 [some (.inl x0), some (.inl x1), some (.inr (30, 0))] [] S) (fun v U => F 1506 8 [some (.inl x0), some (.inl x1)] (v.toList ++ []) U) := qm_blk_to hF (pm_stp 1506 [0, 8]) 11 rfl
set_option maxRecDepth 100000 in
theorem q1506_8 (hF : qm_fix O qt_me qt_qs (qt_C L0 xs) J F) {x0 : Int32} {x1 : Int32} {s0 : Int32} : F 1506 8 [some (.inl x0), some (.inl x1)] [.inl s0] S =
    some (none, S) := qm_blk_to hF (pm_stp 1506 [0, 8]) 11 rfl
-- java/lang/StringLatin1.charAt([BI)C 15
set_option maxRecDepth 100000 in
theorem q1505_0 (hF : qm_fix O qt_me qt_qs (qt_C L0 xs) J F) {a0 : Nat} {x1 : Int32} : F 1505 0 [some (.inr (15, a0)), some (.inl x1)] [] S =
    qm_k (F 1506 0 [some (.inl x1), some (.inl (nI (qr_n S a0)))] [] S) (fun v U => F 1505 6 [some (.inr (15, a0)), some (.inl x1)] (v.toList ++ []) U) := qm_blk_to hF (pm_stp 1505 [0, 6]) 16 rfl
set_option maxRecDepth 100000 in
theorem q1505_6 (hF : qm_fix O qt_me qt_qs (qt_C L0 xs) J F) {a0 : Nat} {x1 : Int32} : F 1505 6 [some (.inr (15, a0)), some (.inl x1)] [] S =
    bif pm_ib x1 (qr_n S a0) then
      bif decide (UInt32.toInt32 (Int32.toUInt32 (UInt32.toInt32 (Int32.toUInt32 ((qr_i S 15 a0 (Int32.toNatClampNeg x1)) &&& 255) % 65536)) % 65536) = (UInt32.toInt32 (Int32.toUInt32 ((qr_i S 15 a0 (Int32.toNatClampNeg x1)) &&& 255) % 65536))) then some (some (.inl (UInt32.toInt32 (Int32.toUInt32 ((qr_i S 15 a0 (Int32.toNatClampNeg x1)) &&& 255) % 65536))), S) else none
    else none := qm_blk_to hF (pm_stp 1505 [0, 6]) 16 rfl
-- java/lang/String.charAt(I)C 13
set_option maxRecDepth 100000 in
theorem q1503_0 (hF : qm_fix O qt_me qt_qs (qt_C L0 xs) J F) {a0 : Nat} {x1 : Int32} : F 1503 0 [some (.inr (13, a0)), some (.inl x1)] [] S =
    qm_k (F 1504 0 [some (.inr (13, a0))] [] S) (fun v U => F 1503 4 [some (.inr (13, a0)), some (.inl x1)] (v.toList ++ []) U) := qm_blk_to hF (pm_stp 1503 [0, 4, 15]) 16 rfl
set_option maxRecDepth 100000 in
theorem q1503_4 (hF : qm_fix O qt_me qt_qs (qt_C L0 xs) J F) {a0 : Nat} {x1 : Int32} {s0 : Int32} : F 1503 4 [some (.inr (13, a0)), some (.inl x1)] [.inl s0] S =
    if s0 = 0 then
      bif Nat.blt 0 (qr_g S 13 a0 0) then
        none
      else none
    else
      bif Nat.blt 0 (qr_g S 13 a0 0) then
        qm_k (F 1505 0 [some (.inr (15, (qr_g S 13 a0 0))), some (.inl x1)] [] S) (fun v U => F 1503 15 [some (.inr (13, a0)), some (.inl x1)] (v.toList ++ []) U)
      else none := qm_blk_to hF (pm_stp 1503 [0, 4, 15]) 16 rfl
set_option maxRecDepth 100000 in
theorem q1503_15 (hF : qm_fix O qt_me qt_qs (qt_C L0 xs) J F) {a0 : Nat} {x1 : Int32} {s0 : Int32} : F 1503 15 [some (.inr (13, a0)), some (.inl x1)] [.inl s0] S =
    bif decide (UInt32.toInt32 (Int32.toUInt32 s0 % 65536) = s0) then some (some (.inl s0), S) else none := qm_blk_to hF (pm_stp 1503 [0, 4, 15]) 16 rfl
-- TurnCabinetLaw.feeds(LTurnCabinet;Ljava/lang/String;)Z 0 13
set_option maxRecDepth 100000 in
theorem q4_0 (hF : qm_fix O qt_me qt_qs (qt_C L0 xs) J F) {a0 : Nat} {a1 : Nat} : F 4 0 [some (.inr (0, a0)), some (.inr (13, a1)), none, none, none, none] [] S =
    F 4 4 [some (.inr (0, a0)), some (.inr (13, a1)), some (.inl 0), some (.inl 0), none, none] [] S := qm_blk_to hF (pm_stp 4 [0, 4, 9, 20, 51, 62, 99, 111, 119, 122, 126]) 84 rfl
set_option maxRecDepth 100000 in
theorem q4_4 (hF : qm_fix O qt_me qt_qs (qt_C L0 xs) J F) {a0 : Nat} {a1 : Nat} {x2 : Int32} {x3 : Int32} : F 4 4 [some (.inr (0, a0)), some (.inr (13, a1)), some (.inl x2), some (.inl x3), none, none] [] S =
    qm_k (F 1501 0 [some (.inr (13, a1))] [] S) (fun v U => F 4 9 [some (.inr (0, a0)), some (.inr (13, a1)), some (.inl x2), some (.inl x3), none, none] (v.toList ++ [.inl x3]) U) := qm_blk_to hF (pm_stp 4 [0, 4, 9, 20, 51, 62, 99, 111, 119, 122, 126]) 84 rfl
set_option maxRecDepth 100000 in
theorem q4_9 (hF : qm_fix O qt_me qt_qs (qt_C L0 xs) J F) {a0 : Nat} {a1 : Nat} {x2 : Int32} {x3 : Int32} {s0 : Int32} {s1 : Int32} : F 4 9 [some (.inr (0, a0)), some (.inr (13, a1)), some (.inl x2), some (.inl x3), none, none] [.inl s0, .inl s1] S =
    if s1 < s0 then
      bif (!(decide ((5 : Int32) < 0)) && Nat.ble (Int32.toNatClampNeg 5) 100000) then
        F 4 20 [some (.inr (0, a0)), some (.inr (13, a1)), some (.inl x2), some (.inl x3), some (.inr (21, S.1)), some (.inl 0)] [] (qm_mk S 21 (Int32.toNatClampNeg 5))
      else none
    else
      qm_k (F 1501 0 [some (.inr (13, a1))] [] S) (fun v U => F 4 111 [some (.inr (0, a0)), some (.inr (13, a1)), some (.inl x2), some (.inl x3), none, none] (v.toList ++ [.inl x2]) U) := qm_blk_to hF (pm_stp 4 [0, 4, 9, 20, 51, 62, 99, 111, 119, 122, 126]) 84 rfl
set_option maxRecDepth 100000 in
theorem q4_20 (hF : qm_fix O qt_me qt_qs (qt_C L0 xs) J F) {a0 : Nat} {a1 : Nat} {x2 : Int32} {x3 : Int32} {a4 : Nat} {x5 : Int32} : F 4 20 [some (.inr (0, a0)), some (.inr (13, a1)), some (.inl x2), some (.inl x3), some (.inr (21, a4)), some (.inl x5)] [] S =
    if x5 < 20 then
      bif !(decide ((4 : Int32) = 0)) then
        bif !(decide ((4 : Int32) = 0)) then
          bif pm_ib (x5 / 4) (qr_n S a4) then
            qm_k (F 1501 0 [some (.inr (13, a1))] [] S) (fun v U => F 4 51 [some (.inr (0, a0)), some (.inr (13, a1)), some (.inl x2), some (.inl x3), some (.inr (21, a4)), some (.inl x5)] (v.toList ++ [.inl (x3 + x5), .inl (((qr_i S 21 a4 (Int32.toNatClampNeg (x5 / 4))) : Int32) <<< (8 &&& 31)), .inl (x5 / 4), .inr (21, a4)]) U)
          else none
        else none
      else none
    else
      bif pm_ib 0 (qr_n S a4) then
        bif pm_ib 1 (qr_n S a4) then
          bif pm_ib 2 (qr_n S a4) then
            bif pm_ib 3 (qr_n S a4) then
              bif pm_ib 4 (qr_n S a4) then
                qm_o O J 102 [.inr (0, a0), .inl (qr_i S 21 a4 (Int32.toNatClampNeg 0)), .inl (qr_i S 21 a4 (Int32.toNatClampNeg 1)), .inl (qr_i S 21 a4 (Int32.toNatClampNeg 2)), .inl (qr_i S 21 a4 (Int32.toNatClampNeg 3)), .inl (qr_i S 21 a4 (Int32.toNatClampNeg 4))] S (fun v U => F 4 99 [some (.inr (0, a0)), some (.inr (13, a1)), some (.inl x2), some (.inl x3), some (.inr (21, a4)), some (.inl x5)] (v.toList ++ []) U)
              else none
            else none
          else none
        else none
      else none := qm_blk_to hF (pm_stp 4 [0, 4, 9, 20, 51, 62, 99, 111, 119, 122, 126]) 84 rfl
set_option maxRecDepth 100000 in
theorem q4_51 (hF : qm_fix O qt_me qt_qs (qt_C L0 xs) J F) {a0 : Nat} {a1 : Nat} {x2 : Int32} {x3 : Int32} {a4 : Nat} {x5 : Int32} {s0 : Int32} {s1 : Int32} {s2 : Int32} {s3 : Int32} {b4 : Nat} : F 4 51 [some (.inr (0, a0)), some (.inr (13, a1)), some (.inl x2), some (.inl x3), some (.inr (21, a4)), some (.inl x5)] [.inl s0, .inl s1, .inl s2, .inl s3, .inr (21, b4)] S =
    if s1 < s0 then
      qm_k (F 1503 0 [some (.inr (13, a1)), some (.inl (x3 + x5))] [] S) (fun v U => F 4 62 [some (.inr (0, a0)), some (.inr (13, a1)), some (.inl x2), some (.inl x3), some (.inr (21, a4)), some (.inl x5)] (v.toList ++ [.inl s2, .inl s3, .inr (21, b4)]) U)
    else
      bif pm_ib s3 (qr_n S b4) then
        F 4 20 [some (.inr (0, a0)), some (.inr (13, a1)), some (.inl x2), some (.inl x3), some (.inr (21, a4)), some (.inl (x5 + 1))] [] (qu_i S 21 b4 (Int32.toNatClampNeg s3) (s2 ||| 32))
      else none := qm_blk_to hF (pm_stp 4 [0, 4, 9, 20, 51, 62, 99, 111, 119, 122, 126]) 84 rfl
set_option maxRecDepth 100000 in
theorem q4_62 (hF : qm_fix O qt_me qt_qs (qt_C L0 xs) J F) {a0 : Nat} {a1 : Nat} {x2 : Int32} {x3 : Int32} {a4 : Nat} {x5 : Int32} {s0 : Int32} {s1 : Int32} {s2 : Int32} {b3 : Nat} : F 4 62 [some (.inr (0, a0)), some (.inr (13, a1)), some (.inl x2), some (.inl x3), some (.inr (21, a4)), some (.inl x5)] [.inl s0, .inl s1, .inl s2, .inr (21, b3)] S =
    bif pm_ib s2 (qr_n S b3) then
      F 4 20 [some (.inr (0, a0)), some (.inr (13, a1)), some (.inl x2), some (.inl x3), some (.inr (21, a4)), some (.inl (x5 + 1))] [] (qu_i S 21 b3 (Int32.toNatClampNeg s2) (s1 ||| s0))
    else none := qm_blk_to hF (pm_stp 4 [0, 4, 9, 20, 51, 62, 99, 111, 119, 122, 126]) 84 rfl
set_option maxRecDepth 100000 in
theorem q4_99 (hF : qm_fix O qt_me qt_qs (qt_C L0 xs) J F) {a0 : Nat} {a1 : Nat} {x2 : Int32} {x3 : Int32} {a4 : Nat} {x5 : Int32} {s0 : Int32} : F 4 99 [some (.inr (0, a0)), some (.inr (13, a1)), some (.inl x2), some (.inl x3), some (.inr (21, a4)), some (.inl x5)] [.inl s0] S =
    F 4 4 [some (.inr (0, a0)), some (.inr (13, a1)), some (.inl s0), some (.inl (x3 + 20)), none, none] [] S := qm_blk_to hF (pm_stp 4 [0, 4, 9, 20, 51, 62, 99, 111, 119, 122, 126]) 84 rfl
set_option maxRecDepth 100000 in
theorem q4_111 (hF : qm_fix O qt_me qt_qs (qt_C L0 xs) J F) {a0 : Nat} {a1 : Nat} {x2 : Int32} {x3 : Int32} {s0 : Int32} {s1 : Int32} : F 4 111 [some (.inr (0, a0)), some (.inr (13, a1)), some (.inl x2), some (.inl x3), none, none] [.inl s0, .inl s1] S =
    if s1 < s0 then
      some (some (.inl 0), S)
    else
      qm_k (F 1501 0 [some (.inr (13, a1))] [] S) (fun v U => F 4 119 [some (.inr (0, a0)), some (.inr (13, a1)), some (.inl x2), some (.inl x3), none, none] (v.toList ++ [.inr (0, a0)]) U) := qm_blk_to hF (pm_stp 4 [0, 4, 9, 20, 51, 62, 99, 111, 119, 122, 126]) 84 rfl
set_option maxRecDepth 100000 in
theorem q4_119 (hF : qm_fix O qt_me qt_qs (qt_C L0 xs) J F) {a0 : Nat} {a1 : Nat} {x2 : Int32} {x3 : Int32} {s0 : Int32} {b1 : Nat} : F 4 119 [some (.inr (0, a0)), some (.inr (13, a1)), some (.inl x2), some (.inl x3), none, none] [.inl s0, .inr (0, b1)] S =
    qm_o O J 103 [.inr (0, b1), .inl s0] S (fun v U => F 4 122 [some (.inr (0, a0)), some (.inr (13, a1)), some (.inl x2), some (.inl x3), none, none] (v.toList ++ []) U) := qm_blk_to hF (pm_stp 4 [0, 4, 9, 20, 51, 62, 99, 111, 119, 122, 126]) 84 rfl
set_option maxRecDepth 100000 in
theorem q4_122 (hF : qm_fix O qt_me qt_qs (qt_C L0 xs) J F) {a0 : Nat} {a1 : Nat} {x2 : Int32} {x3 : Int32} {s0 : Int32} : F 4 122 [some (.inr (0, a0)), some (.inr (13, a1)), some (.inl x2), some (.inl x3), none, none] [.inl s0] S =
    qm_k (F 1501 0 [some (.inr (13, a1))] [] S) (fun v U => F 4 126 [some (.inr (0, a0)), some (.inr (13, a1)), some (.inl x2), some (.inl x3), none, none] (v.toList ++ [.inl s0]) U) := qm_blk_to hF (pm_stp 4 [0, 4, 9, 20, 51, 62, 99, 111, 119, 122, 126]) 84 rfl
set_option maxRecDepth 100000 in
theorem q4_126 (hF : qm_fix O qt_me qt_qs (qt_C L0 xs) J F) {a0 : Nat} {a1 : Nat} {x2 : Int32} {x3 : Int32} {s0 : Int32} {s1 : Int32} : F 4 126 [some (.inr (0, a0)), some (.inr (13, a1)), some (.inl x2), some (.inl x3), none, none] [.inl s0, .inl s1] S =
    if s1 = s0 then
      some (some (.inl 1), S)
    else
      some (some (.inl 0), S) := qm_blk_to hF (pm_stp 4 [0, 4, 9, 20, 51, 62, 99, 111, 119, 122, 126]) 84 rfl
-- TurnCabinetLaw$World.all()I 1
set_option maxRecDepth 100000 in
theorem q1203_0 (hF : qm_fix O qt_me qt_qs (qt_C L0 xs) J F) {a0 : Nat} : F 1203 0 [some (.inr (1, a0))] [] S =
    some (some (.inl (((1 : Int32) <<< ((qr_i S 1 a0 0) &&& 31)) - 1)), S) := qm_blk_to hF (pm_stp 1203 [0]) 12 rfl
-- TurnCabinetLaw.all(LTurnCabinet;LTurnCabinetLaw$World;)[I 0 1
set_option maxRecDepth 100000 in
theorem q5_0 (hF : qm_fix O qt_me qt_qs (qt_C L0 xs) J F) {a0 : Nat} {a1 : Nat} : F 5 0 [some (.inr (0, a0)), some (.inr (1, a1)), none, none, none] [] S =
    qm_k (F 1203 0 [some (.inr (1, a1))] [] S) (fun v U => F 5 17 [some (.inr (0, a0)), some (.inr (1, a1)), none, none, none] (v.toList ++ [.inl ((4 + ((qr_i S 1 a1 0) * 2)) + (qr_i S 1 a1 1))]) U) := qm_blk_to hF (pm_stp 5 [0, 17, 26, 44, 59, 73, 81, 94, 112, 124, 137, 154, 167, 173, 184]) 112 rfl
set_option maxRecDepth 100000 in
theorem q5_17 (hF : qm_fix O qt_me qt_qs (qt_C L0 xs) J F) {a0 : Nat} {a1 : Nat} {s0 : Int32} {s1 : Int32} : F 5 17 [some (.inr (0, a0)), some (.inr (1, a1)), none, none, none] [.inl s0, .inl s1] S =
    bif (!(decide ((s1 + s0) < 0)) && Nat.ble (Int32.toNatClampNeg (s1 + s0)) 100000) then
      F 5 26 [some (.inr (0, a0)), some (.inr (1, a1)), some (.inr (22, S.1)), some (.inl 0), some (.inl 0)] [] (qm_mk S 22 (Int32.toNatClampNeg (s1 + s0)))
    else none := qm_blk_to hF (pm_stp 5 [0, 17, 26, 44, 59, 73, 81, 94, 112, 124, 137, 154, 167, 173, 184]) 112 rfl
set_option maxRecDepth 100000 in
theorem q5_26 (hF : qm_fix O qt_me qt_qs (qt_C L0 xs) J F) {a0 : Nat} {a1 : Nat} {a2 : Nat} {x3 : Int32} {x4 : Int32} : F 5 26 [some (.inr (0, a0)), some (.inr (1, a1)), some (.inr (22, a2)), some (.inl x3), some (.inl x4)] [] S =
    if x4 < 4 then
      if x4 = 0 then
        qm_o O J 108 [.inr (0, a0), .inl 2] S (fun v U => F 5 44 [some (.inr (0, a0)), some (.inr (1, a1)), some (.inr (22, a2)), some (.inl x3), some (.inl x4)] (v.toList ++ [.inl x3, .inr (22, a2)]) U)
      else
        if x4 = 1 then
          qm_o O J 108 [.inr (0, a0), .inl 6] S (fun v U => F 5 59 [some (.inr (0, a0)), some (.inr (1, a1)), some (.inr (22, a2)), some (.inl x3), some (.inl x4)] (v.toList ++ [.inl x3, .inr (22, a2)]) U)
        else
          if x4 = 2 then
            qm_o O J 138 [.inr (0, a0), .inl (-1)] S (fun v U => F 5 73 [some (.inr (0, a0)), some (.inr (1, a1)), some (.inr (22, a2)), some (.inl x3), some (.inl x4)] (v.toList ++ [.inl x3, .inr (22, a2)]) U)
          else
            qm_o O J 135 [.inr (0, a0), .inl 0] S (fun v U => F 5 81 [some (.inr (0, a0)), some (.inr (1, a1)), some (.inr (22, a2)), some (.inl x3), some (.inl x4)] (v.toList ++ [.inl x3, .inr (22, a2)]) U)
    else
      F 5 94 [some (.inr (0, a0)), some (.inr (1, a1)), some (.inr (22, a2)), some (.inl x3), some (.inl 0)] [] S := qm_blk_to hF (pm_stp 5 [0, 17, 26, 44, 59, 73, 81, 94, 112, 124, 137, 154, 167, 173, 184]) 112 rfl
set_option maxRecDepth 100000 in
theorem q5_44 (hF : qm_fix O qt_me qt_qs (qt_C L0 xs) J F) {a0 : Nat} {a1 : Nat} {a2 : Nat} {x3 : Int32} {x4 : Int32} {s0 : Int32} {s1 : Int32} {b2 : Nat} : F 5 44 [some (.inr (0, a0)), some (.inr (1, a1)), some (.inr (22, a2)), some (.inl x3), some (.inl x4)] [.inl s0, .inl s1, .inr (22, b2)] S =
    F 5 81 [some (.inr (0, a0)), some (.inr (1, a1)), some (.inr (22, a2)), some (.inl x3), some (.inl x4)] [.inl s0, .inl s1, .inr (22, b2)] S := qm_blk_to hF (pm_stp 5 [0, 17, 26, 44, 59, 73, 81, 94, 112, 124, 137, 154, 167, 173, 184]) 112 rfl
set_option maxRecDepth 100000 in
theorem q5_59 (hF : qm_fix O qt_me qt_qs (qt_C L0 xs) J F) {a0 : Nat} {a1 : Nat} {a2 : Nat} {x3 : Int32} {x4 : Int32} {s0 : Int32} {s1 : Int32} {b2 : Nat} : F 5 59 [some (.inr (0, a0)), some (.inr (1, a1)), some (.inr (22, a2)), some (.inl x3), some (.inl x4)] [.inl s0, .inl s1, .inr (22, b2)] S =
    F 5 81 [some (.inr (0, a0)), some (.inr (1, a1)), some (.inr (22, a2)), some (.inl x3), some (.inl x4)] [.inl s0, .inl s1, .inr (22, b2)] S := qm_blk_to hF (pm_stp 5 [0, 17, 26, 44, 59, 73, 81, 94, 112, 124, 137, 154, 167, 173, 184]) 112 rfl
set_option maxRecDepth 100000 in
theorem q5_73 (hF : qm_fix O qt_me qt_qs (qt_C L0 xs) J F) {a0 : Nat} {a1 : Nat} {a2 : Nat} {x3 : Int32} {x4 : Int32} {s0 : Int32} {s1 : Int32} {b2 : Nat} : F 5 73 [some (.inr (0, a0)), some (.inr (1, a1)), some (.inr (22, a2)), some (.inl x3), some (.inl x4)] [.inl s0, .inl s1, .inr (22, b2)] S =
    F 5 81 [some (.inr (0, a0)), some (.inr (1, a1)), some (.inr (22, a2)), some (.inl x3), some (.inl x4)] [.inl s0, .inl s1, .inr (22, b2)] S := qm_blk_to hF (pm_stp 5 [0, 17, 26, 44, 59, 73, 81, 94, 112, 124, 137, 154, 167, 173, 184]) 112 rfl
set_option maxRecDepth 100000 in
theorem q5_81 (hF : qm_fix O qt_me qt_qs (qt_C L0 xs) J F) {a0 : Nat} {a1 : Nat} {a2 : Nat} {x3 : Int32} {x4 : Int32} {s0 : Int32} {s1 : Int32} {b2 : Nat} : F 5 81 [some (.inr (0, a0)), some (.inr (1, a1)), some (.inr (22, a2)), some (.inl x3), some (.inl x4)] [.inl s0, .inl s1, .inr (22, b2)] S =
    bif pm_ib s1 (qr_n S b2) then
      F 5 26 [some (.inr (0, a0)), some (.inr (1, a1)), some (.inr (22, a2)), some (.inl (x3 + 1)), some (.inl (x4 + 1))] [] (qu_i S 22 b2 (Int32.toNatClampNeg s1) s0)
    else none := qm_blk_to hF (pm_stp 5 [0, 17, 26, 44, 59, 73, 81, 94, 112, 124, 137, 154, 167, 173, 184]) 112 rfl
set_option maxRecDepth 100000 in
theorem q5_94 (hF : qm_fix O qt_me qt_qs (qt_C L0 xs) J F) {a0 : Nat} {a1 : Nat} {a2 : Nat} {x3 : Int32} {x4 : Int32} : F 5 94 [some (.inr (0, a0)), some (.inr (1, a1)), some (.inr (22, a2)), some (.inl x3), some (.inl x4)] [] S =
    if x4 < (qr_i S 1 a1 0) then
      qm_o O J 106 [.inr (0, a0), .inl x4, .inl 0] S (fun v U => F 5 112 [some (.inr (0, a0)), some (.inr (1, a1)), some (.inr (22, a2)), some (.inl x3), some (.inl x4)] (v.toList ++ [.inl x3, .inr (22, a2)]) U)
    else
      F 5 137 [some (.inr (0, a0)), some (.inr (1, a1)), some (.inr (22, a2)), some (.inl x3), some (.inl 0)] [] S := qm_blk_to hF (pm_stp 5 [0, 17, 26, 44, 59, 73, 81, 94, 112, 124, 137, 154, 167, 173, 184]) 112 rfl
set_option maxRecDepth 100000 in
theorem q5_112 (hF : qm_fix O qt_me qt_qs (qt_C L0 xs) J F) {a0 : Nat} {a1 : Nat} {a2 : Nat} {x3 : Int32} {x4 : Int32} {s0 : Int32} {s1 : Int32} {b2 : Nat} : F 5 112 [some (.inr (0, a0)), some (.inr (1, a1)), some (.inr (22, a2)), some (.inl x3), some (.inl x4)] [.inl s0, .inl s1, .inr (22, b2)] S =
    bif pm_ib s1 (qr_n S b2) then
      qm_o O J 106 [.inr (0, a0), .inl x4, .inl 3] (qu_i S 22 b2 (Int32.toNatClampNeg s1) s0) (fun v U => F 5 124 [some (.inr (0, a0)), some (.inr (1, a1)), some (.inr (22, a2)), some (.inl x3), some (.inl x4)] (v.toList ++ [.inl (x3 + 1), .inr (22, a2)]) U)
    else none := qm_blk_to hF (pm_stp 5 [0, 17, 26, 44, 59, 73, 81, 94, 112, 124, 137, 154, 167, 173, 184]) 112 rfl
set_option maxRecDepth 100000 in
theorem q5_124 (hF : qm_fix O qt_me qt_qs (qt_C L0 xs) J F) {a0 : Nat} {a1 : Nat} {a2 : Nat} {x3 : Int32} {x4 : Int32} {s0 : Int32} {s1 : Int32} {b2 : Nat} : F 5 124 [some (.inr (0, a0)), some (.inr (1, a1)), some (.inr (22, a2)), some (.inl x3), some (.inl x4)] [.inl s0, .inl s1, .inr (22, b2)] S =
    bif pm_ib s1 (qr_n S b2) then
      F 5 94 [some (.inr (0, a0)), some (.inr (1, a1)), some (.inr (22, a2)), some (.inl (x3 + 2)), some (.inl (x4 + 1))] [] (qu_i S 22 b2 (Int32.toNatClampNeg s1) s0)
    else none := qm_blk_to hF (pm_stp 5 [0, 17, 26, 44, 59, 73, 81, 94, 112, 124, 137, 154, 167, 173, 184]) 112 rfl
set_option maxRecDepth 100000 in
theorem q5_137 (hF : qm_fix O qt_me qt_qs (qt_C L0 xs) J F) {a0 : Nat} {a1 : Nat} {a2 : Nat} {x3 : Int32} {x4 : Int32} : F 5 137 [some (.inr (0, a0)), some (.inr (1, a1)), some (.inr (22, a2)), some (.inl x3), some (.inl x4)] [] S =
    if x4 < (qr_i S 1 a1 1) then
      qm_o O J 138 [.inr (0, a0), .inl x4] S (fun v U => F 5 154 [some (.inr (0, a0)), some (.inr (1, a1)), some (.inr (22, a2)), some (.inl x3), some (.inl x4)] (v.toList ++ [.inl x3, .inr (22, a2)]) U)
    else
      F 5 167 [some (.inr (0, a0)), some (.inr (1, a1)), some (.inr (22, a2)), some (.inl x3), some (.inl 1)] [] S := qm_blk_to hF (pm_stp 5 [0, 17, 26, 44, 59, 73, 81, 94, 112, 124, 137, 154, 167, 173, 184]) 112 rfl
set_option maxRecDepth 100000 in
theorem q5_154 (hF : qm_fix O qt_me qt_qs (qt_C L0 xs) J F) {a0 : Nat} {a1 : Nat} {a2 : Nat} {x3 : Int32} {x4 : Int32} {s0 : Int32} {s1 : Int32} {b2 : Nat} : F 5 154 [some (.inr (0, a0)), some (.inr (1, a1)), some (.inr (22, a2)), some (.inl x3), some (.inl x4)] [.inl s0, .inl s1, .inr (22, b2)] S =
    bif pm_ib s1 (qr_n S b2) then
      F 5 137 [some (.inr (0, a0)), some (.inr (1, a1)), some (.inr (22, a2)), some (.inl (x3 + 1)), some (.inl (x4 + 1))] [] (qu_i S 22 b2 (Int32.toNatClampNeg s1) s0)
    else none := qm_blk_to hF (pm_stp 5 [0, 17, 26, 44, 59, 73, 81, 94, 112, 124, 137, 154, 167, 173, 184]) 112 rfl
set_option maxRecDepth 100000 in
theorem q5_167 (hF : qm_fix O qt_me qt_qs (qt_C L0 xs) J F) {a0 : Nat} {a1 : Nat} {a2 : Nat} {x3 : Int32} {x4 : Int32} : F 5 167 [some (.inr (0, a0)), some (.inr (1, a1)), some (.inr (22, a2)), some (.inl x3), some (.inl x4)] [] S =
    qm_k (F 1203 0 [some (.inr (1, a1))] [] S) (fun v U => F 5 173 [some (.inr (0, a0)), some (.inr (1, a1)), some (.inr (22, a2)), some (.inl x3), some (.inl x4)] (v.toList ++ [.inl x4]) U) := qm_blk_to hF (pm_stp 5 [0, 17, 26, 44, 59, 73, 81, 94, 112, 124, 137, 154, 167, 173, 184]) 112 rfl
set_option maxRecDepth 100000 in
theorem q5_173 (hF : qm_fix O qt_me qt_qs (qt_C L0 xs) J F) {a0 : Nat} {a1 : Nat} {a2 : Nat} {x3 : Int32} {x4 : Int32} {s0 : Int32} {s1 : Int32} : F 5 173 [some (.inr (0, a0)), some (.inr (1, a1)), some (.inr (22, a2)), some (.inl x3), some (.inl x4)] [.inl s0, .inl s1] S =
    if s1 ≤ s0 then
      qm_o O J 121 [.inr (0, a0), .inl x4] S (fun v U => F 5 184 [some (.inr (0, a0)), some (.inr (1, a1)), some (.inr (22, a2)), some (.inl x3), some (.inl x4)] (v.toList ++ [.inl x3, .inr (22, a2)]) U)
    else
      some (some (.inr (22, a2)), S) := qm_blk_to hF (pm_stp 5 [0, 17, 26, 44, 59, 73, 81, 94, 112, 124, 137, 154, 167, 173, 184]) 112 rfl
set_option maxRecDepth 100000 in
theorem q5_184 (hF : qm_fix O qt_me qt_qs (qt_C L0 xs) J F) {a0 : Nat} {a1 : Nat} {a2 : Nat} {x3 : Int32} {x4 : Int32} {s0 : Int32} {s1 : Int32} {b2 : Nat} : F 5 184 [some (.inr (0, a0)), some (.inr (1, a1)), some (.inr (22, a2)), some (.inl x3), some (.inl x4)] [.inl s0, .inl s1, .inr (22, b2)] S =
    bif pm_ib s1 (qr_n S b2) then
      F 5 167 [some (.inr (0, a0)), some (.inr (1, a1)), some (.inr (22, a2)), some (.inl (x3 + 1)), some (.inl (x4 + 1))] [] (qu_i S 22 b2 (Int32.toNatClampNeg s1) s0)
    else none := qm_blk_to hF (pm_stp 5 [0, 17, 26, 44, 59, 73, 81, 94, 112, 124, 137, 154, 167, 173, 184]) 112 rfl
-- TurnCabinetLaw.settled(LTurnCabinet;LTurnCabinetLaw$World;I)Z 0 1
set_option maxRecDepth 100000 in
theorem q9_0 (hF : qm_fix O qt_me qt_qs (qt_C L0 xs) J F) {a0 : Nat} {a1 : Nat} {x2 : Int32} : F 9 0 [some (.inr (0, a0)), some (.inr (1, a1)), some (.inl x2), none, none] [] S =
    bif (!(decide ((5 : Int32) < 0)) && Nat.ble (Int32.toNatClampNeg 5) 100000) then
      F 9 7 [some (.inr (0, a0)), some (.inr (1, a1)), some (.inl x2), some (.inr (20, S.1)), some (.inl 0)] [] (qm_mk S 20 (Int32.toNatClampNeg 5))
    else none := qm_blk_to hF (pm_stp 9 [0, 7, 31, 69, 78, 85]) 69 rfl
set_option maxRecDepth 100000 in
theorem q9_7 (hF : qm_fix O qt_me qt_qs (qt_C L0 xs) J F) {a0 : Nat} {a1 : Nat} {x2 : Int32} {a3 : Nat} {x4 : Int32} : F 9 7 [some (.inr (0, a0)), some (.inr (1, a1)), some (.inl x2), some (.inr (20, a3)), some (.inl x4)] [] S =
    if x4 < (qr_i S 1 a1 1) then
      bif !(decide ((4 : Int32) = 0)) then
        bif pm_ib (x4 / 4) (qr_n S a3) then
          qm_o O J 111 [.inr (0, a0), .inl x2, .inl 2, .inl x4] S (fun v U => F 9 31 [some (.inr (0, a0)), some (.inr (1, a1)), some (.inl x2), some (.inr (20, a3)), some (.inl x4)] (v.toList ++ [.inl (qr_i S 20 a3 (Int32.toNatClampNeg (x4 / 4))), .inl (x4 / 4), .inr (20, a3)]) U)
        else none
      else none
    else
      bif pm_ib 0 (qr_n S a3) then
        bif pm_ib 1 (qr_n S a3) then
          bif pm_ib 2 (qr_n S a3) then
            bif pm_ib 3 (qr_n S a3) then
              bif pm_ib 4 (qr_n S a3) then
                qm_o O J 102 [.inr (0, a0), .inl (qr_i S 20 a3 (Int32.toNatClampNeg 0)), .inl (qr_i S 20 a3 (Int32.toNatClampNeg 1)), .inl (qr_i S 20 a3 (Int32.toNatClampNeg 2)), .inl (qr_i S 20 a3 (Int32.toNatClampNeg 3)), .inl (qr_i S 20 a3 (Int32.toNatClampNeg 4))] S (fun v U => F 9 69 [some (.inr (0, a0)), some (.inr (1, a1)), some (.inl x2), some (.inr (20, a3)), some (.inl x4)] (v.toList ++ []) U)
              else none
            else none
          else none
        else none
      else none := qm_blk_to hF (pm_stp 9 [0, 7, 31, 69, 78, 85]) 69 rfl
set_option maxRecDepth 100000 in
theorem q9_31 (hF : qm_fix O qt_me qt_qs (qt_C L0 xs) J F) {a0 : Nat} {a1 : Nat} {x2 : Int32} {a3 : Nat} {x4 : Int32} {s0 : Int32} {s1 : Int32} {s2 : Int32} {b3 : Nat} : F 9 31 [some (.inr (0, a0)), some (.inr (1, a1)), some (.inl x2), some (.inr (20, a3)), some (.inl x4)] [.inl s0, .inl s1, .inl s2, .inr (20, b3)] S =
    bif !(decide ((4 : Int32) = 0)) then
      bif pm_ib s2 (qr_n S b3) then
        F 9 7 [some (.inr (0, a0)), some (.inr (1, a1)), some (.inl x2), some (.inr (20, a3)), some (.inl (x4 + 1))] [] (qu_i S 20 b3 (Int32.toNatClampNeg s2) (s1 ||| ((s0 : Int32) <<< ((24 - (8 * (x4 - x4 / 4 * 4))) &&& 31))))
      else none
    else none := qm_blk_to hF (pm_stp 9 [0, 7, 31, 69, 78, 85]) 69 rfl
set_option maxRecDepth 100000 in
theorem q9_69 (hF : qm_fix O qt_me qt_qs (qt_C L0 xs) J F) {a0 : Nat} {a1 : Nat} {x2 : Int32} {a3 : Nat} {x4 : Int32} {s0 : Int32} : F 9 69 [some (.inr (0, a0)), some (.inr (1, a1)), some (.inl x2), some (.inr (20, a3)), some (.inl x4)] [.inl s0] S =
    qm_o O J 103 [.inr (0, a0), .inl (qr_i S 1 a1 1)] S (fun v U => F 9 78 [some (.inr (0, a0)), some (.inr (1, a1)), some (.inl x2), some (.inr (20, a3)), some (.inl x4)] (v.toList ++ []) U) := qm_blk_to hF (pm_stp 9 [0, 7, 31, 69, 78, 85]) 69 rfl
set_option maxRecDepth 100000 in
theorem q9_78 (hF : qm_fix O qt_me qt_qs (qt_C L0 xs) J F) {a0 : Nat} {a1 : Nat} {x2 : Int32} {a3 : Nat} {x4 : Int32} {s0 : Int32} : F 9 78 [some (.inr (0, a0)), some (.inr (1, a1)), some (.inl x2), some (.inr (20, a3)), some (.inl x4)] [.inl s0] S =
    qm_o O J 146 [.inr (0, a0), .inl x2, .inl 0] S (fun v U => F 9 85 [some (.inr (0, a0)), some (.inr (1, a1)), some (.inl x2), some (.inr (20, a3)), some (.inl x4)] (v.toList ++ []) U) := qm_blk_to hF (pm_stp 9 [0, 7, 31, 69, 78, 85]) 69 rfl
set_option maxRecDepth 100000 in
theorem q9_85 (hF : qm_fix O qt_me qt_qs (qt_C L0 xs) J F) {a0 : Nat} {a1 : Nat} {x2 : Int32} {a3 : Nat} {x4 : Int32} {s0 : Int32} : F 9 85 [some (.inr (0, a0)), some (.inr (1, a1)), some (.inl x2), some (.inr (20, a3)), some (.inl x4)] [.inl s0] S =
    if s0 = 0 then
      some (some (.inl 1), S)
    else
      some (some (.inl 0), S) := qm_blk_to hF (pm_stp 9 [0, 7, 31, 69, 78, 85]) 69 rfl
-- java/util/AbstractCollection.<init>()V 23
set_option maxRecDepth 100000 in
theorem q1559_0 (hF : qm_fix O qt_me qt_qs (qt_C L0 xs) J F) {a0 : Nat} : F 1559 0 [some (.inr (23, a0))] [] S =
    some (none, S) := qm_blk_to hF (pm_stp 1559 [0]) 8 rfl
-- java/util/AbstractList.<init>()V 23
set_option maxRecDepth 100000 in
theorem q1558_0 (hF : qm_fix O qt_me qt_qs (qt_C L0 xs) J F) {a0 : Nat} : F 1558 0 [some (.inr (23, a0))] [] S =
    qm_k (F 1559 0 [some (.inr (23, a0))] [] S) (fun v U => F 1558 4 [some (.inr (23, a0))] (v.toList ++ []) U) := qm_blk_to hF (pm_stp 1558 [0, 4]) 11 rfl
set_option maxRecDepth 100000 in
theorem q1558_4 (hF : qm_fix O qt_me qt_qs (qt_C L0 xs) J F) {a0 : Nat} : F 1558 4 [some (.inr (23, a0))] [] S =
    some (none, (qu_i S 23 a0 2 0)) := qm_blk_to hF (pm_stp 1558 [0, 4]) 11 rfl
-- java/util/ArrayList.<init>()V 23
set_option maxRecDepth 100000 in
theorem q1557_0 (hF : qm_fix O qt_me qt_qs (qt_C L0 xs) J F) {a0 : Nat} : F 1557 0 [some (.inr (23, a0))] [] S =
    qm_k (F 1558 0 [some (.inr (23, a0))] [] S) (fun v U => F 1557 4 [some (.inr (23, a0))] (v.toList ++ []) U) := qm_blk_to hF (pm_stp 1557 [0, 4]) 11 rfl
set_option maxRecDepth 100000 in
theorem q1557_4 (hF : qm_fix O qt_me qt_qs (qt_C L0 xs) J F) {a0 : Nat} : F 1557 4 [some (.inr (23, a0))] [] S =
    some (none, (qu_g S 23 a0 0 2)) := qm_blk_to hF (pm_stp 1557 [0, 4]) 11 rfl
-- java/lang/Integer.valueOf(I)Ljava/lang/Integer; 
set_option maxRecDepth 100000 in
theorem q1560_0 (hF : qm_fix O qt_me qt_qs (qt_C L0 xs) J F) {x0 : Int32} : F 1560 0 [some (.inl x0)] [] S =
    if x0 < (-128) then
      none
    else
      if x0 ≤ 127 then
        bif pm_ib (x0 + 128) (qt_cn L0 26 3) then
          some (some (.inr (25, ((Int32.toNatClampNeg (x0 + 128)) + 101))), S)
        else none
      else
        none := qm_blk_to hF (pm_stp 1560 [0]) 17 rfl
-- java/util/ArrayList.grow(I)[Ljava/lang/Object; 23
set_option maxRecDepth 100000 in
theorem q1566_0 (hF : qm_fix O qt_me qt_qs (qt_C L0 xs) J F) {a0 : Nat} {x1 : Int32} : F 1566 0 [some (.inr (23, a0)), some (.inl x1), none, none] [] S =
    bif Nat.blt 0 (qr_g S 23 a0 0) then
      if (nI (bif Nat.blt (qr_g S 23 a0 0) 1001 then 0 else (qr_n S (qr_g S 23 a0 0)))) ≤ 0 then
        bif Nat.blt 0 (qr_g S 23 a0 0) then
          F 1566 17 [some (.inr (23, a0)), some (.inl x1), some (.inl (nI (bif Nat.blt (qr_g S 23 a0 0) 1001 then 0 else (qr_n S (qr_g S 23 a0 0))))), none] [.inr (24, 2), .inr (24, (qr_g S 23 a0 0))] S
        else none
      else
        qm_k (F 1528 0 [some (.inl (nI (bif Nat.blt (qr_g S 23 a0 0) 1001 then 0 else (qr_n S (qr_g S 23 a0 0))))), some (.inl (x1 - (nI (bif Nat.blt (qr_g S 23 a0 0) 1001 then 0 else (qr_n S (qr_g S 23 a0 0)))))), some (.inl (((nI (bif Nat.blt (qr_g S 23 a0 0) 1001 then 0 else (qr_n S (qr_g S 23 a0 0)))) : Int32) >>> (1 &&& 31))), none] [] S) (fun v U => F 1566 30 [some (.inr (23, a0)), some (.inl x1), some (.inl (nI (bif Nat.blt (qr_g S 23 a0 0) 1001 then 0 else (qr_n S (qr_g S 23 a0 0))))), none] (v.toList ++ []) U)
    else none := qm_blk_to hF (pm_stp 1566 [0, 17, 30, 52]) 36 rfl
set_option maxRecDepth 100000 in
theorem q1566_17 (hF : qm_fix O qt_me qt_qs (qt_C L0 xs) J F) {a0 : Nat} {x1 : Int32} {x2 : Int32} : F 1566 17 [some (.inr (23, a0)), some (.inl x1), some (.inl x2), none] [.inr (24, 2), .inr (24, 2)] S =
    qm_k (F 1512 0 [some (.inl 10), some (.inl x1)] [] S) (fun v U => F 1566 52 [some (.inr (23, a0)), some (.inl x1), some (.inl x2), none] (v.toList ++ [.inr (23, a0)]) U) := qm_blk_to hF (pm_stp 1566 [0, 17, 30, 52]) 36 rfl
set_option maxRecDepth 100000 in
theorem q1566_30 (hF : qm_fix O qt_me qt_qs (qt_C L0 xs) J F) {a0 : Nat} {x1 : Int32} {x2 : Int32} {s0 : Int32} : F 1566 30 [some (.inr (23, a0)), some (.inl x1), some (.inl x2), none] [.inl s0] S =
    bif Nat.blt 0 (qr_g S 23 a0 0) then
      none
    else none := qm_blk_to hF (pm_stp 1566 [0, 17, 30, 52]) 36 rfl
set_option maxRecDepth 100000 in
theorem q1566_52 (hF : qm_fix O qt_me qt_qs (qt_C L0 xs) J F) {a0 : Nat} {x1 : Int32} {x2 : Int32} {s0 : Int32} {b1 : Nat} : F 1566 52 [some (.inr (23, a0)), some (.inl x1), some (.inl x2), none] [.inl s0, .inr (23, b1)] S =
    bif (!(decide (s0 < 0)) && Nat.ble (Int32.toNatClampNeg s0) 100000) then
      some (some (.inr (24, S.1)), (qu_g (qm_mk S 24 (Int32.toNatClampNeg s0)) 23 b1 0 S.1))
    else none := qm_blk_to hF (pm_stp 1566 [0, 17, 30, 52]) 36 rfl
-- java/util/ArrayList.grow()[Ljava/lang/Object; 23
set_option maxRecDepth 100000 in
theorem q1565_0 (hF : qm_fix O qt_me qt_qs (qt_C L0 xs) J F) {a0 : Nat} : F 1565 0 [some (.inr (23, a0))] [] S =
    qm_k (F 1566 0 [some (.inr (23, a0)), some (.inl ((qr_i S 23 a0 1) + 1)), none, none] [] S) (fun v U => F 1565 10 [some (.inr (23, a0))] (v.toList ++ []) U) := qm_blk_to hF (pm_stp 1565 [0, 10]) 12 rfl
set_option maxRecDepth 100000 in
theorem q1565_10 (hF : qm_fix O qt_me qt_qs (qt_C L0 xs) J F) {a0 : Nat} {b0 : Nat} : F 1565 10 [some (.inr (23, a0))] [.inr (24, b0)] S =
    some (some (.inr (24, b0)), S) := qm_blk_to hF (pm_stp 1565 [0, 10]) 12 rfl
-- java/util/ArrayList.add(Ljava/lang/Object;[Ljava/lang/Object;I)V 23 25 24
set_option maxRecDepth 100000 in
theorem q1564_0 (hF : qm_fix O qt_me qt_qs (qt_C L0 xs) J F) {a0 : Nat} {a1 : Nat} {a2 : Nat} {x3 : Int32} : F 1564 0 [some (.inr (23, a0)), some (.inr (25, a1)), some (.inr (24, a2)), some (.inl x3)] [] S =
    if x3 = (nI (bif Nat.blt a2 1001 then 0 else (qr_n S a2))) then
      qm_k (F 1565 0 [some (.inr (23, a0))] [] S) (fun v U => F 1564 10 [some (.inr (23, a0)), some (.inr (25, a1)), some (.inr (24, a2)), some (.inl x3)] (v.toList ++ []) U)
    else
      bif pm_ib x3 (bif Nat.blt a2 1001 then 0 else (qr_n S a2)) then
        some (none, (qu_i (qu_g S 24 a2 (Int32.toNatClampNeg x3) a1) 23 a0 1 (x3 + 1)))
      else none := qm_blk_to hF (pm_stp 1564 [0, 10]) 22 rfl
set_option maxRecDepth 100000 in
theorem q1564_10 (hF : qm_fix O qt_me qt_qs (qt_C L0 xs) J F) {a0 : Nat} {a1 : Nat} {a2 : Nat} {x3 : Int32} {b0 : Nat} : F 1564 10 [some (.inr (23, a0)), some (.inr (25, a1)), some (.inr (24, a2)), some (.inl x3)] [.inr (24, b0)] S =
    bif pm_ib x3 (bif Nat.blt b0 1001 then 0 else (qr_n S b0)) then
      some (none, (qu_i (qu_g S 24 b0 (Int32.toNatClampNeg x3) a1) 23 a0 1 (x3 + 1)))
    else none := qm_blk_to hF (pm_stp 1564 [0, 10]) 22 rfl
-- java/util/ArrayList.add(Ljava/lang/Object;)Z 23 25
set_option maxRecDepth 100000 in
theorem q1563_0 (hF : qm_fix O qt_me qt_qs (qt_C L0 xs) J F) {a0 : Nat} {a1 : Nat} : F 1563 0 [some (.inr (23, a0)), some (.inr (25, a1))] [] S =
    bif Nat.blt 0 (qr_g S 23 a0 0) then
      qm_k (F 1564 0 [some (.inr (23, a0)), some (.inr (25, a1)), some (.inr (24, (qr_g S 23 a0 0))), some (.inl (qr_i S 23 a0 1))] [] (qu_i S 23 a0 2 ((qr_i S 23 a0 2) + 1))) (fun v U => F 1563 23 [some (.inr (23, a0)), some (.inr (25, a1))] (v.toList ++ []) U)
    else none := qm_blk_to hF (pm_stp 1563 [0, 23]) 20 rfl
set_option maxRecDepth 100000 in
theorem q1563_23 (hF : qm_fix O qt_me qt_qs (qt_C L0 xs) J F) {a0 : Nat} {a1 : Nat} : F 1563 23 [some (.inr (23, a0)), some (.inr (25, a1))] [] S =
    some (some (.inl 1), S) := qm_blk_to hF (pm_stp 1563 [0, 23]) 20 rfl
-- TurnCabinetLaw$World.of(I)Ljava/util/List; 1
set_option maxRecDepth 100000 in
theorem q1204_0 (hF : qm_fix O qt_me qt_qs (qt_C L0 xs) J F) {a0 : Nat} {x1 : Int32} : F 1204 0 [some (.inr (1, a0)), some (.inl x1), none, none] [] S =
    qm_k (F 1557 0 [some (.inr (23, S.1))] [] (qm_mk S 23 3)) (fun v U => F 1204 7 [some (.inr (1, a0)), some (.inl x1), none, none] (v.toList ++ [.inr (23, S.1)]) U) := qm_blk_to hF (pm_stp 1204 [0, 7, 10, 32, 37]) 31 rfl
set_option maxRecDepth 100000 in
theorem q1204_7 (hF : qm_fix O qt_me qt_qs (qt_C L0 xs) J F) {a0 : Nat} {x1 : Int32} {b0 : Nat} : F 1204 7 [some (.inr (1, a0)), some (.inl x1), none, none] [.inr (23, b0)] S =
    F 1204 10 [some (.inr (1, a0)), some (.inl x1), some (.inr (23, b0)), some (.inl 0)] [] S := qm_blk_to hF (pm_stp 1204 [0, 7, 10, 32, 37]) 31 rfl
set_option maxRecDepth 100000 in
theorem q1204_10 (hF : qm_fix O qt_me qt_qs (qt_C L0 xs) J F) {a0 : Nat} {x1 : Int32} {a2 : Nat} {x3 : Int32} : F 1204 10 [some (.inr (1, a0)), some (.inl x1), some (.inr (23, a2)), some (.inl x3)] [] S =
    if x3 < (qr_i S 1 a0 0) then
      if (((x1 : Int32) >>> (x3 &&& 31)) &&& 1) = 1 then
        qm_k (F 1560 0 [some (.inl x3)] [] S) (fun v U => F 1204 32 [some (.inr (1, a0)), some (.inl x1), some (.inr (23, a2)), some (.inl x3)] (v.toList ++ [.inr (23, a2)]) U)
      else
        F 1204 10 [some (.inr (1, a0)), some (.inl x1), some (.inr (23, a2)), some (.inl (x3 + 1))] [] S
    else
      some (some (.inr (23, a2)), S) := qm_blk_to hF (pm_stp 1204 [0, 7, 10, 32, 37]) 31 rfl
set_option maxRecDepth 100000 in
theorem q1204_32 (hF : qm_fix O qt_me qt_qs (qt_C L0 xs) J F) {a0 : Nat} {x1 : Int32} {a2 : Nat} {x3 : Int32} {b0 : Nat} {b1 : Nat} : F 1204 32 [some (.inr (1, a0)), some (.inl x1), some (.inr (23, a2)), some (.inl x3)] [.inr (25, b0), .inr (23, b1)] S =
    qm_k (F 1563 0 [some (.inr (23, b1)), some (.inr (25, b0))] [] S) (fun v U => F 1204 37 [some (.inr (1, a0)), some (.inl x1), some (.inr (23, a2)), some (.inl x3)] (v.toList ++ []) U) := qm_blk_to hF (pm_stp 1204 [0, 7, 10, 32, 37]) 31 rfl
set_option maxRecDepth 100000 in
theorem q1204_37 (hF : qm_fix O qt_me qt_qs (qt_C L0 xs) J F) {a0 : Nat} {x1 : Int32} {a2 : Nat} {x3 : Int32} {s0 : Int32} : F 1204 37 [some (.inr (1, a0)), some (.inl x1), some (.inr (23, a2)), some (.inl x3)] [.inl s0] S =
    F 1204 10 [some (.inr (1, a0)), some (.inl x1), some (.inr (23, a2)), some (.inl (x3 + 1))] [] S := qm_blk_to hF (pm_stp 1204 [0, 7, 10, 32, 37]) 31 rfl
end
