/-! ===== printed by gen/qeqs.py: what the law's and the library's methods do between cuts ===== -/
section
variable {O : qm_O} {F : qm_F} {J L0 : Nat} {xs : List Int32} {S : qm_S}
-- java/util/ArrayList$Itr.<init>(Ljava/util/ArrayList;)V 27 23
set_option maxRecDepth 100000 in
theorem q1570_0 (hF : qm_fix O qt_me qt_qs (qt_C L0 xs) J F) {a0 : Nat} {a1 : Nat} : F 1570 0 [some (.inr (27, a0)), some (.inr (23, a1))] [] S =
    bif Nat.blt 0 (qr_g (qu_g S 27 a0 3 a1) 27 a0 3) then
      some (none, (qu_i (qu_i (qu_g S 27 a0 3 a1) 27 a0 1 (-1)) 27 a0 2 (qr_i S 23 (qr_g (qu_g S 27 a0 3 a1) 27 a0 3) 2)))
    else none := qm_blk_to hF (pm_stp 1570 [0]) 19 rfl
-- java/util/ArrayList.iterator()Ljava/util/Iterator; 23
set_option maxRecDepth 100000 in
theorem q1569_0 (hF : qm_fix O qt_me qt_qs (qt_C L0 xs) J F) {a0 : Nat} : F 1569 0 [some (.inr (23, a0))] [] S =
    qm_k (F 1570 0 [some (.inr (27, S.1)), some (.inr (23, a0))] [] (qm_mk S 27 4)) (fun v U => F 1569 8 [some (.inr (23, a0))] (v.toList ++ [.inr (27, S.1)]) U) := qm_blk_to hF (pm_stp 1569 [0, 8]) 10 rfl
set_option maxRecDepth 100000 in
theorem q1569_8 (hF : qm_fix O qt_me qt_qs (qt_C L0 xs) J F) {a0 : Nat} {b0 : Nat} : F 1569 8 [some (.inr (23, a0))] [.inr (27, b0)] S =
    some (some (.inr (27, b0)), S) := qm_blk_to hF (pm_stp 1569 [0, 8]) 10 rfl
-- java/util/ArrayList$Itr.hasNext()Z 27
set_option maxRecDepth 100000 in
theorem q1571_0 (hF : qm_fix O qt_me qt_qs (qt_C L0 xs) J F) {a0 : Nat} : F 1571 0 [some (.inr (27, a0))] [] S =
    bif Nat.blt 0 (qr_g S 27 a0 3) then
      if (qr_i S 27 a0 0) = (qr_i S 23 (qr_g S 27 a0 3) 1) then
        some (some (.inl 0), S)
      else
        some (some (.inl 1), S)
    else none := qm_blk_to hF (pm_stp 1571 [0]) 15 rfl
-- java/util/ArrayList$Itr.checkForComodification()V 27
set_option maxRecDepth 100000 in
theorem q1573_0 (hF : qm_fix O qt_me qt_qs (qt_C L0 xs) J F) {a0 : Nat} : F 1573 0 [some (.inr (27, a0))] [] S =
    bif Nat.blt 0 (qr_g S 27 a0 3) then
      if (qr_i S 23 (qr_g S 27 a0 3) 2) = (qr_i S 27 a0 2) then
        some (none, S)
      else
        none
    else none := qm_blk_to hF (pm_stp 1573 [0]) 12 rfl
-- java/util/ArrayList$Itr.next()Ljava/lang/Object; 27
set_option maxRecDepth 100000 in
theorem q1572_0 (hF : qm_fix O qt_me qt_qs (qt_C L0 xs) J F) {a0 : Nat} : F 1572 0 [some (.inr (27, a0)), none, none] [] S =
    qm_k (F 1573 0 [some (.inr (27, a0))] [] S) (fun v U => F 1572 4 [some (.inr (27, a0)), none, none] (v.toList ++ []) U) := qm_blk_to hF (pm_stp 1572 [0, 4]) 35 rfl
set_option maxRecDepth 100000 in
theorem q1572_4 (hF : qm_fix O qt_me qt_qs (qt_C L0 xs) J F) {a0 : Nat} : F 1572 4 [some (.inr (27, a0)), none, none] [] S =
    bif Nat.blt 0 (qr_g S 27 a0 3) then
      if (qr_i S 27 a0 0) < (qr_i S 23 (qr_g S 27 a0 3) 1) then
        bif Nat.blt 0 (qr_g S 27 a0 3) then
          bif Nat.blt 0 (qr_g S 23 (qr_g S 27 a0 3) 0) then
            if (qr_i S 27 a0 0) < (nI (bif Nat.blt (qr_g S 23 (qr_g S 27 a0 3) 0) 1001 then 0 else (qr_n S (qr_g S 23 (qr_g S 27 a0 3) 0)))) then
              bif pm_ib (qr_i S 27 a0 0) (bif Nat.blt (qr_g S 23 (qr_g S 27 a0 3) 0) 1001 then 0 else (qr_n S (qr_g S 23 (qr_g S 27 a0 3) 0))) && Nat.blt 0 (qr_g S 24 (qr_g S 23 (qr_g S 27 a0 3) 0) (Int32.toNatClampNeg (qr_i S 27 a0 0))) then
                some (some (.inr (25, (qr_g S 24 (qr_g S 23 (qr_g S 27 a0 3) 0) (Int32.toNatClampNeg (qr_i S 27 a0 0))))), (qu_i (qu_i S 27 a0 0 ((qr_i S 27 a0 0) + 1)) 27 a0 1 (qr_i S 27 a0 0)))
              else none
            else
              none
          else none
        else none
      else
        none
    else none := qm_blk_to hF (pm_stp 1572 [0, 4]) 35 rfl
-- java/lang/Integer.intValue()I 25
set_option maxRecDepth 100000 in
theorem q1574_0 (hF : qm_fix O qt_me qt_qs (qt_C L0 xs) J F) {a0 : Nat} : F 1574 0 [some (.inr (25, a0))] [] S =
    some (some (.inl (qt_ci xs 25 a0 0)), S) := qm_blk_to hF (pm_stp 1574 [0]) 8 rfl
-- TurnCabinetLaw.holds(LTurnCabinet;LTurnCabinetLaw$World;)Z 0 1
set_option maxRecDepth 100000 in
theorem q8_0 (hF : qm_fix O qt_me qt_qs (qt_C L0 xs) J F) {a0 : Nat} {a1 : Nat} : F 8 0 [some (.inr (0, a0)), some (.inr (1, a1)), none, none, none, none, none, none, none, none] [] S =
    F 8 7 [some (.inr (0, a0)), some (.inr (1, a1)), some (.inl 0), some (.inl 1), some (.inl 0), none, none, none, none, none] [] S := qm_blk_to hF (pm_stp 8 [0, 7, 23, 45, 50, 66, 70, 78, 84, 98, 117, 131, 148, 169, 183, 240, 252, 271, 283, 286, 306, 324, 333, 351, 362, 370, 423, 428, 430, 437, 447, 453, 463, 471, 490, 504, 528, 556, 569, 585, 598, 610, 616, 625, 631, 648]) 351 rfl
set_option maxRecDepth 100000 in
theorem q8_7 (hF : qm_fix O qt_me qt_qs (qt_C L0 xs) J F) {a0 : Nat} {a1 : Nat} {x2 : Int32} {x3 : Int32} {x4 : Int32} : F 8 7 [some (.inr (0, a0)), some (.inr (1, a1)), some (.inl x2), some (.inl x3), some (.inl x4), none, none, none, none, none] [] S =
    if x4 < (qr_i S 1 a1 0) then
      qm_o O J 131 [.inr (0, a0), .inl x4] S (fun v U => F 8 23 [some (.inr (0, a0)), some (.inr (1, a1)), some (.inl x2), some (.inl x3), some (.inl x4), none, none, none, none, none] (v.toList ++ [.inl x2]) U)
    else
      qm_o O J 108 [.inr (0, a0), .inl 6] S (fun v U => F 8 45 [some (.inr (0, a0)), some (.inr (1, a1)), some (.inl x2), some (.inl x3), some (.inl x4), none, none, none, none, none] (v.toList ++ [.inl x2]) U) := qm_blk_to hF (pm_stp 8 [0, 7, 23, 45, 50, 66, 70, 78, 84, 98, 117, 131, 148, 169, 183, 240, 252, 271, 283, 286, 306, 324, 333, 351, 362, 370, 423, 428, 430, 437, 447, 453, 463, 471, 490, 504, 528, 556, 569, 585, 598, 610, 616, 625, 631, 648]) 351 rfl
set_option maxRecDepth 100000 in
theorem q8_23 (hF : qm_fix O qt_me qt_qs (qt_C L0 xs) J F) {a0 : Nat} {a1 : Nat} {x2 : Int32} {x3 : Int32} {x4 : Int32} {s0 : Int32} {s1 : Int32} : F 8 23 [some (.inr (0, a0)), some (.inr (1, a1)), some (.inl x2), some (.inl x3), some (.inl x4), none, none, none, none, none] [.inl s0, .inl s1] S =
    F 8 7 [some (.inr (0, a0)), some (.inr (1, a1)), some (.inl (s1 + s0)), some (.inl (x3 * (x4 + 1))), some (.inl (x4 + 1)), none, none, none, none, none] [] S := qm_blk_to hF (pm_stp 8 [0, 7, 23, 45, 50, 66, 70, 78, 84, 98, 117, 131, 148, 169, 183, 240, 252, 271, 283, 286, 306, 324, 333, 351, 362, 370, 423, 428, 430, 437, 447, 453, 463, 471, 490, 504, 528, 556, 569, 585, 598, 610, 616, 625, 631, 648]) 351 rfl
set_option maxRecDepth 100000 in
theorem q8_45 (hF : qm_fix O qt_me qt_qs (qt_C L0 xs) J F) {a0 : Nat} {a1 : Nat} {x2 : Int32} {x3 : Int32} {x4 : Int32} {s0 : Int32} {s1 : Int32} : F 8 45 [some (.inr (0, a0)), some (.inr (1, a1)), some (.inl x2), some (.inl x3), some (.inl x4), none, none, none, none, none] [.inl s0, .inl s1] S =
    qm_o O J 108 [.inr (0, a0), .inl 2] S (fun v U => F 8 50 [some (.inr (0, a0)), some (.inr (1, a1)), some (.inl x2), some (.inl x3), some (.inl x4), none, none, none, none, none] (v.toList ++ [.inl s0, .inl s1]) U) := qm_blk_to hF (pm_stp 8 [0, 7, 23, 45, 50, 66, 70, 78, 84, 98, 117, 131, 148, 169, 183, 240, 252, 271, 283, 286, 306, 324, 333, 351, 362, 370, 423, 428, 430, 437, 447, 453, 463, 471, 490, 504, 528, 556, 569, 585, 598, 610, 616, 625, 631, 648]) 351 rfl
set_option maxRecDepth 100000 in
theorem q8_50 (hF : qm_fix O qt_me qt_qs (qt_C L0 xs) J F) {a0 : Nat} {a1 : Nat} {x2 : Int32} {x3 : Int32} {x4 : Int32} {s0 : Int32} {s1 : Int32} {s2 : Int32} : F 8 50 [some (.inr (0, a0)), some (.inr (1, a1)), some (.inl x2), some (.inl x3), some (.inl x4), none, none, none, none, none] [.inl s0, .inl s1, .inl s2] S =
    if s1 < s0 then
      if s2 = 0 then
        qm_o O J 122 [.inr (0, a0), .inl 0] S (fun v U => F 8 66 [some (.inr (0, a0)), some (.inr (1, a1)), some (.inl x2), some (.inl x3), some (.inl x4), none, none, none, none, none] (v.toList ++ []) U)
      else
        some (some (.inl 0), S)
    else
      if s2 = x3 then
        qm_o O J 122 [.inr (0, a0), .inl 0] S (fun v U => F 8 66 [some (.inr (0, a0)), some (.inr (1, a1)), some (.inl x2), some (.inl x3), some (.inl x4), none, none, none, none, none] (v.toList ++ []) U)
      else
        some (some (.inl 0), S) := qm_blk_to hF (pm_stp 8 [0, 7, 23, 45, 50, 66, 70, 78, 84, 98, 117, 131, 148, 169, 183, 240, 252, 271, 283, 286, 306, 324, 333, 351, 362, 370, 423, 428, 430, 437, 447, 453, 463, 471, 490, 504, 528, 556, 569, 585, 598, 610, 616, 625, 631, 648]) 351 rfl
set_option maxRecDepth 100000 in
theorem q8_66 (hF : qm_fix O qt_me qt_qs (qt_C L0 xs) J F) {a0 : Nat} {a1 : Nat} {x2 : Int32} {x3 : Int32} {x4 : Int32} {s0 : Int32} : F 8 66 [some (.inr (0, a0)), some (.inr (1, a1)), some (.inl x2), some (.inl x3), some (.inl x4), none, none, none, none, none] [.inl s0] S =
    qm_k (F 1203 0 [some (.inr (1, a1))] [] S) (fun v U => F 8 70 [some (.inr (0, a0)), some (.inr (1, a1)), some (.inl x2), some (.inl x3), some (.inl x4), none, none, none, none, none] (v.toList ++ [.inl s0]) U) := qm_blk_to hF (pm_stp 8 [0, 7, 23, 45, 50, 66, 70, 78, 84, 98, 117, 131, 148, 169, 183, 240, 252, 271, 283, 286, 306, 324, 333, 351, 362, 370, 423, 428, 430, 437, 447, 453, 463, 471, 490, 504, 528, 556, 569, 585, 598, 610, 616, 625, 631, 648]) 351 rfl
set_option maxRecDepth 100000 in
theorem q8_70 (hF : qm_fix O qt_me qt_qs (qt_C L0 xs) J F) {a0 : Nat} {a1 : Nat} {x2 : Int32} {x3 : Int32} {x4 : Int32} {s0 : Int32} {s1 : Int32} : F 8 70 [some (.inr (0, a0)), some (.inr (1, a1)), some (.inl x2), some (.inl x3), some (.inl x4), none, none, none, none, none] [.inl s0, .inl s1] S =
    if s1 = s0 then
      F 8 78 [some (.inr (0, a0)), some (.inr (1, a1)), some (.inl x2), some (.inl x3), some (.inl 1), none, none, none, none, none] [] S
    else
      some (some (.inl 0), S) := qm_blk_to hF (pm_stp 8 [0, 7, 23, 45, 50, 66, 70, 78, 84, 98, 117, 131, 148, 169, 183, 240, 252, 271, 283, 286, 306, 324, 333, 351, 362, 370, 423, 428, 430, 437, 447, 453, 463, 471, 490, 504, 528, 556, 569, 585, 598, 610, 616, 625, 631, 648]) 351 rfl
set_option maxRecDepth 100000 in
theorem q8_78 (hF : qm_fix O qt_me qt_qs (qt_C L0 xs) J F) {a0 : Nat} {a1 : Nat} {x2 : Int32} {x3 : Int32} {x4 : Int32} : F 8 78 [some (.inr (0, a0)), some (.inr (1, a1)), some (.inl x2), some (.inl x3), some (.inl x4), none, none, none, none, none] [] S =
    qm_k (F 1203 0 [some (.inr (1, a1))] [] S) (fun v U => F 8 84 [some (.inr (0, a0)), some (.inr (1, a1)), some (.inl x2), some (.inl x3), some (.inl x4), none, none, none, none, none] (v.toList ++ [.inl x4]) U) := qm_blk_to hF (pm_stp 8 [0, 7, 23, 45, 50, 66, 70, 78, 84, 98, 117, 131, 148, 169, 183, 240, 252, 271, 283, 286, 306, 324, 333, 351, 362, 370, 423, 428, 430, 437, 447, 453, 463, 471, 490, 504, 528, 556, 569, 585, 598, 610, 616, 625, 631, 648]) 351 rfl
set_option maxRecDepth 100000 in
theorem q8_84 (hF : qm_fix O qt_me qt_qs (qt_C L0 xs) J F) {a0 : Nat} {a1 : Nat} {x2 : Int32} {x3 : Int32} {x4 : Int32} {s0 : Int32} {s1 : Int32} : F 8 84 [some (.inr (0, a0)), some (.inr (1, a1)), some (.inl x2), some (.inl x3), some (.inl x4), none, none, none, none, none] [.inl s0, .inl s1] S =
    if s1 ≤ s0 then
      bif (!(decide ((qr_i S 1 a1 0) < 0)) && Nat.ble (Int32.toNatClampNeg (qr_i S 1 a1 0)) 100000) then
        F 8 98 [some (.inr (0, a0)), some (.inr (1, a1)), some (.inl x2), some (.inl x3), some (.inl x4), some (.inr (18, S.1)), some (.inl 0), none, none, none] [] (qm_mk S 18 (Int32.toNatClampNeg (qr_i S 1 a1 0)))
      else none
    else
      qm_o O J 135 [.inr (0, a0), .inl 0] S (fun v U => F 8 585 [some (.inr (0, a0)), some (.inr (1, a1)), some (.inl x2), some (.inl x3), some (.inl x4), none, none, none, none, none] (v.toList ++ []) U) := qm_blk_to hF (pm_stp 8 [0, 7, 23, 45, 50, 66, 70, 78, 84, 98, 117, 131, 148, 169, 183, 240, 252, 271, 283, 286, 306, 324, 333, 351, 362, 370, 423, 428, 430, 437, 447, 453, 463, 471, 490, 504, 528, 556, 569, 585, 598, 610, 616, 625, 631, 648]) 351 rfl
set_option maxRecDepth 100000 in
theorem q8_98 (hF : qm_fix O qt_me qt_qs (qt_C L0 xs) J F) {a0 : Nat} {a1 : Nat} {x2 : Int32} {x3 : Int32} {x4 : Int32} {a5 : Nat} {x6 : Int32} : F 8 98 [some (.inr (0, a0)), some (.inr (1, a1)), some (.inl x2), some (.inl x3), some (.inl x4), some (.inr (18, a5)), some (.inl x6), none, none, none] [] S =
    if x6 < (qr_i S 1 a1 1) then
      qm_o O J 109 [.inr (0, a0), .inl x4, .inl x6] S (fun v U => F 8 117 [some (.inr (0, a0)), some (.inr (1, a1)), some (.inl x2), some (.inl x3), some (.inl x4), some (.inr (18, a5)), some (.inl x6), none, none, none] (v.toList ++ [.inr (18, a5)]) U)
    else
      F 8 131 [some (.inr (0, a0)), some (.inr (1, a1)), some (.inl x2), some (.inl x3), some (.inl x4), some (.inr (18, a5)), some (.inl 0), none, none, none] [] S := qm_blk_to hF (pm_stp 8 [0, 7, 23, 45, 50, 66, 70, 78, 84, 98, 117, 131, 148, 169, 183, 240, 252, 271, 283, 286, 306, 324, 333, 351, 362, 370, 423, 428, 430, 437, 447, 453, 463, 471, 490, 504, 528, 556, 569, 585, 598, 610, 616, 625, 631, 648]) 351 rfl
set_option maxRecDepth 100000 in
theorem q8_117 (hF : qm_fix O qt_me qt_qs (qt_C L0 xs) J F) {a0 : Nat} {a1 : Nat} {x2 : Int32} {x3 : Int32} {x4 : Int32} {a5 : Nat} {x6 : Int32} {s0 : Int32} {b1 : Nat} : F 8 117 [some (.inr (0, a0)), some (.inr (1, a1)), some (.inl x2), some (.inl x3), some (.inl x4), some (.inr (18, a5)), some (.inl x6), none, none, none] [.inl s0, .inr (18, b1)] S =
    bif pm_ib s0 (qr_n S b1) then
      bif pm_ib s0 (qr_n S b1) then
        F 8 98 [some (.inr (0, a0)), some (.inr (1, a1)), some (.inl x2), some (.inl x3), some (.inl x4), some (.inr (18, a5)), some (.inl (x6 + 1)), none, none, none] [] (qu_i S 18 b1 (Int32.toNatClampNeg s0) ((qr_i S 18 b1 (Int32.toNatClampNeg s0)) + 1))
      else none
    else none := qm_blk_to hF (pm_stp 8 [0, 7, 23, 45, 50, 66, 70, 78, 84, 98, 117, 131, 148, 169, 183, 240, 252, 271, 283, 286, 306, 324, 333, 351, 362, 370, 423, 428, 430, 437, 447, 453, 463, 471, 490, 504, 528, 556, 569, 585, 598, 610, 616, 625, 631, 648]) 351 rfl
set_option maxRecDepth 100000 in
theorem q8_131 (hF : qm_fix O qt_me qt_qs (qt_C L0 xs) J F) {a0 : Nat} {a1 : Nat} {x2 : Int32} {x3 : Int32} {x4 : Int32} {a5 : Nat} {x6 : Int32} : F 8 131 [some (.inr (0, a0)), some (.inr (1, a1)), some (.inl x2), some (.inl x3), some (.inl x4), some (.inr (18, a5)), some (.inl x6), none, none, none] [] S =
    if x6 < 3 then
      bif (!(decide ((qr_i S 1 a1 0) < 0)) && Nat.ble (Int32.toNatClampNeg (qr_i S 1 a1 0)) 100000) then
        F 8 148 [some (.inr (0, a0)), some (.inr (1, a1)), some (.inl x2), some (.inl x3), some (.inl x4), some (.inr (18, a5)), some (.inl x6), some (.inr (19, S.1)), some (.inl 0), none] [] (qm_mk S 19 (Int32.toNatClampNeg (qr_i S 1 a1 0)))
      else none
    else
      F 8 240 [some (.inr (0, a0)), some (.inr (1, a1)), some (.inl x2), some (.inl x3), some (.inl x4), some (.inr (18, a5)), some (.inl 0), none, none, none] [] S := qm_blk_to hF (pm_stp 8 [0, 7, 23, 45, 50, 66, 70, 78, 84, 98, 117, 131, 148, 169, 183, 240, 252, 271, 283, 286, 306, 324, 333, 351, 362, 370, 423, 428, 430, 437, 447, 453, 463, 471, 490, 504, 528, 556, 569, 585, 598, 610, 616, 625, 631, 648]) 351 rfl
set_option maxRecDepth 100000 in
theorem q8_148 (hF : qm_fix O qt_me qt_qs (qt_C L0 xs) J F) {a0 : Nat} {a1 : Nat} {x2 : Int32} {x3 : Int32} {x4 : Int32} {a5 : Nat} {x6 : Int32} {a7 : Nat} {x8 : Int32} : F 8 148 [some (.inr (0, a0)), some (.inr (1, a1)), some (.inl x2), some (.inl x3), some (.inl x4), some (.inr (18, a5)), some (.inl x6), some (.inr (19, a7)), some (.inl x8), none] [] S =
    if x8 < (qr_i S 1 a1 1) then
      qm_o O J 111 [.inr (0, a0), .inl x4, .inl x6, .inl x8] S (fun v U => F 8 169 [some (.inr (0, a0)), some (.inr (1, a1)), some (.inl x2), some (.inl x3), some (.inl x4), some (.inr (18, a5)), some (.inl x6), some (.inr (19, a7)), some (.inl x8), none] (v.toList ++ [.inr (19, a7)]) U)
    else
      F 8 183 [some (.inr (0, a0)), some (.inr (1, a1)), some (.inl x2), some (.inl x3), some (.inl x4), some (.inr (18, a5)), some (.inl x6), some (.inr (19, a7)), some (.inl 0), none] [] S := qm_blk_to hF (pm_stp 8 [0, 7, 23, 45, 50, 66, 70, 78, 84, 98, 117, 131, 148, 169, 183, 240, 252, 271, 283, 286, 306, 324, 333, 351, 362, 370, 423, 428, 430, 437, 447, 453, 463, 471, 490, 504, 528, 556, 569, 585, 598, 610, 616, 625, 631, 648]) 351 rfl
set_option maxRecDepth 100000 in
theorem q8_169 (hF : qm_fix O qt_me qt_qs (qt_C L0 xs) J F) {a0 : Nat} {a1 : Nat} {x2 : Int32} {x3 : Int32} {x4 : Int32} {a5 : Nat} {x6 : Int32} {a7 : Nat} {x8 : Int32} {s0 : Int32} {b1 : Nat} : F 8 169 [some (.inr (0, a0)), some (.inr (1, a1)), some (.inl x2), some (.inl x3), some (.inl x4), some (.inr (18, a5)), some (.inl x6), some (.inr (19, a7)), some (.inl x8), none] [.inl s0, .inr (19, b1)] S =
    bif pm_ib s0 (qr_n S b1) then
      bif pm_ib s0 (qr_n S b1) then
        F 8 148 [some (.inr (0, a0)), some (.inr (1, a1)), some (.inl x2), some (.inl x3), some (.inl x4), some (.inr (18, a5)), some (.inl x6), some (.inr (19, a7)), some (.inl (x8 + 1)), none] [] (qu_i S 19 b1 (Int32.toNatClampNeg s0) ((qr_i S 19 b1 (Int32.toNatClampNeg s0)) + 1))
      else none
    else none := qm_blk_to hF (pm_stp 8 [0, 7, 23, 45, 50, 66, 70, 78, 84, 98, 117, 131, 148, 169, 183, 240, 252, 271, 283, 286, 306, 324, 333, 351, 362, 370, 423, 428, 430, 437, 447, 453, 463, 471, 490, 504, 528, 556, 569, 585, 598, 610, 616, 625, 631, 648]) 351 rfl
set_option maxRecDepth 100000 in
theorem q8_183 (hF : qm_fix O qt_me qt_qs (qt_C L0 xs) J F) {a0 : Nat} {a1 : Nat} {x2 : Int32} {x3 : Int32} {x4 : Int32} {a5 : Nat} {x6 : Int32} {a7 : Nat} {x8 : Int32} : F 8 183 [some (.inr (0, a0)), some (.inr (1, a1)), some (.inl x2), some (.inl x3), some (.inl x4), some (.inr (18, a5)), some (.inl x6), some (.inr (19, a7)), some (.inl x8), none] [] S =
    if x8 < (qr_i S 1 a1 0) then
      bif pm_ib x8 (qr_n S a7) then
        bif pm_ib x8 (qr_n S a5) then
          if (qr_i S 19 a7 (Int32.toNatClampNeg x8)) = (qr_i S 18 a5 (Int32.toNatClampNeg x8)) then
            bif pm_ib x8 (qr_n S a5) then
              if (qr_i S 18 a5 (Int32.toNatClampNeg x8)) ≤ 0 then
                F 8 183 [some (.inr (0, a0)), some (.inr (1, a1)), some (.inl x2), some (.inl x3), some (.inl x4), some (.inr (18, a5)), some (.inl x6), some (.inr (19, a7)), some (.inl (x8 + 1)), none] [] S
              else
                if (((x4 : Int32) >>> (x8 &&& 31)) &&& 1) = 0 then
                  some (some (.inl 0), S)
                else
                  F 8 183 [some (.inr (0, a0)), some (.inr (1, a1)), some (.inl x2), some (.inl x3), some (.inl x4), some (.inr (18, a5)), some (.inl x6), some (.inr (19, a7)), some (.inl (x8 + 1)), none] [] S
            else none
          else
            some (some (.inl 0), S)
        else none
      else none
    else
      F 8 131 [some (.inr (0, a0)), some (.inr (1, a1)), some (.inl x2), some (.inl x3), some (.inl x4), some (.inr (18, a5)), some (.inl (x6 + 1)), none, none, none] [] S := qm_blk_to hF (pm_stp 8 [0, 7, 23, 45, 50, 66, 70, 78, 84, 98, 117, 131, 148, 169, 183, 240, 252, 271, 283, 286, 306, 324, 333, 351, 362, 370, 423, 428, 430, 437, 447, 453, 463, 471, 490, 504, 528, 556, 569, 585, 598, 610, 616, 625, 631, 648]) 351 rfl
set_option maxRecDepth 100000 in
theorem q8_240 (hF : qm_fix O qt_me qt_qs (qt_C L0 xs) J F) {a0 : Nat} {a1 : Nat} {x2 : Int32} {x3 : Int32} {x4 : Int32} {a5 : Nat} {x6 : Int32} : F 8 240 [some (.inr (0, a0)), some (.inr (1, a1)), some (.inl x2), some (.inl x3), some (.inl x4), some (.inr (18, a5)), some (.inl x6), none, none, none] [] S =
    if x6 < (qr_i S 1 a1 1) then
      F 8 252 [some (.inr (0, a0)), some (.inr (1, a1)), some (.inl x2), some (.inl x3), some (.inl x4), some (.inr (18, a5)), some (.inl x6), some (.inl 0), none, none] [] S
    else
      F 8 306 [some (.inr (0, a0)), some (.inr (1, a1)), some (.inl x2), some (.inl x3), some (.inl x4), some (.inr (18, a5)), some (.inl 0), none, none, none] [] S := qm_blk_to hF (pm_stp 8 [0, 7, 23, 45, 50, 66, 70, 78, 84, 98, 117, 131, 148, 169, 183, 240, 252, 271, 283, 286, 306, 324, 333, 351, 362, 370, 423, 428, 430, 437, 447, 453, 463, 471, 490, 504, 528, 556, 569, 585, 598, 610, 616, 625, 631, 648]) 351 rfl
set_option maxRecDepth 100000 in
theorem q8_252 (hF : qm_fix O qt_me qt_qs (qt_C L0 xs) J F) {a0 : Nat} {a1 : Nat} {x2 : Int32} {x3 : Int32} {x4 : Int32} {a5 : Nat} {x6 : Int32} {x7 : Int32} : F 8 252 [some (.inr (0, a0)), some (.inr (1, a1)), some (.inl x2), some (.inl x3), some (.inl x4), some (.inr (18, a5)), some (.inl x6), some (.inl x7), none, none] [] S =
    if x7 < (qr_i S 1 a1 1) then
      qm_o O J 114 [.inr (0, a0), .inl x4, .inl x6, .inl x7] S (fun v U => F 8 271 [some (.inr (0, a0)), some (.inr (1, a1)), some (.inl x2), some (.inl x3), some (.inl x4), some (.inr (18, a5)), some (.inl x6), some (.inl x7), none, none] (v.toList ++ []) U)
    else
      F 8 240 [some (.inr (0, a0)), some (.inr (1, a1)), some (.inl x2), some (.inl x3), some (.inl x4), some (.inr (18, a5)), some (.inl (x6 + 1)), none, none, none] [] S := qm_blk_to hF (pm_stp 8 [0, 7, 23, 45, 50, 66, 70, 78, 84, 98, 117, 131, 148, 169, 183, 240, 252, 271, 283, 286, 306, 324, 333, 351, 362, 370, 423, 428, 430, 437, 447, 453, 463, 471, 490, 504, 528, 556, 569, 585, 598, 610, 616, 625, 631, 648]) 351 rfl
set_option maxRecDepth 100000 in
theorem q8_271 (hF : qm_fix O qt_me qt_qs (qt_C L0 xs) J F) {a0 : Nat} {a1 : Nat} {x2 : Int32} {x3 : Int32} {x4 : Int32} {a5 : Nat} {x6 : Int32} {x7 : Int32} {s0 : Int32} : F 8 271 [some (.inr (0, a0)), some (.inr (1, a1)), some (.inl x2), some (.inl x3), some (.inl x4), some (.inr (18, a5)), some (.inl x6), some (.inl x7), none, none] [.inl s0] S =
    qm_o O J 109 [.inr (0, a0), .inl x4, .inl x6] S (fun v U => F 8 283 [some (.inr (0, a0)), some (.inr (1, a1)), some (.inl x2), some (.inl x3), some (.inl x4), some (.inr (18, a5)), some (.inl x6), some (.inl x7), none, none] (v.toList ++ [.inl 1, .inl x4, .inr (0, a0), .inl s0]) U) := qm_blk_to hF (pm_stp 8 [0, 7, 23, 45, 50, 66, 70, 78, 84, 98, 117, 131, 148, 169, 183, 240, 252, 271, 283, 286, 306, 324, 333, 351, 362, 370, 423, 428, 430, 437, 447, 453, 463, 471, 490, 504, 528, 556, 569, 585, 598, 610, 616, 625, 631, 648]) 351 rfl
set_option maxRecDepth 100000 in
theorem q8_283 (hF : qm_fix O qt_me qt_qs (qt_C L0 xs) J F) {a0 : Nat} {a1 : Nat} {x2 : Int32} {x3 : Int32} {x4 : Int32} {a5 : Nat} {x6 : Int32} {x7 : Int32} {s0 : Int32} {s1 : Int32} {s2 : Int32} {b3 : Nat} {s4 : Int32} : F 8 283 [some (.inr (0, a0)), some (.inr (1, a1)), some (.inl x2), some (.inl x3), some (.inl x4), some (.inr (18, a5)), some (.inl x6), some (.inl x7), none, none] [.inl s0, .inl s1, .inl s2, .inr (0, b3), .inl s4] S =
    qm_o O J 112 [.inr (0, b3), .inl s2, .inl s1, .inl s0] S (fun v U => F 8 286 [some (.inr (0, a0)), some (.inr (1, a1)), some (.inl x2), some (.inl x3), some (.inl x4), some (.inr (18, a5)), some (.inl x6), some (.inl x7), none, none] (v.toList ++ [.inl s4]) U) := qm_blk_to hF (pm_stp 8 [0, 7, 23, 45, 50, 66, 70, 78, 84, 98, 117, 131, 148, 169, 183, 240, 252, 271, 283, 286, 306, 324, 333, 351, 362, 370, 423, 428, 430, 437, 447, 453, 463, 471, 490, 504, 528, 556, 569, 585, 598, 610, 616, 625, 631, 648]) 351 rfl
set_option maxRecDepth 100000 in
theorem q8_286 (hF : qm_fix O qt_me qt_qs (qt_C L0 xs) J F) {a0 : Nat} {a1 : Nat} {x2 : Int32} {x3 : Int32} {x4 : Int32} {a5 : Nat} {x6 : Int32} {x7 : Int32} {s0 : Int32} {s1 : Int32} : F 8 286 [some (.inr (0, a0)), some (.inr (1, a1)), some (.inl x2), some (.inl x3), some (.inl x4), some (.inr (18, a5)), some (.inl x6), some (.inl x7), none, none] [.inl s0, .inl s1] S =
    if s1 ≤ s0 then
      F 8 252 [some (.inr (0, a0)), some (.inr (1, a1)), some (.inl x2), some (.inl x3), some (.inl x4), some (.inr (18, a5)), some (.inl x6), some (.inl (x7 + 1)), none, none] [] S
    else
      some (some (.inl 0), S) := qm_blk_to hF (pm_stp 8 [0, 7, 23, 45, 50, 66, 70, 78, 84, 98, 117, 131, 148, 169, 183, 240, 252, 271, 283, 286, 306, 324, 333, 351, 362, 370, 423, 428, 430, 437, 447, 453, 463, 471, 490, 504, 528, 556, 569, 585, 598, 610, 616, 625, 631, 648]) 351 rfl
set_option maxRecDepth 100000 in
theorem q8_306 (hF : qm_fix O qt_me qt_qs (qt_C L0 xs) J F) {a0 : Nat} {a1 : Nat} {x2 : Int32} {x3 : Int32} {x4 : Int32} {a5 : Nat} {x6 : Int32} : F 8 306 [some (.inr (0, a0)), some (.inr (1, a1)), some (.inl x2), some (.inl x3), some (.inl x4), some (.inr (18, a5)), some (.inl x6), none, none, none] [] S =
    if x6 < (qr_i S 1 a1 0) then
      qm_o O J 112 [.inr (0, a0), .inl x4, .inl 2, .inl x6] S (fun v U => F 8 324 [some (.inr (0, a0)), some (.inr (1, a1)), some (.inl x2), some (.inl x3), some (.inl x4), some (.inr (18, a5)), some (.inl x6), none, none, none] (v.toList ++ []) U)
    else
      qm_k (F 9 0 [some (.inr (0, a0)), some (.inr (1, a1)), some (.inl x4), none, none] [] S) (fun v U => F 8 351 [some (.inr (0, a0)), some (.inr (1, a1)), some (.inl x2), some (.inl x3), some (.inl x4), some (.inr (18, a5)), some (.inl x6), none, none, none] (v.toList ++ []) U) := qm_blk_to hF (pm_stp 8 [0, 7, 23, 45, 50, 66, 70, 78, 84, 98, 117, 131, 148, 169, 183, 240, 252, 271, 283, 286, 306, 324, 333, 351, 362, 370, 423, 428, 430, 437, 447, 453, 463, 471, 490, 504, 528, 556, 569, 585, 598, 610, 616, 625, 631, 648]) 351 rfl
set_option maxRecDepth 100000 in
theorem q8_324 (hF : qm_fix O qt_me qt_qs (qt_C L0 xs) J F) {a0 : Nat} {a1 : Nat} {x2 : Int32} {x3 : Int32} {x4 : Int32} {a5 : Nat} {x6 : Int32} {s0 : Int32} : F 8 324 [some (.inr (0, a0)), some (.inr (1, a1)), some (.inl x2), some (.inl x3), some (.inl x4), some (.inr (18, a5)), some (.inl x6), none, none, none] [.inl s0] S =
    qm_o O J 112 [.inr (0, a0), .inl x4, .inl 1, .inl x6] S (fun v U => F 8 333 [some (.inr (0, a0)), some (.inr (1, a1)), some (.inl x2), some (.inl x3), some (.inl x4), some (.inr (18, a5)), some (.inl x6), none, none, none] (v.toList ++ [.inl s0]) U) := qm_blk_to hF (pm_stp 8 [0, 7, 23, 45, 50, 66, 70, 78, 84, 98, 117, 131, 148, 169, 183, 240, 252, 271, 283, 286, 306, 324, 333, 351, 362, 370, 423, 428, 430, 437, 447, 453, 463, 471, 490, 504, 528, 556, 569, 585, 598, 610, 616, 625, 631, 648]) 351 rfl
set_option maxRecDepth 100000 in
theorem q8_333 (hF : qm_fix O qt_me qt_qs (qt_C L0 xs) J F) {a0 : Nat} {a1 : Nat} {x2 : Int32} {x3 : Int32} {x4 : Int32} {a5 : Nat} {x6 : Int32} {s0 : Int32} {s1 : Int32} : F 8 333 [some (.inr (0, a0)), some (.inr (1, a1)), some (.inl x2), some (.inl x3), some (.inl x4), some (.inr (18, a5)), some (.inl x6), none, none, none] [.inl s0, .inl s1] S =
    if s1 < s0 then
      some (some (.inl 0), S)
    else
      F 8 306 [some (.inr (0, a0)), some (.inr (1, a1)), some (.inl x2), some (.inl x3), some (.inl x4), some (.inr (18, a5)), some (.inl (x6 + 1)), none, none, none] [] S := qm_blk_to hF (pm_stp 8 [0, 7, 23, 45, 50, 66, 70, 78, 84, 98, 117, 131, 148, 169, 183, 240, 252, 271, 283, 286, 306, 324, 333, 351, 362, 370, 423, 428, 430, 437, 447, 453, 463, 471, 490, 504, 528, 556, 569, 585, 598, 610, 616, 625, 631, 648]) 351 rfl
set_option maxRecDepth 100000 in
theorem q8_351 (hF : qm_fix O qt_me qt_qs (qt_C L0 xs) J F) {a0 : Nat} {a1 : Nat} {x2 : Int32} {x3 : Int32} {x4 : Int32} {a5 : Nat} {x6 : Int32} {s0 : Int32} : F 8 351 [some (.inr (0, a0)), some (.inr (1, a1)), some (.inl x2), some (.inl x3), some (.inl x4), some (.inr (18, a5)), some (.inl x6), none, none, none] [.inl s0] S =
    if s0 = 0 then
      some (some (.inl 0), S)
    else
      qm_o O J 121 [.inr (0, a0), .inl x4] S (fun v U => F 8 362 [some (.inr (0, a0)), some (.inr (1, a1)), some (.inl x2), some (.inl x3), some (.inl x4), some (.inr (18, a5)), some (.inl x6), none, none, none] (v.toList ++ []) U) := qm_blk_to hF (pm_stp 8 [0, 7, 23, 45, 50, 66, 70, 78, 84, 98, 117, 131, 148, 169, 183, 240, 252, 271, 283, 286, 306, 324, 333, 351, 362, 370, 423, 428, 430, 437, 447, 453, 463, 471, 490, 504, 528, 556, 569, 585, 598, 610, 616, 625, 631, 648]) 351 rfl
set_option maxRecDepth 100000 in
theorem q8_362 (hF : qm_fix O qt_me qt_qs (qt_C L0 xs) J F) {a0 : Nat} {a1 : Nat} {x2 : Int32} {x3 : Int32} {x4 : Int32} {a5 : Nat} {x6 : Int32} {s0 : Int32} : F 8 362 [some (.inr (0, a0)), some (.inr (1, a1)), some (.inl x2), some (.inl x3), some (.inl x4), some (.inr (18, a5)), some (.inl x6), none, none, none] [.inl s0] S =
    qm_o O J 124 [.inr (0, a0), .inl x4] S (fun v U => F 8 370 [some (.inr (0, a0)), some (.inr (1, a1)), some (.inl x2), some (.inl x3), some (.inl x4), some (.inr (18, a5)), some (.inl s0), none, none, none] (v.toList ++ []) U) := qm_blk_to hF (pm_stp 8 [0, 7, 23, 45, 50, 66, 70, 78, 84, 98, 117, 131, 148, 169, 183, 240, 252, 271, 283, 286, 306, 324, 333, 351, 362, 370, 423, 428, 430, 437, 447, 453, 463, 471, 490, 504, 528, 556, 569, 585, 598, 610, 616, 625, 631, 648]) 351 rfl
set_option maxRecDepth 100000 in
theorem q8_370 (hF : qm_fix O qt_me qt_qs (qt_C L0 xs) J F) {a0 : Nat} {a1 : Nat} {x2 : Int32} {x3 : Int32} {x4 : Int32} {a5 : Nat} {x6 : Int32} {s0 : Int32} : F 8 370 [some (.inr (0, a0)), some (.inr (1, a1)), some (.inl x2), some (.inl x3), some (.inl x4), some (.inr (18, a5)), some (.inl x6), none, none, none] [.inl s0] S =
    if (x6 &&& 16) = 16 then
      if s0 = 0 then
        if (x6 &&& 3) = 3 then
          if (x6 &&& 4) = 4 then
            if (x6 &&& 1) = 0 then
              some (some (.inl 0), S)
            else
              if s0 ≤ 0 then
                if s0 ≤ 0 then
                  qm_o O J 132 [.inr (0, a0), .inl x4] S (fun v U => F 8 504 [some (.inr (0, a0)), some (.inr (1, a1)), some (.inl x2), some (.inl x3), some (.inl x4), some (.inr (18, a5)), some (.inl x6), some (.inl s0), none, none] (v.toList ++ []) U)
                else
                  qm_o O J 121 [.inr (0, a0), .inl s0] S (fun v U => F 8 490 [some (.inr (0, a0)), some (.inr (1, a1)), some (.inl x2), some (.inl x3), some (.inl x4), some (.inr (18, a5)), some (.inl x6), some (.inl s0), none, none] (v.toList ++ []) U)
              else
                qm_k (F 1204 0 [some (.inr (1, a1)), some (.inl s0), none, none] [] S) (fun v U => F 8 423 [some (.inr (0, a0)), some (.inr (1, a1)), some (.inl x2), some (.inl x3), some (.inl x4), some (.inr (18, a5)), some (.inl x6), some (.inl s0), none, none] (v.toList ++ []) U)
          else
            if s0 ≤ 0 then
              if s0 ≤ 0 then
                qm_o O J 132 [.inr (0, a0), .inl x4] S (fun v U => F 8 504 [some (.inr (0, a0)), some (.inr (1, a1)), some (.inl x2), some (.inl x3), some (.inl x4), some (.inr (18, a5)), some (.inl x6), some (.inl s0), none, none] (v.toList ++ []) U)
              else
                qm_o O J 121 [.inr (0, a0), .inl s0] S (fun v U => F 8 490 [some (.inr (0, a0)), some (.inr (1, a1)), some (.inl x2), some (.inl x3), some (.inl x4), some (.inr (18, a5)), some (.inl x6), some (.inl s0), none, none] (v.toList ++ []) U)
            else
              qm_k (F 1204 0 [some (.inr (1, a1)), some (.inl s0), none, none] [] S) (fun v U => F 8 423 [some (.inr (0, a0)), some (.inr (1, a1)), some (.inl x2), some (.inl x3), some (.inl x4), some (.inr (18, a5)), some (.inl x6), some (.inl s0), none, none] (v.toList ++ []) U)
        else
          some (some (.inl 0), S)
      else
        some (some (.inl 0), S)
    else
      if (x6 &&& 4) = 4 then
        if (x6 &&& 1) = 0 then
          some (some (.inl 0), S)
        else
          if s0 ≤ 0 then
            if s0 ≤ 0 then
              qm_o O J 132 [.inr (0, a0), .inl x4] S (fun v U => F 8 504 [some (.inr (0, a0)), some (.inr (1, a1)), some (.inl x2), some (.inl x3), some (.inl x4), some (.inr (18, a5)), some (.inl x6), some (.inl s0), none, none] (v.toList ++ []) U)
            else
              qm_o O J 121 [.inr (0, a0), .inl s0] S (fun v U => F 8 490 [some (.inr (0, a0)), some (.inr (1, a1)), some (.inl x2), some (.inl x3), some (.inl x4), some (.inr (18, a5)), some (.inl x6), some (.inl s0), none, none] (v.toList ++ []) U)
          else
            qm_k (F 1204 0 [some (.inr (1, a1)), some (.inl s0), none, none] [] S) (fun v U => F 8 423 [some (.inr (0, a0)), some (.inr (1, a1)), some (.inl x2), some (.inl x3), some (.inl x4), some (.inr (18, a5)), some (.inl x6), some (.inl s0), none, none] (v.toList ++ []) U)
      else
        if s0 ≤ 0 then
          if s0 ≤ 0 then
            qm_o O J 132 [.inr (0, a0), .inl x4] S (fun v U => F 8 504 [some (.inr (0, a0)), some (.inr (1, a1)), some (.inl x2), some (.inl x3), some (.inl x4), some (.inr (18, a5)), some (.inl x6), some (.inl s0), none, none] (v.toList ++ []) U)
          else
            qm_o O J 121 [.inr (0, a0), .inl s0] S (fun v U => F 8 490 [some (.inr (0, a0)), some (.inr (1, a1)), some (.inl x2), some (.inl x3), some (.inl x4), some (.inr (18, a5)), some (.inl x6), some (.inl s0), none, none] (v.toList ++ []) U)
        else
          qm_k (F 1204 0 [some (.inr (1, a1)), some (.inl s0), none, none] [] S) (fun v U => F 8 423 [some (.inr (0, a0)), some (.inr (1, a1)), some (.inl x2), some (.inl x3), some (.inl x4), some (.inr (18, a5)), some (.inl x6), some (.inl s0), none, none] (v.toList ++ []) U) := qm_blk_to hF (pm_stp 8 [0, 7, 23, 45, 50, 66, 70, 78, 84, 98, 117, 131, 148, 169, 183, 240, 252, 271, 283, 286, 306, 324, 333, 351, 362, 370, 423, 428, 430, 437, 447, 453, 463, 471, 490, 504, 528, 556, 569, 585, 598, 610, 616, 625, 631, 648]) 351 rfl
set_option maxRecDepth 100000 in
theorem q8_423 (hF : qm_fix O qt_me qt_qs (qt_C L0 xs) J F) {a0 : Nat} {a1 : Nat} {x2 : Int32} {x3 : Int32} {x4 : Int32} {a5 : Nat} {x6 : Int32} {x7 : Int32} {b0 : Nat} : F 8 423 [some (.inr (0, a0)), some (.inr (1, a1)), some (.inl x2), some (.inl x3), some (.inl x4), some (.inr (18, a5)), some (.inl x6), some (.inl x7), none, none] [.inr (23, b0)] S =
    qm_k (F 1569 0 [some (.inr (23, b0))] [] S) (fun v U => F 8 428 [some (.inr (0, a0)), some (.inr (1, a1)), some (.inl x2), some (.inl x3), some (.inl x4), some (.inr (18, a5)), some (.inl x6), some (.inl x7), none, none] (v.toList ++ []) U) := qm_blk_to hF (pm_stp 8 [0, 7, 23, 45, 50, 66, 70, 78, 84, 98, 117, 131, 148, 169, 183, 240, 252, 271, 283, 286, 306, 324, 333, 351, 362, 370, 423, 428, 430, 437, 447, 453, 463, 471, 490, 504, 528, 556, 569, 585, 598, 610, 616, 625, 631, 648]) 351 rfl
set_option maxRecDepth 100000 in
theorem q8_428 (hF : qm_fix O qt_me qt_qs (qt_C L0 xs) J F) {a0 : Nat} {a1 : Nat} {x2 : Int32} {x3 : Int32} {x4 : Int32} {a5 : Nat} {x6 : Int32} {x7 : Int32} {b0 : Nat} : F 8 428 [some (.inr (0, a0)), some (.inr (1, a1)), some (.inl x2), some (.inl x3), some (.inl x4), some (.inr (18, a5)), some (.inl x6), some (.inl x7), none, none] [.inr (27, b0)] S =
    F 8 430 [some (.inr (0, a0)), some (.inr (1, a1)), some (.inl x2), some (.inl x3), some (.inl x4), some (.inr (18, a5)), some (.inl x6), some (.inl x7), some (.inr (27, b0)), none] [] S := qm_blk_to hF (pm_stp 8 [0, 7, 23, 45, 50, 66, 70, 78, 84, 98, 117, 131, 148, 169, 183, 240, 252, 271, 283, 286, 306, 324, 333, 351, 362, 370, 423, 428, 430, 437, 447, 453, 463, 471, 490, 504, 528, 556, 569, 585, 598, 610, 616, 625, 631, 648]) 351 rfl
set_option maxRecDepth 100000 in
theorem q8_430 (hF : qm_fix O qt_me qt_qs (qt_C L0 xs) J F) {a0 : Nat} {a1 : Nat} {x2 : Int32} {x3 : Int32} {x4 : Int32} {a5 : Nat} {x6 : Int32} {x7 : Int32} {a8 : Nat} : F 8 430 [some (.inr (0, a0)), some (.inr (1, a1)), some (.inl x2), some (.inl x3), some (.inl x4), some (.inr (18, a5)), some (.inl x6), some (.inl x7), some (.inr (27, a8)), none] [] S =
    qm_k (F 1571 0 [some (.inr (27, a8))] [] S) (fun v U => F 8 437 [some (.inr (0, a0)), some (.inr (1, a1)), some (.inl x2), some (.inl x3), some (.inl x4), some (.inr (18, a5)), some (.inl x6), some (.inl x7), some (.inr (27, a8)), none] (v.toList ++ []) U) := qm_blk_to hF (pm_stp 8 [0, 7, 23, 45, 50, 66, 70, 78, 84, 98, 117, 131, 148, 169, 183, 240, 252, 271, 283, 286, 306, 324, 333, 351, 362, 370, 423, 428, 430, 437, 447, 453, 463, 471, 490, 504, 528, 556, 569, 585, 598, 610, 616, 625, 631, 648]) 351 rfl
set_option maxRecDepth 100000 in
theorem q8_437 (hF : qm_fix O qt_me qt_qs (qt_C L0 xs) J F) {a0 : Nat} {a1 : Nat} {x2 : Int32} {x3 : Int32} {x4 : Int32} {a5 : Nat} {x6 : Int32} {x7 : Int32} {a8 : Nat} {s0 : Int32} : F 8 437 [some (.inr (0, a0)), some (.inr (1, a1)), some (.inl x2), some (.inl x3), some (.inl x4), some (.inr (18, a5)), some (.inl x6), some (.inl x7), some (.inr (27, a8)), none] [.inl s0] S =
    if s0 = 0 then
      if x7 ≤ 0 then
        qm_o O J 132 [.inr (0, a0), .inl x4] S (fun v U => F 8 504 [some (.inr (0, a0)), some (.inr (1, a1)), some (.inl x2), some (.inl x3), some (.inl x4), some (.inr (18, a5)), some (.inl x6), some (.inl x7), some (.inr (27, a8)), none] (v.toList ++ []) U)
      else
        qm_o O J 121 [.inr (0, a0), .inl x7] S (fun v U => F 8 490 [some (.inr (0, a0)), some (.inr (1, a1)), some (.inl x2), some (.inl x3), some (.inl x4), some (.inr (18, a5)), some (.inl x6), some (.inl x7), some (.inr (27, a8)), none] (v.toList ++ []) U)
    else
      qm_k (F 1572 0 [some (.inr (27, a8)), none, none] [] S) (fun v U => F 8 447 [some (.inr (0, a0)), some (.inr (1, a1)), some (.inl x2), some (.inl x3), some (.inl x4), some (.inr (18, a5)), some (.inl x6), some (.inl x7), some (.inr (27, a8)), none] (v.toList ++ []) U) := qm_blk_to hF (pm_stp 8 [0, 7, 23, 45, 50, 66, 70, 78, 84, 98, 117, 131, 148, 169, 183, 240, 252, 271, 283, 286, 306, 324, 333, 351, 362, 370, 423, 428, 430, 437, 447, 453, 463, 471, 490, 504, 528, 556, 569, 585, 598, 610, 616, 625, 631, 648]) 351 rfl
set_option maxRecDepth 100000 in
theorem q8_447 (hF : qm_fix O qt_me qt_qs (qt_C L0 xs) J F) {a0 : Nat} {a1 : Nat} {x2 : Int32} {x3 : Int32} {x4 : Int32} {a5 : Nat} {x6 : Int32} {x7 : Int32} {a8 : Nat} {b0 : Nat} : F 8 447 [some (.inr (0, a0)), some (.inr (1, a1)), some (.inl x2), some (.inl x3), some (.inl x4), some (.inr (18, a5)), some (.inl x6), some (.inl x7), some (.inr (27, a8)), none] [.inr (25, b0)] S =
    qm_k (F 1574 0 [some (.inr (25, b0))] [] S) (fun v U => F 8 453 [some (.inr (0, a0)), some (.inr (1, a1)), some (.inl x2), some (.inl x3), some (.inl x4), some (.inr (18, a5)), some (.inl x6), some (.inl x7), some (.inr (27, a8)), none] (v.toList ++ []) U) := qm_blk_to hF (pm_stp 8 [0, 7, 23, 45, 50, 66, 70, 78, 84, 98, 117, 131, 148, 169, 183, 240, 252, 271, 283, 286, 306, 324, 333, 351, 362, 370, 423, 428, 430, 437, 447, 453, 463, 471, 490, 504, 528, 556, 569, 585, 598, 610, 616, 625, 631, 648]) 351 rfl
set_option maxRecDepth 100000 in
theorem q8_453 (hF : qm_fix O qt_me qt_qs (qt_C L0 xs) J F) {a0 : Nat} {a1 : Nat} {x2 : Int32} {x3 : Int32} {x4 : Int32} {a5 : Nat} {x6 : Int32} {x7 : Int32} {a8 : Nat} {s0 : Int32} : F 8 453 [some (.inr (0, a0)), some (.inr (1, a1)), some (.inl x2), some (.inl x3), some (.inl x4), some (.inr (18, a5)), some (.inl x6), some (.inl x7), some (.inr (27, a8)), none] [.inl s0] S =
    qm_o O J 116 [.inr (0, a0), .inl x7, .inl s0] S (fun v U => F 8 463 [some (.inr (0, a0)), some (.inr (1, a1)), some (.inl x2), some (.inl x3), some (.inl x4), some (.inr (18, a5)), some (.inl x6), some (.inl x7), some (.inr (27, a8)), some (.inl s0)] (v.toList ++ []) U) := qm_blk_to hF (pm_stp 8 [0, 7, 23, 45, 50, 66, 70, 78, 84, 98, 117, 131, 148, 169, 183, 240, 252, 271, 283, 286, 306, 324, 333, 351, 362, 370, 423, 428, 430, 437, 447, 453, 463, 471, 490, 504, 528, 556, 569, 585, 598, 610, 616, 625, 631, 648]) 351 rfl
set_option maxRecDepth 100000 in
theorem q8_463 (hF : qm_fix O qt_me qt_qs (qt_C L0 xs) J F) {a0 : Nat} {a1 : Nat} {x2 : Int32} {x3 : Int32} {x4 : Int32} {a5 : Nat} {x6 : Int32} {x7 : Int32} {a8 : Nat} {x9 : Int32} {s0 : Int32} : F 8 463 [some (.inr (0, a0)), some (.inr (1, a1)), some (.inl x2), some (.inl x3), some (.inl x4), some (.inr (18, a5)), some (.inl x6), some (.inl x7), some (.inr (27, a8)), some (.inl x9)] [.inl s0] S =
    qm_o O J 116 [.inr (0, a0), .inl x4, .inl x9] S (fun v U => F 8 471 [some (.inr (0, a0)), some (.inr (1, a1)), some (.inl x2), some (.inl x3), some (.inl x4), some (.inr (18, a5)), some (.inl x6), some (.inl x7), some (.inr (27, a8)), some (.inl x9)] (v.toList ++ [.inl s0]) U) := qm_blk_to hF (pm_stp 8 [0, 7, 23, 45, 50, 66, 70, 78, 84, 98, 117, 131, 148, 169, 183, 240, 252, 271, 283, 286, 306, 324, 333, 351, 362, 370, 423, 428, 430, 437, 447, 453, 463, 471, 490, 504, 528, 556, 569, 585, 598, 610, 616, 625, 631, 648]) 351 rfl
set_option maxRecDepth 100000 in
theorem q8_471 (hF : qm_fix O qt_me qt_qs (qt_C L0 xs) J F) {a0 : Nat} {a1 : Nat} {x2 : Int32} {x3 : Int32} {x4 : Int32} {a5 : Nat} {x6 : Int32} {x7 : Int32} {a8 : Nat} {x9 : Int32} {s0 : Int32} {s1 : Int32} : F 8 471 [some (.inr (0, a0)), some (.inr (1, a1)), some (.inl x2), some (.inl x3), some (.inl x4), some (.inr (18, a5)), some (.inl x6), some (.inl x7), some (.inr (27, a8)), some (.inl x9)] [.inl s0, .inl s1] S =
    if s1 ≤ s0 then
      some (some (.inl 0), S)
    else
      F 8 430 [some (.inr (0, a0)), some (.inr (1, a1)), some (.inl x2), some (.inl x3), some (.inl x4), some (.inr (18, a5)), some (.inl x6), some (.inl x7), some (.inr (27, a8)), none] [] S := qm_blk_to hF (pm_stp 8 [0, 7, 23, 45, 50, 66, 70, 78, 84, 98, 117, 131, 148, 169, 183, 240, 252, 271, 283, 286, 306, 324, 333, 351, 362, 370, 423, 428, 430, 437, 447, 453, 463, 471, 490, 504, 528, 556, 569, 585, 598, 610, 616, 625, 631, 648]) 351 rfl
set_option maxRecDepth 100000 in
theorem q8_490 (hF : qm_fix O qt_me qt_qs (qt_C L0 xs) J F) {a0 : Nat} {a1 : Nat} {x2 : Int32} {x3 : Int32} {x4 : Int32} {a5 : Nat} {x6 : Int32} {x7 : Int32} {o8 : Option qm_V} {s0 : Int32} : F 8 490 [some (.inr (0, a0)), some (.inr (1, a1)), some (.inl x2), some (.inl x3), some (.inl x4), some (.inr (18, a5)), some (.inl x6), some (.inl x7), o8, none] [.inl s0] S =
    if (s0 &&& 3) = 3 then
      qm_o O J 132 [.inr (0, a0), .inl x4] S (fun v U => F 8 504 [some (.inr (0, a0)), some (.inr (1, a1)), some (.inl x2), some (.inl x3), some (.inl x4), some (.inr (18, a5)), some (.inl x6), some (.inl x7), o8, none] (v.toList ++ []) U)
    else
      some (some (.inl 0), S) := qm_blk_to hF (pm_stp 8 [0, 7, 23, 45, 50, 66, 70, 78, 84, 98, 117, 131, 148, 169, 183, 240, 252, 271, 283, 286, 306, 324, 333, 351, 362, 370, 423, 428, 430, 437, 447, 453, 463, 471, 490, 504, 528, 556, 569, 585, 598, 610, 616, 625, 631, 648]) 351 rfl
set_option maxRecDepth 100000 in
theorem q8_504 (hF : qm_fix O qt_me qt_qs (qt_C L0 xs) J F) {a0 : Nat} {a1 : Nat} {x2 : Int32} {x3 : Int32} {x4 : Int32} {a5 : Nat} {x6 : Int32} {x7 : Int32} {o8 : Option qm_V} {s0 : Int32} : F 8 504 [some (.inr (0, a0)), some (.inr (1, a1)), some (.inl x2), some (.inl x3), some (.inl x4), some (.inr (18, a5)), some (.inl x6), some (.inl x7), o8, none] [.inl s0] S =
    if s0 < 0 then
      if s0 = 0 then
        qm_o O J 134 [.inr (0, a0), .inl x4, .inl 1] S (fun v U => F 8 556 [some (.inr (0, a0)), some (.inr (1, a1)), some (.inl x2), some (.inl x3), some (.inl x4), some (.inr (18, a5)), some (.inl x6), some (.inl x7), some (.inl s0), none] (v.toList ++ []) U)
      else
        if (x6 &&& 3) = 3 then
          some (some (.inl 0), S)
        else
          qm_o O J 134 [.inr (0, a0), .inl x4, .inl 1] S (fun v U => F 8 556 [some (.inr (0, a0)), some (.inr (1, a1)), some (.inl x2), some (.inl x3), some (.inl x4), some (.inr (18, a5)), some (.inl x6), some (.inl x7), some (.inl s0), none] (v.toList ++ []) U)
    else
      if (s0 &&& x4) = 0 then
        qm_o O J 121 [.inr (0, a0), .inl (x4 ||| s0)] S (fun v U => F 8 528 [some (.inr (0, a0)), some (.inr (1, a1)), some (.inl x2), some (.inl x3), some (.inl x4), some (.inr (18, a5)), some (.inl x6), some (.inl x7), some (.inl s0), none] (v.toList ++ []) U)
      else
        some (some (.inl 0), S) := qm_blk_to hF (pm_stp 8 [0, 7, 23, 45, 50, 66, 70, 78, 84, 98, 117, 131, 148, 169, 183, 240, 252, 271, 283, 286, 306, 324, 333, 351, 362, 370, 423, 428, 430, 437, 447, 453, 463, 471, 490, 504, 528, 556, 569, 585, 598, 610, 616, 625, 631, 648]) 351 rfl
set_option maxRecDepth 100000 in
theorem q8_528 (hF : qm_fix O qt_me qt_qs (qt_C L0 xs) J F) {a0 : Nat} {a1 : Nat} {x2 : Int32} {x3 : Int32} {x4 : Int32} {a5 : Nat} {x6 : Int32} {x7 : Int32} {x8 : Int32} {s0 : Int32} : F 8 528 [some (.inr (0, a0)), some (.inr (1, a1)), some (.inl x2), some (.inl x3), some (.inl x4), some (.inr (18, a5)), some (.inl x6), some (.inl x7), some (.inl x8), none] [.inl s0] S =
    if (s0 &&& 3) = 3 then
      if x8 = 0 then
        qm_o O J 134 [.inr (0, a0), .inl x4, .inl 1] S (fun v U => F 8 556 [some (.inr (0, a0)), some (.inr (1, a1)), some (.inl x2), some (.inl x3), some (.inl x4), some (.inr (18, a5)), some (.inl x6), some (.inl x7), some (.inl x8), none] (v.toList ++ []) U)
      else
        if (x6 &&& 3) = 3 then
          some (some (.inl 0), S)
        else
          qm_o O J 134 [.inr (0, a0), .inl x4, .inl 1] S (fun v U => F 8 556 [some (.inr (0, a0)), some (.inr (1, a1)), some (.inl x2), some (.inl x3), some (.inl x4), some (.inr (18, a5)), some (.inl x6), some (.inl x7), some (.inl x8), none] (v.toList ++ []) U)
    else
      some (some (.inl 0), S) := qm_blk_to hF (pm_stp 8 [0, 7, 23, 45, 50, 66, 70, 78, 84, 98, 117, 131, 148, 169, 183, 240, 252, 271, 283, 286, 306, 324, 333, 351, 362, 370, 423, 428, 430, 437, 447, 453, 463, 471, 490, 504, 528, 556, 569, 585, 598, 610, 616, 625, 631, 648]) 351 rfl
set_option maxRecDepth 100000 in
theorem q8_556 (hF : qm_fix O qt_me qt_qs (qt_C L0 xs) J F) {a0 : Nat} {a1 : Nat} {x2 : Int32} {x3 : Int32} {x4 : Int32} {a5 : Nat} {x6 : Int32} {x7 : Int32} {x8 : Int32} {s0 : Int32} : F 8 556 [some (.inr (0, a0)), some (.inr (1, a1)), some (.inl x2), some (.inl x3), some (.inl x4), some (.inr (18, a5)), some (.inl x6), some (.inl x7), some (.inl x8), none] [.inl s0] S =
    if s0 ≤ 0 then
      F 8 78 [some (.inr (0, a0)), some (.inr (1, a1)), some (.inl x2), some (.inl x3), some (.inl (x4 + 1)), none, none, none, none, none] [] S
    else
      qm_o O J 124 [.inr (0, a0), .inl s0] S (fun v U => F 8 569 [some (.inr (0, a0)), some (.inr (1, a1)), some (.inl x2), some (.inl x3), some (.inl x4), some (.inr (18, a5)), some (.inl x6), some (.inl x7), some (.inl x8), some (.inl s0)] (v.toList ++ []) U) := qm_blk_to hF (pm_stp 8 [0, 7, 23, 45, 50, 66, 70, 78, 84, 98, 117, 131, 148, 169, 183, 240, 252, 271, 283, 286, 306, 324, 333, 351, 362, 370, 423, 428, 430, 437, 447, 453, 463, 471, 490, 504, 528, 556, 569, 585, 598, 610, 616, 625, 631, 648]) 351 rfl
set_option maxRecDepth 100000 in
theorem q8_569 (hF : qm_fix O qt_me qt_qs (qt_C L0 xs) J F) {a0 : Nat} {a1 : Nat} {x2 : Int32} {x3 : Int32} {x4 : Int32} {a5 : Nat} {x6 : Int32} {x7 : Int32} {x8 : Int32} {x9 : Int32} {s0 : Int32} : F 8 569 [some (.inr (0, a0)), some (.inr (1, a1)), some (.inl x2), some (.inl x3), some (.inl x4), some (.inr (18, a5)), some (.inl x6), some (.inl x7), some (.inl x8), some (.inl x9)] [.inl s0] S =
    if s0 = 0 then
      F 8 78 [some (.inr (0, a0)), some (.inr (1, a1)), some (.inl x2), some (.inl x3), some (.inl (x4 + 1)), none, none, none, none, none] [] S
    else
      some (some (.inl 0), S) := qm_blk_to hF (pm_stp 8 [0, 7, 23, 45, 50, 66, 70, 78, 84, 98, 117, 131, 148, 169, 183, 240, 252, 271, 283, 286, 306, 324, 333, 351, 362, 370, 423, 428, 430, 437, 447, 453, 463, 471, 490, 504, 528, 556, 569, 585, 598, 610, 616, 625, 631, 648]) 351 rfl
set_option maxRecDepth 100000 in
theorem q8_585 (hF : qm_fix O qt_me qt_qs (qt_C L0 xs) J F) {a0 : Nat} {a1 : Nat} {x2 : Int32} {x3 : Int32} {x4 : Int32} {s0 : Int32} : F 8 585 [some (.inr (0, a0)), some (.inr (1, a1)), some (.inl x2), some (.inl x3), some (.inl x4), none, none, none, none, none] [.inl s0] S =
    if s0 ≤ 0 then
      if s0 ≤ 0 then
        qm_o O J 135 [.inr (0, a0), .inl 2] S (fun v U => F 8 648 [some (.inr (0, a0)), some (.inr (1, a1)), some (.inl x2), some (.inl x3), some (.inl s0), none, none, none, none, none] (v.toList ++ []) U)
      else
        some (some (.inl 1), S)
    else
      qm_o O J 121 [.inr (0, a0), .inl s0] S (fun v U => F 8 598 [some (.inr (0, a0)), some (.inr (1, a1)), some (.inl x2), some (.inl x3), some (.inl s0), none, none, none, none, none] (v.toList ++ []) U) := qm_blk_to hF (pm_stp 8 [0, 7, 23, 45, 50, 66, 70, 78, 84, 98, 117, 131, 148, 169, 183, 240, 252, 271, 283, 286, 306, 324, 333, 351, 362, 370, 423, 428, 430, 437, 447, 453, 463, 471, 490, 504, 528, 556, 569, 585, 598, 610, 616, 625, 631, 648]) 351 rfl
set_option maxRecDepth 100000 in
theorem q8_598 (hF : qm_fix O qt_me qt_qs (qt_C L0 xs) J F) {a0 : Nat} {a1 : Nat} {x2 : Int32} {x3 : Int32} {x4 : Int32} {s0 : Int32} : F 8 598 [some (.inr (0, a0)), some (.inr (1, a1)), some (.inl x2), some (.inl x3), some (.inl x4), none, none, none, none, none] [.inl s0] S =
    if (s0 &&& 3) = 3 then
      qm_o O J 135 [.inr (0, a0), .inl 1] S (fun v U => F 8 610 [some (.inr (0, a0)), some (.inr (1, a1)), some (.inl x2), some (.inl x3), some (.inl x4), none, none, none, none, none] (v.toList ++ [.inr (0, a0)]) U)
    else
      some (some (.inl 0), S) := qm_blk_to hF (pm_stp 8 [0, 7, 23, 45, 50, 66, 70, 78, 84, 98, 117, 131, 148, 169, 183, 240, 252, 271, 283, 286, 306, 324, 333, 351, 362, 370, 423, 428, 430, 437, 447, 453, 463, 471, 490, 504, 528, 556, 569, 585, 598, 610, 616, 625, 631, 648]) 351 rfl
set_option maxRecDepth 100000 in
theorem q8_610 (hF : qm_fix O qt_me qt_qs (qt_C L0 xs) J F) {a0 : Nat} {a1 : Nat} {x2 : Int32} {x3 : Int32} {x4 : Int32} {s0 : Int32} {b1 : Nat} : F 8 610 [some (.inr (0, a0)), some (.inr (1, a1)), some (.inl x2), some (.inl x3), some (.inl x4), none, none, none, none, none] [.inl s0, .inr (0, b1)] S =
    qm_o O J 136 [.inr (0, b1), .inl (s0 - 1), .inl 2] S (fun v U => F 8 616 [some (.inr (0, a0)), some (.inr (1, a1)), some (.inl x2), some (.inl x3), some (.inl x4), none, none, none, none, none] (v.toList ++ []) U) := qm_blk_to hF (pm_stp 8 [0, 7, 23, 45, 50, 66, 70, 78, 84, 98, 117, 131, 148, 169, 183, 240, 252, 271, 283, 286, 306, 324, 333, 351, 362, 370, 423, 428, 430, 437, 447, 453, 463, 471, 490, 504, 528, 556, 569, 585, 598, 610, 616, 625, 631, 648]) 351 rfl
set_option maxRecDepth 100000 in
theorem q8_616 (hF : qm_fix O qt_me qt_qs (qt_C L0 xs) J F) {a0 : Nat} {a1 : Nat} {x2 : Int32} {x3 : Int32} {x4 : Int32} {s0 : Int32} : F 8 616 [some (.inr (0, a0)), some (.inr (1, a1)), some (.inl x2), some (.inl x3), some (.inl x4), none, none, none, none, none] [.inl s0] S =
    if s0 = 0 then
      qm_o O J 135 [.inr (0, a0), .inl 1] S (fun v U => F 8 625 [some (.inr (0, a0)), some (.inr (1, a1)), some (.inl x2), some (.inl x3), some (.inl x4), none, none, none, none, none] (v.toList ++ [.inr (0, a0)]) U)
    else
      some (some (.inl 0), S) := qm_blk_to hF (pm_stp 8 [0, 7, 23, 45, 50, 66, 70, 78, 84, 98, 117, 131, 148, 169, 183, 240, 252, 271, 283, 286, 306, 324, 333, 351, 362, 370, 423, 428, 430, 437, 447, 453, 463, 471, 490, 504, 528, 556, 569, 585, 598, 610, 616, 625, 631, 648]) 351 rfl
set_option maxRecDepth 100000 in
theorem q8_625 (hF : qm_fix O qt_me qt_qs (qt_C L0 xs) J F) {a0 : Nat} {a1 : Nat} {x2 : Int32} {x3 : Int32} {x4 : Int32} {s0 : Int32} {b1 : Nat} : F 8 625 [some (.inr (0, a0)), some (.inr (1, a1)), some (.inl x2), some (.inl x3), some (.inl x4), none, none, none, none, none] [.inl s0, .inr (0, b1)] S =
    qm_o O J 136 [.inr (0, b1), .inl (s0 - 1), .inl 1] S (fun v U => F 8 631 [some (.inr (0, a0)), some (.inr (1, a1)), some (.inl x2), some (.inl x3), some (.inl x4), none, none, none, none, none] (v.toList ++ []) U) := qm_blk_to hF (pm_stp 8 [0, 7, 23, 45, 50, 66, 70, 78, 84, 98, 117, 131, 148, 169, 183, 240, 252, 271, 283, 286, 306, 324, 333, 351, 362, 370, 423, 428, 430, 437, 447, 453, 463, 471, 490, 504, 528, 556, 569, 585, 598, 610, 616, 625, 631, 648]) 351 rfl
set_option maxRecDepth 100000 in
theorem q8_631 (hF : qm_fix O qt_me qt_qs (qt_C L0 xs) J F) {a0 : Nat} {a1 : Nat} {x2 : Int32} {x3 : Int32} {x4 : Int32} {s0 : Int32} : F 8 631 [some (.inr (0, a0)), some (.inr (1, a1)), some (.inl x2), some (.inl x3), some (.inl x4), none, none, none, none, none] [.inl s0] S =
    if s0 = x4 then
      if x4 ≤ 0 then
        qm_o O J 135 [.inr (0, a0), .inl 2] S (fun v U => F 8 648 [some (.inr (0, a0)), some (.inr (1, a1)), some (.inl x2), some (.inl x3), some (.inl x4), none, none, none, none, none] (v.toList ++ []) U)
      else
        some (some (.inl 1), S)
    else
      some (some (.inl 0), S) := qm_blk_to hF (pm_stp 8 [0, 7, 23, 45, 50, 66, 70, 78, 84, 98, 117, 131, 148, 169, 183, 240, 252, 271, 283, 286, 306, 324, 333, 351, 362, 370, 423, 428, 430, 437, 447, 453, 463, 471, 490, 504, 528, 556, 569, 585, 598, 610, 616, 625, 631, 648]) 351 rfl
set_option maxRecDepth 100000 in
theorem q8_648 (hF : qm_fix O qt_me qt_qs (qt_C L0 xs) J F) {a0 : Nat} {a1 : Nat} {x2 : Int32} {x3 : Int32} {x4 : Int32} {s0 : Int32} : F 8 648 [some (.inr (0, a0)), some (.inr (1, a1)), some (.inl x2), some (.inl x3), some (.inl x4), none, none, none, none, none] [.inl s0] S =
    if s0 = 9 then
      some (some (.inl 1), S)
    else
      some (some (.inl 0), S) := qm_blk_to hF (pm_stp 8 [0, 7, 23, 45, 50, 66, 70, 78, 84, 98, 117, 131, 148, 169, 183, 240, 252, 271, 283, 286, 306, 324, 333, 351, 362, 370, 423, 428, 430, 437, 447, 453, 463, 471, 490, 504, 528, 556, 569, 585, 598, 610, 616, 625, 631, 648]) 351 rfl
-- TurnCabinetLaw.office(LTurnCabinet;LTurnCabinetLaw$World;)Z 0 1
set_option maxRecDepth 100000 in
theorem q7_0 (hF : qm_fix O qt_me qt_qs (qt_C L0 xs) J F) {a0 : Nat} {a1 : Nat} : F 7 0 [some (.inr (0, a0)), some (.inr (1, a1)), none, none, none] [] S =
    qm_o O J 138 [.inr (0, a0), .inl (-1)] S (fun v U => F 7 5 [some (.inr (0, a0)), some (.inr (1, a1)), none, none, none] (v.toList ++ []) U) := qm_blk_to hF (pm_stp 7 [0, 5, 8, 21]) 39 rfl
set_option maxRecDepth 100000 in
theorem q7_5 (hF : qm_fix O qt_me qt_qs (qt_C L0 xs) J F) {a0 : Nat} {a1 : Nat} {s0 : Int32} : F 7 5 [some (.inr (0, a0)), some (.inr (1, a1)), none, none, none] [.inl s0] S =
    F 7 8 [some (.inr (0, a0)), some (.inr (1, a1)), some (.inl s0), some (.inl 0), none] [] S := qm_blk_to hF (pm_stp 7 [0, 5, 8, 21]) 39 rfl
set_option maxRecDepth 100000 in
theorem q7_8 (hF : qm_fix O qt_me qt_qs (qt_C L0 xs) J F) {a0 : Nat} {a1 : Nat} {x2 : Int32} {x3 : Int32} : F 7 8 [some (.inr (0, a0)), some (.inr (1, a1)), some (.inl x2), some (.inl x3), none] [] S =
    if x3 < (qr_i S 1 a1 1) then
      qm_o O J 138 [.inr (0, a0), .inl x3] S (fun v U => F 7 21 [some (.inr (0, a0)), some (.inr (1, a1)), some (.inl x2), some (.inl x3), none] (v.toList ++ []) U)
    else
      some (some (.inl 1), S) := qm_blk_to hF (pm_stp 7 [0, 5, 8, 21]) 39 rfl
set_option maxRecDepth 100000 in
theorem q7_21 (hF : qm_fix O qt_me qt_qs (qt_C L0 xs) J F) {a0 : Nat} {a1 : Nat} {x2 : Int32} {x3 : Int32} {s0 : Int32} : F 7 21 [some (.inr (0, a0)), some (.inr (1, a1)), some (.inl x2), some (.inl x3), none] [.inl s0] S =
    if x2 = 0 then
      if s0 = (-1) then
        F 7 8 [some (.inr (0, a0)), some (.inr (1, a1)), some (.inl x2), some (.inl (x3 + 1)), none] [] S
      else
        some (some (.inl 0), S)
    else
      if s0 < 0 then
        some (some (.inl 0), S)
      else
        if (((x2 : Int32) >>> (s0 &&& 31)) &&& 1) = 0 then
          some (some (.inl 0), S)
        else
          F 7 8 [some (.inr (0, a0)), some (.inr (1, a1)), some (.inl x2), some (.inl (x3 + 1)), none] [] S := qm_blk_to hF (pm_stp 7 [0, 5, 8, 21]) 39 rfl
-- TurnCabinetLaw.law([I)Z 2
set_option maxRecDepth 100000 in
theorem q6_0 (hF : qm_fix O qt_me qt_qs (qt_C L0 xs) J F) {a0 : Nat} : F 6 0 [some (.inr (2, a0)), none, none, none, none, none, none, none, none] [] S =
    qm_k (F 1202 0 [some (.inr (1, S.1)), some (.inr (2, a0)), none, none, none, none, none, none, none, none] [] (qm_mk S 1 17)) (fun v U => F 6 8 [some (.inr (2, a0)), none, none, none, none, none, none, none, none] (v.toList ++ [.inr (1, S.1)]) U) := qm_blk_to hF (pm_stp 6 [0, 8, 16, 22, 32, 40, 52, 59, 73, 80, 91, 109, 124, 146, 184, 193, 209, 218, 254, 287, 310, 320, 337, 346, 364, 369, 401, 410, 420, 431]) 225 rfl
set_option maxRecDepth 100000 in
theorem q6_8 (hF : qm_fix O qt_me qt_qs (qt_C L0 xs) J F) {a0 : Nat} {b0 : Nat} : F 6 8 [some (.inr (2, a0)), none, none, none, none, none, none, none, none] [.inr (1, b0)] S =
    bif (Nat.beq S.1 (1001 + J) && Nat.beq S.2.2.2.2.2.2.1 0) then
      qm_o O J 101 [.inr (0, 6)] (qu_o S) (fun v U => F 6 16 [some (.inr (2, a0)), some (.inr (1, b0)), none, none, none, none, none, none, none] (v.toList ++ [.inr (0, 6)]) U)
    else none := qm_blk_to hF (pm_stp 6 [0, 8, 16, 22, 32, 40, 52, 59, 73, 80, 91, 109, 124, 146, 184, 193, 209, 218, 254, 287, 310, 320, 337, 346, 364, 369, 401, 410, 420, 431]) 225 rfl
set_option maxRecDepth 100000 in
theorem q6_16 (hF : qm_fix O qt_me qt_qs (qt_C L0 xs) J F) {a0 : Nat} {a1 : Nat} {b0 : Nat} : F 6 16 [some (.inr (2, a0)), some (.inr (1, a1)), none, none, none, none, none, none, none] [.inr (0, b0)] S =
    qm_o O J 121 [.inr (0, b0), .inl 1] S (fun v U => F 6 22 [some (.inr (2, a0)), some (.inr (1, a1)), some (.inr (0, b0)), none, none, none, none, none, none] (v.toList ++ []) U) := qm_blk_to hF (pm_stp 6 [0, 8, 16, 22, 32, 40, 52, 59, 73, 80, 91, 109, 124, 146, 184, 193, 209, 218, 254, 287, 310, 320, 337, 346, 364, 369, 401, 410, 420, 431]) 225 rfl
set_option maxRecDepth 100000 in
theorem q6_22 (hF : qm_fix O qt_me qt_qs (qt_C L0 xs) J F) {a0 : Nat} {a1 : Nat} {a2 : Nat} {s0 : Int32} : F 6 22 [some (.inr (2, a0)), some (.inr (1, a1)), some (.inr (0, a2)), none, none, none, none, none, none] [.inl s0] S =
    if s0 = (-1) then
      qm_o O J 137 [.inr (0, a2), .inl 1, .inl 0] S (fun v U => F 6 32 [some (.inr (2, a0)), some (.inr (1, a1)), some (.inr (0, a2)), none, none, none, none, none, none] (v.toList ++ []) U)
    else
      some (some (.inl 0), S) := qm_blk_to hF (pm_stp 6 [0, 8, 16, 22, 32, 40, 52, 59, 73, 80, 91, 109, 124, 146, 184, 193, 209, 218, 254, 287, 310, 320, 337, 346, 364, 369, 401, 410, 420, 431]) 225 rfl
set_option maxRecDepth 100000 in
theorem q6_32 (hF : qm_fix O qt_me qt_qs (qt_C L0 xs) J F) {a0 : Nat} {a1 : Nat} {a2 : Nat} {s0 : Int32} : F 6 32 [some (.inr (2, a0)), some (.inr (1, a1)), some (.inr (0, a2)), none, none, none, none, none, none] [.inl s0] S =
    if s0 = (-1) then
      qm_o O J 145 [.inr (0, a2)] S (fun v U => F 6 40 [some (.inr (2, a0)), some (.inr (1, a1)), some (.inr (0, a2)), none, none, none, none, none, none] (v.toList ++ []) U)
    else
      some (some (.inl 0), S) := qm_blk_to hF (pm_stp 6 [0, 8, 16, 22, 32, 40, 52, 59, 73, 80, 91, 109, 124, 146, 184, 193, 209, 218, 254, 287, 310, 320, 337, 346, 364, 369, 401, 410, 420, 431]) 225 rfl
set_option maxRecDepth 100000 in
theorem q6_40 (hF : qm_fix O qt_me qt_qs (qt_C L0 xs) J F) {a0 : Nat} {a1 : Nat} {a2 : Nat} {s0 : Int32} : F 6 40 [some (.inr (2, a0)), some (.inr (1, a1)), some (.inr (0, a2)), none, none, none, none, none, none] [.inl s0] S =
    if s0 = (-1) then
      bif Nat.blt 0 (qr_g S 1 a1 14) then
        qm_k (F 4 0 [some (.inr (0, a2)), some (.inr (13, (qr_g S 1 a1 14))), none, none, none, none] [] S) (fun v U => F 6 52 [some (.inr (2, a0)), some (.inr (1, a1)), some (.inr (0, a2)), none, none, none, none, none, none] (v.toList ++ []) U)
      else none
    else
      some (some (.inl 0), S) := qm_blk_to hF (pm_stp 6 [0, 8, 16, 22, 32, 40, 52, 59, 73, 80, 91, 109, 124, 146, 184, 193, 209, 218, 254, 287, 310, 320, 337, 346, 364, 369, 401, 410, 420, 431]) 225 rfl
set_option maxRecDepth 100000 in
theorem q6_52 (hF : qm_fix O qt_me qt_qs (qt_C L0 xs) J F) {a0 : Nat} {a1 : Nat} {a2 : Nat} {s0 : Int32} : F 6 52 [some (.inr (2, a0)), some (.inr (1, a1)), some (.inr (0, a2)), none, none, none, none, none, none] [.inl s0] S =
    if s0 = 0 then
      some (some (.inl 0), S)
    else
      qm_o O J 104 [.inr (0, a2)] S (fun v U => F 6 59 [some (.inr (2, a0)), some (.inr (1, a1)), some (.inr (0, a2)), none, none, none, none, none, none] (v.toList ++ []) U) := qm_blk_to hF (pm_stp 6 [0, 8, 16, 22, 32, 40, 52, 59, 73, 80, 91, 109, 124, 146, 184, 193, 209, 218, 254, 287, 310, 320, 337, 346, 364, 369, 401, 410, 420, 431]) 225 rfl
set_option maxRecDepth 100000 in
theorem q6_59 (hF : qm_fix O qt_me qt_qs (qt_C L0 xs) J F) {a0 : Nat} {a1 : Nat} {a2 : Nat} {s0 : Int32} : F 6 59 [some (.inr (2, a0)), some (.inr (1, a1)), some (.inr (0, a2)), none, none, none, none, none, none] [.inl s0] S =
    if s0 = (qr_i S 1 a1 0) then
      qm_k (F 5 0 [some (.inr (0, a2)), some (.inr (1, a1)), none, none, none] [] S) (fun v U => F 6 73 [some (.inr (2, a0)), some (.inr (1, a1)), some (.inr (0, a2)), none, none, none, none, none, none] (v.toList ++ []) U)
    else
      some (some (.inl 0), S) := qm_blk_to hF (pm_stp 6 [0, 8, 16, 22, 32, 40, 52, 59, 73, 80, 91, 109, 124, 146, 184, 193, 209, 218, 254, 287, 310, 320, 337, 346, 364, 369, 401, 410, 420, 431]) 225 rfl
set_option maxRecDepth 100000 in
theorem q6_73 (hF : qm_fix O qt_me qt_qs (qt_C L0 xs) J F) {a0 : Nat} {a1 : Nat} {a2 : Nat} {b0 : Nat} : F 6 73 [some (.inr (2, a0)), some (.inr (1, a1)), some (.inr (0, a2)), none, none, none, none, none, none] [.inr (22, b0)] S =
    F 6 80 [some (.inr (2, a0)), some (.inr (1, a1)), some (.inr (0, a2)), some (.inr (22, b0)), some (.inl 0), some (.inl 0), none, none, none] [] S := qm_blk_to hF (pm_stp 6 [0, 8, 16, 22, 32, 40, 52, 59, 73, 80, 91, 109, 124, 146, 184, 193, 209, 218, 254, 287, 310, 320, 337, 346, 364, 369, 401, 410, 420, 431]) 225 rfl
set_option maxRecDepth 100000 in
theorem q6_80 (hF : qm_fix O qt_me qt_qs (qt_C L0 xs) J F) {a0 : Nat} {a1 : Nat} {a2 : Nat} {a3 : Nat} {x4 : Int32} {x5 : Int32} : F 6 80 [some (.inr (2, a0)), some (.inr (1, a1)), some (.inr (0, a2)), some (.inr (22, a3)), some (.inl x4), some (.inl x5), none, none, none] [] S =
    if x5 < 5 then
      qm_k (F 8 0 [some (.inr (0, a2)), some (.inr (1, a1)), none, none, none, none, none, none, none, none] [] S) (fun v U => F 6 91 [some (.inr (2, a0)), some (.inr (1, a1)), some (.inr (0, a2)), some (.inr (22, a3)), some (.inl x4), some (.inl x5), none, none, none] (v.toList ++ []) U)
    else
      F 6 337 [some (.inr (2, a0)), some (.inr (1, a1)), some (.inr (0, a2)), some (.inr (22, a3)), some (.inl x4), some (.inl (x4 - 1)), none, none, none] [] S := qm_blk_to hF (pm_stp 6 [0, 8, 16, 22, 32, 40, 52, 59, 73, 80, 91, 109, 124, 146, 184, 193, 209, 218, 254, 287, 310, 320, 337, 346, 364, 369, 401, 410, 420, 431]) 225 rfl
set_option maxRecDepth 100000 in
theorem q6_91 (hF : qm_fix O qt_me qt_qs (qt_C L0 xs) J F) {a0 : Nat} {a1 : Nat} {a2 : Nat} {a3 : Nat} {x4 : Int32} {x5 : Int32} {s0 : Int32} : F 6 91 [some (.inr (2, a0)), some (.inr (1, a1)), some (.inr (0, a2)), some (.inr (22, a3)), some (.inl x4), some (.inl x5), none, none, none] [.inl s0] S =
    if s0 = 0 then
      some (some (.inl 0), S)
    else
      qm_k (F 3 0 [some (.inr (2, a0)), some (.inl (300 + x5)), some (.inl 1000)] [] S) (fun v U => F 6 109 [some (.inr (2, a0)), some (.inr (1, a1)), some (.inr (0, a2)), some (.inr (22, a3)), some (.inl x4), some (.inl x5), none, none, none] (v.toList ++ []) U) := qm_blk_to hF (pm_stp 6 [0, 8, 16, 22, 32, 40, 52, 59, 73, 80, 91, 109, 124, 146, 184, 193, 209, 218, 254, 287, 310, 320, 337, 346, 364, 369, 401, 410, 420, 431]) 225 rfl
set_option maxRecDepth 100000 in
theorem q6_109 (hF : qm_fix O qt_me qt_qs (qt_C L0 xs) J F) {a0 : Nat} {a1 : Nat} {a2 : Nat} {a3 : Nat} {x4 : Int32} {x5 : Int32} {s0 : Int32} : F 6 109 [some (.inr (2, a0)), some (.inr (1, a1)), some (.inr (0, a2)), some (.inr (22, a3)), some (.inl x4), some (.inl x5), none, none, none] [.inl s0] S =
    qm_k (F 3 0 [some (.inr (2, a0)), some (.inl (310 + x5)), some (.inl 1000)] [] S) (fun v U => F 6 124 [some (.inr (2, a0)), some (.inr (1, a1)), some (.inr (0, a2)), some (.inr (22, a3)), some (.inl x4), some (.inl x5), some (.inl s0), none, none] (v.toList ++ []) U) := qm_blk_to hF (pm_stp 6 [0, 8, 16, 22, 32, 40, 52, 59, 73, 80, 91, 109, 124, 146, 184, 193, 209, 218, 254, 287, 310, 320, 337, 346, 364, 369, 401, 410, 420, 431]) 225 rfl
set_option maxRecDepth 100000 in
theorem q6_124 (hF : qm_fix O qt_me qt_qs (qt_C L0 xs) J F) {a0 : Nat} {a1 : Nat} {a2 : Nat} {a3 : Nat} {x4 : Int32} {x5 : Int32} {x6 : Int32} {s0 : Int32} : F 6 124 [some (.inr (2, a0)), some (.inr (1, a1)), some (.inr (0, a2)), some (.inr (22, a3)), some (.inl x4), some (.inl x5), some (.inl x6), none, none] [.inl s0] S =
    if x5 = 0 then
      F 6 146 [some (.inr (2, a0)), some (.inr (1, a1)), some (.inr (0, a2)), some (.inr (22, a3)), some (.inl x4), some (.inl x5), some (.inl x6), some (.inl s0), none] [.inl 0] S
    else
      qm_k (F 3 0 [some (.inr (2, a0)), some (.inl (320 + x5)), some (.inl 5)] [] S) (fun v U => F 6 146 [some (.inr (2, a0)), some (.inr (1, a1)), some (.inr (0, a2)), some (.inr (22, a3)), some (.inl x4), some (.inl x5), some (.inl x6), some (.inl s0), none] (v.toList ++ []) U) := qm_blk_to hF (pm_stp 6 [0, 8, 16, 22, 32, 40, 52, 59, 73, 80, 91, 109, 124, 146, 184, 193, 209, 218, 254, 287, 310, 320, 337, 346, 364, 369, 401, 410, 420, 431]) 225 rfl
set_option maxRecDepth 100000 in
theorem q6_146 (hF : qm_fix O qt_me qt_qs (qt_C L0 xs) J F) {a0 : Nat} {a1 : Nat} {a2 : Nat} {a3 : Nat} {x4 : Int32} {x5 : Int32} {x6 : Int32} {x7 : Int32} {s0 : Int32} : F 6 146 [some (.inr (2, a0)), some (.inr (1, a1)), some (.inr (0, a2)), some (.inr (22, a3)), some (.inl x4), some (.inl x5), some (.inl x6), some (.inl x7), none] [.inl s0] S =
    if s0 = nI 0 then
      qm_k (F 1203 0 [some (.inr (1, a1))] [] S) (fun v U => F 6 184 [some (.inr (2, a0)), some (.inr (1, a1)), some (.inr (0, a2)), some (.inr (22, a3)), some (.inl x4), some (.inl x5), some (.inl x6), some (.inl x7), none] (v.toList ++ [.inl x6, .inl 1, .inr (0, a2)]) U)
    else
    if s0 = nI 1 then
      bif !(decide ((qr_i S 1 a1 0) = 0)) then
        qm_o O J 139 [.inr (0, a2), .inl (x6 - x6 / (qr_i S 1 a1 0) * (qr_i S 1 a1 0))] S (fun v U => F 6 209 [some (.inr (2, a0)), some (.inr (1, a1)), some (.inr (0, a2)), some (.inr (22, a3)), some (.inl x4), some (.inl x5), some (.inl x6), some (.inl x7), none] (v.toList ++ []) U)
      else none
    else
    if s0 = nI 2 then
      qm_o O J 141 [.inr (0, a2)] S (fun v U => F 6 218 [some (.inr (2, a0)), some (.inr (1, a1)), some (.inr (0, a2)), some (.inr (22, a3)), some (.inl x4), some (.inl x5), some (.inl x6), some (.inl x7), none] (v.toList ++ []) U)
    else
    if s0 = nI 3 then
      if (qr_i S 1 a1 1) = 0 then
        if ((-1) : Int32) < 0 then
          qm_o O J 108 [.inr (0, a2), .inl 7] S (fun v U => F 6 310 [some (.inr (2, a0)), some (.inr (1, a1)), some (.inr (0, a2)), some (.inr (22, a3)), some (.inl (x4 + 0)), some (.inl x5), some (.inl x6), some (.inl x7), some (.inl (-1))] (v.toList ++ []) U)
        else
          qm_o O J 108 [.inr (0, a2), .inl 7] S (fun v U => F 6 310 [some (.inr (2, a0)), some (.inr (1, a1)), some (.inr (0, a2)), some (.inr (22, a3)), some (.inl (x4 + 1)), some (.inl x5), some (.inl x6), some (.inl x7), some (.inl (-1))] (v.toList ++ []) U)
      else
        bif !(decide ((qr_i S 1 a1 1) = 0)) then
          bif !(decide ((qr_i S 1 a1 1) = 0)) then
            qm_o O J 142 [.inr (0, a2), .inl (x6 - x6 / (qr_i S 1 a1 1) * (qr_i S 1 a1 1)), .inl (x7 - x7 / (qr_i S 1 a1 1) * (qr_i S 1 a1 1))] S (fun v U => F 6 254 [some (.inr (2, a0)), some (.inr (1, a1)), some (.inr (0, a2)), some (.inr (22, a3)), some (.inl x4), some (.inl x5), some (.inl x6), some (.inl x7), none] (v.toList ++ []) U)
          else none
        else none
    else
    bif !(decide ((qr_i S 1 a1 0) = 0)) then
      bif !(decide ((50 : Int32) = 0)) then
        qm_o O J 143 [.inr (0, a2), .inl (x6 - x6 / (qr_i S 1 a1 0) * (qr_i S 1 a1 0)), .inl (1 + (x7 - x7 / 50 * 50))] S (fun v U => F 6 287 [some (.inr (2, a0)), some (.inr (1, a1)), some (.inr (0, a2)), some (.inr (22, a3)), some (.inl x4), some (.inl x5), some (.inl x6), some (.inl x7), none] (v.toList ++ []) U)
      else none
    else none := qm_blk_to hF (pm_stp 6 [0, 8, 16, 22, 32, 40, 52, 59, 73, 80, 91, 109, 124, 146, 184, 193, 209, 218, 254, 287, 310, 320, 337, 346, 364, 369, 401, 410, 420, 431]) 225 rfl
set_option maxRecDepth 100000 in
theorem q6_184 (hF : qm_fix O qt_me qt_qs (qt_C L0 xs) J F) {a0 : Nat} {a1 : Nat} {a2 : Nat} {a3 : Nat} {x4 : Int32} {x5 : Int32} {x6 : Int32} {x7 : Int32} {s0 : Int32} {s1 : Int32} {s2 : Int32} {b3 : Nat} : F 6 184 [some (.inr (2, a0)), some (.inr (1, a1)), some (.inr (0, a2)), some (.inr (22, a3)), some (.inl x4), some (.inl x5), some (.inl x6), some (.inl x7), none] [.inl s0, .inl s1, .inl s2, .inr (0, b3)] S =
    bif !(decide (s0 = 0)) then
      bif !(decide ((3 : Int32) = 0)) then
        qm_o O J 137 [.inr (0, b3), .inl (s2 + (s1 - s1 / s0 * s0)), .inl (x7 - x7 / 3 * 3)] S (fun v U => F 6 193 [some (.inr (2, a0)), some (.inr (1, a1)), some (.inr (0, a2)), some (.inr (22, a3)), some (.inl x4), some (.inl x5), some (.inl x6), some (.inl x7), none] (v.toList ++ []) U)
      else none
    else none := qm_blk_to hF (pm_stp 6 [0, 8, 16, 22, 32, 40, 52, 59, 73, 80, 91, 109, 124, 146, 184, 193, 209, 218, 254, 287, 310, 320, 337, 346, 364, 369, 401, 410, 420, 431]) 225 rfl
set_option maxRecDepth 100000 in
theorem q6_193 (hF : qm_fix O qt_me qt_qs (qt_C L0 xs) J F) {a0 : Nat} {a1 : Nat} {a2 : Nat} {a3 : Nat} {x4 : Int32} {x5 : Int32} {x6 : Int32} {x7 : Int32} {s0 : Int32} : F 6 193 [some (.inr (2, a0)), some (.inr (1, a1)), some (.inr (0, a2)), some (.inr (22, a3)), some (.inl x4), some (.inl x5), some (.inl x6), some (.inl x7), none] [.inl s0] S =
    if s0 < 0 then
      qm_o O J 108 [.inr (0, a2), .inl 7] S (fun v U => F 6 310 [some (.inr (2, a0)), some (.inr (1, a1)), some (.inr (0, a2)), some (.inr (22, a3)), some (.inl (x4 + 0)), some (.inl x5), some (.inl x6), some (.inl x7), some (.inl s0)] (v.toList ++ []) U)
    else
      qm_o O J 108 [.inr (0, a2), .inl 7] S (fun v U => F 6 310 [some (.inr (2, a0)), some (.inr (1, a1)), some (.inr (0, a2)), some (.inr (22, a3)), some (.inl (x4 + 1)), some (.inl x5), some (.inl x6), some (.inl x7), some (.inl s0)] (v.toList ++ []) U) := qm_blk_to hF (pm_stp 6 [0, 8, 16, 22, 32, 40, 52, 59, 73, 80, 91, 109, 124, 146, 184, 193, 209, 218, 254, 287, 310, 320, 337, 346, 364, 369, 401, 410, 420, 431]) 225 rfl
set_option maxRecDepth 100000 in
theorem q6_209 (hF : qm_fix O qt_me qt_qs (qt_C L0 xs) J F) {a0 : Nat} {a1 : Nat} {a2 : Nat} {a3 : Nat} {x4 : Int32} {x5 : Int32} {x6 : Int32} {x7 : Int32} {s0 : Int32} : F 6 209 [some (.inr (2, a0)), some (.inr (1, a1)), some (.inr (0, a2)), some (.inr (22, a3)), some (.inl x4), some (.inl x5), some (.inl x6), some (.inl x7), none] [.inl s0] S =
    if s0 < 0 then
      qm_o O J 108 [.inr (0, a2), .inl 7] S (fun v U => F 6 310 [some (.inr (2, a0)), some (.inr (1, a1)), some (.inr (0, a2)), some (.inr (22, a3)), some (.inl (x4 + 0)), some (.inl x5), some (.inl x6), some (.inl x7), some (.inl s0)] (v.toList ++ []) U)
    else
      qm_o O J 108 [.inr (0, a2), .inl 7] S (fun v U => F 6 310 [some (.inr (2, a0)), some (.inr (1, a1)), some (.inr (0, a2)), some (.inr (22, a3)), some (.inl (x4 + 1)), some (.inl x5), some (.inl x6), some (.inl x7), some (.inl s0)] (v.toList ++ []) U) := qm_blk_to hF (pm_stp 6 [0, 8, 16, 22, 32, 40, 52, 59, 73, 80, 91, 109, 124, 146, 184, 193, 209, 218, 254, 287, 310, 320, 337, 346, 364, 369, 401, 410, 420, 431]) 225 rfl
set_option maxRecDepth 100000 in
theorem q6_218 (hF : qm_fix O qt_me qt_qs (qt_C L0 xs) J F) {a0 : Nat} {a1 : Nat} {a2 : Nat} {a3 : Nat} {x4 : Int32} {x5 : Int32} {x6 : Int32} {x7 : Int32} {s0 : Int32} : F 6 218 [some (.inr (2, a0)), some (.inr (1, a1)), some (.inr (0, a2)), some (.inr (22, a3)), some (.inl x4), some (.inl x5), some (.inl x6), some (.inl x7), none] [.inl s0] S =
    if (s0 - 1) < 0 then
      qm_o O J 108 [.inr (0, a2), .inl 7] S (fun v U => F 6 310 [some (.inr (2, a0)), some (.inr (1, a1)), some (.inr (0, a2)), some (.inr (22, a3)), some (.inl (x4 + 0)), some (.inl x5), some (.inl x6), some (.inl x7), some (.inl (s0 - 1))] (v.toList ++ []) U)
    else
      qm_o O J 108 [.inr (0, a2), .inl 7] S (fun v U => F 6 310 [some (.inr (2, a0)), some (.inr (1, a1)), some (.inr (0, a2)), some (.inr (22, a3)), some (.inl (x4 + 1)), some (.inl x5), some (.inl x6), some (.inl x7), some (.inl (s0 - 1))] (v.toList ++ []) U) := qm_blk_to hF (pm_stp 6 [0, 8, 16, 22, 32, 40, 52, 59, 73, 80, 91, 109, 124, 146, 184, 193, 209, 218, 254, 287, 310, 320, 337, 346, 364, 369, 401, 410, 420, 431]) 225 rfl
set_option maxRecDepth 100000 in
theorem q6_254 (hF : qm_fix O qt_me qt_qs (qt_C L0 xs) J F) {a0 : Nat} {a1 : Nat} {a2 : Nat} {a3 : Nat} {x4 : Int32} {x5 : Int32} {x6 : Int32} {x7 : Int32} {s0 : Int32} : F 6 254 [some (.inr (2, a0)), some (.inr (1, a1)), some (.inr (0, a2)), some (.inr (22, a3)), some (.inl x4), some (.inl x5), some (.inl x6), some (.inl x7), none] [.inl s0] S =
    if s0 = (-1000000) then
      if ((-1) : Int32) < 0 then
        qm_o O J 108 [.inr (0, a2), .inl 7] S (fun v U => F 6 310 [some (.inr (2, a0)), some (.inr (1, a1)), some (.inr (0, a2)), some (.inr (22, a3)), some (.inl (x4 + 0)), some (.inl x5), some (.inl x6), some (.inl x7), some (.inl (-1))] (v.toList ++ []) U)
      else
        qm_o O J 108 [.inr (0, a2), .inl 7] S (fun v U => F 6 310 [some (.inr (2, a0)), some (.inr (1, a1)), some (.inr (0, a2)), some (.inr (22, a3)), some (.inl (x4 + 1)), some (.inl x5), some (.inl x6), some (.inl x7), some (.inl (-1))] (v.toList ++ []) U)
    else
      if (0 : Int32) < 0 then
        qm_o O J 108 [.inr (0, a2), .inl 7] S (fun v U => F 6 310 [some (.inr (2, a0)), some (.inr (1, a1)), some (.inr (0, a2)), some (.inr (22, a3)), some (.inl (x4 + 0)), some (.inl x5), some (.inl x6), some (.inl x7), some (.inl 0)] (v.toList ++ []) U)
      else
        qm_o O J 108 [.inr (0, a2), .inl 7] S (fun v U => F 6 310 [some (.inr (2, a0)), some (.inr (1, a1)), some (.inr (0, a2)), some (.inr (22, a3)), some (.inl (x4 + 1)), some (.inl x5), some (.inl x6), some (.inl x7), some (.inl 0)] (v.toList ++ []) U) := qm_blk_to hF (pm_stp 6 [0, 8, 16, 22, 32, 40, 52, 59, 73, 80, 91, 109, 124, 146, 184, 193, 209, 218, 254, 287, 310, 320, 337, 346, 364, 369, 401, 410, 420, 431]) 225 rfl
set_option maxRecDepth 100000 in
theorem q6_287 (hF : qm_fix O qt_me qt_qs (qt_C L0 xs) J F) {a0 : Nat} {a1 : Nat} {a2 : Nat} {a3 : Nat} {x4 : Int32} {x5 : Int32} {x6 : Int32} {x7 : Int32} {s0 : Int32} : F 6 287 [some (.inr (2, a0)), some (.inr (1, a1)), some (.inr (0, a2)), some (.inr (22, a3)), some (.inl x4), some (.inl x5), some (.inl x6), some (.inl x7), none] [.inl s0] S =
    if s0 < 0 then
      qm_o O J 108 [.inr (0, a2), .inl 7] S (fun v U => F 6 310 [some (.inr (2, a0)), some (.inr (1, a1)), some (.inr (0, a2)), some (.inr (22, a3)), some (.inl (x4 + 0)), some (.inl x5), some (.inl x6), some (.inl x7), some (.inl s0)] (v.toList ++ []) U)
    else
      qm_o O J 108 [.inr (0, a2), .inl 7] S (fun v U => F 6 310 [some (.inr (2, a0)), some (.inr (1, a1)), some (.inr (0, a2)), some (.inr (22, a3)), some (.inl (x4 + 1)), some (.inl x5), some (.inl x6), some (.inl x7), some (.inl s0)] (v.toList ++ []) U) := qm_blk_to hF (pm_stp 6 [0, 8, 16, 22, 32, 40, 52, 59, 73, 80, 91, 109, 124, 146, 184, 193, 209, 218, 254, 287, 310, 320, 337, 346, 364, 369, 401, 410, 420, 431]) 225 rfl
set_option maxRecDepth 100000 in
theorem q6_310 (hF : qm_fix O qt_me qt_qs (qt_C L0 xs) J F) {a0 : Nat} {a1 : Nat} {a2 : Nat} {a3 : Nat} {x4 : Int32} {x5 : Int32} {x6 : Int32} {x7 : Int32} {x8 : Int32} {s0 : Int32} : F 6 310 [some (.inr (2, a0)), some (.inr (1, a1)), some (.inr (0, a2)), some (.inr (22, a3)), some (.inl x4), some (.inl x5), some (.inl x6), some (.inl x7), some (.inl x8)] [.inl s0] S =
    if s0 = x4 then
      qm_k (F 7 0 [some (.inr (0, a2)), some (.inr (1, a1)), none, none, none] [] S) (fun v U => F 6 320 [some (.inr (2, a0)), some (.inr (1, a1)), some (.inr (0, a2)), some (.inr (22, a3)), some (.inl x4), some (.inl x5), some (.inl x6), some (.inl x7), some (.inl x8)] (v.toList ++ []) U)
    else
      some (some (.inl 0), S) := qm_blk_to hF (pm_stp 6 [0, 8, 16, 22, 32, 40, 52, 59, 73, 80, 91, 109, 124, 146, 184, 193, 209, 218, 254, 287, 310, 320, 337, 346, 364, 369, 401, 410, 420, 431]) 225 rfl
set_option maxRecDepth 100000 in
theorem q6_320 (hF : qm_fix O qt_me qt_qs (qt_C L0 xs) J F) {a0 : Nat} {a1 : Nat} {a2 : Nat} {a3 : Nat} {x4 : Int32} {x5 : Int32} {x6 : Int32} {x7 : Int32} {x8 : Int32} {s0 : Int32} : F 6 320 [some (.inr (2, a0)), some (.inr (1, a1)), some (.inr (0, a2)), some (.inr (22, a3)), some (.inl x4), some (.inl x5), some (.inl x6), some (.inl x7), some (.inl x8)] [.inl s0] S =
    if s0 = 0 then
      some (some (.inl 0), S)
    else
      F 6 80 [some (.inr (2, a0)), some (.inr (1, a1)), some (.inr (0, a2)), some (.inr (22, a3)), some (.inl x4), some (.inl (x5 + 1)), none, none, none] [] S := qm_blk_to hF (pm_stp 6 [0, 8, 16, 22, 32, 40, 52, 59, 73, 80, 91, 109, 124, 146, 184, 193, 209, 218, 254, 287, 310, 320, 337, 346, 364, 369, 401, 410, 420, 431]) 225 rfl
set_option maxRecDepth 100000 in
theorem q6_337 (hF : qm_fix O qt_me qt_qs (qt_C L0 xs) J F) {a0 : Nat} {a1 : Nat} {a2 : Nat} {a3 : Nat} {x4 : Int32} {x5 : Int32} : F 6 337 [some (.inr (2, a0)), some (.inr (1, a1)), some (.inr (0, a2)), some (.inr (22, a3)), some (.inl x4), some (.inl x5), none, none, none] [] S =
    if x5 < 0 then
      qm_k (F 5 0 [some (.inr (0, a2)), some (.inr (1, a1)), none, none, none] [] S) (fun v U => F 6 364 [some (.inr (2, a0)), some (.inr (1, a1)), some (.inr (0, a2)), some (.inr (22, a3)), some (.inl x4), some (.inl x5), none, none, none] (v.toList ++ []) U)
    else
      qm_o O J 145 [.inr (0, a2)] S (fun v U => F 6 346 [some (.inr (2, a0)), some (.inr (1, a1)), some (.inr (0, a2)), some (.inr (22, a3)), some (.inl x4), some (.inl x5), none, none, none] (v.toList ++ []) U) := qm_blk_to hF (pm_stp 6 [0, 8, 16, 22, 32, 40, 52, 59, 73, 80, 91, 109, 124, 146, 184, 193, 209, 218, 254, 287, 310, 320, 337, 346, 364, 369, 401, 410, 420, 431]) 225 rfl
set_option maxRecDepth 100000 in
theorem q6_346 (hF : qm_fix O qt_me qt_qs (qt_C L0 xs) J F) {a0 : Nat} {a1 : Nat} {a2 : Nat} {a3 : Nat} {x4 : Int32} {x5 : Int32} {s0 : Int32} : F 6 346 [some (.inr (2, a0)), some (.inr (1, a1)), some (.inr (0, a2)), some (.inr (22, a3)), some (.inl x4), some (.inl x5), none, none, none] [.inl s0] S =
    if s0 = x5 then
      F 6 337 [some (.inr (2, a0)), some (.inr (1, a1)), some (.inr (0, a2)), some (.inr (22, a3)), some (.inl x4), some (.inl (x5 + (-1))), none, none, none] [] S
    else
      some (some (.inl 0), S) := qm_blk_to hF (pm_stp 6 [0, 8, 16, 22, 32, 40, 52, 59, 73, 80, 91, 109, 124, 146, 184, 193, 209, 218, 254, 287, 310, 320, 337, 346, 364, 369, 401, 410, 420, 431]) 225 rfl
set_option maxRecDepth 100000 in
theorem q6_364 (hF : qm_fix O qt_me qt_qs (qt_C L0 xs) J F) {a0 : Nat} {a1 : Nat} {a2 : Nat} {a3 : Nat} {x4 : Int32} {x5 : Int32} {b0 : Nat} : F 6 364 [some (.inr (2, a0)), some (.inr (1, a1)), some (.inr (0, a2)), some (.inr (22, a3)), some (.inl x4), some (.inl x5), none, none, none] [.inr (22, b0)] S =
    F 6 369 [some (.inr (2, a0)), some (.inr (1, a1)), some (.inr (0, a2)), some (.inr (22, a3)), some (.inl x4), some (.inr (22, b0)), some (.inl 0), none, none] [] S := qm_blk_to hF (pm_stp 6 [0, 8, 16, 22, 32, 40, 52, 59, 73, 80, 91, 109, 124, 146, 184, 193, 209, 218, 254, 287, 310, 320, 337, 346, 364, 369, 401, 410, 420, 431]) 225 rfl
set_option maxRecDepth 100000 in
theorem q6_369 (hF : qm_fix O qt_me qt_qs (qt_C L0 xs) J F) {a0 : Nat} {a1 : Nat} {a2 : Nat} {a3 : Nat} {x4 : Int32} {a5 : Nat} {x6 : Int32} : F 6 369 [some (.inr (2, a0)), some (.inr (1, a1)), some (.inr (0, a2)), some (.inr (22, a3)), some (.inl x4), some (.inr (22, a5)), some (.inl x6), none, none] [] S =
    if x6 < (nI (qr_n S a5)) then
      bif pm_ib x6 (qr_n S a5) then
        bif pm_ib x6 (qr_n S a3) then
          if (qr_i S 22 a5 (Int32.toNatClampNeg x6)) = (qr_i S 22 a3 (Int32.toNatClampNeg x6)) then
            F 6 369 [some (.inr (2, a0)), some (.inr (1, a1)), some (.inr (0, a2)), some (.inr (22, a3)), some (.inl x4), some (.inr (22, a5)), some (.inl (x6 + 1)), none, none] [] S
          else
            some (some (.inl 0), S)
        else none
      else none
    else
      qm_o O J 145 [.inr (0, a2)] S (fun v U => F 6 401 [some (.inr (2, a0)), some (.inr (1, a1)), some (.inr (0, a2)), some (.inr (22, a3)), some (.inl x4), some (.inr (22, a5)), some (.inl x6), none, none] (v.toList ++ []) U) := qm_blk_to hF (pm_stp 6 [0, 8, 16, 22, 32, 40, 52, 59, 73, 80, 91, 109, 124, 146, 184, 193, 209, 218, 254, 287, 310, 320, 337, 346, 364, 369, 401, 410, 420, 431]) 225 rfl
set_option maxRecDepth 100000 in
theorem q6_401 (hF : qm_fix O qt_me qt_qs (qt_C L0 xs) J F) {a0 : Nat} {a1 : Nat} {a2 : Nat} {a3 : Nat} {x4 : Int32} {a5 : Nat} {x6 : Int32} {s0 : Int32} : F 6 401 [some (.inr (2, a0)), some (.inr (1, a1)), some (.inr (0, a2)), some (.inr (22, a3)), some (.inl x4), some (.inr (22, a5)), some (.inl x6), none, none] [.inl s0] S =
    if s0 = (-1) then
      qm_o O J 139 [.inr (0, a2), .inl (-1)] S (fun v U => F 6 410 [some (.inr (2, a0)), some (.inr (1, a1)), some (.inr (0, a2)), some (.inr (22, a3)), some (.inl x4), some (.inr (22, a5)), some (.inl x6), none, none] (v.toList ++ []) U)
    else
      some (some (.inl 0), S) := qm_blk_to hF (pm_stp 6 [0, 8, 16, 22, 32, 40, 52, 59, 73, 80, 91, 109, 124, 146, 184, 193, 209, 218, 254, 287, 310, 320, 337, 346, 364, 369, 401, 410, 420, 431]) 225 rfl
set_option maxRecDepth 100000 in
theorem q6_410 (hF : qm_fix O qt_me qt_qs (qt_C L0 xs) J F) {a0 : Nat} {a1 : Nat} {a2 : Nat} {a3 : Nat} {x4 : Int32} {a5 : Nat} {x6 : Int32} {s0 : Int32} : F 6 410 [some (.inr (2, a0)), some (.inr (1, a1)), some (.inr (0, a2)), some (.inr (22, a3)), some (.inl x4), some (.inr (22, a5)), some (.inl x6), none, none] [.inl s0] S =
    if s0 = (-1) then
      qm_o O J 142 [.inr (0, a2), .inl 0, .inl 0] S (fun v U => F 6 420 [some (.inr (2, a0)), some (.inr (1, a1)), some (.inr (0, a2)), some (.inr (22, a3)), some (.inl x4), some (.inr (22, a5)), some (.inl x6), none, none] (v.toList ++ []) U)
    else
      some (some (.inl 0), S) := qm_blk_to hF (pm_stp 6 [0, 8, 16, 22, 32, 40, 52, 59, 73, 80, 91, 109, 124, 146, 184, 193, 209, 218, 254, 287, 310, 320, 337, 346, 364, 369, 401, 410, 420, 431]) 225 rfl
set_option maxRecDepth 100000 in
theorem q6_420 (hF : qm_fix O qt_me qt_qs (qt_C L0 xs) J F) {a0 : Nat} {a1 : Nat} {a2 : Nat} {a3 : Nat} {x4 : Int32} {a5 : Nat} {x6 : Int32} {s0 : Int32} : F 6 420 [some (.inr (2, a0)), some (.inr (1, a1)), some (.inr (0, a2)), some (.inr (22, a3)), some (.inl x4), some (.inr (22, a5)), some (.inl x6), none, none] [.inl s0] S =
    if s0 = (-1000000) then
      qm_o O J 143 [.inr (0, a2), .inl 0, .inl 0] S (fun v U => F 6 431 [some (.inr (2, a0)), some (.inr (1, a1)), some (.inr (0, a2)), some (.inr (22, a3)), some (.inl x4), some (.inr (22, a5)), some (.inl x6), none, none] (v.toList ++ []) U)
    else
      some (some (.inl 0), S) := qm_blk_to hF (pm_stp 6 [0, 8, 16, 22, 32, 40, 52, 59, 73, 80, 91, 109, 124, 146, 184, 193, 209, 218, 254, 287, 310, 320, 337, 346, 364, 369, 401, 410, 420, 431]) 225 rfl
set_option maxRecDepth 100000 in
theorem q6_431 (hF : qm_fix O qt_me qt_qs (qt_C L0 xs) J F) {a0 : Nat} {a1 : Nat} {a2 : Nat} {a3 : Nat} {x4 : Int32} {a5 : Nat} {x6 : Int32} {s0 : Int32} : F 6 431 [some (.inr (2, a0)), some (.inr (1, a1)), some (.inr (0, a2)), some (.inr (22, a3)), some (.inl x4), some (.inr (22, a5)), some (.inl x6), none, none] [.inl s0] S =
    if s0 = (-1) then
      some (some (.inl 1), S)
    else
      some (some (.inl 0), S) := qm_blk_to hF (pm_stp 6 [0, 8, 16, 22, 32, 40, 52, 59, 73, 80, 91, 109, 124, 146, 184, 193, 209, 218, 254, 287, 310, 320, 337, 346, 364, 369, 401, 410, 420, 431]) 225 rfl
end
