/-! ===== printed by gen/eqs.py: what the methods do between cuts ===== -/
section
variable {F : pm_F} {L0 : Nat} {xs : Nat → Int32} {I : Nat → Nat → Int32} {L : Nat → Nat → Int64}
-- TurnCabinet$House.clear()V 11
set_option maxRecDepth 20000 in
theorem e502_0 (hF : pm_fix pt_me pt_Sg (pt_R L0 xs) F) : F 502 0 [some (.ref 11), none] [] (49, pt_G, I, L) =
    F 502 42 [some (.ref 11), some (.int 0)] [] (49, pt_G, (pm_ui (pm_ui (pm_ui (pm_ui (pm_ui (pm_ui (pm_ui (pm_ui I 11 0 0) 11 1 0) 11 2 1) 11 3 1) 11 4 0) 11 5 0) 11 6 1) 11 7 0), L) := pm_blk_to hF (pm_stp 502 [0, 42, 63]) 59 rfl
set_option maxRecDepth 20000 in
theorem e502_42 (hF : pm_fix pt_me pt_Sg (pt_R L0 xs) F) {x1 : Int32} : F 502 42 [some (.ref 11), some (.int x1)] [] (49, pt_G, I, L) =
    if x1 < 8 then
      bif pm_ib x1 8 then
        F 502 42 [some (.ref 11), some (.int (x1 + 1))] [] (49, pt_G, (pm_ui I 15 (Int32.toNatClampNeg x1) 0), L)
      else none
    else
      F 502 63 [some (.ref 11), some (.int 0)] [] (49, pt_G, I, L) := pm_blk_to hF (pm_stp 502 [0, 42, 63]) 59 rfl
set_option maxRecDepth 20000 in
theorem e502_63 (hF : pm_fix pt_me pt_Sg (pt_R L0 xs) F) {x1 : Int32} : F 502 63 [some (.ref 11), some (.int x1)] [] (49, pt_G, I, L) =
    if x1 < 64 then
      bif pm_ib x1 64 then
        bif pm_ib x1 64 then
          F 502 63 [some (.ref 11), some (.int (x1 + 1))] [] (49, pt_G, (pm_ui (pm_ui I 16 (Int32.toNatClampNeg x1) 0) 17 (Int32.toNatClampNeg x1) 0), L)
        else none
      else none
    else
      some (none, (49, pt_G, I, L)) := pm_blk_to hF (pm_stp 502 [0, 42, 63]) 59 rfl
-- TurnCabinet$House.become(LTurnCabinet$House;)V 3 11
set_option maxRecDepth 20000 in
theorem e503_0 (hF : pm_fix pt_me pt_Sg (pt_R L0 xs) F) : F 503 0 [some (.ref 3), some (.ref 11), none] [] (49, pt_G, I, L) =
    F 503 66 [some (.ref 3), some (.ref 11), some (.int 0)] [] (49, pt_G, (pm_ui (pm_ui (pm_ui (pm_ui (pm_ui (pm_ui (pm_ui (pm_ui I 3 0 (I 11 0)) 3 1 (I 11 1)) 3 2 (I 11 2)) 3 3 (I 11 3)) 3 4 (I 11 4)) 3 5 (I 11 5)) 3 6 (I 11 6)) 3 7 (I 11 7)), L) := pm_blk_to hF (pm_stp 503 [0, 66, 128]) 112 rfl
set_option maxRecDepth 20000 in
theorem e503_66 (hF : pm_fix pt_me pt_Sg (pt_R L0 xs) F) {x2 : Int32} : F 503 66 [some (.ref 3), some (.ref 11), some (.int x2)] [] (49, pt_G, I, L) =
    if x2 < 8 then
      bif pm_ib x2 8 then
        bif pm_ib x2 8 then
          bif pm_ib x2 8 then
            bif pm_ib x2 8 then
              bif pm_ib x2 8 then
                bif pm_ib x2 8 then
                  bif pm_ib x2 8 then
                    bif pm_ib x2 8 then
                      F 503 66 [some (.ref 3), some (.ref 11), some (.int (x2 + 1))] [] (49, pt_G, (pm_ui (pm_ui (pm_ui (pm_ui I 4 (Int32.toNatClampNeg x2) (I 12 (Int32.toNatClampNeg x2))) 5 (Int32.toNatClampNeg x2) (I 13 (Int32.toNatClampNeg x2))) 6 (Int32.toNatClampNeg x2) (I 14 (Int32.toNatClampNeg x2))) 7 (Int32.toNatClampNeg x2) (I 15 (Int32.toNatClampNeg x2))), L)
                    else none
                  else none
                else none
              else none
            else none
          else none
        else none
      else none
    else
      F 503 128 [some (.ref 3), some (.ref 11), some (.int 0)] [] (49, pt_G, I, L) := pm_blk_to hF (pm_stp 503 [0, 66, 128]) 112 rfl
set_option maxRecDepth 20000 in
theorem e503_128 (hF : pm_fix pt_me pt_Sg (pt_R L0 xs) F) {x2 : Int32} : F 503 128 [some (.ref 3), some (.ref 11), some (.int x2)] [] (49, pt_G, I, L) =
    if x2 < 64 then
      bif pm_ib x2 64 then
        bif pm_ib x2 64 then
          bif pm_ib x2 64 then
            bif pm_ib x2 64 then
              F 503 128 [some (.ref 3), some (.ref 11), some (.int (x2 + 1))] [] (49, pt_G, (pm_ui (pm_ui I 8 (Int32.toNatClampNeg x2) (I 16 (Int32.toNatClampNeg x2))) 9 (Int32.toNatClampNeg x2) (I 17 (Int32.toNatClampNeg x2))), L)
            else none
          else none
        else none
      else none
    else
      some (none, (49, pt_G, (pm_ui (pm_ui I 3 8 ((I 3 8) + 1)) 3 9 ((I 3 9) + 1)), L)) := pm_blk_to hF (pm_stp 503 [0, 66, 128]) 112 rfl
-- TurnCabinet$House.hasParty(I)Z 3
set_option maxRecDepth 20000 in
theorem e504_0 (hF : pm_fix pt_me pt_Sg (pt_R L0 xs) F) {x1 : Int32} : F 504 0 [some (.ref 3), some (.int x1)] [] (49, pt_G, I, L) =
    if x1 < 0 then
      some (some (.int 0), (49, pt_G, I, L))
    else
      if x1 < (I 3 0) then
        some (some (.int 1), (49, pt_G, I, L))
      else
        some (some (.int 0), (49, pt_G, I, L)) := pm_blk_to hF (pm_stp 504 [0]) 15 rfl
-- TurnCabinet$House.hasOffice(I)Z 3
set_option maxRecDepth 20000 in
theorem e505_0 (hF : pm_fix pt_me pt_Sg (pt_R L0 xs) F) {x1 : Int32} : F 505 0 [some (.ref 3), some (.int x1)] [] (49, pt_G, I, L) =
    if x1 < 0 then
      some (some (.int 0), (49, pt_G, I, L))
    else
      if x1 < (I 3 1) then
        some (some (.int 1), (49, pt_G, I, L))
      else
        some (some (.int 0), (49, pt_G, I, L)) := pm_blk_to hF (pm_stp 505 [0]) 15 rfl
-- TurnCabinet$House.hasCoalition(I)Z 3
set_option maxRecDepth 20000 in
theorem e506_0 (hF : pm_fix pt_me pt_Sg (pt_R L0 xs) F) {x1 : Int32} : F 506 0 [some (.ref 3), some (.int x1)] [] (49, pt_G, I, L) =
    if x1 ≤ 0 then
      some (some (.int 0), (49, pt_G, I, L))
    else
      pm_k (F 507 0 [some (.ref 3)] [] (49, pt_G, I, L)) (fun v S => F 506 9 [some (.ref 3), some (.int x1)] (v.toList ++ [.int x1]) S) := pm_blk_to hF (pm_stp 506 [0, 9]) 15 rfl
set_option maxRecDepth 20000 in
theorem e506_9 (hF : pm_fix pt_me pt_Sg (pt_R L0 xs) F) {x1 : Int32} {s0 : Int32} {s1 : Int32} : F 506 9 [some (.ref 3), some (.int x1)] [.int s0, .int s1] (49, pt_G, I, L) =
    if s1 ≤ s0 then
      some (some (.int 1), (49, pt_G, I, L))
    else
      some (some (.int 0), (49, pt_G, I, L)) := pm_blk_to hF (pm_stp 506 [0, 9]) 15 rfl
-- TurnCabinet$House.everyone()I 3
set_option maxRecDepth 20000 in
theorem e507_0 (hF : pm_fix pt_me pt_Sg (pt_R L0 xs) F) : F 507 0 [some (.ref 3)] [] (49, pt_G, I, L) =
    some (some (.int (((1 : Int32) <<< ((I 3 0) &&& 31)) - 1)), (49, pt_G, I, L)) := pm_blk_to hF (pm_stp 507 [0]) 12 rfl
-- TurnCabinet$House.seatsOf(I)I 3
set_option maxRecDepth 20000 in
theorem e508_0 (hF : pm_fix pt_me pt_Sg (pt_R L0 xs) F) {x1 : Int32} : F 508 0 [some (.ref 3), some (.int x1)] [] (49, pt_G, I, L) =
    bif pm_ib (x1 &&& 7) 8 then
      some (some (.int (I 4 (Int32.toNatClampNeg (x1 &&& 7)))), (49, pt_G, I, L))
    else none := pm_blk_to hF (pm_stp 508 [0]) 12 rfl
-- TurnCabinet$House.placeOf(I)I 3
set_option maxRecDepth 20000 in
theorem e509_0 (hF : pm_fix pt_me pt_Sg (pt_R L0 xs) F) {x1 : Int32} : F 509 0 [some (.ref 3), some (.int x1)] [] (49, pt_G, I, L) =
    bif pm_ib (x1 &&& 7) 8 then
      some (some (.int (I 5 (Int32.toNatClampNeg (x1 &&& 7)))), (49, pt_G, I, L))
    else none := pm_blk_to hF (pm_stp 509 [0]) 12 rfl
-- TurnCabinet$House.walkOf(I)I 3
set_option maxRecDepth 20000 in
theorem e510_0 (hF : pm_fix pt_me pt_Sg (pt_R L0 xs) F) {x1 : Int32} : F 510 0 [some (.ref 3), some (.int x1)] [] (49, pt_G, I, L) =
    bif pm_ib (x1 &&& 7) 8 then
      some (some (.int (I 6 (Int32.toNatClampNeg (x1 &&& 7)))), (49, pt_G, I, L))
    else none := pm_blk_to hF (pm_stp 510 [0]) 12 rfl
-- TurnCabinet$House.barredFrom(I)I 3
set_option maxRecDepth 20000 in
theorem e511_0 (hF : pm_fix pt_me pt_Sg (pt_R L0 xs) F) {x1 : Int32} : F 511 0 [some (.ref 3), some (.int x1)] [] (49, pt_G, I, L) =
    bif pm_ib (x1 &&& 7) 8 then
      some (some (.int (I 7 (Int32.toNatClampNeg (x1 &&& 7)))), (49, pt_G, I, L))
    else none := pm_blk_to hF (pm_stp 511 [0]) 12 rfl
-- TurnCabinet$House.worthTo(II)I 3
set_option maxRecDepth 20000 in
theorem e512_0 (hF : pm_fix pt_me pt_Sg (pt_R L0 xs) F) {x1 : Int32} {x2 : Int32} : F 512 0 [some (.ref 3), some (.int x1), some (.int x2)] [] (49, pt_G, I, L) =
    bif pm_ib ((8 * (x1 &&& 7)) + (x2 &&& 7)) 64 then
      some (some (.int (I 8 (Int32.toNatClampNeg ((8 * (x1 &&& 7)) + (x2 &&& 7))))), (49, pt_G, I, L))
    else none := pm_blk_to hF (pm_stp 512 [0]) 18 rfl
-- TurnCabinet$House.stanceOf(II)I 3
set_option maxRecDepth 20000 in
theorem e513_0 (hF : pm_fix pt_me pt_Sg (pt_R L0 xs) F) {x1 : Int32} {x2 : Int32} : F 513 0 [some (.ref 3), some (.int x1), some (.int x2)] [] (49, pt_G, I, L) =
    bif pm_ib ((8 * (x1 &&& 7)) + (x2 &&& 7)) 64 then
      some (some (.int (I 9 (Int32.toNatClampNeg ((8 * (x1 &&& 7)) + (x2 &&& 7))))), (49, pt_G, I, L))
    else none := pm_blk_to hF (pm_stp 513 [0]) 18 rfl
-- TurnCabinet$House.giveSeats(II)V 3
set_option maxRecDepth 20000 in
theorem e514_0 (hF : pm_fix pt_me pt_Sg (pt_R L0 xs) F) {x1 : Int32} {x2 : Int32} : F 514 0 [some (.ref 3), some (.int x1), some (.int x2)] [] (49, pt_G, I, L) =
    bif pm_ib (x1 &&& 7) 8 then
      some (none, (49, pt_G, (pm_ui (pm_ui I 4 (Int32.toNatClampNeg (x1 &&& 7)) x2) 3 9 ((I 3 9) + 1)), L))
    else none := pm_blk_to hF (pm_stp 514 [0]) 19 rfl
-- TurnCabinet$House.seatsIn(I)I 3
set_option maxRecDepth 20000 in
theorem e515_0 (hF : pm_fix pt_me pt_Sg (pt_R L0 xs) F) {x1 : Int32} : F 515 0 [some (.ref 3), some (.int x1), none, none] [] (49, pt_G, I, L) =
    F 515 4 [some (.ref 3), some (.int x1), some (.int 0), some (.int 0)] [] (49, pt_G, I, L) := pm_blk_to hF (pm_stp 515 [0, 4, 17, 26]) 27 rfl
set_option maxRecDepth 20000 in
theorem e515_4 (hF : pm_fix pt_me pt_Sg (pt_R L0 xs) F) {x1 : Int32} {x2 : Int32} {x3 : Int32} : F 515 4 [some (.ref 3), some (.int x1), some (.int x2), some (.int x3)] [] (49, pt_G, I, L) =
    if x3 < (I 3 0) then
      pm_k (F 151 0 [some (.int x3), some (.int x1)] [] (49, pt_G, I, L)) (fun v S => F 515 17 [some (.ref 3), some (.int x1), some (.int x2), some (.int x3)] (v.toList ++ []) S)
    else
      some (some (.int x2), (49, pt_G, I, L)) := pm_blk_to hF (pm_stp 515 [0, 4, 17, 26]) 27 rfl
set_option maxRecDepth 20000 in
theorem e515_17 (hF : pm_fix pt_me pt_Sg (pt_R L0 xs) F) {x1 : Int32} {x2 : Int32} {x3 : Int32} {s0 : Int32} : F 515 17 [some (.ref 3), some (.int x1), some (.int x2), some (.int x3)] [.int s0] (49, pt_G, I, L) =
    if s0 = 0 then
      F 515 4 [some (.ref 3), some (.int x1), some (.int x2), some (.int (x3 + 1))] [] (49, pt_G, I, L)
    else
      pm_k (F 508 0 [some (.ref 3), some (.int x3)] [] (49, pt_G, I, L)) (fun v S => F 515 26 [some (.ref 3), some (.int x1), some (.int x2), some (.int x3)] (v.toList ++ [.int x2]) S) := pm_blk_to hF (pm_stp 515 [0, 4, 17, 26]) 27 rfl
set_option maxRecDepth 20000 in
theorem e515_26 (hF : pm_fix pt_me pt_Sg (pt_R L0 xs) F) {x1 : Int32} {x2 : Int32} {x3 : Int32} {s0 : Int32} {s1 : Int32} : F 515 26 [some (.ref 3), some (.int x1), some (.int x2), some (.int x3)] [.int s0, .int s1] (49, pt_G, I, L) =
    F 515 4 [some (.ref 3), some (.int x1), some (.int (s1 + s0)), some (.int (x3 + 1))] [] (49, pt_G, I, L) := pm_blk_to hF (pm_stp 515 [0, 4, 17, 26]) 27 rfl
-- TurnCabinet$House.needOf(I)I 3
set_option maxRecDepth 20000 in
theorem e516_0 (hF : pm_fix pt_me pt_Sg (pt_R L0 xs) F) {x1 : Int32} : F 516 0 [some (.ref 3), some (.int x1)] [] (49, pt_G, I, L) =
    if (I 3 4) ≤ 0 then
      bif !(decide (2 = 0)) then
        some (some (.int ((x1 / 2) + 1)), (49, pt_G, I, L))
      else none
    else
      some (some (.int (I 3 4)), (49, pt_G, I, L)) := pm_blk_to hF (pm_stp 516 [0]) 17 rfl
-- TurnCabinet$House.needNow()I 3
set_option maxRecDepth 20000 in
theorem e517_0 (hF : pm_fix pt_me pt_Sg (pt_R L0 xs) F) : F 517 0 [some (.ref 3)] [] (49, pt_G, I, L) =
    pm_k (F 507 0 [some (.ref 3)] [] (49, pt_G, I, L)) (fun v S => F 517 6 [some (.ref 3)] (v.toList ++ [.ref 3, .ref 3]) S) := pm_blk_to hF (pm_stp 517 [0, 6, 9, 12]) 12 rfl
set_option maxRecDepth 20000 in
theorem e517_6 (hF : pm_fix pt_me pt_Sg (pt_R L0 xs) F) {s0 : Int32} : F 517 6 [some (.ref 3)] [.int s0, .ref 3, .ref 3] (49, pt_G, I, L) =
    pm_k (F 515 0 [some (.ref 3), some (.int s0), none, none] [] (49, pt_G, I, L)) (fun v S => F 517 9 [some (.ref 3)] (v.toList ++ [.ref 3]) S) := pm_blk_to hF (pm_stp 517 [0, 6, 9, 12]) 12 rfl
set_option maxRecDepth 20000 in
theorem e517_9 (hF : pm_fix pt_me pt_Sg (pt_R L0 xs) F) {s0 : Int32} : F 517 9 [some (.ref 3)] [.int s0, .ref 3] (49, pt_G, I, L) =
    pm_k (F 516 0 [some (.ref 3), some (.int s0)] [] (49, pt_G, I, L)) (fun v S => F 517 12 [some (.ref 3)] (v.toList ++ []) S) := pm_blk_to hF (pm_stp 517 [0, 6, 9, 12]) 12 rfl
set_option maxRecDepth 20000 in
theorem e517_12 (hF : pm_fix pt_me pt_Sg (pt_R L0 xs) F) {s0 : Int32} : F 517 12 [some (.ref 3)] [.int s0] (49, pt_G, I, L) =
    some (some (.int s0), (49, pt_G, I, L)) := pm_blk_to hF (pm_stp 517 [0, 6, 9, 12]) 12 rfl
-- TurnCabinet$House.nextBy(IIII)I 3
set_option maxRecDepth 20000 in
theorem e518_0 (hF : pm_fix pt_me pt_Sg (pt_R L0 xs) F) {x1 : Int32} {x2 : Int32} {x3 : Int32} {x4 : Int32} : F 518 0 [some (.ref 3), some (.int x1), some (.int x2), some (.int x3), some (.int x4), none, none, none, none, none, none, none] [] (49, pt_G, I, L) =
    F 518 12 [some (.ref 3), some (.int x1), some (.int x2), some (.int x3), some (.int x4), some (.int (-1)), some (.int 0), some (.int 1), some (.int 0), none, none, none] [] (49, pt_G, I, L) := pm_blk_to hF (pm_stp 518 [0, 12, 27, 39, 50]) 59 rfl
set_option maxRecDepth 20000 in
theorem e518_12 (hF : pm_fix pt_me pt_Sg (pt_R L0 xs) F) {x1 : Int32} {x2 : Int32} {x3 : Int32} {x4 : Int32} {x5 : Int32} {x6 : Int32} {x7 : Int32} {x8 : Int32} : F 518 12 [some (.ref 3), some (.int x1), some (.int x2), some (.int x3), some (.int x4), some (.int x5), some (.int x6), some (.int x7), some (.int x8), none, none, none] [] (49, pt_G, I, L) =
    if x8 < (I 3 0) then
      pm_k (F 151 0 [some (.int x8), some (.int x1)] [] (49, pt_G, I, L)) (fun v S => F 518 27 [some (.ref 3), some (.int x1), some (.int x2), some (.int x3), some (.int x4), some (.int x5), some (.int x6), some (.int x7), some (.int x8), none, none, none] (v.toList ++ []) S)
    else
      some (some (.int x5), (49, pt_G, I, L)) := pm_blk_to hF (pm_stp 518 [0, 12, 27, 39, 50]) 59 rfl
set_option maxRecDepth 20000 in
theorem e518_27 (hF : pm_fix pt_me pt_Sg (pt_R L0 xs) F) {x1 : Int32} {x2 : Int32} {x3 : Int32} {x4 : Int32} {x5 : Int32} {x6 : Int32} {x7 : Int32} {x8 : Int32} {s0 : Int32} : F 518 27 [some (.ref 3), some (.int x1), some (.int x2), some (.int x3), some (.int x4), some (.int x5), some (.int x6), some (.int x7), some (.int x8), none, none, none] [.int s0] (49, pt_G, I, L) =
    if s0 = 0 then
      F 518 12 [some (.ref 3), some (.int x1), some (.int x2), some (.int x3), some (.int x4), some (.int x5), some (.int x6), some (.int x7), some (.int (x8 + 1)), none, none, none] [] (49, pt_G, I, L)
    else
      pm_k (F 508 0 [some (.ref 3), some (.int x8)] [] (49, pt_G, I, L)) (fun v S => F 518 39 [some (.ref 3), some (.int x1), some (.int x2), some (.int x3), some (.int x4), some (.int x5), some (.int x6), some (.int x7), some (.int x8), none, none, none] (v.toList ++ []) S) := pm_blk_to hF (pm_stp 518 [0, 12, 27, 39, 50]) 59 rfl
set_option maxRecDepth 20000 in
theorem e518_39 (hF : pm_fix pt_me pt_Sg (pt_R L0 xs) F) {x1 : Int32} {x2 : Int32} {x3 : Int32} {x4 : Int32} {x5 : Int32} {x6 : Int32} {x7 : Int32} {x8 : Int32} {s0 : Int32} : F 518 39 [some (.ref 3), some (.int x1), some (.int x2), some (.int x3), some (.int x4), some (.int x5), some (.int x6), some (.int x7), some (.int x8), none, none, none] [.int s0] (49, pt_G, I, L) =
    pm_k (F 906 0 [some (.int x2), some (.int x8)] [] (49, pt_G, I, L)) (fun v S => F 518 50 [some (.ref 3), some (.int x1), some (.int x2), some (.int x3), some (.int x4), some (.int x5), some (.int x6), some (.int x7), some (.int x8), some (.int s0), none, none] (v.toList ++ [.int x4, .int x3]) S) := pm_blk_to hF (pm_stp 518 [0, 12, 27, 39, 50]) 59 rfl
set_option maxRecDepth 20000 in
theorem e518_50 (hF : pm_fix pt_me pt_Sg (pt_R L0 xs) F) {x1 : Int32} {x2 : Int32} {x3 : Int32} {x4 : Int32} {x5 : Int32} {x6 : Int32} {x7 : Int32} {x8 : Int32} {x9 : Int32} {s0 : Int32} {s1 : Int32} {s2 : Int32} : F 518 50 [some (.ref 3), some (.int x1), some (.int x2), some (.int x3), some (.int x4), some (.int x5), some (.int x6), some (.int x7), some (.int x8), some (.int x9), none, none] [.int s0, .int s1, .int s2] (49, pt_G, I, L) =
    if ((x9 * x7) - (x6 * (s2 + (s1 * s0)))) ≤ 0 then
      if ((x9 * x7) - (x6 * (s2 + (s1 * s0)))) = 0 then
        if x9 ≤ x6 then
          F 518 12 [some (.ref 3), some (.int x1), some (.int x2), some (.int x3), some (.int x4), some (.int x5), some (.int x6), some (.int x7), some (.int (x8 + 1)), none, none, none] [] (49, pt_G, I, L)
        else
          F 518 12 [some (.ref 3), some (.int x1), some (.int x2), some (.int x3), some (.int x4), some (.int x8), some (.int x9), some (.int (s2 + (s1 * s0))), some (.int (x8 + 1)), none, none, none] [] (49, pt_G, I, L)
      else
        F 518 12 [some (.ref 3), some (.int x1), some (.int x2), some (.int x3), some (.int x4), some (.int x5), some (.int x6), some (.int x7), some (.int (x8 + 1)), none, none, none] [] (49, pt_G, I, L)
    else
      F 518 12 [some (.ref 3), some (.int x1), some (.int x2), some (.int x3), some (.int x4), some (.int x8), some (.int x9), some (.int (s2 + (s1 * s0))), some (.int (x8 + 1)), none, none, none] [] (49, pt_G, I, L) := pm_blk_to hF (pm_stp 518 [0, 12, 27, 39, 50]) 59 rfl
-- TurnCabinet$House.dearest(II)I 3
set_option maxRecDepth 20000 in
theorem e519_0 (hF : pm_fix pt_me pt_Sg (pt_R L0 xs) F) {x1 : Int32} {x2 : Int32} : F 519 0 [some (.ref 3), some (.int x1), some (.int x2), none, none, none] [] (49, pt_G, I, L) =
    F 519 8 [some (.ref 3), some (.int x1), some (.int x2), some (.int (-1)), some (.int (-1)), some (.int 0)] [] (49, pt_G, I, L) := pm_blk_to hF (pm_stp 519 [0, 8, 23, 33, 48]) 36 rfl
set_option maxRecDepth 20000 in
theorem e519_8 (hF : pm_fix pt_me pt_Sg (pt_R L0 xs) F) {x1 : Int32} {x2 : Int32} {x3 : Int32} {x4 : Int32} {x5 : Int32} : F 519 8 [some (.ref 3), some (.int x1), some (.int x2), some (.int x3), some (.int x4), some (.int x5)] [] (49, pt_G, I, L) =
    if x5 < (I 3 1) then
      pm_k (F 151 0 [some (.int x5), some (.int x2)] [] (49, pt_G, I, L)) (fun v S => F 519 23 [some (.ref 3), some (.int x1), some (.int x2), some (.int x3), some (.int x4), some (.int x5)] (v.toList ++ []) S)
    else
      some (some (.int x3), (49, pt_G, I, L)) := pm_blk_to hF (pm_stp 519 [0, 8, 23, 33, 48]) 36 rfl
set_option maxRecDepth 20000 in
theorem e519_23 (hF : pm_fix pt_me pt_Sg (pt_R L0 xs) F) {x1 : Int32} {x2 : Int32} {x3 : Int32} {x4 : Int32} {x5 : Int32} {s0 : Int32} : F 519 23 [some (.ref 3), some (.int x1), some (.int x2), some (.int x3), some (.int x4), some (.int x5)] [.int s0] (49, pt_G, I, L) =
    if s0 = 0 then
      F 519 8 [some (.ref 3), some (.int x1), some (.int x2), some (.int x3), some (.int x4), some (.int (x5 + 1))] [] (49, pt_G, I, L)
    else
      pm_k (F 512 0 [some (.ref 3), some (.int x1), some (.int x5)] [] (49, pt_G, I, L)) (fun v S => F 519 33 [some (.ref 3), some (.int x1), some (.int x2), some (.int x3), some (.int x4), some (.int x5)] (v.toList ++ []) S) := pm_blk_to hF (pm_stp 519 [0, 8, 23, 33, 48]) 36 rfl
set_option maxRecDepth 20000 in
theorem e519_33 (hF : pm_fix pt_me pt_Sg (pt_R L0 xs) F) {x1 : Int32} {x2 : Int32} {x3 : Int32} {x4 : Int32} {x5 : Int32} {s0 : Int32} : F 519 33 [some (.ref 3), some (.int x1), some (.int x2), some (.int x3), some (.int x4), some (.int x5)] [.int s0] (49, pt_G, I, L) =
    if s0 ≤ x4 then
      F 519 8 [some (.ref 3), some (.int x1), some (.int x2), some (.int x3), some (.int x4), some (.int (x5 + 1))] [] (49, pt_G, I, L)
    else
      pm_k (F 512 0 [some (.ref 3), some (.int x1), some (.int x5)] [] (49, pt_G, I, L)) (fun v S => F 519 48 [some (.ref 3), some (.int x1), some (.int x2), some (.int x5), some (.int x4), some (.int x5)] (v.toList ++ []) S) := pm_blk_to hF (pm_stp 519 [0, 8, 23, 33, 48]) 36 rfl
set_option maxRecDepth 20000 in
theorem e519_48 (hF : pm_fix pt_me pt_Sg (pt_R L0 xs) F) {x1 : Int32} {x2 : Int32} {x3 : Int32} {x4 : Int32} {x5 : Int32} {s0 : Int32} : F 519 48 [some (.ref 3), some (.int x1), some (.int x2), some (.int x3), some (.int x4), some (.int x5)] [.int s0] (49, pt_G, I, L) =
    F 519 8 [some (.ref 3), some (.int x1), some (.int x2), some (.int x3), some (.int s0), some (.int (x5 + 1))] [] (49, pt_G, I, L) := pm_blk_to hF (pm_stp 519 [0, 8, 23, 33, 48]) 36 rfl
-- TurnCabinet$House.middleOf(I)I 3
set_option maxRecDepth 20000 in
theorem e520_0 (hF : pm_fix pt_me pt_Sg (pt_R L0 xs) F) {x1 : Int32} : F 520 0 [some (.ref 3), some (.int x1), none, none, none] [] (49, pt_G, I, L) =
    F 520 7 [some (.ref 3), some (.int x1), some (.int 0), some (.int 0), some (.int 0)] [] (49, pt_G, I, L) := pm_blk_to hF (pm_stp 520 [0, 7, 22, 35, 41, 51]) 46 rfl
set_option maxRecDepth 20000 in
theorem e520_7 (hF : pm_fix pt_me pt_Sg (pt_R L0 xs) F) {x1 : Int32} {x2 : Int32} {x3 : Int32} {x4 : Int32} : F 520 7 [some (.ref 3), some (.int x1), some (.int x2), some (.int x3), some (.int x4)] [] (49, pt_G, I, L) =
    if x4 < (I 3 0) then
      pm_k (F 151 0 [some (.int x4), some (.int x1)] [] (49, pt_G, I, L)) (fun v S => F 520 22 [some (.ref 3), some (.int x1), some (.int x2), some (.int x3), some (.int x4)] (v.toList ++ []) S)
    else
      if x3 ≤ 0 then
        some (some (.int 0), (49, pt_G, I, L))
      else
        bif !(decide (x3 = 0)) then
          some (some (.int (x2 / x3)), (49, pt_G, I, L))
        else none := pm_blk_to hF (pm_stp 520 [0, 7, 22, 35, 41, 51]) 46 rfl
set_option maxRecDepth 20000 in
theorem e520_22 (hF : pm_fix pt_me pt_Sg (pt_R L0 xs) F) {x1 : Int32} {x2 : Int32} {x3 : Int32} {x4 : Int32} {s0 : Int32} : F 520 22 [some (.ref 3), some (.int x1), some (.int x2), some (.int x3), some (.int x4)] [.int s0] (49, pt_G, I, L) =
    if s0 = 0 then
      F 520 7 [some (.ref 3), some (.int x1), some (.int x2), some (.int x3), some (.int (x4 + 1))] [] (49, pt_G, I, L)
    else
      pm_k (F 508 0 [some (.ref 3), some (.int x4)] [] (49, pt_G, I, L)) (fun v S => F 520 35 [some (.ref 3), some (.int x1), some (.int x2), some (.int x3), some (.int x4)] (v.toList ++ [.int x2]) S) := pm_blk_to hF (pm_stp 520 [0, 7, 22, 35, 41, 51]) 46 rfl
set_option maxRecDepth 20000 in
theorem e520_35 (hF : pm_fix pt_me pt_Sg (pt_R L0 xs) F) {x1 : Int32} {x2 : Int32} {x3 : Int32} {x4 : Int32} {s0 : Int32} {s1 : Int32} : F 520 35 [some (.ref 3), some (.int x1), some (.int x2), some (.int x3), some (.int x4)] [.int s0, .int s1] (49, pt_G, I, L) =
    pm_k (F 509 0 [some (.ref 3), some (.int x4)] [] (49, pt_G, I, L)) (fun v S => F 520 41 [some (.ref 3), some (.int x1), some (.int x2), some (.int x3), some (.int x4)] (v.toList ++ [.int s0, .int s1]) S) := pm_blk_to hF (pm_stp 520 [0, 7, 22, 35, 41, 51]) 46 rfl
set_option maxRecDepth 20000 in
theorem e520_41 (hF : pm_fix pt_me pt_Sg (pt_R L0 xs) F) {x1 : Int32} {x2 : Int32} {x3 : Int32} {x4 : Int32} {s0 : Int32} {s1 : Int32} {s2 : Int32} : F 520 41 [some (.ref 3), some (.int x1), some (.int x2), some (.int x3), some (.int x4)] [.int s0, .int s1, .int s2] (49, pt_G, I, L) =
    pm_k (F 508 0 [some (.ref 3), some (.int x4)] [] (49, pt_G, I, L)) (fun v S => F 520 51 [some (.ref 3), some (.int x1), some (.int (s2 + (s1 * s0))), some (.int x3), some (.int x4)] (v.toList ++ [.int x3]) S) := pm_blk_to hF (pm_stp 520 [0, 7, 22, 35, 41, 51]) 46 rfl
set_option maxRecDepth 20000 in
theorem e520_51 (hF : pm_fix pt_me pt_Sg (pt_R L0 xs) F) {x1 : Int32} {x2 : Int32} {x3 : Int32} {x4 : Int32} {s0 : Int32} {s1 : Int32} : F 520 51 [some (.ref 3), some (.int x1), some (.int x2), some (.int x3), some (.int x4)] [.int s0, .int s1] (49, pt_G, I, L) =
    F 520 7 [some (.ref 3), some (.int x1), some (.int x2), some (.int (s1 + s0)), some (.int (x4 + 1))] [] (49, pt_G, I, L) := pm_blk_to hF (pm_stp 520 [0, 7, 22, 35, 41, 51]) 46 rfl
-- TurnCabinet$House.worthOfHeld(III)I 3
set_option maxRecDepth 20000 in
theorem e521_0 (hF : pm_fix pt_me pt_Sg (pt_R L0 xs) F) {x1 : Int32} {x2 : Int32} {x3 : Int32} : F 521 0 [some (.ref 3), some (.int x1), some (.int x2), some (.int x3), none, none] [] (49, pt_G, I, L) =
    F 521 6 [some (.ref 3), some (.int x1), some (.int x2), some (.int x3), some (.int 0), some (.int 0)] [] (49, pt_G, I, L) := pm_blk_to hF (pm_stp 521 [0, 6, 21, 34]) 29 rfl
set_option maxRecDepth 20000 in
theorem e521_6 (hF : pm_fix pt_me pt_Sg (pt_R L0 xs) F) {x1 : Int32} {x2 : Int32} {x3 : Int32} {x4 : Int32} {x5 : Int32} : F 521 6 [some (.ref 3), some (.int x1), some (.int x2), some (.int x3), some (.int x4), some (.int x5)] [] (49, pt_G, I, L) =
    if x5 < (I 3 1) then
      pm_k (F 902 0 [some (.int x2), some (.int x5)] [] (49, pt_G, I, L)) (fun v S => F 521 21 [some (.ref 3), some (.int x1), some (.int x2), some (.int x3), some (.int x4), some (.int x5)] (v.toList ++ []) S)
    else
      some (some (.int x4), (49, pt_G, I, L)) := pm_blk_to hF (pm_stp 521 [0, 6, 21, 34]) 29 rfl
set_option maxRecDepth 20000 in
theorem e521_21 (hF : pm_fix pt_me pt_Sg (pt_R L0 xs) F) {x1 : Int32} {x2 : Int32} {x3 : Int32} {x4 : Int32} {x5 : Int32} {s0 : Int32} : F 521 21 [some (.ref 3), some (.int x1), some (.int x2), some (.int x3), some (.int x4), some (.int x5)] [.int s0] (49, pt_G, I, L) =
    if s0 = x1 then
      pm_k (F 512 0 [some (.ref 3), some (.int x3), some (.int x5)] [] (49, pt_G, I, L)) (fun v S => F 521 34 [some (.ref 3), some (.int x1), some (.int x2), some (.int x3), some (.int x4), some (.int x5)] (v.toList ++ [.int x4]) S)
    else
      F 521 6 [some (.ref 3), some (.int x1), some (.int x2), some (.int x3), some (.int x4), some (.int (x5 + 1))] [] (49, pt_G, I, L) := pm_blk_to hF (pm_stp 521 [0, 6, 21, 34]) 29 rfl
set_option maxRecDepth 20000 in
theorem e521_34 (hF : pm_fix pt_me pt_Sg (pt_R L0 xs) F) {x1 : Int32} {x2 : Int32} {x3 : Int32} {x4 : Int32} {x5 : Int32} {s0 : Int32} {s1 : Int32} : F 521 34 [some (.ref 3), some (.int x1), some (.int x2), some (.int x3), some (.int x4), some (.int x5)] [.int s0, .int s1] (49, pt_G, I, L) =
    F 521 6 [some (.ref 3), some (.int x1), some (.int x2), some (.int x3), some (.int (s1 + s0)), some (.int (x5 + 1))] [] (49, pt_G, I, L) := pm_blk_to hF (pm_stp 521 [0, 6, 21, 34]) 29 rfl
-- TurnCabinet$House.worthOfAll(I)I 3
set_option maxRecDepth 20000 in
theorem e522_0 (hF : pm_fix pt_me pt_Sg (pt_R L0 xs) F) {x1 : Int32} : F 522 0 [some (.ref 3), some (.int x1), none, none] [] (49, pt_G, I, L) =
    F 522 4 [some (.ref 3), some (.int x1), some (.int 0), some (.int 0)] [] (49, pt_G, I, L) := pm_blk_to hF (pm_stp 522 [0, 4, 19, 23]) 26 rfl
set_option maxRecDepth 20000 in
theorem e522_4 (hF : pm_fix pt_me pt_Sg (pt_R L0 xs) F) {x1 : Int32} {x2 : Int32} {x3 : Int32} : F 522 4 [some (.ref 3), some (.int x1), some (.int x2), some (.int x3)] [] (49, pt_G, I, L) =
    if x3 < (I 3 1) then
      pm_k (F 902 0 [some (.int x1), some (.int x3)] [] (49, pt_G, I, L)) (fun v S => F 522 19 [some (.ref 3), some (.int x1), some (.int x2), some (.int x3)] (v.toList ++ [.ref 3, .int x2]) S)
    else
      some (some (.int x2), (49, pt_G, I, L)) := pm_blk_to hF (pm_stp 522 [0, 4, 19, 23]) 26 rfl
set_option maxRecDepth 20000 in
theorem e522_19 (hF : pm_fix pt_me pt_Sg (pt_R L0 xs) F) {x1 : Int32} {x2 : Int32} {x3 : Int32} {s0 : Int32} {s2 : Int32} : F 522 19 [some (.ref 3), some (.int x1), some (.int x2), some (.int x3)] [.int s0, .ref 3, .int s2] (49, pt_G, I, L) =
    pm_k (F 512 0 [some (.ref 3), some (.int s0), some (.int x3)] [] (49, pt_G, I, L)) (fun v S => F 522 23 [some (.ref 3), some (.int x1), some (.int x2), some (.int x3)] (v.toList ++ [.int s2]) S) := pm_blk_to hF (pm_stp 522 [0, 4, 19, 23]) 26 rfl
set_option maxRecDepth 20000 in
theorem e522_23 (hF : pm_fix pt_me pt_Sg (pt_R L0 xs) F) {x1 : Int32} {x2 : Int32} {x3 : Int32} {s0 : Int32} {s1 : Int32} : F 522 23 [some (.ref 3), some (.int x1), some (.int x2), some (.int x3)] [.int s0, .int s1] (49, pt_G, I, L) =
    F 522 4 [some (.ref 3), some (.int x1), some (.int (s1 + s0)), some (.int (x3 + 1))] [] (49, pt_G, I, L) := pm_blk_to hF (pm_stp 522 [0, 4, 19, 23]) 26 rfl
-- TurnCabinet$House.greatestWorth(I)I 3
set_option maxRecDepth 20000 in
theorem e523_0 (hF : pm_fix pt_me pt_Sg (pt_R L0 xs) F) {x1 : Int32} : F 523 0 [some (.ref 3), some (.int x1), none, none, none, none] [] (49, pt_G, I, L) =
    F 523 4 [some (.ref 3), some (.int x1), some (.int 0), some (.int 0), none, none] [] (49, pt_G, I, L) := pm_blk_to hF (pm_stp 523 [0, 4, 18, 33, 45, 48]) 42 rfl
set_option maxRecDepth 20000 in
theorem e523_4 (hF : pm_fix pt_me pt_Sg (pt_R L0 xs) F) {x1 : Int32} {x2 : Int32} {x3 : Int32} : F 523 4 [some (.ref 3), some (.int x1), some (.int x2), some (.int x3), none, none] [] (49, pt_G, I, L) =
    if x3 < (I 3 1) then
      F 523 18 [some (.ref 3), some (.int x1), some (.int x2), some (.int x3), some (.int 0), some (.int 0)] [] (49, pt_G, I, L)
    else
      some (some (.int x2), (49, pt_G, I, L)) := pm_blk_to hF (pm_stp 523 [0, 4, 18, 33, 45, 48]) 42 rfl
set_option maxRecDepth 20000 in
theorem e523_18 (hF : pm_fix pt_me pt_Sg (pt_R L0 xs) F) {x1 : Int32} {x2 : Int32} {x3 : Int32} {x4 : Int32} {x5 : Int32} : F 523 18 [some (.ref 3), some (.int x1), some (.int x2), some (.int x3), some (.int x4), some (.int x5)] [] (49, pt_G, I, L) =
    if x5 < (I 3 0) then
      pm_k (F 151 0 [some (.int x5), some (.int x1)] [] (49, pt_G, I, L)) (fun v S => F 523 33 [some (.ref 3), some (.int x1), some (.int x2), some (.int x3), some (.int x4), some (.int x5)] (v.toList ++ []) S)
    else
      F 523 4 [some (.ref 3), some (.int x1), some (.int (x2 + x4)), some (.int (x3 + 1)), none, none] [] (49, pt_G, I, L) := pm_blk_to hF (pm_stp 523 [0, 4, 18, 33, 45, 48]) 42 rfl
set_option maxRecDepth 20000 in
theorem e523_33 (hF : pm_fix pt_me pt_Sg (pt_R L0 xs) F) {x1 : Int32} {x2 : Int32} {x3 : Int32} {x4 : Int32} {x5 : Int32} {s0 : Int32} : F 523 33 [some (.ref 3), some (.int x1), some (.int x2), some (.int x3), some (.int x4), some (.int x5)] [.int s0] (49, pt_G, I, L) =
    if s0 = 0 then
      F 523 18 [some (.ref 3), some (.int x1), some (.int x2), some (.int x3), some (.int x4), some (.int (x5 + 1))] [] (49, pt_G, I, L)
    else
      pm_k (F 512 0 [some (.ref 3), some (.int x5), some (.int x3)] [] (49, pt_G, I, L)) (fun v S => F 523 45 [some (.ref 3), some (.int x1), some (.int x2), some (.int x3), some (.int x4), some (.int x5)] (v.toList ++ [.int x4]) S) := pm_blk_to hF (pm_stp 523 [0, 4, 18, 33, 45, 48]) 42 rfl
set_option maxRecDepth 20000 in
theorem e523_45 (hF : pm_fix pt_me pt_Sg (pt_R L0 xs) F) {x1 : Int32} {x2 : Int32} {x3 : Int32} {x4 : Int32} {x5 : Int32} {s0 : Int32} {s1 : Int32} : F 523 45 [some (.ref 3), some (.int x1), some (.int x2), some (.int x3), some (.int x4), some (.int x5)] [.int s0, .int s1] (49, pt_G, I, L) =
    pm_k (F 1512 0 [some (.int s1), some (.int s0)] [] (49, pt_G, I, L)) (fun v S => F 523 48 [some (.ref 3), some (.int x1), some (.int x2), some (.int x3), some (.int x4), some (.int x5)] (v.toList ++ []) S) := pm_blk_to hF (pm_stp 523 [0, 4, 18, 33, 45, 48]) 42 rfl
set_option maxRecDepth 20000 in
theorem e523_48 (hF : pm_fix pt_me pt_Sg (pt_R L0 xs) F) {x1 : Int32} {x2 : Int32} {x3 : Int32} {x4 : Int32} {x5 : Int32} {s0 : Int32} : F 523 48 [some (.ref 3), some (.int x1), some (.int x2), some (.int x3), some (.int x4), some (.int x5)] [.int s0] (49, pt_G, I, L) =
    F 523 18 [some (.ref 3), some (.int x1), some (.int x2), some (.int x3), some (.int s0), some (.int (x5 + 1))] [] (49, pt_G, I, L) := pm_blk_to hF (pm_stp 523 [0, 4, 18, 33, 45, 48]) 42 rfl
-- TurnCabinet$House.payBy(III)I 3
set_option maxRecDepth 20000 in
theorem e524_0 (hF : pm_fix pt_me pt_Sg (pt_R L0 xs) F) {x1 : Int32} {x2 : Int32} {x3 : Int32} : F 524 0 [some (.ref 3), some (.int x1), some (.int x2), some (.int x3)] [] (49, pt_G, I, L) =
    pm_k (F 509 0 [some (.ref 3), some (.int x2)] [] (49, pt_G, I, L)) (fun v S => F 524 13 [some (.ref 3), some (.int x1), some (.int x2), some (.int x3)] (v.toList ++ [.int (I 3 5), .int (10 * x1)]) S) := pm_blk_to hF (pm_stp 524 [0, 13, 18]) 19 rfl
set_option maxRecDepth 20000 in
theorem e524_13 (hF : pm_fix pt_me pt_Sg (pt_R L0 xs) F) {x1 : Int32} {x2 : Int32} {x3 : Int32} {s0 : Int32} {s1 : Int32} {s2 : Int32} : F 524 13 [some (.ref 3), some (.int x1), some (.int x2), some (.int x3)] [.int s0, .int s1, .int s2] (49, pt_G, I, L) =
    pm_k (F 1510 0 [some (.int (s0 - x3))] [] (49, pt_G, I, L)) (fun v S => F 524 18 [some (.ref 3), some (.int x1), some (.int x2), some (.int x3)] (v.toList ++ [.int s1, .int s2]) S) := pm_blk_to hF (pm_stp 524 [0, 13, 18]) 19 rfl
set_option maxRecDepth 20000 in
theorem e524_18 (hF : pm_fix pt_me pt_Sg (pt_R L0 xs) F) {x1 : Int32} {x2 : Int32} {x3 : Int32} {s0 : Int32} {s1 : Int32} {s2 : Int32} : F 524 18 [some (.ref 3), some (.int x1), some (.int x2), some (.int x3)] [.int s0, .int s1, .int s2] (49, pt_G, I, L) =
    some (some (.int (s2 - (s1 * s0))), (49, pt_G, I, L)) := pm_blk_to hF (pm_stp 524 [0, 13, 18]) 19 rfl
-- TurnCabinet$House.griefBy(II)I 3
set_option maxRecDepth 20000 in
theorem e525_0 (hF : pm_fix pt_me pt_Sg (pt_R L0 xs) F) {x1 : Int32} {x2 : Int32} : F 525 0 [some (.ref 3), some (.int x1), some (.int x2), none, none, none] [] (49, pt_G, I, L) =
    F 525 5 [some (.ref 3), some (.int x1), some (.int x2), some (.int 0), some (.int 0), none] [] (49, pt_G, I, L) := pm_blk_to hF (pm_stp 525 [0, 5, 21, 26, 36, 42, 49]) 39 rfl
set_option maxRecDepth 20000 in
theorem e525_5 (hF : pm_fix pt_me pt_Sg (pt_R L0 xs) F) {x1 : Int32} {x2 : Int32} {x3 : Int32} {x4 : Int32} : F 525 5 [some (.ref 3), some (.int x1), some (.int x2), some (.int x3), some (.int x4), none] [] (49, pt_G, I, L) =
    if x4 < (I 3 1) then
      pm_k (F 902 0 [some (.int x2), some (.int x4)] [] (49, pt_G, I, L)) (fun v S => F 525 21 [some (.ref 3), some (.int x1), some (.int x2), some (.int x3), some (.int x4), none] (v.toList ++ [.ref 3]) S)
    else
      some (some (.int x3), (49, pt_G, I, L)) := pm_blk_to hF (pm_stp 525 [0, 5, 21, 26, 36, 42, 49]) 39 rfl
set_option maxRecDepth 20000 in
theorem e525_21 (hF : pm_fix pt_me pt_Sg (pt_R L0 xs) F) {x1 : Int32} {x2 : Int32} {x3 : Int32} {x4 : Int32} {s0 : Int32} : F 525 21 [some (.ref 3), some (.int x1), some (.int x2), some (.int x3), some (.int x4), none] [.int s0, .ref 3] (49, pt_G, I, L) =
    pm_k (F 513 0 [some (.ref 3), some (.int s0), some (.int x4)] [] (49, pt_G, I, L)) (fun v S => F 525 26 [some (.ref 3), some (.int x1), some (.int x2), some (.int x3), some (.int x4), none] (v.toList ++ []) S) := pm_blk_to hF (pm_stp 525 [0, 5, 21, 26, 36, 42, 49]) 39 rfl
set_option maxRecDepth 20000 in
theorem e525_26 (hF : pm_fix pt_me pt_Sg (pt_R L0 xs) F) {x1 : Int32} {x2 : Int32} {x3 : Int32} {x4 : Int32} {s0 : Int32} : F 525 26 [some (.ref 3), some (.int x1), some (.int x2), some (.int x3), some (.int x4), none] [.int s0] (49, pt_G, I, L) =
    pm_k (F 513 0 [some (.ref 3), some (.int x1), some (.int x4)] [] (49, pt_G, I, L)) (fun v S => F 525 36 [some (.ref 3), some (.int x1), some (.int x2), some (.int x3), some (.int x4), some (.int s0)] (v.toList ++ [.int x3]) S) := pm_blk_to hF (pm_stp 525 [0, 5, 21, 26, 36, 42, 49]) 39 rfl
set_option maxRecDepth 20000 in
theorem e525_36 (hF : pm_fix pt_me pt_Sg (pt_R L0 xs) F) {x1 : Int32} {x2 : Int32} {x3 : Int32} {x4 : Int32} {x5 : Int32} {s0 : Int32} {s1 : Int32} : F 525 36 [some (.ref 3), some (.int x1), some (.int x2), some (.int x3), some (.int x4), some (.int x5)] [.int s0, .int s1] (49, pt_G, I, L) =
    pm_k (F 1510 0 [some (.int (s0 - x5))] [] (49, pt_G, I, L)) (fun v S => F 525 42 [some (.ref 3), some (.int x1), some (.int x2), some (.int x3), some (.int x4), some (.int x5)] (v.toList ++ [.int s1]) S) := pm_blk_to hF (pm_stp 525 [0, 5, 21, 26, 36, 42, 49]) 39 rfl
set_option maxRecDepth 20000 in
theorem e525_42 (hF : pm_fix pt_me pt_Sg (pt_R L0 xs) F) {x1 : Int32} {x2 : Int32} {x3 : Int32} {x4 : Int32} {x5 : Int32} {s0 : Int32} {s1 : Int32} : F 525 42 [some (.ref 3), some (.int x1), some (.int x2), some (.int x3), some (.int x4), some (.int x5)] [.int s0, .int s1] (49, pt_G, I, L) =
    pm_k (F 512 0 [some (.ref 3), some (.int x1), some (.int x4)] [] (49, pt_G, I, L)) (fun v S => F 525 49 [some (.ref 3), some (.int x1), some (.int x2), some (.int x3), some (.int x4), some (.int x5)] (v.toList ++ [.int s0, .int s1]) S) := pm_blk_to hF (pm_stp 525 [0, 5, 21, 26, 36, 42, 49]) 39 rfl
set_option maxRecDepth 20000 in
theorem e525_49 (hF : pm_fix pt_me pt_Sg (pt_R L0 xs) F) {x1 : Int32} {x2 : Int32} {x3 : Int32} {x4 : Int32} {x5 : Int32} {s0 : Int32} {s1 : Int32} {s2 : Int32} : F 525 49 [some (.ref 3), some (.int x1), some (.int x2), some (.int x3), some (.int x4), some (.int x5)] [.int s0, .int s1, .int s2] (49, pt_G, I, L) =
    F 525 5 [some (.ref 3), some (.int x1), some (.int x2), some (.int (s2 + (s1 * s0))), some (.int (x4 + 1)), none] [] (49, pt_G, I, L) := pm_blk_to hF (pm_stp 525 [0, 5, 21, 26, 36, 42, 49]) 39 rfl
-- TurnCabinet$House.leastPlace(I)I 3
set_option maxRecDepth 20000 in
theorem e527_0 (hF : pm_fix pt_me pt_Sg (pt_R L0 xs) F) {x1 : Int32} : F 527 0 [some (.ref 3), some (.int x1), none, none] [] (49, pt_G, I, L) =
    F 527 6 [some (.ref 3), some (.int x1), some (.int 999), some (.int 0)] [] (49, pt_G, I, L) := pm_blk_to hF (pm_stp 527 [0, 6, 19, 28, 31]) 27 rfl
set_option maxRecDepth 20000 in
theorem e527_6 (hF : pm_fix pt_me pt_Sg (pt_R L0 xs) F) {x1 : Int32} {x2 : Int32} {x3 : Int32} : F 527 6 [some (.ref 3), some (.int x1), some (.int x2), some (.int x3)] [] (49, pt_G, I, L) =
    if x3 < (I 3 0) then
      pm_k (F 151 0 [some (.int x3), some (.int x1)] [] (49, pt_G, I, L)) (fun v S => F 527 19 [some (.ref 3), some (.int x1), some (.int x2), some (.int x3)] (v.toList ++ []) S)
    else
      some (some (.int x2), (49, pt_G, I, L)) := pm_blk_to hF (pm_stp 527 [0, 6, 19, 28, 31]) 27 rfl
set_option maxRecDepth 20000 in
theorem e527_19 (hF : pm_fix pt_me pt_Sg (pt_R L0 xs) F) {x1 : Int32} {x2 : Int32} {x3 : Int32} {s0 : Int32} : F 527 19 [some (.ref 3), some (.int x1), some (.int x2), some (.int x3)] [.int s0] (49, pt_G, I, L) =
    if s0 = 0 then
      F 527 6 [some (.ref 3), some (.int x1), some (.int x2), some (.int (x3 + 1))] [] (49, pt_G, I, L)
    else
      pm_k (F 509 0 [some (.ref 3), some (.int x3)] [] (49, pt_G, I, L)) (fun v S => F 527 28 [some (.ref 3), some (.int x1), some (.int x2), some (.int x3)] (v.toList ++ [.int x2]) S) := pm_blk_to hF (pm_stp 527 [0, 6, 19, 28, 31]) 27 rfl
set_option maxRecDepth 20000 in
theorem e527_28 (hF : pm_fix pt_me pt_Sg (pt_R L0 xs) F) {x1 : Int32} {x2 : Int32} {x3 : Int32} {s0 : Int32} {s1 : Int32} : F 527 28 [some (.ref 3), some (.int x1), some (.int x2), some (.int x3)] [.int s0, .int s1] (49, pt_G, I, L) =
    pm_k (F 1511 0 [some (.int s1), some (.int s0)] [] (49, pt_G, I, L)) (fun v S => F 527 31 [some (.ref 3), some (.int x1), some (.int x2), some (.int x3)] (v.toList ++ []) S) := pm_blk_to hF (pm_stp 527 [0, 6, 19, 28, 31]) 27 rfl
set_option maxRecDepth 20000 in
theorem e527_31 (hF : pm_fix pt_me pt_Sg (pt_R L0 xs) F) {x1 : Int32} {x2 : Int32} {x3 : Int32} {s0 : Int32} : F 527 31 [some (.ref 3), some (.int x1), some (.int x2), some (.int x3)] [.int s0] (49, pt_G, I, L) =
    F 527 6 [some (.ref 3), some (.int x1), some (.int s0), some (.int (x3 + 1))] [] (49, pt_G, I, L) := pm_blk_to hF (pm_stp 527 [0, 6, 19, 28, 31]) 27 rfl
-- TurnCabinet$House.greatestPlace(I)I 3
set_option maxRecDepth 20000 in
theorem e528_0 (hF : pm_fix pt_me pt_Sg (pt_R L0 xs) F) {x1 : Int32} : F 528 0 [some (.ref 3), some (.int x1), none, none] [] (49, pt_G, I, L) =
    F 528 4 [some (.ref 3), some (.int x1), some (.int (-1)), some (.int 0)] [] (49, pt_G, I, L) := pm_blk_to hF (pm_stp 528 [0, 4, 17, 26, 29]) 27 rfl
set_option maxRecDepth 20000 in
theorem e528_4 (hF : pm_fix pt_me pt_Sg (pt_R L0 xs) F) {x1 : Int32} {x2 : Int32} {x3 : Int32} : F 528 4 [some (.ref 3), some (.int x1), some (.int x2), some (.int x3)] [] (49, pt_G, I, L) =
    if x3 < (I 3 0) then
      pm_k (F 151 0 [some (.int x3), some (.int x1)] [] (49, pt_G, I, L)) (fun v S => F 528 17 [some (.ref 3), some (.int x1), some (.int x2), some (.int x3)] (v.toList ++ []) S)
    else
      some (some (.int x2), (49, pt_G, I, L)) := pm_blk_to hF (pm_stp 528 [0, 4, 17, 26, 29]) 27 rfl
set_option maxRecDepth 20000 in
theorem e528_17 (hF : pm_fix pt_me pt_Sg (pt_R L0 xs) F) {x1 : Int32} {x2 : Int32} {x3 : Int32} {s0 : Int32} : F 528 17 [some (.ref 3), some (.int x1), some (.int x2), some (.int x3)] [.int s0] (49, pt_G, I, L) =
    if s0 = 0 then
      F 528 4 [some (.ref 3), some (.int x1), some (.int x2), some (.int (x3 + 1))] [] (49, pt_G, I, L)
    else
      pm_k (F 509 0 [some (.ref 3), some (.int x3)] [] (49, pt_G, I, L)) (fun v S => F 528 26 [some (.ref 3), some (.int x1), some (.int x2), some (.int x3)] (v.toList ++ [.int x2]) S) := pm_blk_to hF (pm_stp 528 [0, 4, 17, 26, 29]) 27 rfl
set_option maxRecDepth 20000 in
theorem e528_26 (hF : pm_fix pt_me pt_Sg (pt_R L0 xs) F) {x1 : Int32} {x2 : Int32} {x3 : Int32} {s0 : Int32} {s1 : Int32} : F 528 26 [some (.ref 3), some (.int x1), some (.int x2), some (.int x3)] [.int s0, .int s1] (49, pt_G, I, L) =
    pm_k (F 1512 0 [some (.int s1), some (.int s0)] [] (49, pt_G, I, L)) (fun v S => F 528 29 [some (.ref 3), some (.int x1), some (.int x2), some (.int x3)] (v.toList ++ []) S) := pm_blk_to hF (pm_stp 528 [0, 4, 17, 26, 29]) 27 rfl
set_option maxRecDepth 20000 in
theorem e528_29 (hF : pm_fix pt_me pt_Sg (pt_R L0 xs) F) {x1 : Int32} {x2 : Int32} {x3 : Int32} {s0 : Int32} : F 528 29 [some (.ref 3), some (.int x1), some (.int x2), some (.int x3)] [.int s0] (49, pt_G, I, L) =
    F 528 4 [some (.ref 3), some (.int x1), some (.int s0), some (.int (x3 + 1))] [] (49, pt_G, I, L) := pm_blk_to hF (pm_stp 528 [0, 4, 17, 26, 29]) 27 rfl
-- TurnCabinet$House.isConnected(I)Z 3
set_option maxRecDepth 20000 in
theorem e529_0 (hF : pm_fix pt_me pt_Sg (pt_R L0 xs) F) {x1 : Int32} : F 529 0 [some (.ref 3), some (.int x1), none, none, none] [] (49, pt_G, I, L) =
    pm_k (F 527 0 [some (.ref 3), some (.int x1), none, none] [] (49, pt_G, I, L)) (fun v S => F 529 5 [some (.ref 3), some (.int x1), none, none, none] (v.toList ++ []) S) := pm_blk_to hF (pm_stp 529 [0, 5, 11, 15, 30, 39, 49]) 39 rfl
set_option maxRecDepth 20000 in
theorem e529_5 (hF : pm_fix pt_me pt_Sg (pt_R L0 xs) F) {x1 : Int32} {s0 : Int32} : F 529 5 [some (.ref 3), some (.int x1), none, none, none] [.int s0] (49, pt_G, I, L) =
    pm_k (F 528 0 [some (.ref 3), some (.int x1), none, none] [] (49, pt_G, I, L)) (fun v S => F 529 11 [some (.ref 3), some (.int x1), some (.int s0), none, none] (v.toList ++ []) S) := pm_blk_to hF (pm_stp 529 [0, 5, 11, 15, 30, 39, 49]) 39 rfl
set_option maxRecDepth 20000 in
theorem e529_11 (hF : pm_fix pt_me pt_Sg (pt_R L0 xs) F) {x1 : Int32} {x2 : Int32} {s0 : Int32} : F 529 11 [some (.ref 3), some (.int x1), some (.int x2), none, none] [.int s0] (49, pt_G, I, L) =
    F 529 15 [some (.ref 3), some (.int x1), some (.int x2), some (.int s0), some (.int 0)] [] (49, pt_G, I, L) := pm_blk_to hF (pm_stp 529 [0, 5, 11, 15, 30, 39, 49]) 39 rfl
set_option maxRecDepth 20000 in
theorem e529_15 (hF : pm_fix pt_me pt_Sg (pt_R L0 xs) F) {x1 : Int32} {x2 : Int32} {x3 : Int32} {x4 : Int32} : F 529 15 [some (.ref 3), some (.int x1), some (.int x2), some (.int x3), some (.int x4)] [] (49, pt_G, I, L) =
    if x4 < (I 3 0) then
      pm_k (F 151 0 [some (.int x4), some (.int x1)] [] (49, pt_G, I, L)) (fun v S => F 529 30 [some (.ref 3), some (.int x1), some (.int x2), some (.int x3), some (.int x4)] (v.toList ++ []) S)
    else
      some (some (.int 1), (49, pt_G, I, L)) := pm_blk_to hF (pm_stp 529 [0, 5, 11, 15, 30, 39, 49]) 39 rfl
set_option maxRecDepth 20000 in
theorem e529_30 (hF : pm_fix pt_me pt_Sg (pt_R L0 xs) F) {x1 : Int32} {x2 : Int32} {x3 : Int32} {x4 : Int32} {s0 : Int32} : F 529 30 [some (.ref 3), some (.int x1), some (.int x2), some (.int x3), some (.int x4)] [.int s0] (49, pt_G, I, L) =
    if s0 = 0 then
      pm_k (F 509 0 [some (.ref 3), some (.int x4)] [] (49, pt_G, I, L)) (fun v S => F 529 39 [some (.ref 3), some (.int x1), some (.int x2), some (.int x3), some (.int x4)] (v.toList ++ []) S)
    else
      F 529 15 [some (.ref 3), some (.int x1), some (.int x2), some (.int x3), some (.int (x4 + 1))] [] (49, pt_G, I, L) := pm_blk_to hF (pm_stp 529 [0, 5, 11, 15, 30, 39, 49]) 39 rfl
set_option maxRecDepth 20000 in
theorem e529_39 (hF : pm_fix pt_me pt_Sg (pt_R L0 xs) F) {x1 : Int32} {x2 : Int32} {x3 : Int32} {x4 : Int32} {s0 : Int32} : F 529 39 [some (.ref 3), some (.int x1), some (.int x2), some (.int x3), some (.int x4)] [.int s0] (49, pt_G, I, L) =
    if s0 ≤ x2 then
      F 529 15 [some (.ref 3), some (.int x1), some (.int x2), some (.int x3), some (.int (x4 + 1))] [] (49, pt_G, I, L)
    else
      pm_k (F 509 0 [some (.ref 3), some (.int x4)] [] (49, pt_G, I, L)) (fun v S => F 529 49 [some (.ref 3), some (.int x1), some (.int x2), some (.int x3), some (.int x4)] (v.toList ++ []) S) := pm_blk_to hF (pm_stp 529 [0, 5, 11, 15, 30, 39, 49]) 39 rfl
set_option maxRecDepth 20000 in
theorem e529_49 (hF : pm_fix pt_me pt_Sg (pt_R L0 xs) F) {x1 : Int32} {x2 : Int32} {x3 : Int32} {x4 : Int32} {s0 : Int32} : F 529 49 [some (.ref 3), some (.int x1), some (.int x2), some (.int x3), some (.int x4)] [.int s0] (49, pt_G, I, L) =
    if s0 < x3 then
      some (some (.int 0), (49, pt_G, I, L))
    else
      F 529 15 [some (.ref 3), some (.int x1), some (.int x2), some (.int x3), some (.int (x4 + 1))] [] (49, pt_G, I, L) := pm_blk_to hF (pm_stp 529 [0, 5, 11, 15, 30, 39, 49]) 39 rfl
-- TurnCabinet$Picks.turnsOf(III)I 23
set_option maxRecDepth 20000 in
theorem e602_0 (hF : pm_fix pt_me pt_Sg (pt_R L0 xs) F) {x1 : Int32} {x2 : Int32} {x3 : Int32} : F 602 0 [some (.ref 23), some (.int x1), some (.int x2), some (.int x3), none, none, none, none] [] (49, pt_G, I, L) =
    F 602 9 [some (.ref 23), some (.int x1), some (.int x2), some (.int x3), some (.int 0), some (.int 0), some (.int 0), none] [] (49, pt_G, I, L) := pm_blk_to hF (pm_stp 602 [0, 9, 33, 44, 53]) 37 rfl
set_option maxRecDepth 20000 in
theorem e602_9 (hF : pm_fix pt_me pt_Sg (pt_R L0 xs) F) {x1 : Int32} {x2 : Int32} {x3 : Int32} {x4 : Int32} {x5 : Int32} {x6 : Int32} : F 602 9 [some (.ref 23), some (.int x1), some (.int x2), some (.int x3), some (.int x4), some (.int x5), some (.int x6), none] [] (49, pt_G, I, L) =
    if x6 < (I 3 1) then
      pm_k (F 518 0 [some (.ref 3), some (.int x1), some (.int x5), some (.int x2), some (.int x3), none, none, none, none, none, none, none] [] (49, pt_G, I, L)) (fun v S => F 602 33 [some (.ref 23), some (.int x1), some (.int x2), some (.int x3), some (.int x4), some (.int x5), some (.int x6), none] (v.toList ++ []) S)
    else
      some (some (.int x4), (49, pt_G, I, L)) := pm_blk_to hF (pm_stp 602 [0, 9, 33, 44, 53]) 37 rfl
set_option maxRecDepth 20000 in
theorem e602_33 (hF : pm_fix pt_me pt_Sg (pt_R L0 xs) F) {x1 : Int32} {x2 : Int32} {x3 : Int32} {x4 : Int32} {x5 : Int32} {x6 : Int32} {s0 : Int32} : F 602 33 [some (.ref 23), some (.int x1), some (.int x2), some (.int x3), some (.int x4), some (.int x5), some (.int x6), none] [.int s0] (49, pt_G, I, L) =
    pm_k (F 903 0 [some (.int x4), some (.int x6), some (.int s0), none] [] (49, pt_G, I, L)) (fun v S => F 602 44 [some (.ref 23), some (.int x1), some (.int x2), some (.int x3), some (.int x4), some (.int x5), some (.int x6), some (.int s0)] (v.toList ++ []) S) := pm_blk_to hF (pm_stp 602 [0, 9, 33, 44, 53]) 37 rfl
set_option maxRecDepth 20000 in
theorem e602_44 (hF : pm_fix pt_me pt_Sg (pt_R L0 xs) F) {x1 : Int32} {x2 : Int32} {x3 : Int32} {x4 : Int32} {x5 : Int32} {x6 : Int32} {x7 : Int32} {s0 : Int32} : F 602 44 [some (.ref 23), some (.int x1), some (.int x2), some (.int x3), some (.int x4), some (.int x5), some (.int x6), some (.int x7)] [.int s0] (49, pt_G, I, L) =
    pm_k (F 907 0 [some (.int x5), some (.int x7)] [] (49, pt_G, I, L)) (fun v S => F 602 53 [some (.ref 23), some (.int x1), some (.int x2), some (.int x3), some (.int s0), some (.int x5), some (.int x6), some (.int x7)] (v.toList ++ []) S) := pm_blk_to hF (pm_stp 602 [0, 9, 33, 44, 53]) 37 rfl
set_option maxRecDepth 20000 in
theorem e602_53 (hF : pm_fix pt_me pt_Sg (pt_R L0 xs) F) {x1 : Int32} {x2 : Int32} {x3 : Int32} {x4 : Int32} {x5 : Int32} {x6 : Int32} {x7 : Int32} {s0 : Int32} : F 602 53 [some (.ref 23), some (.int x1), some (.int x2), some (.int x3), some (.int x4), some (.int x5), some (.int x6), some (.int x7)] [.int s0] (49, pt_G, I, L) =
    F 602 9 [some (.ref 23), some (.int x1), some (.int x2), some (.int x3), some (.int x4), some (.int s0), some (.int (x6 + 1)), none] [] (49, pt_G, I, L) := pm_blk_to hF (pm_stp 602 [0, 9, 33, 44, 53]) 37 rfl
-- TurnCabinet$Picks.pickShort(I)I 23
set_option maxRecDepth 20000 in
theorem e603_0 (hF : pm_fix pt_me pt_Sg (pt_R L0 xs) F) {x1 : Int32} : F 603 0 [some (.ref 23), some (.int x1), none, none, none, none, none] [] (49, pt_G, I, L) =
    pm_k (F 606 0 [some (.ref 23)] [] (49, pt_G, I, L)) (fun v S => F 603 6 [some (.ref 23), some (.int x1), some (.int 0), none, none, none, none] (v.toList ++ []) S) := pm_blk_to hF (pm_stp 603 [0, 6, 10, 28, 40, 50]) 44 rfl
set_option maxRecDepth 20000 in
theorem e603_6 (hF : pm_fix pt_me pt_Sg (pt_R L0 xs) F) {x1 : Int32} {x2 : Int32} {s0 : Int32} : F 603 6 [some (.ref 23), some (.int x1), some (.int x2), none, none, none, none] [.int s0] (49, pt_G, I, L) =
    F 603 10 [some (.ref 23), some (.int x1), some (.int x2), some (.int s0), some (.int 0), none, none] [] (49, pt_G, I, L) := pm_blk_to hF (pm_stp 603 [0, 6, 10, 28, 40, 50]) 44 rfl
set_option maxRecDepth 20000 in
theorem e603_10 (hF : pm_fix pt_me pt_Sg (pt_R L0 xs) F) {x1 : Int32} {x2 : Int32} {x3 : Int32} {x4 : Int32} : F 603 10 [some (.ref 23), some (.int x1), some (.int x2), some (.int x3), some (.int x4), none, none] [] (49, pt_G, I, L) =
    if x4 < (I 3 1) then
      pm_k (F 902 0 [some (.int x1), some (.int x4)] [] (49, pt_G, I, L)) (fun v S => F 603 28 [some (.ref 23), some (.int x1), some (.int x2), some (.int x3), some (.int x4), none, none] (v.toList ++ []) S)
    else
      some (some (.int x2), (49, pt_G, I, L)) := pm_blk_to hF (pm_stp 603 [0, 6, 10, 28, 40, 50]) 44 rfl
set_option maxRecDepth 20000 in
theorem e603_28 (hF : pm_fix pt_me pt_Sg (pt_R L0 xs) F) {x1 : Int32} {x2 : Int32} {x3 : Int32} {x4 : Int32} {s0 : Int32} : F 603 28 [some (.ref 23), some (.int x1), some (.int x2), some (.int x3), some (.int x4), none, none] [.int s0] (49, pt_G, I, L) =
    pm_k (F 519 0 [some (.ref 3), some (.int s0), some (.int x3), none, none, none] [] (49, pt_G, I, L)) (fun v S => F 603 40 [some (.ref 23), some (.int x1), some (.int x2), some (.int x3), some (.int x4), some (.int s0), none] (v.toList ++ []) S) := pm_blk_to hF (pm_stp 603 [0, 6, 10, 28, 40, 50]) 44 rfl
set_option maxRecDepth 20000 in
theorem e603_40 (hF : pm_fix pt_me pt_Sg (pt_R L0 xs) F) {x1 : Int32} {x2 : Int32} {x3 : Int32} {x4 : Int32} {x5 : Int32} {s0 : Int32} : F 603 40 [some (.ref 23), some (.int x1), some (.int x2), some (.int x3), some (.int x4), some (.int x5), none] [.int s0] (49, pt_G, I, L) =
    pm_k (F 903 0 [some (.int x2), some (.int s0), some (.int x5), none] [] (49, pt_G, I, L)) (fun v S => F 603 50 [some (.ref 23), some (.int x1), some (.int x2), some (.int x3), some (.int x4), some (.int x5), some (.int s0)] (v.toList ++ []) S) := pm_blk_to hF (pm_stp 603 [0, 6, 10, 28, 40, 50]) 44 rfl
set_option maxRecDepth 20000 in
theorem e603_50 (hF : pm_fix pt_me pt_Sg (pt_R L0 xs) F) {x1 : Int32} {x2 : Int32} {x3 : Int32} {x4 : Int32} {x5 : Int32} {x6 : Int32} {s0 : Int32} : F 603 50 [some (.ref 23), some (.int x1), some (.int x2), some (.int x3), some (.int x4), some (.int x5), some (.int x6)] [.int s0] (49, pt_G, I, L) =
    F 603 10 [some (.ref 23), some (.int x1), some (.int s0), some (.int (x3 &&& (((1 : Int32) <<< (x6 &&& 31)) ^^^ (-1)))), some (.int (x4 + 1)), none, none] [] (49, pt_G, I, L) := pm_blk_to hF (pm_stp 603 [0, 6, 10, 28, 40, 50]) 44 rfl
-- TurnCabinet$Picks.pickForeseen(I)I 23
set_option maxRecDepth 20000 in
theorem e604_0 (hF : pm_fix pt_me pt_Sg (pt_R L0 xs) F) {x1 : Int32} : F 604 0 [some (.ref 23), some (.int x1), none, none, none, none] [] (49, pt_G, I, L) =
    pm_k (F 606 0 [some (.ref 23)] [] (49, pt_G, I, L)) (fun v S => F 604 6 [some (.ref 23), some (.int x1), some (.int 0), none, none, none] (v.toList ++ []) S) := pm_blk_to hF (pm_stp 604 [0, 6, 10, 43, 46]) 43 rfl
set_option maxRecDepth 20000 in
theorem e604_6 (hF : pm_fix pt_me pt_Sg (pt_R L0 xs) F) {x1 : Int32} {x2 : Int32} {s0 : Int32} : F 604 6 [some (.ref 23), some (.int x1), some (.int x2), none, none, none] [.int s0] (49, pt_G, I, L) =
    F 604 10 [some (.ref 23), some (.int x1), some (.int x2), some (.int s0), some (.int 0), none] [] (49, pt_G, I, L) := pm_blk_to hF (pm_stp 604 [0, 6, 10, 43, 46]) 43 rfl
set_option maxRecDepth 20000 in
theorem e604_10 (hF : pm_fix pt_me pt_Sg (pt_R L0 xs) F) {x1 : Int32} {x2 : Int32} {x3 : Int32} {x4 : Int32} : F 604 10 [some (.ref 23), some (.int x1), some (.int x2), some (.int x3), some (.int x4), none] [] (49, pt_G, I, L) =
    if x4 < (I 3 1) then
      bif pm_ib (x3 &&& 255) 256 then
        pm_k (F 902 0 [some (.int x1), some (.int x4)] [] (49, pt_G, I, L)) (fun v S => F 604 43 [some (.ref 23), some (.int x1), some (.int x2), some (.int x3), some (.int x4), some (.int (I 24 (Int32.toNatClampNeg (x3 &&& 255))))] (v.toList ++ [.int (I 24 (Int32.toNatClampNeg (x3 &&& 255))), .int x2]) S)
      else none
    else
      some (some (.int x2), (49, pt_G, I, L)) := pm_blk_to hF (pm_stp 604 [0, 6, 10, 43, 46]) 43 rfl
set_option maxRecDepth 20000 in
theorem e604_43 (hF : pm_fix pt_me pt_Sg (pt_R L0 xs) F) {x1 : Int32} {x2 : Int32} {x3 : Int32} {x4 : Int32} {x5 : Int32} {s0 : Int32} {s1 : Int32} {s2 : Int32} : F 604 43 [some (.ref 23), some (.int x1), some (.int x2), some (.int x3), some (.int x4), some (.int x5)] [.int s0, .int s1, .int s2] (49, pt_G, I, L) =
    pm_k (F 903 0 [some (.int s2), some (.int s1), some (.int s0), none] [] (49, pt_G, I, L)) (fun v S => F 604 46 [some (.ref 23), some (.int x1), some (.int x2), some (.int x3), some (.int x4), some (.int x5)] (v.toList ++ []) S) := pm_blk_to hF (pm_stp 604 [0, 6, 10, 43, 46]) 43 rfl
set_option maxRecDepth 20000 in
theorem e604_46 (hF : pm_fix pt_me pt_Sg (pt_R L0 xs) F) {x1 : Int32} {x2 : Int32} {x3 : Int32} {x4 : Int32} {x5 : Int32} {s0 : Int32} : F 604 46 [some (.ref 23), some (.int x1), some (.int x2), some (.int x3), some (.int x4), some (.int x5)] [.int s0] (49, pt_G, I, L) =
    F 604 10 [some (.ref 23), some (.int x1), some (.int s0), some (.int (x3 &&& (((1 : Int32) <<< (x5 &&& 31)) ^^^ (-1)))), some (.int (x4 + 1)), none] [] (49, pt_G, I, L) := pm_blk_to hF (pm_stp 604 [0, 6, 10, 43, 46]) 43 rfl
-- TurnCabinet$Picks.ifPicked(III)I 23
set_option maxRecDepth 20000 in
theorem e605_0 (hF : pm_fix pt_me pt_Sg (pt_R L0 xs) F) {x1 : Int32} {x2 : Int32} {x3 : Int32} : F 605 0 [some (.ref 23), some (.int x1), some (.int x2), some (.int x3), none, none, none, none, none] [] (49, pt_G, I, L) =
    pm_k (F 902 0 [some (.int x1), some (.int x2)] [] (49, pt_G, I, L)) (fun v S => F 605 5 [some (.ref 23), some (.int x1), some (.int x2), some (.int x3), none, none, none, none, none] (v.toList ++ []) S) := pm_blk_to hF (pm_stp 605 [0, 5, 14, 19, 51, 69, 95, 123, 138]) 85 rfl
set_option maxRecDepth 20000 in
theorem e605_5 (hF : pm_fix pt_me pt_Sg (pt_R L0 xs) F) {x1 : Int32} {x2 : Int32} {x3 : Int32} {s0 : Int32} : F 605 5 [some (.ref 23), some (.int x1), some (.int x2), some (.int x3), none, none, none, none, none] [.int s0] (49, pt_G, I, L) =
    pm_k (F 606 0 [some (.ref 23)] [] (49, pt_G, I, L)) (fun v S => F 605 14 [some (.ref 23), some (.int x1), some (.int x2), some (.int x3), some (.int s0), some (.int 0), none, none, none] (v.toList ++ []) S) := pm_blk_to hF (pm_stp 605 [0, 5, 14, 19, 51, 69, 95, 123, 138]) 85 rfl
set_option maxRecDepth 20000 in
theorem e605_14 (hF : pm_fix pt_me pt_Sg (pt_R L0 xs) F) {x1 : Int32} {x2 : Int32} {x3 : Int32} {x4 : Int32} {x5 : Int32} {s0 : Int32} : F 605 14 [some (.ref 23), some (.int x1), some (.int x2), some (.int x3), some (.int x4), some (.int x5), none, none, none] [.int s0] (49, pt_G, I, L) =
    F 605 19 [some (.ref 23), some (.int x1), some (.int x2), some (.int x3), some (.int x4), some (.int x5), some (.int s0), some (.int 0), none] [] (49, pt_G, I, L) := pm_blk_to hF (pm_stp 605 [0, 5, 14, 19, 51, 69, 95, 123, 138]) 85 rfl
set_option maxRecDepth 20000 in
theorem e605_19 (hF : pm_fix pt_me pt_Sg (pt_R L0 xs) F) {x1 : Int32} {x2 : Int32} {x3 : Int32} {x4 : Int32} {x5 : Int32} {x6 : Int32} {x7 : Int32} : F 605 19 [some (.ref 23), some (.int x1), some (.int x2), some (.int x3), some (.int x4), some (.int x5), some (.int x6), some (.int x7), none] [] (49, pt_G, I, L) =
    if x7 < x2 then
      if x7 < 8 then
        bif pm_ib (x6 &&& 255) 256 then
          pm_k (F 902 0 [some (.int x1), some (.int x7)] [] (49, pt_G, I, L)) (fun v S => F 605 51 [some (.ref 23), some (.int x1), some (.int x2), some (.int x3), some (.int x4), some (.int x5), some (.int x6), some (.int x7), some (.int (I 24 (Int32.toNatClampNeg (x6 &&& 255))))] (v.toList ++ []) S)
        else none
      else
        pm_k (F 151 0 [some (.int x3), some (.int x6)] [] (49, pt_G, I, L)) (fun v S => F 605 95 [some (.ref 23), some (.int x1), some (.int x2), some (.int x3), some (.int x4), some (.int x5), some (.int x6), some (.int x7), none] (v.toList ++ []) S)
    else
      pm_k (F 151 0 [some (.int x3), some (.int x6)] [] (49, pt_G, I, L)) (fun v S => F 605 95 [some (.ref 23), some (.int x1), some (.int x2), some (.int x3), some (.int x4), some (.int x5), some (.int x6), some (.int x7), none] (v.toList ++ []) S) := pm_blk_to hF (pm_stp 605 [0, 5, 14, 19, 51, 69, 95, 123, 138]) 85 rfl
set_option maxRecDepth 20000 in
theorem e605_51 (hF : pm_fix pt_me pt_Sg (pt_R L0 xs) F) {x1 : Int32} {x2 : Int32} {x3 : Int32} {x4 : Int32} {x5 : Int32} {x6 : Int32} {x7 : Int32} {x8 : Int32} {s0 : Int32} : F 605 51 [some (.ref 23), some (.int x1), some (.int x2), some (.int x3), some (.int x4), some (.int x5), some (.int x6), some (.int x7), some (.int x8)] [.int s0] (49, pt_G, I, L) =
    if s0 = x4 then
      pm_k (F 512 0 [some (.ref 3), some (.int x4), some (.int x8)] [] (49, pt_G, I, L)) (fun v S => F 605 69 [some (.ref 23), some (.int x1), some (.int x2), some (.int x3), some (.int x4), some (.int x5), some (.int x6), some (.int x7), some (.int x8)] (v.toList ++ [.int x5]) S)
    else
      F 605 19 [some (.ref 23), some (.int x1), some (.int x2), some (.int x3), some (.int x4), some (.int x5), some (.int (x6 &&& (((1 : Int32) <<< (x8 &&& 31)) ^^^ (-1)))), some (.int (x7 + 1)), none] [] (49, pt_G, I, L) := pm_blk_to hF (pm_stp 605 [0, 5, 14, 19, 51, 69, 95, 123, 138]) 85 rfl
set_option maxRecDepth 20000 in
theorem e605_69 (hF : pm_fix pt_me pt_Sg (pt_R L0 xs) F) {x1 : Int32} {x2 : Int32} {x3 : Int32} {x4 : Int32} {x5 : Int32} {x6 : Int32} {x7 : Int32} {x8 : Int32} {s0 : Int32} {s1 : Int32} : F 605 69 [some (.ref 23), some (.int x1), some (.int x2), some (.int x3), some (.int x4), some (.int x5), some (.int x6), some (.int x7), some (.int x8)] [.int s0, .int s1] (49, pt_G, I, L) =
    F 605 19 [some (.ref 23), some (.int x1), some (.int x2), some (.int x3), some (.int x4), some (.int (s1 + s0)), some (.int (x6 &&& (((1 : Int32) <<< (x8 &&& 31)) ^^^ (-1)))), some (.int (x7 + 1)), none] [] (49, pt_G, I, L) := pm_blk_to hF (pm_stp 605 [0, 5, 14, 19, 51, 69, 95, 123, 138]) 85 rfl
set_option maxRecDepth 20000 in
theorem e605_95 (hF : pm_fix pt_me pt_Sg (pt_R L0 xs) F) {x1 : Int32} {x2 : Int32} {x3 : Int32} {x4 : Int32} {x5 : Int32} {x6 : Int32} {x7 : Int32} {s0 : Int32} : F 605 95 [some (.ref 23), some (.int x1), some (.int x2), some (.int x3), some (.int x4), some (.int x5), some (.int x6), some (.int x7), none] [.int s0] (49, pt_G, I, L) =
    if s0 = 0 then
      some (some (.int (-1)), (49, pt_G, I, L))
    else
      bif pm_ib ((x6 &&& (((1 : Int32) <<< (x3 &&& 31)) ^^^ (-1))) &&& 255) 256 then
        pm_k (F 609 0 [some (.ref 23), some (.long (L 25 (Int32.toNatClampNeg ((x6 &&& (((1 : Int32) <<< (x3 &&& 31)) ^^^ (-1))) &&& 255)))), none, some (.int x4)] [] (49, pt_G, I, L)) (fun v S => F 605 123 [some (.ref 23), some (.int x1), some (.int x2), some (.int x3), some (.int x4), some (.int x5), some (.int x6), some (.int x7), none] (v.toList ++ []) S)
      else none := pm_blk_to hF (pm_stp 605 [0, 5, 14, 19, 51, 69, 95, 123, 138]) 85 rfl
set_option maxRecDepth 20000 in
theorem e605_123 (hF : pm_fix pt_me pt_Sg (pt_R L0 xs) F) {x1 : Int32} {x2 : Int32} {x3 : Int32} {x4 : Int32} {x5 : Int32} {x6 : Int32} {x7 : Int32} {s0 : Int64} : F 605 123 [some (.ref 23), some (.int x1), some (.int x2), some (.int x3), some (.int x4), some (.int x5), some (.int x6), some (.int x7), none] [.long s0] (49, pt_G, I, L) =
    pm_k (F 512 0 [some (.ref 3), some (.int x4), some (.int x3)] [] (49, pt_G, I, L)) (fun v S => F 605 138 [some (.ref 23), some (.int x1), some (.int x2), some (.int x3), some (.int x4), some (.int x5), some (.int x6), some (.int (Int64.toInt32 s0)), none] (v.toList ++ [.int x5]) S) := pm_blk_to hF (pm_stp 605 [0, 5, 14, 19, 51, 69, 95, 123, 138]) 85 rfl
set_option maxRecDepth 20000 in
theorem e605_138 (hF : pm_fix pt_me pt_Sg (pt_R L0 xs) F) {x1 : Int32} {x2 : Int32} {x3 : Int32} {x4 : Int32} {x5 : Int32} {x6 : Int32} {x7 : Int32} {s0 : Int32} {s1 : Int32} : F 605 138 [some (.ref 23), some (.int x1), some (.int x2), some (.int x3), some (.int x4), some (.int x5), some (.int x6), some (.int x7), none] [.int s0, .int s1] (49, pt_G, I, L) =
    some (some (.int ((s1 + s0) + x7)), (49, pt_G, I, L)) := pm_blk_to hF (pm_stp 605 [0, 5, 14, 19, 51, 69, 95, 123, 138]) 85 rfl
-- TurnCabinet$Picks.allOffices()I 23
set_option maxRecDepth 20000 in
theorem e606_0 (hF : pm_fix pt_me pt_Sg (pt_R L0 xs) F) : F 606 0 [some (.ref 23)] [] (49, pt_G, I, L) =
    some (some (.int (((1 : Int32) <<< ((I 3 1) &&& 31)) - 1)), (49, pt_G, I, L)) := pm_blk_to hF (pm_stp 606 [0]) 13 rfl
-- TurnCabinet$Picks.lookAhead(I)V 23
set_option maxRecDepth 20000 in
theorem e607_0 (hF : pm_fix pt_me pt_Sg (pt_R L0 xs) F) {x1 : Int32} : F 607 0 [some (.ref 23), some (.int x1), none] [] (49, pt_G, I, L) =
    if (I 23 5) = x1 then
      if (I 23 6) = (I 3 8) then
        some (none, (49, pt_G, I, L))
      else
        pm_k (F 608 0 [some (.ref 23), some (.int x1), none, none, none] [] (49, pt_G, (pm_ui (pm_ui I 23 5 x1) 23 6 (I 3 8)), L)) (fun v S => F 607 44 [some (.ref 23), some (.int x1), none] (v.toList ++ []) S)
    else
      pm_k (F 608 0 [some (.ref 23), some (.int x1), none, none, none] [] (49, pt_G, (pm_ui (pm_ui I 23 5 x1) 23 6 (I 3 8)), L)) (fun v S => F 607 44 [some (.ref 23), some (.int x1), none] (v.toList ++ []) S) := pm_blk_to hF (pm_stp 607 [0, 44, 53, 58, 82, 86, 89]) 55 rfl
set_option maxRecDepth 20000 in
theorem e607_44 (hF : pm_fix pt_me pt_Sg (pt_R L0 xs) F) {x1 : Int32} : F 607 44 [some (.ref 23), some (.int x1), none] [] (49, pt_G, I, L) =
    bif pm_ib 0 256 then
      F 607 53 [some (.ref 23), some (.int x1), some (.int 1)] [] (49, pt_G, I, (pm_ul L 25 (Int32.toNatClampNeg 0) 0))
    else none := pm_blk_to hF (pm_stp 607 [0, 44, 53, 58, 82, 86, 89]) 55 rfl
set_option maxRecDepth 20000 in
theorem e607_53 (hF : pm_fix pt_me pt_Sg (pt_R L0 xs) F) {x1 : Int32} {x2 : Int32} : F 607 53 [some (.ref 23), some (.int x1), some (.int x2)] [] (49, pt_G, I, L) =
    pm_k (F 606 0 [some (.ref 23)] [] (49, pt_G, I, L)) (fun v S => F 607 58 [some (.ref 23), some (.int x1), some (.int x2)] (v.toList ++ [.int x2]) S) := pm_blk_to hF (pm_stp 607 [0, 44, 53, 58, 82, 86, 89]) 55 rfl
set_option maxRecDepth 20000 in
theorem e607_58 (hF : pm_fix pt_me pt_Sg (pt_R L0 xs) F) {x1 : Int32} {x2 : Int32} {s0 : Int32} {s1 : Int32} : F 607 58 [some (.ref 23), some (.int x1), some (.int x2)] [.int s0, .int s1] (49, pt_G, I, L) =
    if s1 ≤ s0 then
      if x2 < 256 then
        pm_k (F 1508 0 [some (.int x2)] [] (49, pt_G, I, L)) (fun v S => F 607 82 [some (.ref 23), some (.int x1), some (.int x2)] (v.toList ++ [.int (I 3 1), .int x1, .int x2, .ref 23]) S)
      else
        some (none, (49, pt_G, I, L))
    else
      some (none, (49, pt_G, I, L)) := pm_blk_to hF (pm_stp 607 [0, 44, 53, 58, 82, 86, 89]) 55 rfl
set_option maxRecDepth 20000 in
theorem e607_82 (hF : pm_fix pt_me pt_Sg (pt_R L0 xs) F) {x1 : Int32} {x2 : Int32} {s0 : Int32} {s1 : Int32} {s2 : Int32} {s3 : Int32} : F 607 82 [some (.ref 23), some (.int x1), some (.int x2)] [.int s0, .int s1, .int s2, .int s3, .ref 23] (49, pt_G, I, L) =
    pm_k (F 902 0 [some (.int s2), some (.int (s1 - s0))] [] (49, pt_G, I, L)) (fun v S => F 607 86 [some (.ref 23), some (.int x1), some (.int x2)] (v.toList ++ [.int s3, .ref 23]) S) := pm_blk_to hF (pm_stp 607 [0, 44, 53, 58, 82, 86, 89]) 55 rfl
set_option maxRecDepth 20000 in
theorem e607_86 (hF : pm_fix pt_me pt_Sg (pt_R L0 xs) F) {x1 : Int32} {x2 : Int32} {s0 : Int32} {s1 : Int32} : F 607 86 [some (.ref 23), some (.int x1), some (.int x2)] [.int s0, .int s1, .ref 23] (49, pt_G, I, L) =
    pm_k (F 610 0 [some (.ref 23), some (.int s1), some (.int s0), none, none, none, none, none, none] [] (49, pt_G, I, L)) (fun v S => F 607 89 [some (.ref 23), some (.int x1), some (.int x2)] (v.toList ++ []) S) := pm_blk_to hF (pm_stp 607 [0, 44, 53, 58, 82, 86, 89]) 55 rfl
set_option maxRecDepth 20000 in
theorem e607_89 (hF : pm_fix pt_me pt_Sg (pt_R L0 xs) F) {x1 : Int32} {x2 : Int32} : F 607 89 [some (.ref 23), some (.int x1), some (.int x2)] [] (49, pt_G, I, L) =
    F 607 53 [some (.ref 23), some (.int x1), some (.int (x2 + 1))] [] (49, pt_G, I, L) := pm_blk_to hF (pm_stp 607 [0, 44, 53, 58, 82, 86, 89]) 55 rfl
-- TurnCabinet$Picks.layLanes(I)V 23
set_option maxRecDepth 20000 in
theorem e608_0 (hF : pm_fix pt_me pt_Sg (pt_R L0 xs) F) {x1 : Int32} : F 608 0 [some (.ref 23), some (.int x1), none, none, none] [] (49, pt_G, I, L) =
    F 608 4 [some (.ref 23), some (.int x1), some (.int 0), some (.int 0), none] [] (49, pt_G, I, L) := pm_blk_to hF (pm_stp 608 [0, 4, 20, 28, 41, 60]) 46 rfl
set_option maxRecDepth 20000 in
theorem e608_4 (hF : pm_fix pt_me pt_Sg (pt_R L0 xs) F) {x1 : Int32} {x2 : Int32} {x3 : Int32} : F 608 4 [some (.ref 23), some (.int x1), some (.int x2), some (.int x3), none] [] (49, pt_G, I, L) =
    if x3 < (I 3 1) then
      pm_k (F 902 0 [some (.int x1), some (.int x3)] [] (49, pt_G, I, L)) (fun v S => F 608 20 [some (.ref 23), some (.int x1), some (.int x2), some (.int x3), none] (v.toList ++ []) S)
    else
      pm_k (F 1508 0 [some (.int x2)] [] (49, pt_G, I, L)) (fun v S => F 608 60 [some (.ref 23), some (.int x1), some (.int x2), some (.int x3), none] (v.toList ++ [.ref 23]) S) := pm_blk_to hF (pm_stp 608 [0, 4, 20, 28, 41, 60]) 46 rfl
set_option maxRecDepth 20000 in
theorem e608_20 (hF : pm_fix pt_me pt_Sg (pt_R L0 xs) F) {x1 : Int32} {x2 : Int32} {x3 : Int32} {s0 : Int32} : F 608 20 [some (.ref 23), some (.int x1), some (.int x2), some (.int x3), none] [.int s0] (49, pt_G, I, L) =
    pm_k (F 151 0 [some (.int s0), some (.int x2)] [] (49, pt_G, I, L)) (fun v S => F 608 28 [some (.ref 23), some (.int x1), some (.int x2), some (.int x3), some (.int s0)] (v.toList ++ []) S) := pm_blk_to hF (pm_stp 608 [0, 4, 20, 28, 41, 60]) 46 rfl
set_option maxRecDepth 20000 in
theorem e608_28 (hF : pm_fix pt_me pt_Sg (pt_R L0 xs) F) {x1 : Int32} {x2 : Int32} {x3 : Int32} {x4 : Int32} {s0 : Int32} : F 608 28 [some (.ref 23), some (.int x1), some (.int x2), some (.int x3), some (.int x4)] [.int s0] (49, pt_G, I, L) =
    if s0 = 0 then
      pm_k (F 1508 0 [some (.int x2)] [] (49, pt_G, I, L)) (fun v S => F 608 41 [some (.ref 23), some (.int x1), some (.int x2), some (.int x3), some (.int x4)] (v.toList ++ [.int x4, .ref 26]) S)
    else
      F 608 4 [some (.ref 23), some (.int x1), some (.int (x2 ||| ((1 : Int32) <<< (x4 &&& 31)))), some (.int (x3 + 1)), none] [] (49, pt_G, I, L) := pm_blk_to hF (pm_stp 608 [0, 4, 20, 28, 41, 60]) 46 rfl
set_option maxRecDepth 20000 in
theorem e608_41 (hF : pm_fix pt_me pt_Sg (pt_R L0 xs) F) {x1 : Int32} {x2 : Int32} {x3 : Int32} {x4 : Int32} {s0 : Int32} {s1 : Int32} : F 608 41 [some (.ref 23), some (.int x1), some (.int x2), some (.int x3), some (.int x4)] [.int s0, .int s1, .ref 26] (49, pt_G, I, L) =
    bif pm_ib s1 8 then
      F 608 4 [some (.ref 23), some (.int x1), some (.int (x2 ||| ((1 : Int32) <<< (x4 &&& 31)))), some (.int (x3 + 1)), none] [] (49, pt_G, (pm_ui I 26 (Int32.toNatClampNeg s1) s0), L)
    else none := pm_blk_to hF (pm_stp 608 [0, 4, 20, 28, 41, 60]) 46 rfl
set_option maxRecDepth 20000 in
theorem e608_60 (hF : pm_fix pt_me pt_Sg (pt_R L0 xs) F) {x1 : Int32} {x2 : Int32} {x3 : Int32} {s0 : Int32} : F 608 60 [some (.ref 23), some (.int x1), some (.int x2), some (.int x3), none] [.int s0, .ref 23] (49, pt_G, I, L) =
    if s0 < 7 then
      some (none, (49, pt_G, (pm_ui I 23 4 10), L))
    else
      some (none, (49, pt_G, (pm_ui I 23 4 9), L)) := pm_blk_to hF (pm_stp 608 [0, 4, 20, 28, 41, 60]) 46 rfl
-- TurnCabinet$Picks.laneOf(JI)J 23
set_option maxRecDepth 20000 in
theorem e609_0 (hF : pm_fix pt_me pt_Sg (pt_R L0 xs) F) {y1 : Int64} {x3 : Int32} : F 609 0 [some (.ref 23), some (.long y1), none, some (.int x3)] [] (49, pt_G, I, L) =
    bif pm_ib (x3 &&& 7) 8 then
      some (some (.long ((pm_uls y1 ((I 23 4) * (I 26 (Int32.toNatClampNeg (x3 &&& 7))))) &&& (Int32.toInt64 (((1 : Int32) <<< ((I 23 4) &&& 31)) - 1)))), (49, pt_G, I, L))
    else none := pm_blk_to hF (pm_stp 609 [0]) 25 rfl
-- TurnCabinet$Picks.choose(II)V 23
set_option maxRecDepth 20000 in
theorem e610_0 (hF : pm_fix pt_me pt_Sg (pt_R L0 xs) F) {x1 : Int32} {x2 : Int32} : F 610 0 [some (.ref 23), some (.int x1), some (.int x2), none, none, none, none, none, none] [] (49, pt_G, I, L) =
    F 610 10 [some (.ref 23), some (.int x1), some (.int x2), some (.int 0), some (.long (-1)), none, some (.int 0), none, none] [] (49, pt_G, I, L) := pm_blk_to hF (pm_stp 610 [0, 10, 28, 44, 67, 100]) 99 rfl
set_option maxRecDepth 20000 in
theorem e610_10 (hF : pm_fix pt_me pt_Sg (pt_R L0 xs) F) {x1 : Int32} {x2 : Int32} {x3 : Int32} {y4 : Int64} {x6 : Int32} : F 610 10 [some (.ref 23), some (.int x1), some (.int x2), some (.int x3), some (.long y4), none, some (.int x6), none, none] [] (49, pt_G, I, L) =
    if x6 < (I 3 1) then
      pm_k (F 151 0 [some (.int x6), some (.int x1)] [] (49, pt_G, I, L)) (fun v S => F 610 28 [some (.ref 23), some (.int x1), some (.int x2), some (.int x3), some (.long y4), none, some (.int x6), none, none] (v.toList ++ []) S)
    else
      pm_k (F 512 0 [some (.ref 3), some (.int x2), some (.int x3)] [] (49, pt_G, I, L)) (fun v S => F 610 100 [some (.ref 23), some (.int x1), some (.int x2), some (.int x3), some (.long y4), none, some (.int x6), none, none] (v.toList ++ []) S) := pm_blk_to hF (pm_stp 610 [0, 10, 28, 44, 67, 100]) 99 rfl
set_option maxRecDepth 20000 in
theorem e610_28 (hF : pm_fix pt_me pt_Sg (pt_R L0 xs) F) {x1 : Int32} {x2 : Int32} {x3 : Int32} {y4 : Int64} {x6 : Int32} {s0 : Int32} : F 610 28 [some (.ref 23), some (.int x1), some (.int x2), some (.int x3), some (.long y4), none, some (.int x6), none, none] [.int s0] (49, pt_G, I, L) =
    if s0 = 0 then
      F 610 10 [some (.ref 23), some (.int x1), some (.int x2), some (.int x3), some (.long y4), none, some (.int (x6 + 1)), none, none] [] (49, pt_G, I, L)
    else
      pm_k (F 512 0 [some (.ref 3), some (.int x2), some (.int x6)] [] (49, pt_G, I, L)) (fun v S => F 610 44 [some (.ref 23), some (.int x1), some (.int x2), some (.int x3), some (.long y4), none, some (.int x6), none, none] (v.toList ++ []) S) := pm_blk_to hF (pm_stp 610 [0, 10, 28, 44, 67, 100]) 99 rfl
set_option maxRecDepth 20000 in
theorem e610_44 (hF : pm_fix pt_me pt_Sg (pt_R L0 xs) F) {x1 : Int32} {x2 : Int32} {x3 : Int32} {y4 : Int64} {x6 : Int32} {s0 : Int32} : F 610 44 [some (.ref 23), some (.int x1), some (.int x2), some (.int x3), some (.long y4), none, some (.int x6), none, none] [.int s0] (49, pt_G, I, L) =
    bif pm_ib ((x1 &&& (((1 : Int32) <<< (x6 &&& 31)) ^^^ (-1))) &&& 255) 256 then
      pm_k (F 609 0 [some (.ref 23), some (.long (L 25 (Int32.toNatClampNeg ((x1 &&& (((1 : Int32) <<< (x6 &&& 31)) ^^^ (-1))) &&& 255)))), none, some (.int x2)] [] (49, pt_G, I, L)) (fun v S => F 610 67 [some (.ref 23), some (.int x1), some (.int x2), some (.int x3), some (.long y4), none, some (.int x6), none, none] (v.toList ++ [.long (Int32.toInt64 s0)]) S)
    else none := pm_blk_to hF (pm_stp 610 [0, 10, 28, 44, 67, 100]) 99 rfl
set_option maxRecDepth 20000 in
theorem e610_67 (hF : pm_fix pt_me pt_Sg (pt_R L0 xs) F) {x1 : Int32} {x2 : Int32} {x3 : Int32} {y4 : Int64} {x6 : Int32} {s0 : Int64} {s1 : Int64} : F 610 67 [some (.ref 23), some (.int x1), some (.int x2), some (.int x3), some (.long y4), none, some (.int x6), none, none] [.long s0, .long s1] (49, pt_G, I, L) =
    if (lg_cmp (s1 + s0) y4) ≤ 0 then
      F 610 10 [some (.ref 23), some (.int x1), some (.int x2), some (.int x3), some (.long y4), none, some (.int (x6 + 1)), none, none] [] (49, pt_G, I, L)
    else
      F 610 10 [some (.ref 23), some (.int x1), some (.int x2), some (.int x6), some (.long (s1 + s0)), none, some (.int (x6 + 1)), none, none] [] (49, pt_G, I, L) := pm_blk_to hF (pm_stp 610 [0, 10, 28, 44, 67, 100]) 99 rfl
set_option maxRecDepth 20000 in
theorem e610_100 (hF : pm_fix pt_me pt_Sg (pt_R L0 xs) F) {x1 : Int32} {x2 : Int32} {x3 : Int32} {y4 : Int64} {x6 : Int32} {s0 : Int32} : F 610 100 [some (.ref 23), some (.int x1), some (.int x2), some (.int x3), some (.long y4), none, some (.int x6), none, none] [.int s0] (49, pt_G, I, L) =
    bif pm_ib (x1 &&& 255) 256 then
      bif pm_ib ((x1 &&& (((1 : Int32) <<< (x3 &&& 31)) ^^^ (-1))) &&& 255) 256 then
        bif pm_ib (x2 &&& 7) 8 then
          bif pm_ib (x1 &&& 255) 256 then
            some (none, (49, pt_G, (pm_ui I 24 (Int32.toNatClampNeg (x1 &&& 255)) x3), (pm_ul L 25 (Int32.toNatClampNeg (x1 &&& 255)) ((L 25 (Int32.toNatClampNeg ((x1 &&& (((1 : Int32) <<< (x3 &&& 31)) ^^^ (-1))) &&& 255))) + ((Int32.toInt64 s0) <<< ((((I 23 4) * (I 26 (Int32.toNatClampNeg (x2 &&& 7)))) : Int32).toInt64 &&& 63))))))
          else none
        else none
      else none
    else none := pm_blk_to hF (pm_stp 610 [0, 10, 28, 44, 67, 100]) 99 rfl
-- TurnCabinet$Picks.settle(I)I 23
set_option maxRecDepth 20000 in
theorem e611_0 (hF : pm_fix pt_me pt_Sg (pt_R L0 xs) F) {x1 : Int32} : F 611 0 [some (.ref 23), some (.int x1), none, none, none] [] (49, pt_G, I, L) =
    F 611 4 [some (.ref 23), some (.int x1), some (.int x1), some (.int 0), none] [] (49, pt_G, I, L) := pm_blk_to hF (pm_stp 611 [0, 4, 16, 39]) 34 rfl
set_option maxRecDepth 20000 in
theorem e611_4 (hF : pm_fix pt_me pt_Sg (pt_R L0 xs) F) {x1 : Int32} {x2 : Int32} {x3 : Int32} : F 611 4 [some (.ref 23), some (.int x1), some (.int x2), some (.int x3), none] [] (49, pt_G, I, L) =
    if x3 < 400 then
      pm_k (F 614 0 [some (.ref 23), some (.int x2), none, none] [] (49, pt_G, I, L)) (fun v S => F 611 16 [some (.ref 23), some (.int x1), some (.int x2), some (.int x3), none] (v.toList ++ []) S)
    else
      some (some (.int x2), (49, pt_G, I, L)) := pm_blk_to hF (pm_stp 611 [0, 4, 16, 39]) 34 rfl
set_option maxRecDepth 20000 in
theorem e611_16 (hF : pm_fix pt_me pt_Sg (pt_R L0 xs) F) {x1 : Int32} {x2 : Int32} {x3 : Int32} {s0 : Int32} : F 611 16 [some (.ref 23), some (.int x1), some (.int x2), some (.int x3), none] [.int s0] (49, pt_G, I, L) =
    if s0 = (-1) then
      some (some (.int x2), (49, pt_G, I, L))
    else
      pm_k (F 904 0 [some (.int x2), some (.int (pm_us s0 3)), some (.int (s0 &&& 7))] [] (49, pt_G, I, L)) (fun v S => F 611 39 [some (.ref 23), some (.int x1), some (.int x2), some (.int x3), some (.int s0)] (v.toList ++ []) S) := pm_blk_to hF (pm_stp 611 [0, 4, 16, 39]) 34 rfl
set_option maxRecDepth 20000 in
theorem e611_39 (hF : pm_fix pt_me pt_Sg (pt_R L0 xs) F) {x1 : Int32} {x2 : Int32} {x3 : Int32} {x4 : Int32} {s0 : Int32} : F 611 39 [some (.ref 23), some (.int x1), some (.int x2), some (.int x3), some (.int x4)] [.int s0] (49, pt_G, I, L) =
    F 611 4 [some (.ref 23), some (.int x1), some (.int s0), some (.int (x3 + 1)), none] [] (49, pt_G, I, L) := pm_blk_to hF (pm_stp 611 [0, 4, 16, 39]) 34 rfl
-- TurnCabinet$Picks.countFirstSwaps(I)I 23
set_option maxRecDepth 20000 in
theorem e613_0 (hF : pm_fix pt_me pt_Sg (pt_R L0 xs) F) {x1 : Int32} : F 613 0 [some (.ref 23), some (.int x1), none, none, none] [] (49, pt_G, I, L) =
    F 613 4 [some (.ref 23), some (.int x1), some (.int 0), some (.int 0), none] [] (49, pt_G, I, L) := pm_blk_to hF (pm_stp 613 [0, 4, 20, 40]) 36 rfl
set_option maxRecDepth 20000 in
theorem e613_4 (hF : pm_fix pt_me pt_Sg (pt_R L0 xs) F) {x1 : Int32} {x2 : Int32} {x3 : Int32} : F 613 4 [some (.ref 23), some (.int x1), some (.int x2), some (.int x3), none] [] (49, pt_G, I, L) =
    if x3 < (I 3 1) then
      F 613 20 [some (.ref 23), some (.int x1), some (.int x2), some (.int x3), some (.int (x3 + 1))] [] (49, pt_G, I, L)
    else
      some (some (.int x2), (49, pt_G, I, L)) := pm_blk_to hF (pm_stp 613 [0, 4, 20, 40]) 36 rfl
set_option maxRecDepth 20000 in
theorem e613_20 (hF : pm_fix pt_me pt_Sg (pt_R L0 xs) F) {x1 : Int32} {x2 : Int32} {x3 : Int32} {x4 : Int32} : F 613 20 [some (.ref 23), some (.int x1), some (.int x2), some (.int x3), some (.int x4)] [] (49, pt_G, I, L) =
    if x4 < (I 3 1) then
      pm_k (F 615 0 [some (.ref 23), some (.int x1), some (.int x3), some (.int x4), none, none] [] (49, pt_G, I, L)) (fun v S => F 613 40 [some (.ref 23), some (.int x1), some (.int x2), some (.int x3), some (.int x4)] (v.toList ++ []) S)
    else
      F 613 4 [some (.ref 23), some (.int x1), some (.int x2), some (.int (x3 + 1)), none] [] (49, pt_G, I, L) := pm_blk_to hF (pm_stp 613 [0, 4, 20, 40]) 36 rfl
set_option maxRecDepth 20000 in
theorem e613_40 (hF : pm_fix pt_me pt_Sg (pt_R L0 xs) F) {x1 : Int32} {x2 : Int32} {x3 : Int32} {x4 : Int32} {s0 : Int32} : F 613 40 [some (.ref 23), some (.int x1), some (.int x2), some (.int x3), some (.int x4)] [.int s0] (49, pt_G, I, L) =
    if s0 = 0 then
      F 613 20 [some (.ref 23), some (.int x1), some (.int x2), some (.int x3), some (.int (x4 + 1))] [] (49, pt_G, I, L)
    else
      F 613 20 [some (.ref 23), some (.int x1), some (.int (x2 + 1)), some (.int x3), some (.int (x4 + 1))] [] (49, pt_G, I, L) := pm_blk_to hF (pm_stp 613 [0, 4, 20, 40]) 36 rfl
-- TurnCabinet$Picks.firstSwap(I)I 23
set_option maxRecDepth 20000 in
theorem e614_0 (hF : pm_fix pt_me pt_Sg (pt_R L0 xs) F) {x1 : Int32} : F 614 0 [some (.ref 23), some (.int x1), none, none] [] (49, pt_G, I, L) =
    F 614 2 [some (.ref 23), some (.int x1), some (.int 0), none] [] (49, pt_G, I, L) := pm_blk_to hF (pm_stp 614 [0, 2, 17, 35]) 39 rfl
set_option maxRecDepth 20000 in
theorem e614_2 (hF : pm_fix pt_me pt_Sg (pt_R L0 xs) F) {x1 : Int32} {x2 : Int32} : F 614 2 [some (.ref 23), some (.int x1), some (.int x2), none] [] (49, pt_G, I, L) =
    if x2 < (I 3 1) then
      F 614 17 [some (.ref 23), some (.int x1), some (.int x2), some (.int (x2 + 1))] [] (49, pt_G, I, L)
    else
      some (some (.int (-1)), (49, pt_G, I, L)) := pm_blk_to hF (pm_stp 614 [0, 2, 17, 35]) 39 rfl
set_option maxRecDepth 20000 in
theorem e614_17 (hF : pm_fix pt_me pt_Sg (pt_R L0 xs) F) {x1 : Int32} {x2 : Int32} {x3 : Int32} : F 614 17 [some (.ref 23), some (.int x1), some (.int x2), some (.int x3)] [] (49, pt_G, I, L) =
    if x3 < (I 3 1) then
      pm_k (F 615 0 [some (.ref 23), some (.int x1), some (.int x2), some (.int x3), none, none] [] (49, pt_G, I, L)) (fun v S => F 614 35 [some (.ref 23), some (.int x1), some (.int x2), some (.int x3)] (v.toList ++ []) S)
    else
      F 614 2 [some (.ref 23), some (.int x1), some (.int (x2 + 1)), none] [] (49, pt_G, I, L) := pm_blk_to hF (pm_stp 614 [0, 2, 17, 35]) 39 rfl
set_option maxRecDepth 20000 in
theorem e614_35 (hF : pm_fix pt_me pt_Sg (pt_R L0 xs) F) {x1 : Int32} {x2 : Int32} {x3 : Int32} {s0 : Int32} : F 614 35 [some (.ref 23), some (.int x1), some (.int x2), some (.int x3)] [.int s0] (49, pt_G, I, L) =
    if s0 = 0 then
      F 614 17 [some (.ref 23), some (.int x1), some (.int x2), some (.int (x3 + 1))] [] (49, pt_G, I, L)
    else
      some (some (.int ((8 * x2) + x3)), (49, pt_G, I, L)) := pm_blk_to hF (pm_stp 614 [0, 2, 17, 35]) 39 rfl
-- TurnCabinet$Picks.helpsBoth(III)Z 23
set_option maxRecDepth 20000 in
theorem e615_0 (hF : pm_fix pt_me pt_Sg (pt_R L0 xs) F) {x1 : Int32} {x2 : Int32} {x3 : Int32} : F 615 0 [some (.ref 23), some (.int x1), some (.int x2), some (.int x3), none, none] [] (49, pt_G, I, L) =
    pm_k (F 902 0 [some (.int x1), some (.int x2)] [] (49, pt_G, I, L)) (fun v S => F 615 5 [some (.ref 23), some (.int x1), some (.int x2), some (.int x3), none, none] (v.toList ++ []) S) := pm_blk_to hF (pm_stp 615 [0, 5, 12, 31, 41, 54, 64]) 42 rfl
set_option maxRecDepth 20000 in
theorem e615_5 (hF : pm_fix pt_me pt_Sg (pt_R L0 xs) F) {x1 : Int32} {x2 : Int32} {x3 : Int32} {s0 : Int32} : F 615 5 [some (.ref 23), some (.int x1), some (.int x2), some (.int x3), none, none] [.int s0] (49, pt_G, I, L) =
    pm_k (F 902 0 [some (.int x1), some (.int x3)] [] (49, pt_G, I, L)) (fun v S => F 615 12 [some (.ref 23), some (.int x1), some (.int x2), some (.int x3), some (.int s0), none] (v.toList ++ []) S) := pm_blk_to hF (pm_stp 615 [0, 5, 12, 31, 41, 54, 64]) 42 rfl
set_option maxRecDepth 20000 in
theorem e615_12 (hF : pm_fix pt_me pt_Sg (pt_R L0 xs) F) {x1 : Int32} {x2 : Int32} {x3 : Int32} {x4 : Int32} {s0 : Int32} : F 615 12 [some (.ref 23), some (.int x1), some (.int x2), some (.int x3), some (.int x4), none] [.int s0] (49, pt_G, I, L) =
    if x4 = s0 then
      some (some (.int 0), (49, pt_G, I, L))
    else
      pm_k (F 512 0 [some (.ref 3), some (.int x4), some (.int x3)] [] (49, pt_G, I, L)) (fun v S => F 615 31 [some (.ref 23), some (.int x1), some (.int x2), some (.int x3), some (.int x4), some (.int s0)] (v.toList ++ []) S) := pm_blk_to hF (pm_stp 615 [0, 5, 12, 31, 41, 54, 64]) 42 rfl
set_option maxRecDepth 20000 in
theorem e615_31 (hF : pm_fix pt_me pt_Sg (pt_R L0 xs) F) {x1 : Int32} {x2 : Int32} {x3 : Int32} {x4 : Int32} {x5 : Int32} {s0 : Int32} : F 615 31 [some (.ref 23), some (.int x1), some (.int x2), some (.int x3), some (.int x4), some (.int x5)] [.int s0] (49, pt_G, I, L) =
    pm_k (F 512 0 [some (.ref 3), some (.int x4), some (.int x2)] [] (49, pt_G, I, L)) (fun v S => F 615 41 [some (.ref 23), some (.int x1), some (.int x2), some (.int x3), some (.int x4), some (.int x5)] (v.toList ++ [.int s0]) S) := pm_blk_to hF (pm_stp 615 [0, 5, 12, 31, 41, 54, 64]) 42 rfl
set_option maxRecDepth 20000 in
theorem e615_41 (hF : pm_fix pt_me pt_Sg (pt_R L0 xs) F) {x1 : Int32} {x2 : Int32} {x3 : Int32} {x4 : Int32} {x5 : Int32} {s0 : Int32} {s1 : Int32} : F 615 41 [some (.ref 23), some (.int x1), some (.int x2), some (.int x3), some (.int x4), some (.int x5)] [.int s0, .int s1] (49, pt_G, I, L) =
    if s1 ≤ s0 then
      some (some (.int 0), (49, pt_G, I, L))
    else
      pm_k (F 512 0 [some (.ref 3), some (.int x5), some (.int x2)] [] (49, pt_G, I, L)) (fun v S => F 615 54 [some (.ref 23), some (.int x1), some (.int x2), some (.int x3), some (.int x4), some (.int x5)] (v.toList ++ []) S) := pm_blk_to hF (pm_stp 615 [0, 5, 12, 31, 41, 54, 64]) 42 rfl
set_option maxRecDepth 20000 in
theorem e615_54 (hF : pm_fix pt_me pt_Sg (pt_R L0 xs) F) {x1 : Int32} {x2 : Int32} {x3 : Int32} {x4 : Int32} {x5 : Int32} {s0 : Int32} : F 615 54 [some (.ref 23), some (.int x1), some (.int x2), some (.int x3), some (.int x4), some (.int x5)] [.int s0] (49, pt_G, I, L) =
    pm_k (F 512 0 [some (.ref 3), some (.int x5), some (.int x3)] [] (49, pt_G, I, L)) (fun v S => F 615 64 [some (.ref 23), some (.int x1), some (.int x2), some (.int x3), some (.int x4), some (.int x5)] (v.toList ++ [.int s0]) S) := pm_blk_to hF (pm_stp 615 [0, 5, 12, 31, 41, 54, 64]) 42 rfl
set_option maxRecDepth 20000 in
theorem e615_64 (hF : pm_fix pt_me pt_Sg (pt_R L0 xs) F) {x1 : Int32} {x2 : Int32} {x3 : Int32} {x4 : Int32} {x5 : Int32} {s0 : Int32} {s1 : Int32} : F 615 64 [some (.ref 23), some (.int x1), some (.int x2), some (.int x3), some (.int x4), some (.int x5)] [.int s0, .int s1] (49, pt_G, I, L) =
    if s1 ≤ s0 then
      some (some (.int 0), (49, pt_G, I, L))
    else
      some (some (.int 1), (49, pt_G, I, L)) := pm_blk_to hF (pm_stp 615 [0, 5, 12, 31, 41, 54, 64]) 42 rfl
end
