/-! ===== printed by gen/eqs.py: what the methods do between cuts ===== -/
section
variable {F : pm_F} {L0 : Nat} {xs : Nat → Int32} {I : Nat → Nat → Int32} {L : Nat → Nat → Int64}
-- TurnCabinet$Reader.begin()V 10
set_option maxRecDepth 20000 in
theorem e702_0 (hF : pm_fix pt_me pt_Sg (pt_R L0 xs) F) : F 702 0 [some (.ref 10), none] [] (49, pt_G, I, L) =
    pm_k (F 502 0 [some (.ref 11), none] [] (49, pt_G, I, L)) (fun v S => F 702 7 [some (.ref 10), none] (v.toList ++ []) S) := pm_blk_to hF (pm_stp 702 [0, 7, 9, 59]) 40 rfl
set_option maxRecDepth 20000 in
theorem e702_7 (hF : pm_fix pt_me pt_Sg (pt_R L0 xs) F) : F 702 7 [some (.ref 10), none] [] (49, pt_G, I, L) =
    F 702 9 [some (.ref 10), some (.int 0)] [] (49, pt_G, I, L) := pm_blk_to hF (pm_stp 702 [0, 7, 9, 59]) 40 rfl
set_option maxRecDepth 20000 in
theorem e702_9 (hF : pm_fix pt_me pt_Sg (pt_R L0 xs) F) {x1 : Int32} : F 702 9 [some (.ref 10), some (.int x1)] [] (49, pt_G, I, L) =
    if x1 < 8 then
      bif pm_ib x1 8 then
        bif pm_ib x1 8 then
          F 702 9 [some (.ref 10), some (.int (x1 + 1))] [] (49, pt_G, (pm_ui (pm_ui I 21 (Int32.toNatClampNeg x1) 0) 22 (Int32.toNatClampNeg x1) 0), L)
        else none
      else none
    else
      pm_k (F 721 0 [some (.ref 10), none] [] (49, pt_G, (pm_ui (pm_ui (pm_ui (pm_ui I 10 7 0) 10 8 0) 10 9 (-1)) 10 10 0), L)) (fun v S => F 702 59 [some (.ref 10), some (.int x1)] (v.toList ++ []) S) := pm_blk_to hF (pm_stp 702 [0, 7, 9, 59]) 40 rfl
set_option maxRecDepth 20000 in
theorem e702_59 (hF : pm_fix pt_me pt_Sg (pt_R L0 xs) F) {x1 : Int32} : F 702 59 [some (.ref 10), some (.int x1)] [] (49, pt_G, I, L) =
    some (none, (49, pt_G, I, L)) := pm_blk_to hF (pm_stp 702 [0, 7, 9, 59]) 40 rfl
-- TurnCabinet$Reader.isOpen()Z 10
set_option maxRecDepth 20000 in
theorem e703_0 (hF : pm_fix pt_me pt_Sg (pt_R L0 xs) F) : F 703 0 [some (.ref 10)] [] (49, pt_G, I, L) =
    if (I 10 8) = 0 then
      if (I 10 12) = 0 then
        some (some (.int 0), (49, pt_G, I, L))
      else
        some (some (.int 1), (49, pt_G, I, L))
    else
      some (some (.int 0), (49, pt_G, I, L)) := pm_blk_to hF (pm_stp 703 [0]) 15 rfl
-- TurnCabinet$Reader.fail(I)V 10
set_option maxRecDepth 20000 in
theorem e704_0 (hF : pm_fix pt_me pt_Sg (pt_R L0 xs) F) {x1 : Int32} : F 704 0 [some (.ref 10), some (.int x1)] [] (49, pt_G, I, L) =
    if (I 10 8) = 0 then
      some (none, (49, pt_G, (pm_ui (pm_ui I 10 8 x1) 10 9 (I 10 11)), L))
    else
      some (none, (49, pt_G, I, L)) := pm_blk_to hF (pm_stp 704 [0]) 17 rfl
-- TurnCabinet$Reader.failToken()V 10
set_option maxRecDepth 20000 in
theorem e705_0 (hF : pm_fix pt_me pt_Sg (pt_R L0 xs) F) : F 705 0 [some (.ref 10)] [] (49, pt_G, I, L) =
    if (I 10 12) = 4 then
      pm_k (F 704 0 [some (.ref 10), some (.int 1)] [] (49, pt_G, I, L)) (fun v S => F 705 17 [some (.ref 10)] (v.toList ++ []) S)
    else
      pm_k (F 704 0 [some (.ref 10), some (.int 2)] [] (49, pt_G, I, L)) (fun v S => F 705 17 [some (.ref 10)] (v.toList ++ []) S) := pm_blk_to hF (pm_stp 705 [0, 17]) 15 rfl
set_option maxRecDepth 20000 in
theorem e705_17 (hF : pm_fix pt_me pt_Sg (pt_R L0 xs) F) : F 705 17 [some (.ref 10)] [] (49, pt_G, I, L) =
    some (none, (49, pt_G, I, L)) := pm_blk_to hF (pm_stp 705 [0, 17]) 15 rfl
-- TurnCabinet$Reader.readLine()V 10
set_option maxRecDepth 20000 in
theorem e706_0 (hF : pm_fix pt_me pt_Sg (pt_R L0 xs) F) : F 706 0 [some (.ref 10)] [] (49, pt_G, I, L) =
    if (I 10 15) = nI 0 then
      pm_k (F 709 0 [some (.ref 10)] [] (49, pt_G, I, L)) (fun v S => F 706 76 [some (.ref 10)] (v.toList ++ []) S)
    else
    if (I 10 15) = nI 1 then
      pm_k (F 708 0 [some (.ref 10), some (.int 1), some (.int 999), none] [] (49, pt_G, I, L)) (fun v S => F 706 91 [some (.ref 10)] (v.toList ++ [.ref 11]) S)
    else
    if (I 10 15) = nI 2 then
      pm_k (F 708 0 [some (.ref 10), some (.int 0), some (.int 9), none] [] (49, pt_G, I, L)) (fun v S => F 706 108 [some (.ref 10)] (v.toList ++ [.ref 11]) S)
    else
    if (I 10 15) = nI 3 then
      pm_k (F 708 0 [some (.ref 10), some (.int 1), some (.int 9), none] [] (49, pt_G, I, L)) (fun v S => F 706 125 [some (.ref 10)] (v.toList ++ [.ref 11]) S)
    else
    if (I 10 15) = nI 4 then
      pm_k (F 708 0 [some (.ref 10), some (.int 0), some (.int 99), none] [] (49, pt_G, I, L)) (fun v S => F 706 142 [some (.ref 10)] (v.toList ++ [.ref 11]) S)
    else
    if (I 10 15) = nI 5 then
      pm_k (F 710 0 [some (.ref 10), none, none] [] (49, pt_G, I, L)) (fun v S => F 706 152 [some (.ref 10)] (v.toList ++ []) S)
    else
    if (I 10 15) = nI 6 then
      pm_k (F 711 0 [some (.ref 10), none, none, none, none, none, none] [] (49, pt_G, I, L)) (fun v S => F 706 159 [some (.ref 10)] (v.toList ++ []) S)
    else
    if (I 10 15) = nI 7 then
      pm_k (F 705 0 [some (.ref 10)] [] (49, pt_G, I, L)) (fun v S => F 706 213 [some (.ref 10)] (v.toList ++ []) S)
    else
    if (I 10 15) = nI 8 then
      pm_k (F 705 0 [some (.ref 10)] [] (49, pt_G, I, L)) (fun v S => F 706 213 [some (.ref 10)] (v.toList ++ []) S)
    else
    if (I 10 15) = nI 9 then
      pm_k (F 705 0 [some (.ref 10)] [] (49, pt_G, I, L)) (fun v S => F 706 213 [some (.ref 10)] (v.toList ++ []) S)
    else
    if (I 10 15) = nI 10 then
      pm_k (F 712 0 [some (.ref 10), some (.ref 21), some (.ref 16), some (.int 99), none, none, none] [] (49, pt_G, I, L)) (fun v S => F 706 179 [some (.ref 10)] (v.toList ++ []) S)
    else
    if (I 10 15) = nI 11 then
      pm_k (F 712 0 [some (.ref 10), some (.ref 22), some (.ref 17), some (.int 9), none, none, none] [] (49, pt_G, I, L)) (fun v S => F 706 199 [some (.ref 10)] (v.toList ++ []) S)
    else
    if (I 10 15) = nI 12 then
      pm_k (F 713 0 [some (.ref 10), none, none] [] (49, pt_G, I, L)) (fun v S => F 706 206 [some (.ref 10)] (v.toList ++ []) S)
    else
    pm_k (F 705 0 [some (.ref 10)] [] (49, pt_G, I, L)) (fun v S => F 706 213 [some (.ref 10)] (v.toList ++ []) S) := pm_blk_to hF (pm_stp 706 [0, 76, 91, 108, 125, 142, 152, 159, 179, 199, 206, 213, 217]) 75 rfl
set_option maxRecDepth 20000 in
theorem e706_76 (hF : pm_fix pt_me pt_Sg (pt_R L0 xs) F) : F 706 76 [some (.ref 10)] [] (49, pt_G, I, L) =
    F 706 213 [some (.ref 10)] [] (49, pt_G, I, L) := pm_blk_to hF (pm_stp 706 [0, 76, 91, 108, 125, 142, 152, 159, 179, 199, 206, 213, 217]) 75 rfl
set_option maxRecDepth 20000 in
theorem e706_91 (hF : pm_fix pt_me pt_Sg (pt_R L0 xs) F) {s0 : Int32} : F 706 91 [some (.ref 10)] [.int s0, .ref 11] (49, pt_G, I, L) =
    F 706 213 [some (.ref 10)] [] (49, pt_G, (pm_ui I 11 4 s0), L) := pm_blk_to hF (pm_stp 706 [0, 76, 91, 108, 125, 142, 152, 159, 179, 199, 206, 213, 217]) 75 rfl
set_option maxRecDepth 20000 in
theorem e706_108 (hF : pm_fix pt_me pt_Sg (pt_R L0 xs) F) {s0 : Int32} : F 706 108 [some (.ref 10)] [.int s0, .ref 11] (49, pt_G, I, L) =
    F 706 213 [some (.ref 10)] [] (49, pt_G, (pm_ui I 11 5 s0), L) := pm_blk_to hF (pm_stp 706 [0, 76, 91, 108, 125, 142, 152, 159, 179, 199, 206, 213, 217]) 75 rfl
set_option maxRecDepth 20000 in
theorem e706_125 (hF : pm_fix pt_me pt_Sg (pt_R L0 xs) F) {s0 : Int32} : F 706 125 [some (.ref 10)] [.int s0, .ref 11] (49, pt_G, I, L) =
    F 706 213 [some (.ref 10)] [] (49, pt_G, (pm_ui I 11 6 s0), L) := pm_blk_to hF (pm_stp 706 [0, 76, 91, 108, 125, 142, 152, 159, 179, 199, 206, 213, 217]) 75 rfl
set_option maxRecDepth 20000 in
theorem e706_142 (hF : pm_fix pt_me pt_Sg (pt_R L0 xs) F) {s0 : Int32} : F 706 142 [some (.ref 10)] [.int s0, .ref 11] (49, pt_G, I, L) =
    F 706 213 [some (.ref 10)] [] (49, pt_G, (pm_ui I 11 7 s0), L) := pm_blk_to hF (pm_stp 706 [0, 76, 91, 108, 125, 142, 152, 159, 179, 199, 206, 213, 217]) 75 rfl
set_option maxRecDepth 20000 in
theorem e706_152 (hF : pm_fix pt_me pt_Sg (pt_R L0 xs) F) : F 706 152 [some (.ref 10)] [] (49, pt_G, I, L) =
    F 706 213 [some (.ref 10)] [] (49, pt_G, I, L) := pm_blk_to hF (pm_stp 706 [0, 76, 91, 108, 125, 142, 152, 159, 179, 199, 206, 213, 217]) 75 rfl
set_option maxRecDepth 20000 in
theorem e706_159 (hF : pm_fix pt_me pt_Sg (pt_R L0 xs) F) : F 706 159 [some (.ref 10)] [] (49, pt_G, I, L) =
    F 706 213 [some (.ref 10)] [] (49, pt_G, I, L) := pm_blk_to hF (pm_stp 706 [0, 76, 91, 108, 125, 142, 152, 159, 179, 199, 206, 213, 217]) 75 rfl
set_option maxRecDepth 20000 in
theorem e706_179 (hF : pm_fix pt_me pt_Sg (pt_R L0 xs) F) : F 706 179 [some (.ref 10)] [] (49, pt_G, I, L) =
    F 706 213 [some (.ref 10)] [] (49, pt_G, I, L) := pm_blk_to hF (pm_stp 706 [0, 76, 91, 108, 125, 142, 152, 159, 179, 199, 206, 213, 217]) 75 rfl
set_option maxRecDepth 20000 in
theorem e706_199 (hF : pm_fix pt_me pt_Sg (pt_R L0 xs) F) : F 706 199 [some (.ref 10)] [] (49, pt_G, I, L) =
    F 706 213 [some (.ref 10)] [] (49, pt_G, I, L) := pm_blk_to hF (pm_stp 706 [0, 76, 91, 108, 125, 142, 152, 159, 179, 199, 206, 213, 217]) 75 rfl
set_option maxRecDepth 20000 in
theorem e706_206 (hF : pm_fix pt_me pt_Sg (pt_R L0 xs) F) : F 706 206 [some (.ref 10)] [] (49, pt_G, I, L) =
    F 706 213 [some (.ref 10)] [] (49, pt_G, I, L) := pm_blk_to hF (pm_stp 706 [0, 76, 91, 108, 125, 142, 152, 159, 179, 199, 206, 213, 217]) 75 rfl
set_option maxRecDepth 20000 in
theorem e706_213 (hF : pm_fix pt_me pt_Sg (pt_R L0 xs) F) : F 706 213 [some (.ref 10)] [] (49, pt_G, I, L) =
    pm_k (F 721 0 [some (.ref 10), none] [] (49, pt_G, I, L)) (fun v S => F 706 217 [some (.ref 10)] (v.toList ++ []) S) := pm_blk_to hF (pm_stp 706 [0, 76, 91, 108, 125, 142, 152, 159, 179, 199, 206, 213, 217]) 75 rfl
set_option maxRecDepth 20000 in
theorem e706_217 (hF : pm_fix pt_me pt_Sg (pt_R L0 xs) F) : F 706 217 [some (.ref 10)] [] (49, pt_G, I, L) =
    some (none, (49, pt_G, I, L)) := pm_blk_to hF (pm_stp 706 [0, 76, 91, 108, 125, 142, 152, 159, 179, 199, 206, 213, 217]) 75 rfl
-- TurnCabinet$Reader.checkOnce()V 10
set_option maxRecDepth 20000 in
theorem e707_0 (hF : pm_fix pt_me pt_Sg (pt_R L0 xs) F) : F 707 0 [some (.ref 10)] [] (49, pt_G, I, L) =
    pm_k (F 151 0 [some (.int (I 10 15)), some (.int (I 10 7))] [] (49, pt_G, I, L)) (fun v S => F 707 11 [some (.ref 10)] (v.toList ++ []) S) := pm_blk_to hF (pm_stp 707 [0, 11, 19]) 24 rfl
set_option maxRecDepth 20000 in
theorem e707_11 (hF : pm_fix pt_me pt_Sg (pt_R L0 xs) F) {s0 : Int32} : F 707 11 [some (.ref 10)] [.int s0] (49, pt_G, I, L) =
    if s0 = 0 then
      F 707 19 [some (.ref 10)] [] (49, pt_G, I, L)
    else
      pm_k (F 704 0 [some (.ref 10), some (.int 2)] [] (49, pt_G, I, L)) (fun v S => F 707 19 [some (.ref 10)] (v.toList ++ []) S) := pm_blk_to hF (pm_stp 707 [0, 11, 19]) 24 rfl
set_option maxRecDepth 20000 in
theorem e707_19 (hF : pm_fix pt_me pt_Sg (pt_R L0 xs) F) : F 707 19 [some (.ref 10)] [] (49, pt_G, I, L) =
    some (none, (49, pt_G, (pm_ui I 10 7 ((I 10 7) ||| ((1 : Int32) <<< ((I 10 15) &&& 31)))), L)) := pm_blk_to hF (pm_stp 707 [0, 11, 19]) 24 rfl
-- TurnCabinet$Reader.readOnlyNumber(II)I 10
set_option maxRecDepth 20000 in
theorem e708_0 (hF : pm_fix pt_me pt_Sg (pt_R L0 xs) F) {x1 : Int32} {x2 : Int32} : F 708 0 [some (.ref 10), some (.int x1), some (.int x2), none] [] (49, pt_G, I, L) =
    pm_k (F 707 0 [some (.ref 10)] [] (49, pt_G, I, L)) (fun v S => F 708 4 [some (.ref 10), some (.int x1), some (.int x2), none] (v.toList ++ []) S) := pm_blk_to hF (pm_stp 708 [0, 4, 10, 15]) 16 rfl
set_option maxRecDepth 20000 in
theorem e708_4 (hF : pm_fix pt_me pt_Sg (pt_R L0 xs) F) {x1 : Int32} {x2 : Int32} : F 708 4 [some (.ref 10), some (.int x1), some (.int x2), none] [] (49, pt_G, I, L) =
    pm_k (F 714 0 [some (.ref 10), some (.int x1), some (.int x2)] [] (49, pt_G, I, L)) (fun v S => F 708 10 [some (.ref 10), some (.int x1), some (.int x2), none] (v.toList ++ []) S) := pm_blk_to hF (pm_stp 708 [0, 4, 10, 15]) 16 rfl
set_option maxRecDepth 20000 in
theorem e708_10 (hF : pm_fix pt_me pt_Sg (pt_R L0 xs) F) {x1 : Int32} {x2 : Int32} {s0 : Int32} : F 708 10 [some (.ref 10), some (.int x1), some (.int x2), none] [.int s0] (49, pt_G, I, L) =
    pm_k (F 715 0 [some (.ref 10)] [] (49, pt_G, I, L)) (fun v S => F 708 15 [some (.ref 10), some (.int x1), some (.int x2), some (.int s0)] (v.toList ++ []) S) := pm_blk_to hF (pm_stp 708 [0, 4, 10, 15]) 16 rfl
set_option maxRecDepth 20000 in
theorem e708_15 (hF : pm_fix pt_me pt_Sg (pt_R L0 xs) F) {x1 : Int32} {x2 : Int32} {x3 : Int32} : F 708 15 [some (.ref 10), some (.int x1), some (.int x2), some (.int x3)] [] (49, pt_G, I, L) =
    some (some (.int x3), (49, pt_G, I, L)) := pm_blk_to hF (pm_stp 708 [0, 4, 10, 15]) 16 rfl
-- TurnCabinet$Reader.readDivisors()V 10
set_option maxRecDepth 20000 in
theorem e709_0 (hF : pm_fix pt_me pt_Sg (pt_R L0 xs) F) : F 709 0 [some (.ref 10)] [] (49, pt_G, I, L) =
    pm_k (F 707 0 [some (.ref 10)] [] (49, pt_G, I, L)) (fun v S => F 709 4 [some (.ref 10)] (v.toList ++ []) S) := pm_blk_to hF (pm_stp 709 [0, 4, 15, 29, 36]) 24 rfl
set_option maxRecDepth 20000 in
theorem e709_4 (hF : pm_fix pt_me pt_Sg (pt_R L0 xs) F) : F 709 4 [some (.ref 10)] [] (49, pt_G, I, L) =
    pm_k (F 714 0 [some (.ref 10), some (.int 1), some (.int 99)] [] (49, pt_G, I, L)) (fun v S => F 709 15 [some (.ref 10)] (v.toList ++ [.ref 11]) S) := pm_blk_to hF (pm_stp 709 [0, 4, 15, 29, 36]) 24 rfl
set_option maxRecDepth 20000 in
theorem e709_15 (hF : pm_fix pt_me pt_Sg (pt_R L0 xs) F) {s0 : Int32} : F 709 15 [some (.ref 10)] [.int s0, .ref 11] (49, pt_G, I, L) =
    pm_k (F 714 0 [some (.ref 10), some (.int 1), some (.int 99)] [] (49, pt_G, (pm_ui I 11 2 s0), L)) (fun v S => F 709 29 [some (.ref 10)] (v.toList ++ [.ref 11]) S) := pm_blk_to hF (pm_stp 709 [0, 4, 15, 29, 36]) 24 rfl
set_option maxRecDepth 20000 in
theorem e709_29 (hF : pm_fix pt_me pt_Sg (pt_R L0 xs) F) {s0 : Int32} : F 709 29 [some (.ref 10)] [.int s0, .ref 11] (49, pt_G, I, L) =
    pm_k (F 715 0 [some (.ref 10)] [] (49, pt_G, (pm_ui I 11 3 s0), L)) (fun v S => F 709 36 [some (.ref 10)] (v.toList ++ []) S) := pm_blk_to hF (pm_stp 709 [0, 4, 15, 29, 36]) 24 rfl
set_option maxRecDepth 20000 in
theorem e709_36 (hF : pm_fix pt_me pt_Sg (pt_R L0 xs) F) : F 709 36 [some (.ref 10)] [] (49, pt_G, I, L) =
    some (none, (49, pt_G, I, L)) := pm_blk_to hF (pm_stp 709 [0, 4, 15, 29, 36]) 24 rfl
-- TurnCabinet$Reader.readOffice()V 10
set_option maxRecDepth 20000 in
theorem e710_0 (hF : pm_fix pt_me pt_Sg (pt_R L0 xs) F) : F 710 0 [some (.ref 10), none, none] [] (49, pt_G, I, L) =
    if (I 11 1) < 8 then
      F 710 17 [some (.ref 10), none, none] [] (49, pt_G, I, L)
    else
      pm_k (F 704 0 [some (.ref 10), some (.int 5)] [] (49, pt_G, I, L)) (fun v S => F 710 17 [some (.ref 10), none, none] (v.toList ++ []) S) := pm_blk_to hF (pm_stp 710 [0, 17, 21, 27, 31]) 42 rfl
set_option maxRecDepth 20000 in
theorem e710_17 (hF : pm_fix pt_me pt_Sg (pt_R L0 xs) F) : F 710 17 [some (.ref 10), none, none] [] (49, pt_G, I, L) =
    pm_k (F 719 0 [some (.ref 10)] [] (49, pt_G, I, L)) (fun v S => F 710 21 [some (.ref 10), none, none] (v.toList ++ []) S) := pm_blk_to hF (pm_stp 710 [0, 17, 21, 27, 31]) 42 rfl
set_option maxRecDepth 20000 in
theorem e710_21 (hF : pm_fix pt_me pt_Sg (pt_R L0 xs) F) {s0 : Int64} : F 710 21 [some (.ref 10), none, none] [.long s0] (49, pt_G, I, L) =
    pm_k (F 717 0 [some (.ref 10), some (.long s0), none] [] (49, pt_G, I, L)) (fun v S => F 710 27 [some (.ref 10), some (.long s0), none] (v.toList ++ []) S) := pm_blk_to hF (pm_stp 710 [0, 17, 21, 27, 31]) 42 rfl
set_option maxRecDepth 20000 in
theorem e710_27 (hF : pm_fix pt_me pt_Sg (pt_R L0 xs) F) {y1 : Int64} : F 710 27 [some (.ref 10), some (.long y1), none] [] (49, pt_G, I, L) =
    pm_k (F 715 0 [some (.ref 10)] [] (49, pt_G, I, L)) (fun v S => F 710 31 [some (.ref 10), some (.long y1), none] (v.toList ++ []) S) := pm_blk_to hF (pm_stp 710 [0, 17, 21, 27, 31]) 42 rfl
set_option maxRecDepth 20000 in
theorem e710_31 (hF : pm_fix pt_me pt_Sg (pt_R L0 xs) F) {y1 : Int64} : F 710 31 [some (.ref 10), some (.long y1), none] [] (49, pt_G, I, L) =
    if (I 10 8) = 0 then
      bif pm_ib ((I 11 1) &&& 7) 8 then
        some (none, (49, pt_G, (pm_ui I 11 1 ((I 11 1) + 1)), (pm_ul L 20 (Int32.toNatClampNeg ((I 11 1) &&& 7)) y1)))
      else none
    else
      some (none, (49, pt_G, I, L)) := pm_blk_to hF (pm_stp 710 [0, 17, 21, 27, 31]) 42 rfl
-- TurnCabinet$Reader.readParty()V 10
set_option maxRecDepth 20000 in
theorem e711_0 (hF : pm_fix pt_me pt_Sg (pt_R L0 xs) F) : F 711 0 [some (.ref 10), none, none, none, none, none, none] [] (49, pt_G, I, L) =
    if (I 11 0) < 7 then
      F 711 17 [some (.ref 10), none, none, none, none, none, none] [] (49, pt_G, I, L)
    else
      pm_k (F 704 0 [some (.ref 10), some (.int 5)] [] (49, pt_G, I, L)) (fun v S => F 711 17 [some (.ref 10), none, none, none, none, none, none] (v.toList ++ []) S) := pm_blk_to hF (pm_stp 711 [0, 17, 21, 27, 33, 41, 48, 55, 61, 81, 87, 99]) 97 rfl
set_option maxRecDepth 20000 in
theorem e711_17 (hF : pm_fix pt_me pt_Sg (pt_R L0 xs) F) : F 711 17 [some (.ref 10), none, none, none, none, none, none] [] (49, pt_G, I, L) =
    pm_k (F 719 0 [some (.ref 10)] [] (49, pt_G, I, L)) (fun v S => F 711 21 [some (.ref 10), none, none, none, none, none, none] (v.toList ++ []) S) := pm_blk_to hF (pm_stp 711 [0, 17, 21, 27, 33, 41, 48, 55, 61, 81, 87, 99]) 97 rfl
set_option maxRecDepth 20000 in
theorem e711_21 (hF : pm_fix pt_me pt_Sg (pt_R L0 xs) F) {s0 : Int64} : F 711 21 [some (.ref 10), none, none, none, none, none, none] [.long s0] (49, pt_G, I, L) =
    pm_k (F 717 0 [some (.ref 10), some (.long s0), none] [] (49, pt_G, I, L)) (fun v S => F 711 27 [some (.ref 10), some (.long s0), none, none, none, none, none] (v.toList ++ []) S) := pm_blk_to hF (pm_stp 711 [0, 17, 21, 27, 33, 41, 48, 55, 61, 81, 87, 99]) 97 rfl
set_option maxRecDepth 20000 in
theorem e711_27 (hF : pm_fix pt_me pt_Sg (pt_R L0 xs) F) {y1 : Int64} : F 711 27 [some (.ref 10), some (.long y1), none, none, none, none, none] [] (49, pt_G, I, L) =
    pm_k (F 716 0 [some (.ref 10), some (.int 7)] [] (49, pt_G, I, L)) (fun v S => F 711 33 [some (.ref 10), some (.long y1), none, none, none, none, none] (v.toList ++ []) S) := pm_blk_to hF (pm_stp 711 [0, 17, 21, 27, 33, 41, 48, 55, 61, 81, 87, 99]) 97 rfl
set_option maxRecDepth 20000 in
theorem e711_33 (hF : pm_fix pt_me pt_Sg (pt_R L0 xs) F) {y1 : Int64} : F 711 33 [some (.ref 10), some (.long y1), none, none, none, none, none] [] (49, pt_G, I, L) =
    pm_k (F 714 0 [some (.ref 10), some (.int 1), some (.int 999)] [] (49, pt_G, I, L)) (fun v S => F 711 41 [some (.ref 10), some (.long y1), none, none, none, none, none] (v.toList ++ []) S) := pm_blk_to hF (pm_stp 711 [0, 17, 21, 27, 33, 41, 48, 55, 61, 81, 87, 99]) 97 rfl
set_option maxRecDepth 20000 in
theorem e711_41 (hF : pm_fix pt_me pt_Sg (pt_R L0 xs) F) {y1 : Int64} {s0 : Int32} : F 711 41 [some (.ref 10), some (.long y1), none, none, none, none, none] [.int s0] (49, pt_G, I, L) =
    pm_k (F 716 0 [some (.ref 10), some (.int 8)] [] (49, pt_G, I, L)) (fun v S => F 711 48 [some (.ref 10), some (.long y1), none, some (.int s0), none, none, none] (v.toList ++ []) S) := pm_blk_to hF (pm_stp 711 [0, 17, 21, 27, 33, 41, 48, 55, 61, 81, 87, 99]) 97 rfl
set_option maxRecDepth 20000 in
theorem e711_48 (hF : pm_fix pt_me pt_Sg (pt_R L0 xs) F) {y1 : Int64} {x3 : Int32} : F 711 48 [some (.ref 10), some (.long y1), none, some (.int x3), none, none, none] [] (49, pt_G, I, L) =
    pm_k (F 714 0 [some (.ref 10), some (.int 0), some (.int 99)] [] (49, pt_G, I, L)) (fun v S => F 711 55 [some (.ref 10), some (.long y1), none, some (.int x3), none, none, none] (v.toList ++ []) S) := pm_blk_to hF (pm_stp 711 [0, 17, 21, 27, 33, 41, 48, 55, 61, 81, 87, 99]) 97 rfl
set_option maxRecDepth 20000 in
theorem e711_55 (hF : pm_fix pt_me pt_Sg (pt_R L0 xs) F) {y1 : Int64} {x3 : Int32} {s0 : Int32} : F 711 55 [some (.ref 10), some (.long y1), none, some (.int x3), none, none, none] [.int s0] (49, pt_G, I, L) =
    pm_k (F 721 0 [some (.ref 10), none] [] (49, pt_G, I, L)) (fun v S => F 711 61 [some (.ref 10), some (.long y1), none, some (.int x3), some (.int s0), none, none] (v.toList ++ []) S) := pm_blk_to hF (pm_stp 711 [0, 17, 21, 27, 33, 41, 48, 55, 61, 81, 87, 99]) 97 rfl
set_option maxRecDepth 20000 in
theorem e711_61 (hF : pm_fix pt_me pt_Sg (pt_R L0 xs) F) {y1 : Int64} {x3 : Int32} {x4 : Int32} : F 711 61 [some (.ref 10), some (.long y1), none, some (.int x3), some (.int x4), none, none] [] (49, pt_G, I, L) =
    if (I 10 15) = 9 then
      pm_k (F 714 0 [some (.ref 10), some (.int 0), some (.int 999)] [] (49, pt_G, I, L)) (fun v S => F 711 81 [some (.ref 10), some (.long y1), none, some (.int x3), some (.int x4), some (.int 0), none] (v.toList ++ []) S)
    else
      F 711 87 [some (.ref 10), some (.long y1), none, some (.int x3), some (.int x4), some (.int 0), none] [] (49, pt_G, I, L) := pm_blk_to hF (pm_stp 711 [0, 17, 21, 27, 33, 41, 48, 55, 61, 81, 87, 99]) 97 rfl
set_option maxRecDepth 20000 in
theorem e711_81 (hF : pm_fix pt_me pt_Sg (pt_R L0 xs) F) {y1 : Int64} {x3 : Int32} {x4 : Int32} {x5 : Int32} {s0 : Int32} : F 711 81 [some (.ref 10), some (.long y1), none, some (.int x3), some (.int x4), some (.int x5), none] [.int s0] (49, pt_G, I, L) =
    pm_k (F 721 0 [some (.ref 10), none] [] (49, pt_G, I, L)) (fun v S => F 711 87 [some (.ref 10), some (.long y1), none, some (.int x3), some (.int x4), some (.int s0), none] (v.toList ++ []) S) := pm_blk_to hF (pm_stp 711 [0, 17, 21, 27, 33, 41, 48, 55, 61, 81, 87, 99]) 97 rfl
set_option maxRecDepth 20000 in
theorem e711_87 (hF : pm_fix pt_me pt_Sg (pt_R L0 xs) F) {y1 : Int64} {x3 : Int32} {x4 : Int32} {x5 : Int32} : F 711 87 [some (.ref 10), some (.long y1), none, some (.int x3), some (.int x4), some (.int x5), none] [] (49, pt_G, I, L) =
    if (I 10 12) = 3 then
      F 711 99 [some (.ref 10), some (.long y1), none, some (.int x3), some (.int x4), some (.int x5), none] [] (49, pt_G, I, L)
    else
      pm_k (F 705 0 [some (.ref 10)] [] (49, pt_G, I, L)) (fun v S => F 711 99 [some (.ref 10), some (.long y1), none, some (.int x3), some (.int x4), some (.int x5), none] (v.toList ++ []) S) := pm_blk_to hF (pm_stp 711 [0, 17, 21, 27, 33, 41, 48, 55, 61, 81, 87, 99]) 97 rfl
set_option maxRecDepth 20000 in
theorem e711_99 (hF : pm_fix pt_me pt_Sg (pt_R L0 xs) F) {y1 : Int64} {x3 : Int32} {x4 : Int32} {x5 : Int32} : F 711 99 [some (.ref 10), some (.long y1), none, some (.int x3), some (.int x4), some (.int x5), none] [] (49, pt_G, I, L) =
    if (I 10 8) = 0 then
      bif pm_ib ((I 11 0) &&& 7) 8 then
        bif pm_ib ((I 11 0) &&& 7) 8 then
          bif pm_ib ((I 11 0) &&& 7) 8 then
            bif pm_ib ((I 11 0) &&& 7) 8 then
              some (none, (49, pt_G, (pm_ui (pm_ui (pm_ui (pm_ui I 12 (Int32.toNatClampNeg ((I 11 0) &&& 7)) x3) 13 (Int32.toNatClampNeg ((I 11 0) &&& 7)) x4) 14 (Int32.toNatClampNeg ((I 11 0) &&& 7)) x5) 11 0 ((I 11 0) + 1)), (pm_ul L 19 (Int32.toNatClampNeg ((I 11 0) &&& 7)) y1)))
            else none
          else none
        else none
      else none
    else
      some (none, (49, pt_G, I, L)) := pm_blk_to hF (pm_stp 711 [0, 17, 21, 27, 33, 41, 48, 55, 61, 81, 87, 99]) 97 rfl
-- TurnCabinet$Reader.readTable([I[II)V 10 21 16
set_option maxRecDepth 20000 in
theorem e712_0a (hF : pm_fix pt_me pt_Sg (pt_R L0 xs) F) {x3 : Int32} : F 712 0 [some (.ref 10), some (.ref 21), some (.ref 16), some (.int x3), none, none, none] [] (49, pt_G, I, L) =
    pm_k (F 719 0 [some (.ref 10)] [] (49, pt_G, I, L)) (fun v S => F 712 16 [some (.ref 10), some (.ref 21), some (.ref 16), some (.int x3), none, none, none] (v.toList ++ [.int (I 11 0), .ref 19, .ref 10]) S) := pm_blk_to hF (pm_stp 712 [0, 16, 19, 37, 40, 51, 59, 65, 71]) 63 rfl
set_option maxRecDepth 20000 in
theorem e712_16a (hF : pm_fix pt_me pt_Sg (pt_R L0 xs) F) {x3 : Int32} {s0 : Int64} {s1 : Int32} : F 712 16 [some (.ref 10), some (.ref 21), some (.ref 16), some (.int x3), none, none, none] [.long s0, .int s1, .ref 19, .ref 10] (49, pt_G, I, L) =
    pm_k (F 718 0 [some (.ref 10), some (.ref 19), some (.int s1), some (.long s0), none, none] [] (49, pt_G, I, L)) (fun v S => F 712 19 [some (.ref 10), some (.ref 21), some (.ref 16), some (.int x3), none, none, none] (v.toList ++ []) S) := pm_blk_to hF (pm_stp 712 [0, 16, 19, 37, 40, 51, 59, 65, 71]) 63 rfl
set_option maxRecDepth 20000 in
theorem e712_19a (hF : pm_fix pt_me pt_Sg (pt_R L0 xs) F) {x3 : Int32} {s0 : Int32} : F 712 19 [some (.ref 10), some (.ref 21), some (.ref 16), some (.int x3), none, none, none] [.int s0] (49, pt_G, I, L) =
    pm_k (F 719 0 [some (.ref 10)] [] (49, pt_G, I, L)) (fun v S => F 712 37 [some (.ref 10), some (.ref 21), some (.ref 16), some (.int x3), some (.int s0), none, none] (v.toList ++ [.int (I 11 1), .ref 20, .ref 10]) S) := pm_blk_to hF (pm_stp 712 [0, 16, 19, 37, 40, 51, 59, 65, 71]) 63 rfl
set_option maxRecDepth 20000 in
theorem e712_37a (hF : pm_fix pt_me pt_Sg (pt_R L0 xs) F) {x3 : Int32} {x4 : Int32} {s0 : Int64} {s1 : Int32} : F 712 37 [some (.ref 10), some (.ref 21), some (.ref 16), some (.int x3), some (.int x4), none, none] [.long s0, .int s1, .ref 20, .ref 10] (49, pt_G, I, L) =
    pm_k (F 718 0 [some (.ref 10), some (.ref 20), some (.int s1), some (.long s0), none, none] [] (49, pt_G, I, L)) (fun v S => F 712 40 [some (.ref 10), some (.ref 21), some (.ref 16), some (.int x3), some (.int x4), none, none] (v.toList ++ []) S) := pm_blk_to hF (pm_stp 712 [0, 16, 19, 37, 40, 51, 59, 65, 71]) 63 rfl
set_option maxRecDepth 20000 in
theorem e712_40a (hF : pm_fix pt_me pt_Sg (pt_R L0 xs) F) {x3 : Int32} {x4 : Int32} {s0 : Int32} : F 712 40 [some (.ref 10), some (.ref 21), some (.ref 16), some (.int x3), some (.int x4), none, none] [.int s0] (49, pt_G, I, L) =
    bif pm_ib x4 8 then
      pm_k (F 151 0 [some (.int s0), some (.int (I 21 (Int32.toNatClampNeg x4)))] [] (49, pt_G, I, L)) (fun v S => F 712 51 [some (.ref 10), some (.ref 21), some (.ref 16), some (.int x3), some (.int x4), some (.int s0), none] (v.toList ++ []) S)
    else none := pm_blk_to hF (pm_stp 712 [0, 16, 19, 37, 40, 51, 59, 65, 71]) 63 rfl
set_option maxRecDepth 20000 in
theorem e712_51a (hF : pm_fix pt_me pt_Sg (pt_R L0 xs) F) {x3 : Int32} {x4 : Int32} {x5 : Int32} {s0 : Int32} : F 712 51 [some (.ref 10), some (.ref 21), some (.ref 16), some (.int x3), some (.int x4), some (.int x5), none] [.int s0] (49, pt_G, I, L) =
    if s0 = 0 then
      F 712 59 [some (.ref 10), some (.ref 21), some (.ref 16), some (.int x3), some (.int x4), some (.int x5), none] [] (49, pt_G, I, L)
    else
      pm_k (F 704 0 [some (.ref 10), some (.int 3)] [] (49, pt_G, I, L)) (fun v S => F 712 59 [some (.ref 10), some (.ref 21), some (.ref 16), some (.int x3), some (.int x4), some (.int x5), none] (v.toList ++ []) S) := pm_blk_to hF (pm_stp 712 [0, 16, 19, 37, 40, 51, 59, 65, 71]) 63 rfl
set_option maxRecDepth 20000 in
theorem e712_59a (hF : pm_fix pt_me pt_Sg (pt_R L0 xs) F) {x3 : Int32} {x4 : Int32} {x5 : Int32} : F 712 59 [some (.ref 10), some (.ref 21), some (.ref 16), some (.int x3), some (.int x4), some (.int x5), none] [] (49, pt_G, I, L) =
    pm_k (F 714 0 [some (.ref 10), some (.int 0), some (.int x3)] [] (49, pt_G, I, L)) (fun v S => F 712 65 [some (.ref 10), some (.ref 21), some (.ref 16), some (.int x3), some (.int x4), some (.int x5), none] (v.toList ++ []) S) := pm_blk_to hF (pm_stp 712 [0, 16, 19, 37, 40, 51, 59, 65, 71]) 63 rfl
set_option maxRecDepth 20000 in
theorem e712_65a (hF : pm_fix pt_me pt_Sg (pt_R L0 xs) F) {x3 : Int32} {x4 : Int32} {x5 : Int32} {s0 : Int32} : F 712 65 [some (.ref 10), some (.ref 21), some (.ref 16), some (.int x3), some (.int x4), some (.int x5), none] [.int s0] (49, pt_G, I, L) =
    pm_k (F 715 0 [some (.ref 10)] [] (49, pt_G, I, L)) (fun v S => F 712 71 [some (.ref 10), some (.ref 21), some (.ref 16), some (.int x3), some (.int x4), some (.int x5), some (.int s0)] (v.toList ++ []) S) := pm_blk_to hF (pm_stp 712 [0, 16, 19, 37, 40, 51, 59, 65, 71]) 63 rfl
set_option maxRecDepth 20000 in
theorem e712_71a (hF : pm_fix pt_me pt_Sg (pt_R L0 xs) F) {x3 : Int32} {x4 : Int32} {x5 : Int32} {x6 : Int32} : F 712 71 [some (.ref 10), some (.ref 21), some (.ref 16), some (.int x3), some (.int x4), some (.int x5), some (.int x6)] [] (49, pt_G, I, L) =
    if (I 10 8) = 0 then
      bif pm_ib x4 8 then
        bif pm_ib x4 8 then
          bif pm_ib ((8 * x4) + x5) 64 then
            some (none, (49, pt_G, (pm_ui (pm_ui I 21 (Int32.toNatClampNeg x4) ((I 21 (Int32.toNatClampNeg x4)) ||| ((1 : Int32) <<< (x5 &&& 31)))) 16 (Int32.toNatClampNeg ((8 * x4) + x5)) x6), L))
          else none
        else none
      else none
    else
      some (none, (49, pt_G, I, L)) := pm_blk_to hF (pm_stp 712 [0, 16, 19, 37, 40, 51, 59, 65, 71]) 63 rfl
-- TurnCabinet$Reader.readTable([I[II)V 10 22 17
set_option maxRecDepth 20000 in
theorem e712_0b (hF : pm_fix pt_me pt_Sg (pt_R L0 xs) F) {x3 : Int32} : F 712 0 [some (.ref 10), some (.ref 22), some (.ref 17), some (.int x3), none, none, none] [] (49, pt_G, I, L) =
    pm_k (F 719 0 [some (.ref 10)] [] (49, pt_G, I, L)) (fun v S => F 712 16 [some (.ref 10), some (.ref 22), some (.ref 17), some (.int x3), none, none, none] (v.toList ++ [.int (I 11 0), .ref 19, .ref 10]) S) := pm_blk_to hF (pm_stp 712 [0, 16, 19, 37, 40, 51, 59, 65, 71]) 63 rfl
set_option maxRecDepth 20000 in
theorem e712_16b (hF : pm_fix pt_me pt_Sg (pt_R L0 xs) F) {x3 : Int32} {s0 : Int64} {s1 : Int32} : F 712 16 [some (.ref 10), some (.ref 22), some (.ref 17), some (.int x3), none, none, none] [.long s0, .int s1, .ref 19, .ref 10] (49, pt_G, I, L) =
    pm_k (F 718 0 [some (.ref 10), some (.ref 19), some (.int s1), some (.long s0), none, none] [] (49, pt_G, I, L)) (fun v S => F 712 19 [some (.ref 10), some (.ref 22), some (.ref 17), some (.int x3), none, none, none] (v.toList ++ []) S) := pm_blk_to hF (pm_stp 712 [0, 16, 19, 37, 40, 51, 59, 65, 71]) 63 rfl
set_option maxRecDepth 20000 in
theorem e712_19b (hF : pm_fix pt_me pt_Sg (pt_R L0 xs) F) {x3 : Int32} {s0 : Int32} : F 712 19 [some (.ref 10), some (.ref 22), some (.ref 17), some (.int x3), none, none, none] [.int s0] (49, pt_G, I, L) =
    pm_k (F 719 0 [some (.ref 10)] [] (49, pt_G, I, L)) (fun v S => F 712 37 [some (.ref 10), some (.ref 22), some (.ref 17), some (.int x3), some (.int s0), none, none] (v.toList ++ [.int (I 11 1), .ref 20, .ref 10]) S) := pm_blk_to hF (pm_stp 712 [0, 16, 19, 37, 40, 51, 59, 65, 71]) 63 rfl
set_option maxRecDepth 20000 in
theorem e712_37b (hF : pm_fix pt_me pt_Sg (pt_R L0 xs) F) {x3 : Int32} {x4 : Int32} {s0 : Int64} {s1 : Int32} : F 712 37 [some (.ref 10), some (.ref 22), some (.ref 17), some (.int x3), some (.int x4), none, none] [.long s0, .int s1, .ref 20, .ref 10] (49, pt_G, I, L) =
    pm_k (F 718 0 [some (.ref 10), some (.ref 20), some (.int s1), some (.long s0), none, none] [] (49, pt_G, I, L)) (fun v S => F 712 40 [some (.ref 10), some (.ref 22), some (.ref 17), some (.int x3), some (.int x4), none, none] (v.toList ++ []) S) := pm_blk_to hF (pm_stp 712 [0, 16, 19, 37, 40, 51, 59, 65, 71]) 63 rfl
set_option maxRecDepth 20000 in
theorem e712_40b (hF : pm_fix pt_me pt_Sg (pt_R L0 xs) F) {x3 : Int32} {x4 : Int32} {s0 : Int32} : F 712 40 [some (.ref 10), some (.ref 22), some (.ref 17), some (.int x3), some (.int x4), none, none] [.int s0] (49, pt_G, I, L) =
    bif pm_ib x4 8 then
      pm_k (F 151 0 [some (.int s0), some (.int (I 22 (Int32.toNatClampNeg x4)))] [] (49, pt_G, I, L)) (fun v S => F 712 51 [some (.ref 10), some (.ref 22), some (.ref 17), some (.int x3), some (.int x4), some (.int s0), none] (v.toList ++ []) S)
    else none := pm_blk_to hF (pm_stp 712 [0, 16, 19, 37, 40, 51, 59, 65, 71]) 63 rfl
set_option maxRecDepth 20000 in
theorem e712_51b (hF : pm_fix pt_me pt_Sg (pt_R L0 xs) F) {x3 : Int32} {x4 : Int32} {x5 : Int32} {s0 : Int32} : F 712 51 [some (.ref 10), some (.ref 22), some (.ref 17), some (.int x3), some (.int x4), some (.int x5), none] [.int s0] (49, pt_G, I, L) =
    if s0 = 0 then
      F 712 59 [some (.ref 10), some (.ref 22), some (.ref 17), some (.int x3), some (.int x4), some (.int x5), none] [] (49, pt_G, I, L)
    else
      pm_k (F 704 0 [some (.ref 10), some (.int 3)] [] (49, pt_G, I, L)) (fun v S => F 712 59 [some (.ref 10), some (.ref 22), some (.ref 17), some (.int x3), some (.int x4), some (.int x5), none] (v.toList ++ []) S) := pm_blk_to hF (pm_stp 712 [0, 16, 19, 37, 40, 51, 59, 65, 71]) 63 rfl
set_option maxRecDepth 20000 in
theorem e712_59b (hF : pm_fix pt_me pt_Sg (pt_R L0 xs) F) {x3 : Int32} {x4 : Int32} {x5 : Int32} : F 712 59 [some (.ref 10), some (.ref 22), some (.ref 17), some (.int x3), some (.int x4), some (.int x5), none] [] (49, pt_G, I, L) =
    pm_k (F 714 0 [some (.ref 10), some (.int 0), some (.int x3)] [] (49, pt_G, I, L)) (fun v S => F 712 65 [some (.ref 10), some (.ref 22), some (.ref 17), some (.int x3), some (.int x4), some (.int x5), none] (v.toList ++ []) S) := pm_blk_to hF (pm_stp 712 [0, 16, 19, 37, 40, 51, 59, 65, 71]) 63 rfl
set_option maxRecDepth 20000 in
theorem e712_65b (hF : pm_fix pt_me pt_Sg (pt_R L0 xs) F) {x3 : Int32} {x4 : Int32} {x5 : Int32} {s0 : Int32} : F 712 65 [some (.ref 10), some (.ref 22), some (.ref 17), some (.int x3), some (.int x4), some (.int x5), none] [.int s0] (49, pt_G, I, L) =
    pm_k (F 715 0 [some (.ref 10)] [] (49, pt_G, I, L)) (fun v S => F 712 71 [some (.ref 10), some (.ref 22), some (.ref 17), some (.int x3), some (.int x4), some (.int x5), some (.int s0)] (v.toList ++ []) S) := pm_blk_to hF (pm_stp 712 [0, 16, 19, 37, 40, 51, 59, 65, 71]) 63 rfl
set_option maxRecDepth 20000 in
theorem e712_71b (hF : pm_fix pt_me pt_Sg (pt_R L0 xs) F) {x3 : Int32} {x4 : Int32} {x5 : Int32} {x6 : Int32} : F 712 71 [some (.ref 10), some (.ref 22), some (.ref 17), some (.int x3), some (.int x4), some (.int x5), some (.int x6)] [] (49, pt_G, I, L) =
    if (I 10 8) = 0 then
      bif pm_ib x4 8 then
        bif pm_ib x4 8 then
          bif pm_ib ((8 * x4) + x5) 64 then
            some (none, (49, pt_G, (pm_ui (pm_ui I 22 (Int32.toNatClampNeg x4) ((I 22 (Int32.toNatClampNeg x4)) ||| ((1 : Int32) <<< (x5 &&& 31)))) 17 (Int32.toNatClampNeg ((8 * x4) + x5)) x6), L))
          else none
        else none
      else none
    else
      some (none, (49, pt_G, I, L)) := pm_blk_to hF (pm_stp 712 [0, 16, 19, 37, 40, 51, 59, 65, 71]) 63 rfl
-- TurnCabinet$Reader.readBar()V 10
set_option maxRecDepth 20000 in
theorem e713_0 (hF : pm_fix pt_me pt_Sg (pt_R L0 xs) F) : F 713 0 [some (.ref 10), none, none] [] (49, pt_G, I, L) =
    pm_k (F 719 0 [some (.ref 10)] [] (49, pt_G, I, L)) (fun v S => F 713 16 [some (.ref 10), none, none] (v.toList ++ [.int (I 11 0), .ref 19, .ref 10]) S) := pm_blk_to hF (pm_stp 713 [0, 16, 19, 36, 39, 50, 54]) 60 rfl
set_option maxRecDepth 20000 in
theorem e713_16 (hF : pm_fix pt_me pt_Sg (pt_R L0 xs) F) {s0 : Int64} {s1 : Int32} : F 713 16 [some (.ref 10), none, none] [.long s0, .int s1, .ref 19, .ref 10] (49, pt_G, I, L) =
    pm_k (F 718 0 [some (.ref 10), some (.ref 19), some (.int s1), some (.long s0), none, none] [] (49, pt_G, I, L)) (fun v S => F 713 19 [some (.ref 10), none, none] (v.toList ++ []) S) := pm_blk_to hF (pm_stp 713 [0, 16, 19, 36, 39, 50, 54]) 60 rfl
set_option maxRecDepth 20000 in
theorem e713_19 (hF : pm_fix pt_me pt_Sg (pt_R L0 xs) F) {s0 : Int32} : F 713 19 [some (.ref 10), none, none] [.int s0] (49, pt_G, I, L) =
    pm_k (F 719 0 [some (.ref 10)] [] (49, pt_G, I, L)) (fun v S => F 713 36 [some (.ref 10), some (.int s0), none] (v.toList ++ [.int (I 11 0), .ref 19, .ref 10]) S) := pm_blk_to hF (pm_stp 713 [0, 16, 19, 36, 39, 50, 54]) 60 rfl
set_option maxRecDepth 20000 in
theorem e713_36 (hF : pm_fix pt_me pt_Sg (pt_R L0 xs) F) {x1 : Int32} {s0 : Int64} {s1 : Int32} : F 713 36 [some (.ref 10), some (.int x1), none] [.long s0, .int s1, .ref 19, .ref 10] (49, pt_G, I, L) =
    pm_k (F 718 0 [some (.ref 10), some (.ref 19), some (.int s1), some (.long s0), none, none] [] (49, pt_G, I, L)) (fun v S => F 713 39 [some (.ref 10), some (.int x1), none] (v.toList ++ []) S) := pm_blk_to hF (pm_stp 713 [0, 16, 19, 36, 39, 50, 54]) 60 rfl
set_option maxRecDepth 20000 in
theorem e713_39 (hF : pm_fix pt_me pt_Sg (pt_R L0 xs) F) {x1 : Int32} {s0 : Int32} : F 713 39 [some (.ref 10), some (.int x1), none] [.int s0] (49, pt_G, I, L) =
    if x1 = s0 then
      pm_k (F 704 0 [some (.ref 10), some (.int 3)] [] (49, pt_G, I, L)) (fun v S => F 713 50 [some (.ref 10), some (.int x1), some (.int s0)] (v.toList ++ []) S)
    else
      F 713 50 [some (.ref 10), some (.int x1), some (.int s0)] [] (49, pt_G, I, L) := pm_blk_to hF (pm_stp 713 [0, 16, 19, 36, 39, 50, 54]) 60 rfl
set_option maxRecDepth 20000 in
theorem e713_50 (hF : pm_fix pt_me pt_Sg (pt_R L0 xs) F) {x1 : Int32} {x2 : Int32} : F 713 50 [some (.ref 10), some (.int x1), some (.int x2)] [] (49, pt_G, I, L) =
    pm_k (F 715 0 [some (.ref 10)] [] (49, pt_G, I, L)) (fun v S => F 713 54 [some (.ref 10), some (.int x1), some (.int x2)] (v.toList ++ []) S) := pm_blk_to hF (pm_stp 713 [0, 16, 19, 36, 39, 50, 54]) 60 rfl
set_option maxRecDepth 20000 in
theorem e713_54 (hF : pm_fix pt_me pt_Sg (pt_R L0 xs) F) {x1 : Int32} {x2 : Int32} : F 713 54 [some (.ref 10), some (.int x1), some (.int x2)] [] (49, pt_G, I, L) =
    if (I 10 8) = 0 then
      bif pm_ib x1 8 then
        bif pm_ib x1 8 then
          bif pm_ib x2 8 then
            bif pm_ib x2 8 then
              some (none, (49, pt_G, (pm_ui (pm_ui I 15 (Int32.toNatClampNeg x1) ((I 15 (Int32.toNatClampNeg x1)) ||| ((1 : Int32) <<< (x2 &&& 31)))) 15 (Int32.toNatClampNeg x2) (((pm_ui I 15 (Int32.toNatClampNeg x1) ((I 15 (Int32.toNatClampNeg x1)) ||| ((1 : Int32) <<< (x2 &&& 31)))) 15 (Int32.toNatClampNeg x2)) ||| ((1 : Int32) <<< (x1 &&& 31)))), L))
            else none
          else none
        else none
      else none
    else
      some (none, (49, pt_G, I, L)) := pm_blk_to hF (pm_stp 713 [0, 16, 19, 36, 39, 50, 54]) 60 rfl
-- TurnCabinet$Reader.readNumber(II)I 10
set_option maxRecDepth 20000 in
theorem e714_0 (hF : pm_fix pt_me pt_Sg (pt_R L0 xs) F) {x1 : Int32} {x2 : Int32} : F 714 0 [some (.ref 10), some (.int x1), some (.int x2)] [] (49, pt_G, I, L) =
    pm_k (F 721 0 [some (.ref 10), none] [] (49, pt_G, I, L)) (fun v S => F 714 4 [some (.ref 10), some (.int x1), some (.int x2)] (v.toList ++ []) S) := pm_blk_to hF (pm_stp 714 [0, 4, 16, 40]) 28 rfl
set_option maxRecDepth 20000 in
theorem e714_4 (hF : pm_fix pt_me pt_Sg (pt_R L0 xs) F) {x1 : Int32} {x2 : Int32} : F 714 4 [some (.ref 10), some (.int x1), some (.int x2)] [] (49, pt_G, I, L) =
    if (I 10 12) = 2 then
      if (I 10 13) < x1 then
        pm_k (F 704 0 [some (.ref 10), some (.int 4)] [] (49, pt_G, I, L)) (fun v S => F 714 40 [some (.ref 10), some (.int x1), some (.int x2)] (v.toList ++ []) S)
      else
        if (I 10 13) ≤ x2 then
          F 714 40 [some (.ref 10), some (.int x1), some (.int x2)] [] (49, pt_G, I, L)
        else
          pm_k (F 704 0 [some (.ref 10), some (.int 4)] [] (49, pt_G, I, L)) (fun v S => F 714 40 [some (.ref 10), some (.int x1), some (.int x2)] (v.toList ++ []) S)
    else
      pm_k (F 705 0 [some (.ref 10)] [] (49, pt_G, I, L)) (fun v S => F 714 16 [some (.ref 10), some (.int x1), some (.int x2)] (v.toList ++ []) S) := pm_blk_to hF (pm_stp 714 [0, 4, 16, 40]) 28 rfl
set_option maxRecDepth 20000 in
theorem e714_16 (hF : pm_fix pt_me pt_Sg (pt_R L0 xs) F) {x1 : Int32} {x2 : Int32} : F 714 16 [some (.ref 10), some (.int x1), some (.int x2)] [] (49, pt_G, I, L) =
    F 714 40 [some (.ref 10), some (.int x1), some (.int x2)] [] (49, pt_G, I, L) := pm_blk_to hF (pm_stp 714 [0, 4, 16, 40]) 28 rfl
set_option maxRecDepth 20000 in
theorem e714_40 (hF : pm_fix pt_me pt_Sg (pt_R L0 xs) F) {x1 : Int32} {x2 : Int32} : F 714 40 [some (.ref 10), some (.int x1), some (.int x2)] [] (49, pt_G, I, L) =
    some (some (.int (I 10 13)), (49, pt_G, I, L)) := pm_blk_to hF (pm_stp 714 [0, 4, 16, 40]) 28 rfl
-- TurnCabinet$Reader.readSign()V 10
set_option maxRecDepth 20000 in
theorem e715_0 (hF : pm_fix pt_me pt_Sg (pt_R L0 xs) F) : F 715 0 [some (.ref 10)] [] (49, pt_G, I, L) =
    pm_k (F 721 0 [some (.ref 10), none] [] (49, pt_G, I, L)) (fun v S => F 715 4 [some (.ref 10)] (v.toList ++ []) S) := pm_blk_to hF (pm_stp 715 [0, 4, 16]) 14 rfl
set_option maxRecDepth 20000 in
theorem e715_4 (hF : pm_fix pt_me pt_Sg (pt_R L0 xs) F) : F 715 4 [some (.ref 10)] [] (49, pt_G, I, L) =
    if (I 10 12) = 3 then
      F 715 16 [some (.ref 10)] [] (49, pt_G, I, L)
    else
      pm_k (F 705 0 [some (.ref 10)] [] (49, pt_G, I, L)) (fun v S => F 715 16 [some (.ref 10)] (v.toList ++ []) S) := pm_blk_to hF (pm_stp 715 [0, 4, 16]) 14 rfl
set_option maxRecDepth 20000 in
theorem e715_16 (hF : pm_fix pt_me pt_Sg (pt_R L0 xs) F) : F 715 16 [some (.ref 10)] [] (49, pt_G, I, L) =
    some (none, (49, pt_G, I, L)) := pm_blk_to hF (pm_stp 715 [0, 4, 16]) 14 rfl
-- TurnCabinet$Reader.readWord(I)V 10
set_option maxRecDepth 20000 in
theorem e716_0 (hF : pm_fix pt_me pt_Sg (pt_R L0 xs) F) {x1 : Int32} : F 716 0 [some (.ref 10), some (.int x1)] [] (49, pt_G, I, L) =
    pm_k (F 721 0 [some (.ref 10), none] [] (49, pt_G, I, L)) (fun v S => F 716 4 [some (.ref 10), some (.int x1)] (v.toList ++ []) S) := pm_blk_to hF (pm_stp 716 [0, 4, 16]) 14 rfl
set_option maxRecDepth 20000 in
theorem e716_4 (hF : pm_fix pt_me pt_Sg (pt_R L0 xs) F) {x1 : Int32} : F 716 4 [some (.ref 10), some (.int x1)] [] (49, pt_G, I, L) =
    if (I 10 15) = x1 then
      F 716 16 [some (.ref 10), some (.int x1)] [] (49, pt_G, I, L)
    else
      pm_k (F 705 0 [some (.ref 10)] [] (49, pt_G, I, L)) (fun v S => F 716 16 [some (.ref 10), some (.int x1)] (v.toList ++ []) S) := pm_blk_to hF (pm_stp 716 [0, 4, 16]) 14 rfl
set_option maxRecDepth 20000 in
theorem e716_16 (hF : pm_fix pt_me pt_Sg (pt_R L0 xs) F) {x1 : Int32} : F 716 16 [some (.ref 10), some (.int x1)] [] (49, pt_G, I, L) =
    some (none, (49, pt_G, I, L)) := pm_blk_to hF (pm_stp 716 [0, 4, 16]) 14 rfl
-- TurnCabinet$Reader.checkNew(J)V 10
set_option maxRecDepth 20000 in
theorem e717_0 (hF : pm_fix pt_me pt_Sg (pt_R L0 xs) F) {y1 : Int64} : F 717 0 [some (.ref 10), some (.long y1), none] [] (49, pt_G, I, L) =
    pm_k (F 720 0 [some (.ref 19), some (.int (I 11 0)), some (.long y1), none, none] [] (49, pt_G, I, L)) (fun v S => F 717 15 [some (.ref 10), some (.long y1), none] (v.toList ++ []) S) := pm_blk_to hF (pm_stp 717 [0, 15, 24, 39, 48]) 30 rfl
set_option maxRecDepth 20000 in
theorem e717_15 (hF : pm_fix pt_me pt_Sg (pt_R L0 xs) F) {y1 : Int64} {s0 : Int32} : F 717 15 [some (.ref 10), some (.long y1), none] [.int s0] (49, pt_G, I, L) =
    if s0 = (-1) then
      F 717 24 [some (.ref 10), some (.long y1), none] [] (49, pt_G, I, L)
    else
      pm_k (F 704 0 [some (.ref 10), some (.int 3)] [] (49, pt_G, I, L)) (fun v S => F 717 24 [some (.ref 10), some (.long y1), none] (v.toList ++ []) S) := pm_blk_to hF (pm_stp 717 [0, 15, 24, 39, 48]) 30 rfl
set_option maxRecDepth 20000 in
theorem e717_24 (hF : pm_fix pt_me pt_Sg (pt_R L0 xs) F) {y1 : Int64} : F 717 24 [some (.ref 10), some (.long y1), none] [] (49, pt_G, I, L) =
    pm_k (F 720 0 [some (.ref 20), some (.int (I 11 1)), some (.long y1), none, none] [] (49, pt_G, I, L)) (fun v S => F 717 39 [some (.ref 10), some (.long y1), none] (v.toList ++ []) S) := pm_blk_to hF (pm_stp 717 [0, 15, 24, 39, 48]) 30 rfl
set_option maxRecDepth 20000 in
theorem e717_39 (hF : pm_fix pt_me pt_Sg (pt_R L0 xs) F) {y1 : Int64} {s0 : Int32} : F 717 39 [some (.ref 10), some (.long y1), none] [.int s0] (49, pt_G, I, L) =
    if s0 = (-1) then
      F 717 48 [some (.ref 10), some (.long y1), none] [] (49, pt_G, I, L)
    else
      pm_k (F 704 0 [some (.ref 10), some (.int 3)] [] (49, pt_G, I, L)) (fun v S => F 717 48 [some (.ref 10), some (.long y1), none] (v.toList ++ []) S) := pm_blk_to hF (pm_stp 717 [0, 15, 24, 39, 48]) 30 rfl
set_option maxRecDepth 20000 in
theorem e717_48 (hF : pm_fix pt_me pt_Sg (pt_R L0 xs) F) {y1 : Int64} : F 717 48 [some (.ref 10), some (.long y1), none] [] (49, pt_G, I, L) =
    some (none, (49, pt_G, I, L)) := pm_blk_to hF (pm_stp 717 [0, 15, 24, 39, 48]) 30 rfl
-- TurnCabinet$Reader.known([JIJ)I 10 19
set_option maxRecDepth 20000 in
theorem e718_0a (hF : pm_fix pt_me pt_Sg (pt_R L0 xs) F) {x2 : Int32} {y3 : Int64} : F 718 0 [some (.ref 10), some (.ref 19), some (.int x2), some (.long y3), none, none] [] (49, pt_G, I, L) =
    pm_k (F 720 0 [some (.ref 19), some (.int x2), some (.long y3), none, none] [] (49, pt_G, I, L)) (fun v S => F 718 6 [some (.ref 10), some (.ref 19), some (.int x2), some (.long y3), none, none] (v.toList ++ []) S) := pm_blk_to hF (pm_stp 718 [0, 6, 19]) 20 rfl
set_option maxRecDepth 20000 in
theorem e718_6a (hF : pm_fix pt_me pt_Sg (pt_R L0 xs) F) {x2 : Int32} {y3 : Int64} {s0 : Int32} : F 718 6 [some (.ref 10), some (.ref 19), some (.int x2), some (.long y3), none, none] [.int s0] (49, pt_G, I, L) =
    if s0 = (-1) then
      pm_k (F 704 0 [some (.ref 10), some (.int 3)] [] (49, pt_G, I, L)) (fun v S => F 718 19 [some (.ref 10), some (.ref 19), some (.int x2), some (.long y3), none, some (.int s0)] (v.toList ++ []) S)
    else
      F 718 19 [some (.ref 10), some (.ref 19), some (.int x2), some (.long y3), none, some (.int s0)] [] (49, pt_G, I, L) := pm_blk_to hF (pm_stp 718 [0, 6, 19]) 20 rfl
set_option maxRecDepth 20000 in
theorem e718_19a (hF : pm_fix pt_me pt_Sg (pt_R L0 xs) F) {x2 : Int32} {y3 : Int64} {x5 : Int32} : F 718 19 [some (.ref 10), some (.ref 19), some (.int x2), some (.long y3), none, some (.int x5)] [] (49, pt_G, I, L) =
    some (some (.int (x5 &&& 7)), (49, pt_G, I, L)) := pm_blk_to hF (pm_stp 718 [0, 6, 19]) 20 rfl
-- TurnCabinet$Reader.known([JIJ)I 10 20
set_option maxRecDepth 20000 in
theorem e718_0b (hF : pm_fix pt_me pt_Sg (pt_R L0 xs) F) {x2 : Int32} {y3 : Int64} : F 718 0 [some (.ref 10), some (.ref 20), some (.int x2), some (.long y3), none, none] [] (49, pt_G, I, L) =
    pm_k (F 720 0 [some (.ref 20), some (.int x2), some (.long y3), none, none] [] (49, pt_G, I, L)) (fun v S => F 718 6 [some (.ref 10), some (.ref 20), some (.int x2), some (.long y3), none, none] (v.toList ++ []) S) := pm_blk_to hF (pm_stp 718 [0, 6, 19]) 20 rfl
set_option maxRecDepth 20000 in
theorem e718_6b (hF : pm_fix pt_me pt_Sg (pt_R L0 xs) F) {x2 : Int32} {y3 : Int64} {s0 : Int32} : F 718 6 [some (.ref 10), some (.ref 20), some (.int x2), some (.long y3), none, none] [.int s0] (49, pt_G, I, L) =
    if s0 = (-1) then
      pm_k (F 704 0 [some (.ref 10), some (.int 3)] [] (49, pt_G, I, L)) (fun v S => F 718 19 [some (.ref 10), some (.ref 20), some (.int x2), some (.long y3), none, some (.int s0)] (v.toList ++ []) S)
    else
      F 718 19 [some (.ref 10), some (.ref 20), some (.int x2), some (.long y3), none, some (.int s0)] [] (49, pt_G, I, L) := pm_blk_to hF (pm_stp 718 [0, 6, 19]) 20 rfl
set_option maxRecDepth 20000 in
theorem e718_19b (hF : pm_fix pt_me pt_Sg (pt_R L0 xs) F) {x2 : Int32} {y3 : Int64} {x5 : Int32} : F 718 19 [some (.ref 10), some (.ref 20), some (.int x2), some (.long y3), none, some (.int x5)] [] (49, pt_G, I, L) =
    some (some (.int (x5 &&& 7)), (49, pt_G, I, L)) := pm_blk_to hF (pm_stp 718 [0, 6, 19]) 20 rfl
-- TurnCabinet$Reader.readName()J 10
set_option maxRecDepth 20000 in
theorem e719_0 (hF : pm_fix pt_me pt_Sg (pt_R L0 xs) F) : F 719 0 [some (.ref 10)] [] (49, pt_G, I, L) =
    pm_k (F 721 0 [some (.ref 10), none] [] (49, pt_G, I, L)) (fun v S => F 719 4 [some (.ref 10)] (v.toList ++ []) S) := pm_blk_to hF (pm_stp 719 [0, 4, 38]) 27 rfl
set_option maxRecDepth 20000 in
theorem e719_4 (hF : pm_fix pt_me pt_Sg (pt_R L0 xs) F) : F 719 4 [some (.ref 10)] [] (49, pt_G, I, L) =
    if (I 10 12) = 1 then
      if (I 10 15) = (-1) then
        if ((I 10 10) - (I 10 11)) ≤ 6 then
          F 719 38 [some (.ref 10)] [] (49, pt_G, I, L)
        else
          pm_k (F 705 0 [some (.ref 10)] [] (49, pt_G, I, L)) (fun v S => F 719 38 [some (.ref 10)] (v.toList ++ []) S)
      else
        pm_k (F 705 0 [some (.ref 10)] [] (49, pt_G, I, L)) (fun v S => F 719 38 [some (.ref 10)] (v.toList ++ []) S)
    else
      pm_k (F 705 0 [some (.ref 10)] [] (49, pt_G, I, L)) (fun v S => F 719 38 [some (.ref 10)] (v.toList ++ []) S) := pm_blk_to hF (pm_stp 719 [0, 4, 38]) 27 rfl
set_option maxRecDepth 20000 in
theorem e719_38 (hF : pm_fix pt_me pt_Sg (pt_R L0 xs) F) : F 719 38 [some (.ref 10)] [] (49, pt_G, I, L) =
    some (some (.long (L 10 14)), (49, pt_G, I, L)) := pm_blk_to hF (pm_stp 719 [0, 4, 38]) 27 rfl
-- TurnCabinet$Reader.find([JIJ)I 18
set_option maxRecDepth 20000 in
theorem e720_0a (hF : pm_fix pt_me pt_Sg (pt_R L0 xs) F) {x1 : Int32} {y2 : Int64} : F 720 0 [some (.ref 18), some (.int x1), some (.long y2), none, none] [] (49, pt_G, I, L) =
    F 720 3 [some (.ref 18), some (.int x1), some (.long y2), none, some (.int 0)] [] (49, pt_G, I, L) := pm_blk_to hF (pm_stp 720 [0, 3]) 26 rfl
set_option maxRecDepth 20000 in
theorem e720_3a (hF : pm_fix pt_me pt_Sg (pt_R L0 xs) F) {x1 : Int32} {y2 : Int64} {x4 : Int32} : F 720 3 [some (.ref 18), some (.int x1), some (.long y2), none, some (.int x4)] [] (49, pt_G, I, L) =
    if x4 < x1 then
      if x4 < (nI 13) then
        bif pm_ib x4 13 then
          if (lg_cmp (L 18 (Int32.toNatClampNeg x4)) y2) = 0 then
            some (some (.int x4), (49, pt_G, I, L))
          else
            F 720 3 [some (.ref 18), some (.int x1), some (.long y2), none, some (.int (x4 + 1))] [] (49, pt_G, I, L)
        else none
      else
        some (some (.int (-1)), (49, pt_G, I, L))
    else
      some (some (.int (-1)), (49, pt_G, I, L)) := pm_blk_to hF (pm_stp 720 [0, 3]) 26 rfl
-- TurnCabinet$Reader.find([JIJ)I 19
set_option maxRecDepth 20000 in
theorem e720_0b (hF : pm_fix pt_me pt_Sg (pt_R L0 xs) F) {x1 : Int32} {y2 : Int64} : F 720 0 [some (.ref 19), some (.int x1), some (.long y2), none, none] [] (49, pt_G, I, L) =
    F 720 3 [some (.ref 19), some (.int x1), some (.long y2), none, some (.int 0)] [] (49, pt_G, I, L) := pm_blk_to hF (pm_stp 720 [0, 3]) 26 rfl
set_option maxRecDepth 20000 in
theorem e720_3b (hF : pm_fix pt_me pt_Sg (pt_R L0 xs) F) {x1 : Int32} {y2 : Int64} {x4 : Int32} : F 720 3 [some (.ref 19), some (.int x1), some (.long y2), none, some (.int x4)] [] (49, pt_G, I, L) =
    if x4 < x1 then
      if x4 < (nI 8) then
        bif pm_ib x4 8 then
          if (lg_cmp (L 19 (Int32.toNatClampNeg x4)) y2) = 0 then
            some (some (.int x4), (49, pt_G, I, L))
          else
            F 720 3 [some (.ref 19), some (.int x1), some (.long y2), none, some (.int (x4 + 1))] [] (49, pt_G, I, L)
        else none
      else
        some (some (.int (-1)), (49, pt_G, I, L))
    else
      some (some (.int (-1)), (49, pt_G, I, L)) := pm_blk_to hF (pm_stp 720 [0, 3]) 26 rfl
-- TurnCabinet$Reader.find([JIJ)I 20
set_option maxRecDepth 20000 in
theorem e720_0c (hF : pm_fix pt_me pt_Sg (pt_R L0 xs) F) {x1 : Int32} {y2 : Int64} : F 720 0 [some (.ref 20), some (.int x1), some (.long y2), none, none] [] (49, pt_G, I, L) =
    F 720 3 [some (.ref 20), some (.int x1), some (.long y2), none, some (.int 0)] [] (49, pt_G, I, L) := pm_blk_to hF (pm_stp 720 [0, 3]) 26 rfl
set_option maxRecDepth 20000 in
theorem e720_3c (hF : pm_fix pt_me pt_Sg (pt_R L0 xs) F) {x1 : Int32} {y2 : Int64} {x4 : Int32} : F 720 3 [some (.ref 20), some (.int x1), some (.long y2), none, some (.int x4)] [] (49, pt_G, I, L) =
    if x4 < x1 then
      if x4 < (nI 8) then
        bif pm_ib x4 8 then
          if (lg_cmp (L 20 (Int32.toNatClampNeg x4)) y2) = 0 then
            some (some (.int x4), (49, pt_G, I, L))
          else
            F 720 3 [some (.ref 20), some (.int x1), some (.long y2), none, some (.int (x4 + 1))] [] (49, pt_G, I, L)
        else none
      else
        some (some (.int (-1)), (49, pt_G, I, L))
    else
      some (some (.int (-1)), (49, pt_G, I, L)) := pm_blk_to hF (pm_stp 720 [0, 3]) 26 rfl
-- TurnCabinet$Reader.advance()V 10
set_option maxRecDepth 20000 in
theorem e721_0 (hF : pm_fix pt_me pt_Sg (pt_R L0 xs) F) : F 721 0 [some (.ref 10), none] [] (49, pt_G, I, L) =
    if (I 10 8) = 0 then
      F 721 8 [some (.ref 10), none] [] (49, pt_G, I, L)
    else
      some (none, (49, pt_G, I, L)) := pm_blk_to hF (pm_stp 721 [0, 8, 19, 33, 36, 76, 94, 101, 108, 115]) 76 rfl
set_option maxRecDepth 20000 in
theorem e721_8 (hF : pm_fix pt_me pt_Sg (pt_R L0 xs) F) : F 721 8 [some (.ref 10), none] [] (49, pt_G, I, L) =
    pm_k (F 1002 0 [some (.ref 1)] [] (49, pt_G, I, L)) (fun v S => F 721 19 [some (.ref 10), none] (v.toList ++ [.int (I 10 10)]) S) := pm_blk_to hF (pm_stp 721 [0, 8, 19, 33, 36, 76, 94, 101, 108, 115]) 76 rfl
set_option maxRecDepth 20000 in
theorem e721_19 (hF : pm_fix pt_me pt_Sg (pt_R L0 xs) F) {s0 : Int32} {s1 : Int32} : F 721 19 [some (.ref 10), none] [.int s0, .int s1] (49, pt_G, I, L) =
    if s1 < s0 then
      pm_k (F 1003 0 [some (.ref 1), some (.int (I 10 10))] [] (49, pt_G, I, L)) (fun v S => F 721 33 [some (.ref 10), none] (v.toList ++ []) S)
    else
      pm_k (F 1003 0 [some (.ref 1), some (.int (I 10 10))] [] (49, pt_G, (pm_ui (pm_ui I 10 11 (I 10 10)) 10 15 (-1)), L)) (fun v S => F 721 76 [some (.ref 10), none] (v.toList ++ []) S) := pm_blk_to hF (pm_stp 721 [0, 8, 19, 33, 36, 76, 94, 101, 108, 115]) 76 rfl
set_option maxRecDepth 20000 in
theorem e721_33 (hF : pm_fix pt_me pt_Sg (pt_R L0 xs) F) {s0 : Int32} : F 721 33 [some (.ref 10), none] [.int s0] (49, pt_G, I, L) =
    pm_k (F 725 0 [some (.int s0)] [] (49, pt_G, I, L)) (fun v S => F 721 36 [some (.ref 10), none] (v.toList ++ []) S) := pm_blk_to hF (pm_stp 721 [0, 8, 19, 33, 36, 76, 94, 101, 108, 115]) 76 rfl
set_option maxRecDepth 20000 in
theorem e721_36 (hF : pm_fix pt_me pt_Sg (pt_R L0 xs) F) {s0 : Int32} : F 721 36 [some (.ref 10), none] [.int s0] (49, pt_G, I, L) =
    if s0 = 0 then
      pm_k (F 1003 0 [some (.ref 1), some (.int (I 10 10))] [] (49, pt_G, (pm_ui (pm_ui I 10 11 (I 10 10)) 10 15 (-1)), L)) (fun v S => F 721 76 [some (.ref 10), none] (v.toList ++ []) S)
    else
      F 721 8 [some (.ref 10), none] [] (49, pt_G, (pm_ui I 10 10 ((I 10 10) + 1)), L) := pm_blk_to hF (pm_stp 721 [0, 8, 19, 33, 36, 76, 94, 101, 108, 115]) 76 rfl
set_option maxRecDepth 20000 in
theorem e721_76 (hF : pm_fix pt_me pt_Sg (pt_R L0 xs) F) {s0 : Int32} : F 721 76 [some (.ref 10), none] [.int s0] (49, pt_G, I, L) =
    if s0 = (-1) then
      some (none, (49, pt_G, (pm_ui I 10 12 0), L))
    else
      pm_k (F 726 0 [some (.int s0)] [] (49, pt_G, I, L)) (fun v S => F 721 94 [some (.ref 10), some (.int s0)] (v.toList ++ []) S) := pm_blk_to hF (pm_stp 721 [0, 8, 19, 33, 36, 76, 94, 101, 108, 115]) 76 rfl
set_option maxRecDepth 20000 in
theorem e721_94 (hF : pm_fix pt_me pt_Sg (pt_R L0 xs) F) {x1 : Int32} {s0 : Int32} : F 721 94 [some (.ref 10), some (.int x1)] [.int s0] (49, pt_G, I, L) =
    if s0 = 0 then
      pm_k (F 727 0 [some (.int x1)] [] (49, pt_G, I, L)) (fun v S => F 721 108 [some (.ref 10), some (.int x1)] (v.toList ++ []) S)
    else
      pm_k (F 722 0 [some (.ref 10)] [] (49, pt_G, I, L)) (fun v S => F 721 101 [some (.ref 10), some (.int x1)] (v.toList ++ []) S) := pm_blk_to hF (pm_stp 721 [0, 8, 19, 33, 36, 76, 94, 101, 108, 115]) 76 rfl
set_option maxRecDepth 20000 in
theorem e721_101 (hF : pm_fix pt_me pt_Sg (pt_R L0 xs) F) {x1 : Int32} : F 721 101 [some (.ref 10), some (.int x1)] [] (49, pt_G, I, L) =
    some (none, (49, pt_G, I, L)) := pm_blk_to hF (pm_stp 721 [0, 8, 19, 33, 36, 76, 94, 101, 108, 115]) 76 rfl
set_option maxRecDepth 20000 in
theorem e721_108 (hF : pm_fix pt_me pt_Sg (pt_R L0 xs) F) {x1 : Int32} {s0 : Int32} : F 721 108 [some (.ref 10), some (.int x1)] [.int s0] (49, pt_G, I, L) =
    if s0 = 0 then
      if x1 = 59 then
        some (none, (49, pt_G, (pm_ui (pm_ui I 10 12 3) 10 10 ((I 10 10) + 1)), L))
      else
        some (none, (49, pt_G, (pm_ui (pm_ui I 10 12 4) 10 10 ((I 10 10) + 1)), L))
    else
      pm_k (F 723 0 [some (.ref 10)] [] (49, pt_G, I, L)) (fun v S => F 721 115 [some (.ref 10), some (.int x1)] (v.toList ++ []) S) := pm_blk_to hF (pm_stp 721 [0, 8, 19, 33, 36, 76, 94, 101, 108, 115]) 76 rfl
set_option maxRecDepth 20000 in
theorem e721_115 (hF : pm_fix pt_me pt_Sg (pt_R L0 xs) F) {x1 : Int32} : F 721 115 [some (.ref 10), some (.int x1)] [] (49, pt_G, I, L) =
    some (none, (49, pt_G, I, L)) := pm_blk_to hF (pm_stp 721 [0, 8, 19, 33, 36, 76, 94, 101, 108, 115]) 76 rfl
-- TurnCabinet$Reader.takeWord()V 10
set_option maxRecDepth 20000 in
theorem e722_0 (hF : pm_fix pt_me pt_Sg (pt_R L0 xs) F) : F 722 0 [some (.ref 10)] [] (49, pt_G, I, L) =
    F 722 5 [some (.ref 10)] [] (49, pt_G, I, (pm_ul L 10 14 0)) := pm_blk_to hF (pm_stp 722 [0, 5, 16, 30, 33, 52, 55, 119]) 65 rfl
set_option maxRecDepth 20000 in
theorem e722_5 (hF : pm_fix pt_me pt_Sg (pt_R L0 xs) F) : F 722 5 [some (.ref 10)] [] (49, pt_G, I, L) =
    pm_k (F 1002 0 [some (.ref 1)] [] (49, pt_G, I, L)) (fun v S => F 722 16 [some (.ref 10)] (v.toList ++ [.int (I 10 10)]) S) := pm_blk_to hF (pm_stp 722 [0, 5, 16, 30, 33, 52, 55, 119]) 65 rfl
set_option maxRecDepth 20000 in
theorem e722_16 (hF : pm_fix pt_me pt_Sg (pt_R L0 xs) F) {s0 : Int32} {s1 : Int32} : F 722 16 [some (.ref 10)] [.int s0, .int s1] (49, pt_G, I, L) =
    if s1 < s0 then
      pm_k (F 1003 0 [some (.ref 1), some (.int (I 10 10))] [] (49, pt_G, I, L)) (fun v S => F 722 30 [some (.ref 10)] (v.toList ++ []) S)
    else
      if ((I 10 10) - (I 10 11)) ≤ 8 then
        if (1 : Int32) = 1 then
          pm_k (F 720 0 [some (.ref 18), some (.int (nI 13)), some (.long (L 10 14)), none, none] [] (49, pt_G, (pm_ui I 10 12 1), L)) (fun v S => F 722 119 [some (.ref 10)] (v.toList ++ [.ref 10]) S)
        else
          some (none, (49, pt_G, (pm_ui I 10 12 1), L))
      else
        if (4 : Int32) = 1 then
          pm_k (F 720 0 [some (.ref 18), some (.int (nI 13)), some (.long (L 10 14)), none, none] [] (49, pt_G, (pm_ui I 10 12 4), L)) (fun v S => F 722 119 [some (.ref 10)] (v.toList ++ [.ref 10]) S)
        else
          some (none, (49, pt_G, (pm_ui I 10 12 4), L)) := pm_blk_to hF (pm_stp 722 [0, 5, 16, 30, 33, 52, 55, 119]) 65 rfl
set_option maxRecDepth 20000 in
theorem e722_30 (hF : pm_fix pt_me pt_Sg (pt_R L0 xs) F) {s0 : Int32} : F 722 30 [some (.ref 10)] [.int s0] (49, pt_G, I, L) =
    pm_k (F 726 0 [some (.int s0)] [] (49, pt_G, I, L)) (fun v S => F 722 33 [some (.ref 10)] (v.toList ++ []) S) := pm_blk_to hF (pm_stp 722 [0, 5, 16, 30, 33, 52, 55, 119]) 65 rfl
set_option maxRecDepth 20000 in
theorem e722_33 (hF : pm_fix pt_me pt_Sg (pt_R L0 xs) F) {s0 : Int32} : F 722 33 [some (.ref 10)] [.int s0] (49, pt_G, I, L) =
    if s0 = 0 then
      if ((I 10 10) - (I 10 11)) ≤ 8 then
        if (1 : Int32) = 1 then
          pm_k (F 720 0 [some (.ref 18), some (.int (nI 13)), some (.long (L 10 14)), none, none] [] (49, pt_G, (pm_ui I 10 12 1), L)) (fun v S => F 722 119 [some (.ref 10)] (v.toList ++ [.ref 10]) S)
        else
          some (none, (49, pt_G, (pm_ui I 10 12 1), L))
      else
        if (4 : Int32) = 1 then
          pm_k (F 720 0 [some (.ref 18), some (.int (nI 13)), some (.long (L 10 14)), none, none] [] (49, pt_G, (pm_ui I 10 12 4), L)) (fun v S => F 722 119 [some (.ref 10)] (v.toList ++ [.ref 10]) S)
        else
          some (none, (49, pt_G, (pm_ui I 10 12 4), L))
    else
      pm_k (F 1003 0 [some (.ref 1), some (.int (I 10 10))] [] (49, pt_G, I, L)) (fun v S => F 722 52 [some (.ref 10)] (v.toList ++ [.long (L 10 14), .ref 10]) S) := pm_blk_to hF (pm_stp 722 [0, 5, 16, 30, 33, 52, 55, 119]) 65 rfl
set_option maxRecDepth 20000 in
theorem e722_52 (hF : pm_fix pt_me pt_Sg (pt_R L0 xs) F) {s0 : Int32} {s1 : Int64} : F 722 52 [some (.ref 10)] [.int s0, .long s1, .ref 10] (49, pt_G, I, L) =
    pm_k (F 724 0 [some (.long s1), none, some (.int s0)] [] (49, pt_G, I, L)) (fun v S => F 722 55 [some (.ref 10)] (v.toList ++ [.ref 10]) S) := pm_blk_to hF (pm_stp 722 [0, 5, 16, 30, 33, 52, 55, 119]) 65 rfl
set_option maxRecDepth 20000 in
theorem e722_55 (hF : pm_fix pt_me pt_Sg (pt_R L0 xs) F) {s0 : Int64} : F 722 55 [some (.ref 10)] [.long s0, .ref 10] (49, pt_G, I, L) =
    F 722 5 [some (.ref 10)] [] (49, pt_G, (pm_ui I 10 10 ((I 10 10) + 1)), (pm_ul L 10 14 s0)) := pm_blk_to hF (pm_stp 722 [0, 5, 16, 30, 33, 52, 55, 119]) 65 rfl
set_option maxRecDepth 20000 in
theorem e722_119 (hF : pm_fix pt_me pt_Sg (pt_R L0 xs) F) {s0 : Int32} : F 722 119 [some (.ref 10)] [.int s0, .ref 10] (49, pt_G, I, L) =
    some (none, (49, pt_G, (pm_ui I 10 15 s0), L)) := pm_blk_to hF (pm_stp 722 [0, 5, 16, 30, 33, 52, 55, 119]) 65 rfl
-- TurnCabinet$Reader.takeNumber()V 10
set_option maxRecDepth 20000 in
theorem e723_0 (hF : pm_fix pt_me pt_Sg (pt_R L0 xs) F) : F 723 0 [some (.ref 10)] [] (49, pt_G, I, L) =
    F 723 5 [some (.ref 10)] [] (49, pt_G, (pm_ui I 10 13 0), L) := pm_blk_to hF (pm_stp 723 [0, 5, 16, 30, 33, 55, 100, 103]) 62 rfl
set_option maxRecDepth 20000 in
theorem e723_5 (hF : pm_fix pt_me pt_Sg (pt_R L0 xs) F) : F 723 5 [some (.ref 10)] [] (49, pt_G, I, L) =
    pm_k (F 1002 0 [some (.ref 1)] [] (49, pt_G, I, L)) (fun v S => F 723 16 [some (.ref 10)] (v.toList ++ [.int (I 10 10)]) S) := pm_blk_to hF (pm_stp 723 [0, 5, 16, 30, 33, 55, 100, 103]) 62 rfl
set_option maxRecDepth 20000 in
theorem e723_16 (hF : pm_fix pt_me pt_Sg (pt_R L0 xs) F) {s0 : Int32} {s1 : Int32} : F 723 16 [some (.ref 10)] [.int s0, .int s1] (49, pt_G, I, L) =
    if s1 < s0 then
      pm_k (F 1003 0 [some (.ref 1), some (.int (I 10 10))] [] (49, pt_G, I, L)) (fun v S => F 723 30 [some (.ref 10)] (v.toList ++ []) S)
    else
      if ((I 10 10) - (I 10 11)) ≤ 3 then
        pm_k (F 1003 0 [some (.ref 1), some (.int (I 10 10))] [] (49, pt_G, I, L)) (fun v S => F 723 100 [some (.ref 10)] (v.toList ++ [.ref 10]) S)
      else
        some (none, (49, pt_G, (pm_ui I 10 12 4), L)) := pm_blk_to hF (pm_stp 723 [0, 5, 16, 30, 33, 55, 100, 103]) 62 rfl
set_option maxRecDepth 20000 in
theorem e723_30 (hF : pm_fix pt_me pt_Sg (pt_R L0 xs) F) {s0 : Int32} : F 723 30 [some (.ref 10)] [.int s0] (49, pt_G, I, L) =
    pm_k (F 727 0 [some (.int s0)] [] (49, pt_G, I, L)) (fun v S => F 723 33 [some (.ref 10)] (v.toList ++ []) S) := pm_blk_to hF (pm_stp 723 [0, 5, 16, 30, 33, 55, 100, 103]) 62 rfl
set_option maxRecDepth 20000 in
theorem e723_33 (hF : pm_fix pt_me pt_Sg (pt_R L0 xs) F) {s0 : Int32} : F 723 33 [some (.ref 10)] [.int s0] (49, pt_G, I, L) =
    if s0 = 0 then
      if ((I 10 10) - (I 10 11)) ≤ 3 then
        pm_k (F 1003 0 [some (.ref 1), some (.int (I 10 10))] [] (49, pt_G, I, L)) (fun v S => F 723 100 [some (.ref 10)] (v.toList ++ [.ref 10]) S)
      else
        some (none, (49, pt_G, (pm_ui I 10 12 4), L))
    else
      pm_k (F 1003 0 [some (.ref 1), some (.int (I 10 10))] [] (49, pt_G, I, L)) (fun v S => F 723 55 [some (.ref 10)] (v.toList ++ [.int ((I 10 13) * 10), .ref 10]) S) := pm_blk_to hF (pm_stp 723 [0, 5, 16, 30, 33, 55, 100, 103]) 62 rfl
set_option maxRecDepth 20000 in
theorem e723_55 (hF : pm_fix pt_me pt_Sg (pt_R L0 xs) F) {s0 : Int32} {s1 : Int32} : F 723 55 [some (.ref 10)] [.int s0, .int s1, .ref 10] (49, pt_G, I, L) =
    F 723 5 [some (.ref 10)] [] (49, pt_G, (pm_ui (pm_ui I 10 13 (s1 + (s0 - 48))) 10 10 ((I 10 10) + 1)), L) := pm_blk_to hF (pm_stp 723 [0, 5, 16, 30, 33, 55, 100, 103]) 62 rfl
set_option maxRecDepth 20000 in
theorem e723_100 (hF : pm_fix pt_me pt_Sg (pt_R L0 xs) F) {s0 : Int32} : F 723 100 [some (.ref 10)] [.int s0, .ref 10] (49, pt_G, I, L) =
    pm_k (F 726 0 [some (.int s0)] [] (49, pt_G, I, L)) (fun v S => F 723 103 [some (.ref 10)] (v.toList ++ [.ref 10]) S) := pm_blk_to hF (pm_stp 723 [0, 5, 16, 30, 33, 55, 100, 103]) 62 rfl
set_option maxRecDepth 20000 in
theorem e723_103 (hF : pm_fix pt_me pt_Sg (pt_R L0 xs) F) {s0 : Int32} : F 723 103 [some (.ref 10)] [.int s0, .ref 10] (49, pt_G, I, L) =
    if s0 = 0 then
      some (none, (49, pt_G, (pm_ui I 10 12 2), L))
    else
      some (none, (49, pt_G, (pm_ui I 10 12 4), L)) := pm_blk_to hF (pm_stp 723 [0, 5, 16, 30, 33, 55, 100, 103]) 62 rfl
-- TurnCabinet$Reader.withLetter(JI)J 
set_option maxRecDepth 20000 in
theorem e724_0 (hF : pm_fix pt_me pt_Sg (pt_R L0 xs) F) {y0 : Int64} {x2 : Int32} : F 724 0 [some (.long y0), none, some (.int x2)] [] (49, pt_G, I, L) =
    some (some (.long ((32 * y0) + (Int32.toInt64 ((x2 - 97) + 1)))), (49, pt_G, I, L)) := pm_blk_to hF (pm_stp 724 [0]) 16 rfl
-- TurnCabinet$Reader.isBlank(I)Z 
set_option maxRecDepth 20000 in
theorem e725_0 (hF : pm_fix pt_me pt_Sg (pt_R L0 xs) F) {x0 : Int32} : F 725 0 [some (.int x0)] [] (49, pt_G, I, L) =
    if x0 = 32 then
      some (some (.int 1), (49, pt_G, I, L))
    else
      if x0 = 10 then
        some (some (.int 1), (49, pt_G, I, L))
      else
        some (some (.int 0), (49, pt_G, I, L)) := pm_blk_to hF (pm_stp 725 [0]) 15 rfl
-- TurnCabinet$Reader.isLetter(I)Z 
set_option maxRecDepth 20000 in
theorem e726_0 (hF : pm_fix pt_me pt_Sg (pt_R L0 xs) F) {x0 : Int32} : F 726 0 [some (.int x0)] [] (49, pt_G, I, L) =
    if x0 < 97 then
      some (some (.int 0), (49, pt_G, I, L))
    else
      if x0 ≤ 122 then
        some (some (.int 1), (49, pt_G, I, L))
      else
        some (some (.int 0), (49, pt_G, I, L)) := pm_blk_to hF (pm_stp 726 [0]) 15 rfl
-- TurnCabinet$Reader.isDigit(I)Z 
set_option maxRecDepth 20000 in
theorem e727_0 (hF : pm_fix pt_me pt_Sg (pt_R L0 xs) F) {x0 : Int32} : F 727 0 [some (.int x0)] [] (49, pt_G, I, L) =
    if x0 < 48 then
      some (some (.int 0), (49, pt_G, I, L))
    else
      if x0 ≤ 57 then
        some (some (.int 1), (49, pt_G, I, L))
      else
        some (some (.int 0), (49, pt_G, I, L)) := pm_blk_to hF (pm_stp 727 [0]) 15 rfl
-- TurnCabinet$Slots.get(II)I 
set_option maxRecDepth 20000 in
theorem e902_0 (hF : pm_fix pt_me pt_Sg (pt_R L0 xs) F) {x0 : Int32} {x1 : Int32} : F 902 0 [some (.int x0), some (.int x1)] [] (49, pt_G, I, L) =
    some (some (.int ((pm_us x0 (3 * (x1 &&& 7))) &&& 7)), (49, pt_G, I, L)) := pm_blk_to hF (pm_stp 902 [0]) 15 rfl
-- TurnCabinet$Slots.with(III)I 
set_option maxRecDepth 20000 in
theorem e903_0 (hF : pm_fix pt_me pt_Sg (pt_R L0 xs) F) {x0 : Int32} {x1 : Int32} {x2 : Int32} : F 903 0 [some (.int x0), some (.int x1), some (.int x2), none] [] (49, pt_G, I, L) =
    some (some (.int ((x0 &&& (((7 : Int32) <<< ((3 * (x1 &&& 7)) &&& 31)) ^^^ (-1))) ||| (((x2 &&& 7) : Int32) <<< ((3 * (x1 &&& 7)) &&& 31)))), (49, pt_G, I, L)) := pm_blk_to hF (pm_stp 903 [0]) 25 rfl
-- TurnCabinet$Slots.exchanged(III)I 
set_option maxRecDepth 20000 in
theorem e904_0 (hF : pm_fix pt_me pt_Sg (pt_R L0 xs) F) {x0 : Int32} {x1 : Int32} {x2 : Int32} : F 904 0 [some (.int x0), some (.int x1), some (.int x2)] [] (49, pt_G, I, L) =
    pm_k (F 902 0 [some (.int x0), some (.int x2)] [] (49, pt_G, I, L)) (fun v S => F 904 7 [some (.int x0), some (.int x1), some (.int x2)] (v.toList ++ [.int x1, .int x0]) S) := pm_blk_to hF (pm_stp 904 [0, 7, 10, 16, 19]) 17 rfl
set_option maxRecDepth 20000 in
theorem e904_7 (hF : pm_fix pt_me pt_Sg (pt_R L0 xs) F) {x0 : Int32} {x1 : Int32} {x2 : Int32} {s0 : Int32} {s1 : Int32} {s2 : Int32} : F 904 7 [some (.int x0), some (.int x1), some (.int x2)] [.int s0, .int s1, .int s2] (49, pt_G, I, L) =
    pm_k (F 903 0 [some (.int s2), some (.int s1), some (.int s0), none] [] (49, pt_G, I, L)) (fun v S => F 904 10 [some (.int x0), some (.int x1), some (.int x2)] (v.toList ++ []) S) := pm_blk_to hF (pm_stp 904 [0, 7, 10, 16, 19]) 17 rfl
set_option maxRecDepth 20000 in
theorem e904_10 (hF : pm_fix pt_me pt_Sg (pt_R L0 xs) F) {x0 : Int32} {x1 : Int32} {x2 : Int32} {s0 : Int32} : F 904 10 [some (.int x0), some (.int x1), some (.int x2)] [.int s0] (49, pt_G, I, L) =
    pm_k (F 902 0 [some (.int x0), some (.int x1)] [] (49, pt_G, I, L)) (fun v S => F 904 16 [some (.int x0), some (.int x1), some (.int x2)] (v.toList ++ [.int x2, .int s0]) S) := pm_blk_to hF (pm_stp 904 [0, 7, 10, 16, 19]) 17 rfl
set_option maxRecDepth 20000 in
theorem e904_16 (hF : pm_fix pt_me pt_Sg (pt_R L0 xs) F) {x0 : Int32} {x1 : Int32} {x2 : Int32} {s0 : Int32} {s1 : Int32} {s2 : Int32} : F 904 16 [some (.int x0), some (.int x1), some (.int x2)] [.int s0, .int s1, .int s2] (49, pt_G, I, L) =
    pm_k (F 903 0 [some (.int s2), some (.int s1), some (.int s0), none] [] (49, pt_G, I, L)) (fun v S => F 904 19 [some (.int x0), some (.int x1), some (.int x2)] (v.toList ++ []) S) := pm_blk_to hF (pm_stp 904 [0, 7, 10, 16, 19]) 17 rfl
set_option maxRecDepth 20000 in
theorem e904_19 (hF : pm_fix pt_me pt_Sg (pt_R L0 xs) F) {x0 : Int32} {x1 : Int32} {x2 : Int32} {s0 : Int32} : F 904 19 [some (.int x0), some (.int x1), some (.int x2)] [.int s0] (49, pt_G, I, L) =
    some (some (.int s0), (49, pt_G, I, L)) := pm_blk_to hF (pm_stp 904 [0, 7, 10, 16, 19]) 17 rfl
-- TurnCabinet$Slots.placesOf(III)I 
set_option maxRecDepth 20000 in
theorem e905_0 (hF : pm_fix pt_me pt_Sg (pt_R L0 xs) F) {x0 : Int32} {x1 : Int32} {x2 : Int32} : F 905 0 [some (.int x0), some (.int x1), some (.int x2), none, none] [] (49, pt_G, I, L) =
    F 905 5 [some (.int x0), some (.int x1), some (.int x2), some (.int 0), some (.int 0)] [] (49, pt_G, I, L) := pm_blk_to hF (pm_stp 905 [0, 5, 17]) 27 rfl
set_option maxRecDepth 20000 in
theorem e905_5 (hF : pm_fix pt_me pt_Sg (pt_R L0 xs) F) {x0 : Int32} {x1 : Int32} {x2 : Int32} {x3 : Int32} {x4 : Int32} : F 905 5 [some (.int x0), some (.int x1), some (.int x2), some (.int x3), some (.int x4)] [] (49, pt_G, I, L) =
    if x4 < x1 then
      pm_k (F 902 0 [some (.int x0), some (.int x4)] [] (49, pt_G, I, L)) (fun v S => F 905 17 [some (.int x0), some (.int x1), some (.int x2), some (.int x3), some (.int x4)] (v.toList ++ []) S)
    else
      some (some (.int x3), (49, pt_G, I, L)) := pm_blk_to hF (pm_stp 905 [0, 5, 17]) 27 rfl
set_option maxRecDepth 20000 in
theorem e905_17 (hF : pm_fix pt_me pt_Sg (pt_R L0 xs) F) {x0 : Int32} {x1 : Int32} {x2 : Int32} {x3 : Int32} {x4 : Int32} {s0 : Int32} : F 905 17 [some (.int x0), some (.int x1), some (.int x2), some (.int x3), some (.int x4)] [.int s0] (49, pt_G, I, L) =
    if s0 = x2 then
      F 905 5 [some (.int x0), some (.int x1), some (.int x2), some (.int (x3 ||| ((1 : Int32) <<< (x4 &&& 31)))), some (.int (x4 + 1))] [] (49, pt_G, I, L)
    else
      F 905 5 [some (.int x0), some (.int x1), some (.int x2), some (.int x3), some (.int (x4 + 1))] [] (49, pt_G, I, L) := pm_blk_to hF (pm_stp 905 [0, 5, 17]) 27 rfl
-- TurnCabinet$Slots.count(II)I 
set_option maxRecDepth 20000 in
theorem e906_0 (hF : pm_fix pt_me pt_Sg (pt_R L0 xs) F) {x0 : Int32} {x1 : Int32} : F 906 0 [some (.int x0), some (.int x1)] [] (49, pt_G, I, L) =
    some (some (.int ((pm_us x0 (4 * (x1 &&& 7))) &&& 15)), (49, pt_G, I, L)) := pm_blk_to hF (pm_stp 906 [0]) 15 rfl
-- TurnCabinet$Slots.oneMore(II)I 
set_option maxRecDepth 20000 in
theorem e907_0 (hF : pm_fix pt_me pt_Sg (pt_R L0 xs) F) {x0 : Int32} {x1 : Int32} : F 907 0 [some (.int x0), some (.int x1)] [] (49, pt_G, I, L) =
    some (some (.int (x0 + ((1 : Int32) <<< ((4 * (x1 &&& 7)) &&& 31)))), (49, pt_G, I, L)) := pm_blk_to hF (pm_stp 907 [0]) 15 rfl
-- TurnCabinet$Slots.countsOf(II)I 
set_option maxRecDepth 20000 in
theorem e908_0 (hF : pm_fix pt_me pt_Sg (pt_R L0 xs) F) {x0 : Int32} {x1 : Int32} : F 908 0 [some (.int x0), some (.int x1), none, none] [] (49, pt_G, I, L) =
    F 908 4 [some (.int x0), some (.int x1), some (.int 0), some (.int 0)] [] (49, pt_G, I, L) := pm_blk_to hF (pm_stp 908 [0, 4, 15, 18]) 22 rfl
set_option maxRecDepth 20000 in
theorem e908_4 (hF : pm_fix pt_me pt_Sg (pt_R L0 xs) F) {x0 : Int32} {x1 : Int32} {x2 : Int32} {x3 : Int32} : F 908 4 [some (.int x0), some (.int x1), some (.int x2), some (.int x3)] [] (49, pt_G, I, L) =
    if x3 < x1 then
      pm_k (F 902 0 [some (.int x0), some (.int x3)] [] (49, pt_G, I, L)) (fun v S => F 908 15 [some (.int x0), some (.int x1), some (.int x2), some (.int x3)] (v.toList ++ [.int x2]) S)
    else
      some (some (.int x2), (49, pt_G, I, L)) := pm_blk_to hF (pm_stp 908 [0, 4, 15, 18]) 22 rfl
set_option maxRecDepth 20000 in
theorem e908_15 (hF : pm_fix pt_me pt_Sg (pt_R L0 xs) F) {x0 : Int32} {x1 : Int32} {x2 : Int32} {x3 : Int32} {s0 : Int32} {s1 : Int32} : F 908 15 [some (.int x0), some (.int x1), some (.int x2), some (.int x3)] [.int s0, .int s1] (49, pt_G, I, L) =
    pm_k (F 907 0 [some (.int s1), some (.int s0)] [] (49, pt_G, I, L)) (fun v S => F 908 18 [some (.int x0), some (.int x1), some (.int x2), some (.int x3)] (v.toList ++ []) S) := pm_blk_to hF (pm_stp 908 [0, 4, 15, 18]) 22 rfl
set_option maxRecDepth 20000 in
theorem e908_18 (hF : pm_fix pt_me pt_Sg (pt_R L0 xs) F) {x0 : Int32} {x1 : Int32} {x2 : Int32} {x3 : Int32} {s0 : Int32} : F 908 18 [some (.int x0), some (.int x1), some (.int x2), some (.int x3)] [.int s0] (49, pt_G, I, L) =
    F 908 4 [some (.int x0), some (.int x1), some (.int s0), some (.int (x3 + 1))] [] (49, pt_G, I, L) := pm_blk_to hF (pm_stp 908 [0, 4, 15, 18]) 22 rfl
-- TurnCabinet$Tape.length()I 1
set_option maxRecDepth 20000 in
theorem e1002_0 (hF : pm_fix pt_me pt_Sg (pt_R L0 xs) F) : F 1002 0 [some (.ref 1)] [] (49, pt_G, I, L) =
    some (some (.int (I 1 1)), (49, pt_G, I, L)) := pm_blk_to hF (pm_stp 1002 [0]) 8 rfl
-- TurnCabinet$Tape.byteAt(I)I 1
set_option maxRecDepth 20000 in
theorem e1003_0 (hF : pm_fix pt_me pt_Sg (pt_R L0 xs) F) {x1 : Int32} : F 1003 0 [some (.ref 1), some (.int x1)] [] (49, pt_G, I, L) =
    if x1 < 0 then
      some (some (.int (-1)), (49, pt_G, I, L))
    else
      if x1 < (I 1 1) then
        if x1 < 900 then
          bif pm_ib x1 900 then
            some (some (.int ((I 2 (Int32.toNatClampNeg x1)) &&& 255)), (49, pt_G, I, L))
          else none
        else
          some (some (.int (-1)), (49, pt_G, I, L))
      else
        some (some (.int (-1)), (49, pt_G, I, L)) := pm_blk_to hF (pm_stp 1003 [0]) 23 rfl
-- TurnCabinet$Tape.append(I)V 1
set_option maxRecDepth 20000 in
theorem e1004_0 (hF : pm_fix pt_me pt_Sg (pt_R L0 xs) F) {x1 : Int32} : F 1004 0 [some (.ref 1), some (.int x1), none] [] (49, pt_G, I, L) =
    F 1004 3 [some (.ref 1), some (.int x1), some (.int 24)] [] (49, pt_G, I, L) := pm_blk_to hF (pm_stp 1004 [0, 3]) 34 rfl
set_option maxRecDepth 20000 in
theorem e1004_3 (hF : pm_fix pt_me pt_Sg (pt_R L0 xs) F) {x1 : Int32} {x2 : Int32} : F 1004 3 [some (.ref 1), some (.int x1), some (.int x2)] [] (49, pt_G, I, L) =
    if x2 < 0 then
      some (none, (49, pt_G, I, L))
    else
      if (I 1 1) < 0 then
        F 1004 3 [some (.ref 1), some (.int x1), some (.int (x2 + (-8)))] [] (49, pt_G, I, L)
      else
        if (I 1 1) < 900 then
          bif pm_ib (I 1 1) 900 then
            F 1004 3 [some (.ref 1), some (.int x1), some (.int (x2 + (-8)))] [] (49, pt_G, (pm_ui (pm_ui I 2 (Int32.toNatClampNeg (I 1 1)) (vp_nar .byte (Int8.toInt32 (Int32.toInt8 (pm_us x1 x2))))) 1 1 ((I 1 1) + 1)), L)
          else none
        else
          F 1004 3 [some (.ref 1), some (.int x1), some (.int (x2 + (-8)))] [] (49, pt_G, I, L) := pm_blk_to hF (pm_stp 1004 [0, 3]) 34 rfl
-- TurnCabinet$Tape.cutTo(I)V 1
set_option maxRecDepth 20000 in
theorem e1005_0 (hF : pm_fix pt_me pt_Sg (pt_R L0 xs) F) {x1 : Int32} : F 1005 0 [some (.ref 1), some (.int x1)] [] (49, pt_G, I, L) =
    if x1 < 0 then
      some (none, (49, pt_G, I, L))
    else
      if x1 ≤ (I 1 1) then
        some (none, (49, pt_G, (pm_ui I 1 1 x1), L))
      else
        some (none, (49, pt_G, I, L)) := pm_blk_to hF (pm_stp 1005 [0]) 15 rfl
end
