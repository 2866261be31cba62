/-! ===== printed by gen/eqs.py: what the methods do between cuts ===== -/
section
variable {F : pm_F} {L0 : Nat} {xs : Nat → Int32} {I : Nat → Nat → Int32} {L : Nat → Nat → Int64}
-- TurnCabinet$Coalitions.freshen()V 30
set_option maxRecDepth 20000 in
theorem e302_0 (hF : pm_fix pt_me pt_Sg (pt_R L0 xs) F) : F 302 0 [some (.ref 30), none, none, none] [] (49, pt_G, I, L) =
    if (I 30 14) = (I 3 9) then
      some (none, (49, pt_G, I, L))
    else
      if (I 30 13) = (I 3 8) then
        F 302 33 [some (.ref 30), none, none, none] [] (49, pt_G, I, L)
      else
        pm_k (F 303 0 [some (.ref 30), none] [] (49, pt_G, I, L)) (fun v S => F 302 33 [some (.ref 30), none, none, none] (v.toList ++ []) S) := pm_blk_to hF (pm_stp 302 [0, 33, 63, 82, 90, 110, 130, 154]) 114 rfl
set_option maxRecDepth 20000 in
theorem e302_33 (hF : pm_fix pt_me pt_Sg (pt_R L0 xs) F) : F 302 33 [some (.ref 30), none, none, none] [] (49, pt_G, I, L) =
    pm_k (F 517 0 [some (.ref 3)] [] (49, pt_G, (pm_ui (pm_ui I 30 14 (I 3 9)) 30 13 (I 3 8)), L)) (fun v S => F 302 63 [some (.ref 30), none, none, none] (v.toList ++ [.ref 30]) S) := pm_blk_to hF (pm_stp 302 [0, 33, 63, 82, 90, 110, 130, 154]) 114 rfl
set_option maxRecDepth 20000 in
theorem e302_63 (hF : pm_fix pt_me pt_Sg (pt_R L0 xs) F) {s0 : Int32} : F 302 63 [some (.ref 30), none, none, none] [.int s0, .ref 30] (49, pt_G, I, L) =
    bif pm_ib 0 128 then
      bif pm_ib 0 128 then
        F 302 82 [some (.ref 30), some (.int 1), none, none] [] (49, pt_G, (pm_ui (pm_ui (pm_ui I 30 12 s0) 32 (Int32.toNatClampNeg 0) (vp_nar .boolean 1)) 31 (Int32.toNatClampNeg 0) 0), L)
      else none
    else none := pm_blk_to hF (pm_stp 302 [0, 33, 63, 82, 90, 110, 130, 154]) 114 rfl
set_option maxRecDepth 20000 in
theorem e302_82 (hF : pm_fix pt_me pt_Sg (pt_R L0 xs) F) {x1 : Int32} : F 302 82 [some (.ref 30), some (.int x1), none, none] [] (49, pt_G, I, L) =
    pm_k (F 507 0 [some (.ref 3)] [] (49, pt_G, I, L)) (fun v S => F 302 90 [some (.ref 30), some (.int x1), none, none] (v.toList ++ [.int x1]) S) := pm_blk_to hF (pm_stp 302 [0, 33, 63, 82, 90, 110, 130, 154]) 114 rfl
set_option maxRecDepth 20000 in
theorem e302_90 (hF : pm_fix pt_me pt_Sg (pt_R L0 xs) F) {x1 : Int32} {s0 : Int32} {s1 : Int32} : F 302 90 [some (.ref 30), some (.int x1), none, none] [.int s0, .int s1] (49, pt_G, I, L) =
    if s1 ≤ s0 then
      if x1 < 128 then
        pm_k (F 1509 0 [some (.int x1), none] [] (49, pt_G, I, L)) (fun v S => F 302 110 [some (.ref 30), some (.int x1), some (.int (x1 &&& (x1 - 1))), none] (v.toList ++ []) S)
      else
        some (none, (49, pt_G, I, L))
    else
      some (none, (49, pt_G, I, L)) := pm_blk_to hF (pm_stp 302 [0, 33, 63, 82, 90, 110, 130, 154]) 114 rfl
set_option maxRecDepth 20000 in
theorem e302_110 (hF : pm_fix pt_me pt_Sg (pt_R L0 xs) F) {x1 : Int32} {x2 : Int32} {s0 : Int32} : F 302 110 [some (.ref 30), some (.int x1), some (.int x2), none] [.int s0] (49, pt_G, I, L) =
    bif pm_ib x2 128 then
      pm_k (F 508 0 [some (.ref 3), some (.int s0)] [] (49, pt_G, I, L)) (fun v S => F 302 130 [some (.ref 30), some (.int x1), some (.int x2), some (.int s0)] (v.toList ++ [.int (I 31 (Int32.toNatClampNeg x2)), .int x1, .ref 31]) S)
    else none := pm_blk_to hF (pm_stp 302 [0, 33, 63, 82, 90, 110, 130, 154]) 114 rfl
set_option maxRecDepth 20000 in
theorem e302_130 (hF : pm_fix pt_me pt_Sg (pt_R L0 xs) F) {x1 : Int32} {x2 : Int32} {x3 : Int32} {s0 : Int32} {s1 : Int32} {s2 : Int32} : F 302 130 [some (.ref 30), some (.int x1), some (.int x2), some (.int x3)] [.int s0, .int s1, .int s2, .ref 31] (49, pt_G, I, L) =
    bif pm_ib s2 128 then
      bif pm_ib x2 128 then
        if (I 32 (Int32.toNatClampNeg x2)) = 0 then
          bif pm_ib x1 128 then
            bif pm_ib x1 128 then
              bif pm_ib x1 128 then
                bif pm_ib x1 128 then
                  F 302 82 [some (.ref 30), some (.int (x1 + 1)), none, none] [] (49, pt_G, (pm_ui (pm_ui (pm_ui (pm_ui (pm_ui I 31 (Int32.toNatClampNeg s2) (s1 + s0)) 32 (Int32.toNatClampNeg x1) (vp_nar .boolean 0)) 33 (Int32.toNatClampNeg x1) (vp_nar .boolean 0)) 38 (Int32.toNatClampNeg x1) (-1)) 39 (Int32.toNatClampNeg x1) 0), L)
                else none
              else none
            else none
          else none
        else
          pm_k (F 511 0 [some (.ref 3), some (.int x3)] [] (49, pt_G, (pm_ui I 31 (Int32.toNatClampNeg s2) (s1 + s0)), L)) (fun v S => F 302 154 [some (.ref 30), some (.int x1), some (.int x2), some (.int x3)] (v.toList ++ [.int x1, .ref 32]) S)
      else none
    else none := pm_blk_to hF (pm_stp 302 [0, 33, 63, 82, 90, 110, 130, 154]) 114 rfl
set_option maxRecDepth 20000 in
theorem e302_154 (hF : pm_fix pt_me pt_Sg (pt_R L0 xs) F) {x1 : Int32} {x2 : Int32} {x3 : Int32} {s0 : Int32} {s1 : Int32} : F 302 154 [some (.ref 30), some (.int x1), some (.int x2), some (.int x3)] [.int s0, .int s1, .ref 32] (49, pt_G, I, L) =
    if (s0 &&& x1) = 0 then
      bif pm_ib s1 128 then
        bif pm_ib x1 128 then
          bif pm_ib x1 128 then
            bif pm_ib x1 128 then
              F 302 82 [some (.ref 30), some (.int (x1 + 1)), none, none] [] (49, pt_G, (pm_ui (pm_ui (pm_ui (pm_ui I 32 (Int32.toNatClampNeg s1) (vp_nar .boolean 1)) 33 (Int32.toNatClampNeg x1) (vp_nar .boolean 0)) 38 (Int32.toNatClampNeg x1) (-1)) 39 (Int32.toNatClampNeg x1) 0), L)
            else none
          else none
        else none
      else none
    else
      bif pm_ib s1 128 then
        bif pm_ib x1 128 then
          bif pm_ib x1 128 then
            bif pm_ib x1 128 then
              F 302 82 [some (.ref 30), some (.int (x1 + 1)), none, none] [] (49, pt_G, (pm_ui (pm_ui (pm_ui (pm_ui I 32 (Int32.toNatClampNeg s1) (vp_nar .boolean 0)) 33 (Int32.toNatClampNeg x1) (vp_nar .boolean 0)) 38 (Int32.toNatClampNeg x1) (-1)) 39 (Int32.toNatClampNeg x1) 0), L)
            else none
          else none
        else none
      else none := pm_blk_to hF (pm_stp 302 [0, 33, 63, 82, 90, 110, 130, 154]) 114 rfl
-- TurnCabinet$Coalitions.forgetPicks()V 30
set_option maxRecDepth 20000 in
theorem e303_0 (hF : pm_fix pt_me pt_Sg (pt_R L0 xs) F) : F 303 0 [some (.ref 30), none] [] (49, pt_G, I, L) =
    F 303 2 [some (.ref 30), some (.int 0)] [] (49, pt_G, I, L) := pm_blk_to hF (pm_stp 303 [0, 2]) 18 rfl
set_option maxRecDepth 20000 in
theorem e303_2 (hF : pm_fix pt_me pt_Sg (pt_R L0 xs) F) {x1 : Int32} : F 303 2 [some (.ref 30), some (.int x1)] [] (49, pt_G, I, L) =
    if x1 < 128 then
      bif pm_ib x1 128 then
        F 303 2 [some (.ref 30), some (.int (x1 + 1))] [] (49, pt_G, (pm_ui I 34 (Int32.toNatClampNeg x1) (-1)), L)
      else none
    else
      some (none, (49, pt_G, I, L)) := pm_blk_to hF (pm_stp 303 [0, 2]) 18 rfl
-- TurnCabinet$Coalitions.learnThoseThatCan()V 30
set_option maxRecDepth 20000 in
theorem e304_0 (hF : pm_fix pt_me pt_Sg (pt_R L0 xs) F) : F 304 0 [some (.ref 30), none] [] (49, pt_G, I, L) =
    pm_k (F 302 0 [some (.ref 30), none, none, none] [] (49, pt_G, I, L)) (fun v S => F 304 4 [some (.ref 30), none] (v.toList ++ []) S) := pm_blk_to hF (pm_stp 304 [0, 4, 6, 14, 22, 30]) 24 rfl
set_option maxRecDepth 20000 in
theorem e304_4 (hF : pm_fix pt_me pt_Sg (pt_R L0 xs) F) : F 304 4 [some (.ref 30), none] [] (49, pt_G, I, L) =
    F 304 6 [some (.ref 30), some (.int 1)] [] (49, pt_G, I, L) := pm_blk_to hF (pm_stp 304 [0, 4, 6, 14, 22, 30]) 24 rfl
set_option maxRecDepth 20000 in
theorem e304_6 (hF : pm_fix pt_me pt_Sg (pt_R L0 xs) F) {x1 : Int32} : F 304 6 [some (.ref 30), some (.int x1)] [] (49, pt_G, I, L) =
    pm_k (F 507 0 [some (.ref 3)] [] (49, pt_G, I, L)) (fun v S => F 304 14 [some (.ref 30), some (.int x1)] (v.toList ++ [.int x1]) S) := pm_blk_to hF (pm_stp 304 [0, 4, 6, 14, 22, 30]) 24 rfl
set_option maxRecDepth 20000 in
theorem e304_14 (hF : pm_fix pt_me pt_Sg (pt_R L0 xs) F) {x1 : Int32} {s0 : Int32} {s1 : Int32} : F 304 14 [some (.ref 30), some (.int x1)] [.int s0, .int s1] (49, pt_G, I, L) =
    if s1 ≤ s0 then
      pm_k (F 310 0 [some (.ref 30), some (.int x1)] [] (49, pt_G, I, L)) (fun v S => F 304 22 [some (.ref 30), some (.int x1)] (v.toList ++ []) S)
    else
      some (none, (49, pt_G, I, L)) := pm_blk_to hF (pm_stp 304 [0, 4, 6, 14, 22, 30]) 24 rfl
set_option maxRecDepth 20000 in
theorem e304_22 (hF : pm_fix pt_me pt_Sg (pt_R L0 xs) F) {x1 : Int32} {s0 : Int32} : F 304 22 [some (.ref 30), some (.int x1)] [.int s0] (49, pt_G, I, L) =
    if s0 = 0 then
      F 304 30 [some (.ref 30), some (.int x1)] [] (49, pt_G, I, L)
    else
      pm_k (F 305 0 [some (.ref 30), some (.int x1), none, none, none, none] [] (49, pt_G, I, L)) (fun v S => F 304 30 [some (.ref 30), some (.int x1)] (v.toList ++ []) S) := pm_blk_to hF (pm_stp 304 [0, 4, 6, 14, 22, 30]) 24 rfl
set_option maxRecDepth 20000 in
theorem e304_30 (hF : pm_fix pt_me pt_Sg (pt_R L0 xs) F) {x1 : Int32} : F 304 30 [some (.ref 30), some (.int x1)] [] (49, pt_G, I, L) =
    F 304 6 [some (.ref 30), some (.int (x1 + 1))] [] (49, pt_G, I, L) := pm_blk_to hF (pm_stp 304 [0, 4, 6, 14, 22, 30]) 24 rfl
-- TurnCabinet$Coalitions.learn(I)V 30
set_option maxRecDepth 20000 in
theorem e305_0 (hF : pm_fix pt_me pt_Sg (pt_R L0 xs) F) {x1 : Int32} : F 305 0 [some (.ref 30), some (.int x1), none, none, none, none] [] (49, pt_G, I, L) =
    pm_k (F 302 0 [some (.ref 30), none, none, none] [] (49, pt_G, I, L)) (fun v S => F 305 4 [some (.ref 30), some (.int x1), none, none, none, none] (v.toList ++ []) S) := pm_blk_to hF (pm_stp 305 [0, 4, 31, 39, 43, 68, 88, 117, 144]) 89 rfl
set_option maxRecDepth 20000 in
theorem e305_4 (hF : pm_fix pt_me pt_Sg (pt_R L0 xs) F) {x1 : Int32} : F 305 4 [some (.ref 30), some (.int x1), none, none, none, none] [] (49, pt_G, I, L) =
    bif pm_ib (x1 &&& 127) 128 then
      if (I 33 (Int32.toNatClampNeg (x1 &&& 127))) = 0 then
        bif pm_ib (x1 &&& 127) 128 then
          pm_k (F 306 0 [some (.ref 30), some (.int (x1 &&& 127)), none, none, none] [] (49, pt_G, (pm_ui I 33 (Int32.toNatClampNeg (x1 &&& 127)) (vp_nar .boolean 1)), L)) (fun v S => F 305 31 [some (.ref 30), some (.int x1), some (.int (x1 &&& 127)), none, none, none] (v.toList ++ []) S)
        else none
      else
        some (none, (49, pt_G, I, L))
    else none := pm_blk_to hF (pm_stp 305 [0, 4, 31, 39, 43, 68, 88, 117, 144]) 89 rfl
set_option maxRecDepth 20000 in
theorem e305_31 (hF : pm_fix pt_me pt_Sg (pt_R L0 xs) F) {x1 : Int32} {x2 : Int32} : F 305 31 [some (.ref 30), some (.int x1), some (.int x2), none, none, none] [] (49, pt_G, I, L) =
    pm_k (F 520 0 [some (.ref 3), some (.int x2), none, none, none] [] (49, pt_G, I, L)) (fun v S => F 305 39 [some (.ref 30), some (.int x1), some (.int x2), none, none, none] (v.toList ++ []) S) := pm_blk_to hF (pm_stp 305 [0, 4, 31, 39, 43, 68, 88, 117, 144]) 89 rfl
set_option maxRecDepth 20000 in
theorem e305_39 (hF : pm_fix pt_me pt_Sg (pt_R L0 xs) F) {x1 : Int32} {x2 : Int32} {s0 : Int32} : F 305 39 [some (.ref 30), some (.int x1), some (.int x2), none, none, none] [.int s0] (49, pt_G, I, L) =
    F 305 43 [some (.ref 30), some (.int x1), some (.int x2), some (.int s0), some (.int 0), none] [] (49, pt_G, I, L) := pm_blk_to hF (pm_stp 305 [0, 4, 31, 39, 43, 68, 88, 117, 144]) 89 rfl
set_option maxRecDepth 20000 in
theorem e305_43 (hF : pm_fix pt_me pt_Sg (pt_R L0 xs) F) {x1 : Int32} {x2 : Int32} {x3 : Int32} {x4 : Int32} : F 305 43 [some (.ref 30), some (.int x1), some (.int x2), some (.int x3), some (.int x4), none] [] (49, pt_G, I, L) =
    if x4 < (I 3 0) then
      if x4 < 8 then
        pm_k (F 151 0 [some (.int x4), some (.int x2)] [] (49, pt_G, I, L)) (fun v S => F 305 68 [some (.ref 30), some (.int x1), some (.int x2), some (.int x3), some (.int x4), none] (v.toList ++ []) S)
      else
        some (none, (49, pt_G, I, L))
    else
      some (none, (49, pt_G, I, L)) := pm_blk_to hF (pm_stp 305 [0, 4, 31, 39, 43, 68, 88, 117, 144]) 89 rfl
set_option maxRecDepth 20000 in
theorem e305_68 (hF : pm_fix pt_me pt_Sg (pt_R L0 xs) F) {x1 : Int32} {x2 : Int32} {x3 : Int32} {x4 : Int32} {s0 : Int32} : F 305 68 [some (.ref 30), some (.int x1), some (.int x2), some (.int x3), some (.int x4), none] [.int s0] (49, pt_G, I, L) =
    if s0 = 0 then
      pm_k (F 524 0 [some (.ref 3), some (.int 0), some (.int x4), some (.int x3)] [] (49, pt_G, I, L)) (fun v S => F 305 117 [some (.ref 30), some (.int x1), some (.int x2), some (.int x3), some (.int x4), some (.int 0)] (v.toList ++ [.int ((8 * x2) + x4), .ref 36]) S)
    else
      bif pm_ib x2 128 then
        pm_k (F 521 0 [some (.ref 3), some (.int x4), some (.int (I 35 (Int32.toNatClampNeg x2))), some (.int x4), none, none] [] (49, pt_G, I, L)) (fun v S => F 305 88 [some (.ref 30), some (.int x1), some (.int x2), some (.int x3), some (.int x4), none] (v.toList ++ []) S)
      else none := pm_blk_to hF (pm_stp 305 [0, 4, 31, 39, 43, 68, 88, 117, 144]) 89 rfl
set_option maxRecDepth 20000 in
theorem e305_88 (hF : pm_fix pt_me pt_Sg (pt_R L0 xs) F) {x1 : Int32} {x2 : Int32} {x3 : Int32} {x4 : Int32} {s0 : Int32} : F 305 88 [some (.ref 30), some (.int x1), some (.int x2), some (.int x3), some (.int x4), none] [.int s0] (49, pt_G, I, L) =
    pm_k (F 524 0 [some (.ref 3), some (.int s0), some (.int x4), some (.int x3)] [] (49, pt_G, I, L)) (fun v S => F 305 117 [some (.ref 30), some (.int x1), some (.int x2), some (.int x3), some (.int x4), some (.int s0)] (v.toList ++ [.int ((8 * x2) + x4), .ref 36]) S) := pm_blk_to hF (pm_stp 305 [0, 4, 31, 39, 43, 68, 88, 117, 144]) 89 rfl
set_option maxRecDepth 20000 in
theorem e305_117 (hF : pm_fix pt_me pt_Sg (pt_R L0 xs) F) {x1 : Int32} {x2 : Int32} {x3 : Int32} {x4 : Int32} {x5 : Int32} {s0 : Int32} {s1 : Int32} : F 305 117 [some (.ref 30), some (.int x1), some (.int x2), some (.int x3), some (.int x4), some (.int x5)] [.int s0, .int s1, .ref 36] (49, pt_G, I, L) =
    bif pm_ib s1 1024 then
      bif pm_ib x2 128 then
        pm_k (F 525 0 [some (.ref 3), some (.int x4), some (.int (I 35 (Int32.toNatClampNeg x2))), none, none, none] [] (49, pt_G, (pm_ui I 36 (Int32.toNatClampNeg s1) s0), L)) (fun v S => F 305 144 [some (.ref 30), some (.int x1), some (.int x2), some (.int x3), some (.int x4), some (.int x5)] (v.toList ++ [.int ((8 * x2) + x4), .ref 37]) S)
      else none
    else none := pm_blk_to hF (pm_stp 305 [0, 4, 31, 39, 43, 68, 88, 117, 144]) 89 rfl
set_option maxRecDepth 20000 in
theorem e305_144 (hF : pm_fix pt_me pt_Sg (pt_R L0 xs) F) {x1 : Int32} {x2 : Int32} {x3 : Int32} {x4 : Int32} {x5 : Int32} {s0 : Int32} {s1 : Int32} : F 305 144 [some (.ref 30), some (.int x1), some (.int x2), some (.int x3), some (.int x4), some (.int x5)] [.int s0, .int s1, .ref 37] (49, pt_G, I, L) =
    bif pm_ib s1 1024 then
      F 305 43 [some (.ref 30), some (.int x1), some (.int x2), some (.int x3), some (.int (x4 + 1)), none] [] (49, pt_G, (pm_ui I 37 (Int32.toNatClampNeg s1) s0), L)
    else none := pm_blk_to hF (pm_stp 305 [0, 4, 31, 39, 43, 68, 88, 117, 144]) 89 rfl
-- TurnCabinet$Coalitions.foreseePicks(I)V 30
set_option maxRecDepth 20000 in
theorem e306_0 (hF : pm_fix pt_me pt_Sg (pt_R L0 xs) F) {x1 : Int32} : F 306 0 [some (.ref 30), some (.int x1), none, none, none] [] (49, pt_G, I, L) =
    pm_k (F 602 0 [some (.ref 23), some (.int x1), some (.int (I 3 2)), some (.int (I 3 3)), none, none, none, none] [] (49, pt_G, I, L)) (fun v S => F 306 22 [some (.ref 30), some (.int x1), none, none, none] (v.toList ++ []) S) := pm_blk_to hF (pm_stp 306 [0, 22, 42, 117, 133]) 83 rfl
set_option maxRecDepth 20000 in
theorem e306_22 (hF : pm_fix pt_me pt_Sg (pt_R L0 xs) F) {x1 : Int32} {s0 : Int32} : F 306 22 [some (.ref 30), some (.int x1), none, none, none] [.int s0] (49, pt_G, I, L) =
    bif pm_ib (x1 &&& 127) 128 then
      if (I 34 (Int32.toNatClampNeg (x1 &&& 127))) = s0 then
        some (none, (49, pt_G, I, L))
      else
        F 306 42 [some (.ref 30), some (.int x1), some (.int s0), some (.int (-1)), some (.int 1)] [] (49, pt_G, I, L)
    else none := pm_blk_to hF (pm_stp 306 [0, 22, 42, 117, 133]) 83 rfl
set_option maxRecDepth 20000 in
theorem e306_42 (hF : pm_fix pt_me pt_Sg (pt_R L0 xs) F) {x1 : Int32} {x2 : Int32} {x3 : Int32} {x4 : Int32} : F 306 42 [some (.ref 30), some (.int x1), some (.int x2), some (.int x3), some (.int x4)] [] (49, pt_G, I, L) =
    if x4 < 128 then
      if x3 = (-1) then
        bif pm_ib x4 128 then
          if (I 34 (Int32.toNatClampNeg x4)) = x2 then
            F 306 42 [some (.ref 30), some (.int x1), some (.int x2), some (.int x4), some (.int (x4 + 1))] [] (49, pt_G, I, L)
          else
            F 306 42 [some (.ref 30), some (.int x1), some (.int x2), some (.int x3), some (.int (x4 + 1))] [] (49, pt_G, I, L)
        else none
      else
        bif pm_ib (x1 &&& 127) 128 then
          if x3 = (-1) then
            pm_k (F 607 0 [some (.ref 23), some (.int x2), none] [] (49, pt_G, (pm_ui I 34 (Int32.toNatClampNeg (x1 &&& 127)) x2), L)) (fun v S => F 306 117 [some (.ref 30), some (.int x1), some (.int x2), some (.int x3), some (.int x4)] (v.toList ++ []) S)
          else
            bif pm_ib (x3 &&& 127) 128 then
              bif pm_ib (x1 &&& 127) 128 then
                some (none, (49, pt_G, (pm_ui (pm_ui I 34 (Int32.toNatClampNeg (x1 &&& 127)) x2) 35 (Int32.toNatClampNeg (x1 &&& 127)) (I 35 (Int32.toNatClampNeg (x3 &&& 127)))), L))
              else none
            else none
        else none
    else
      bif pm_ib (x1 &&& 127) 128 then
        if x3 = (-1) then
          pm_k (F 607 0 [some (.ref 23), some (.int x2), none] [] (49, pt_G, (pm_ui I 34 (Int32.toNatClampNeg (x1 &&& 127)) x2), L)) (fun v S => F 306 117 [some (.ref 30), some (.int x1), some (.int x2), some (.int x3), some (.int x4)] (v.toList ++ []) S)
        else
          bif pm_ib (x3 &&& 127) 128 then
            bif pm_ib (x1 &&& 127) 128 then
              some (none, (49, pt_G, (pm_ui (pm_ui I 34 (Int32.toNatClampNeg (x1 &&& 127)) x2) 35 (Int32.toNatClampNeg (x1 &&& 127)) (I 35 (Int32.toNatClampNeg (x3 &&& 127)))), L))
            else none
          else none
      else none := pm_blk_to hF (pm_stp 306 [0, 22, 42, 117, 133]) 83 rfl
set_option maxRecDepth 20000 in
theorem e306_117 (hF : pm_fix pt_me pt_Sg (pt_R L0 xs) F) {x1 : Int32} {x2 : Int32} {x3 : Int32} {x4 : Int32} : F 306 117 [some (.ref 30), some (.int x1), some (.int x2), some (.int x3), some (.int x4)] [] (49, pt_G, I, L) =
    pm_k (F 604 0 [some (.ref 23), some (.int x2), none, none, none, none] [] (49, pt_G, I, L)) (fun v S => F 306 133 [some (.ref 30), some (.int x1), some (.int x2), some (.int x3), some (.int x4)] (v.toList ++ [.int (x1 &&& 127), .ref 35]) S) := pm_blk_to hF (pm_stp 306 [0, 22, 42, 117, 133]) 83 rfl
set_option maxRecDepth 20000 in
theorem e306_133 (hF : pm_fix pt_me pt_Sg (pt_R L0 xs) F) {x1 : Int32} {x2 : Int32} {x3 : Int32} {x4 : Int32} {s0 : Int32} {s1 : Int32} : F 306 133 [some (.ref 30), some (.int x1), some (.int x2), some (.int x3), some (.int x4)] [.int s0, .int s1, .ref 35] (49, pt_G, I, L) =
    bif pm_ib s1 128 then
      some (none, (49, pt_G, (pm_ui I 35 (Int32.toNatClampNeg s1) s0), L))
    else none := pm_blk_to hF (pm_stp 306 [0, 22, 42, 117, 133]) 83 rfl
-- TurnCabinet$Coalitions.picked(II)I 30
set_option maxRecDepth 20000 in
theorem e307_0 (hF : pm_fix pt_me pt_Sg (pt_R L0 xs) F) {x1 : Int32} {x2 : Int32} : F 307 0 [some (.ref 30), some (.int x1), some (.int x2), none] [] (49, pt_G, I, L) =
    pm_k (F 305 0 [some (.ref 30), some (.int x1), none, none, none, none] [] (49, pt_G, I, L)) (fun v S => F 307 5 [some (.ref 30), some (.int x1), some (.int x2), none] (v.toList ++ []) S) := pm_blk_to hF (pm_stp 307 [0, 5, 27, 55]) 38 rfl
set_option maxRecDepth 20000 in
theorem e307_5 (hF : pm_fix pt_me pt_Sg (pt_R L0 xs) F) {x1 : Int32} {x2 : Int32} : F 307 5 [some (.ref 30), some (.int x1), some (.int x2), none] [] (49, pt_G, I, L) =
    if x2 = 0 then
      bif pm_ib (x1 &&& 127) 128 then
        pm_k (F 603 0 [some (.ref 23), some (.int (I 34 (Int32.toNatClampNeg (x1 &&& 127)))), none, none, none, none, none] [] (49, pt_G, I, L)) (fun v S => F 307 27 [some (.ref 30), some (.int x1), some (.int x2), some (.int (x1 &&& 127))] (v.toList ++ []) S)
      else none
    else
      if x2 = 1 then
        bif pm_ib (x1 &&& 127) 128 then
          F 307 55 [some (.ref 30), some (.int x1), some (.int x2), some (.int (x1 &&& 127))] [.int (I 35 (Int32.toNatClampNeg (x1 &&& 127)))] (49, pt_G, I, L)
        else none
      else
        bif pm_ib (x1 &&& 127) 128 then
          pm_k (F 611 0 [some (.ref 23), some (.int (I 35 (Int32.toNatClampNeg (x1 &&& 127)))), none, none, none] [] (49, pt_G, I, L)) (fun v S => F 307 55 [some (.ref 30), some (.int x1), some (.int x2), some (.int (x1 &&& 127))] (v.toList ++ []) S)
        else none := pm_blk_to hF (pm_stp 307 [0, 5, 27, 55]) 38 rfl
set_option maxRecDepth 20000 in
theorem e307_27 (hF : pm_fix pt_me pt_Sg (pt_R L0 xs) F) {x1 : Int32} {x2 : Int32} {x3 : Int32} {s0 : Int32} : F 307 27 [some (.ref 30), some (.int x1), some (.int x2), some (.int x3)] [.int s0] (49, pt_G, I, L) =
    some (some (.int s0), (49, pt_G, I, L)) := pm_blk_to hF (pm_stp 307 [0, 5, 27, 55]) 38 rfl
set_option maxRecDepth 20000 in
theorem e307_55 (hF : pm_fix pt_me pt_Sg (pt_R L0 xs) F) {x1 : Int32} {x2 : Int32} {x3 : Int32} {s0 : Int32} : F 307 55 [some (.ref 30), some (.int x1), some (.int x2), some (.int x3)] [.int s0] (49, pt_G, I, L) =
    some (some (.int s0), (49, pt_G, I, L)) := pm_blk_to hF (pm_stp 307 [0, 5, 27, 55]) 38 rfl
-- TurnCabinet$Coalitions.payOf(II)I 30
set_option maxRecDepth 20000 in
theorem e308_0 (hF : pm_fix pt_me pt_Sg (pt_R L0 xs) F) {x1 : Int32} {x2 : Int32} : F 308 0 [some (.ref 30), some (.int x1), some (.int x2)] [] (49, pt_G, I, L) =
    bif pm_ib ((8 * (x1 &&& 127)) + (x2 &&& 7)) 1024 then
      some (some (.int (I 36 (Int32.toNatClampNeg ((8 * (x1 &&& 127)) + (x2 &&& 7))))), (49, pt_G, I, L))
    else none := pm_blk_to hF (pm_stp 308 [0]) 18 rfl
-- TurnCabinet$Coalitions.leads(I)Z 30
set_option maxRecDepth 20000 in
theorem e309_0 (hF : pm_fix pt_me pt_Sg (pt_R L0 xs) F) {x1 : Int32} : F 309 0 [some (.ref 30), some (.int x1)] [] (49, pt_G, I, L) =
    bif pm_ib (x1 &&& 127) 128 then
      if (I 31 (Int32.toNatClampNeg (x1 &&& 127))) < (I 30 12) then
        some (some (.int 0), (49, pt_G, I, L))
      else
        some (some (.int 1), (49, pt_G, I, L))
    else none := pm_blk_to hF (pm_stp 309 [0]) 18 rfl
-- TurnCabinet$Coalitions.canBe(I)Z 30
set_option maxRecDepth 20000 in
theorem e310_0 (hF : pm_fix pt_me pt_Sg (pt_R L0 xs) F) {x1 : Int32} : F 310 0 [some (.ref 30), some (.int x1)] [] (49, pt_G, I, L) =
    pm_k (F 309 0 [some (.ref 30), some (.int x1)] [] (49, pt_G, I, L)) (fun v S => F 310 5 [some (.ref 30), some (.int x1)] (v.toList ++ []) S) := pm_blk_to hF (pm_stp 310 [0, 5]) 20 rfl
set_option maxRecDepth 20000 in
theorem e310_5 (hF : pm_fix pt_me pt_Sg (pt_R L0 xs) F) {x1 : Int32} {s0 : Int32} : F 310 5 [some (.ref 30), some (.int x1)] [.int s0] (49, pt_G, I, L) =
    if s0 = 0 then
      some (some (.int 0), (49, pt_G, I, L))
    else
      bif pm_ib (x1 &&& 127) 128 then
        if (I 32 (Int32.toNatClampNeg (x1 &&& 127))) = 0 then
          some (some (.int 0), (49, pt_G, I, L))
        else
          some (some (.int 1), (49, pt_G, I, L))
      else none := pm_blk_to hF (pm_stp 310 [0, 5]) 20 rfl
-- TurnCabinet$Coalitions.leadsWithout(II)Z 30
set_option maxRecDepth 20000 in
theorem e311_0 (hF : pm_fix pt_me pt_Sg (pt_R L0 xs) F) {x1 : Int32} {x2 : Int32} : F 311 0 [some (.ref 30), some (.int x1), some (.int x2)] [] (49, pt_G, I, L) =
    pm_k (F 309 0 [some (.ref 30), some (.int (x1 &&& (((1 : Int32) <<< (x2 &&& 31)) ^^^ (-1))))] [] (49, pt_G, I, L)) (fun v S => F 311 11 [some (.ref 30), some (.int x1), some (.int x2)] (v.toList ++ []) S) := pm_blk_to hF (pm_stp 311 [0, 11]) 15 rfl
set_option maxRecDepth 20000 in
theorem e311_11 (hF : pm_fix pt_me pt_Sg (pt_R L0 xs) F) {x1 : Int32} {x2 : Int32} {s0 : Int32} : F 311 11 [some (.ref 30), some (.int x1), some (.int x2)] [.int s0] (49, pt_G, I, L) =
    bif decide (s0 &&& 1 = s0) then some (some (.int s0), (49, pt_G, I, L)) else none := pm_blk_to hF (pm_stp 311 [0, 11]) 15 rfl
-- TurnCabinet$Coalitions.isMinimal(I)Z 30
set_option maxRecDepth 20000 in
theorem e312_0 (hF : pm_fix pt_me pt_Sg (pt_R L0 xs) F) {x1 : Int32} : F 312 0 [some (.ref 30), some (.int x1), none] [] (49, pt_G, I, L) =
    pm_k (F 309 0 [some (.ref 30), some (.int x1)] [] (49, pt_G, I, L)) (fun v S => F 312 5 [some (.ref 30), some (.int x1), none] (v.toList ++ []) S) := pm_blk_to hF (pm_stp 312 [0, 5, 12, 28, 37]) 33 rfl
set_option maxRecDepth 20000 in
theorem e312_5 (hF : pm_fix pt_me pt_Sg (pt_R L0 xs) F) {x1 : Int32} {s0 : Int32} : F 312 5 [some (.ref 30), some (.int x1), none] [.int s0] (49, pt_G, I, L) =
    if s0 = 0 then
      some (some (.int 0), (49, pt_G, I, L))
    else
      F 312 12 [some (.ref 30), some (.int x1), some (.int 0)] [] (49, pt_G, I, L) := pm_blk_to hF (pm_stp 312 [0, 5, 12, 28, 37]) 33 rfl
set_option maxRecDepth 20000 in
theorem e312_12 (hF : pm_fix pt_me pt_Sg (pt_R L0 xs) F) {x1 : Int32} {x2 : Int32} : F 312 12 [some (.ref 30), some (.int x1), some (.int x2)] [] (49, pt_G, I, L) =
    if x2 < (I 3 0) then
      pm_k (F 151 0 [some (.int x2), some (.int x1)] [] (49, pt_G, I, L)) (fun v S => F 312 28 [some (.ref 30), some (.int x1), some (.int x2)] (v.toList ++ []) S)
    else
      some (some (.int 1), (49, pt_G, I, L)) := pm_blk_to hF (pm_stp 312 [0, 5, 12, 28, 37]) 33 rfl
set_option maxRecDepth 20000 in
theorem e312_28 (hF : pm_fix pt_me pt_Sg (pt_R L0 xs) F) {x1 : Int32} {x2 : Int32} {s0 : Int32} : F 312 28 [some (.ref 30), some (.int x1), some (.int x2)] [.int s0] (49, pt_G, I, L) =
    if s0 = 0 then
      F 312 12 [some (.ref 30), some (.int x1), some (.int (x2 + 1))] [] (49, pt_G, I, L)
    else
      pm_k (F 311 0 [some (.ref 30), some (.int x1), some (.int x2)] [] (49, pt_G, I, L)) (fun v S => F 312 37 [some (.ref 30), some (.int x1), some (.int x2)] (v.toList ++ []) S) := pm_blk_to hF (pm_stp 312 [0, 5, 12, 28, 37]) 33 rfl
set_option maxRecDepth 20000 in
theorem e312_37 (hF : pm_fix pt_me pt_Sg (pt_R L0 xs) F) {x1 : Int32} {x2 : Int32} {s0 : Int32} : F 312 37 [some (.ref 30), some (.int x1), some (.int x2)] [.int s0] (49, pt_G, I, L) =
    if s0 = 0 then
      F 312 12 [some (.ref 30), some (.int x1), some (.int (x2 + 1))] [] (49, pt_G, I, L)
    else
      some (some (.int 0), (49, pt_G, I, L)) := pm_blk_to hF (pm_stp 312 [0, 5, 12, 28, 37]) 33 rfl
-- TurnCabinet$Coalitions.kindOf(I)I 30
set_option maxRecDepth 20000 in
theorem e313_0 (hF : pm_fix pt_me pt_Sg (pt_R L0 xs) F) {x1 : Int32} : F 313 0 [some (.ref 30), some (.int x1), none] [] (49, pt_G, I, L) =
    pm_k (F 309 0 [some (.ref 30), some (.int x1)] [] (49, pt_G, I, L)) (fun v S => F 313 7 [some (.ref 30), some (.int x1), some (.int 0)] (v.toList ++ []) S) := pm_blk_to hF (pm_stp 313 [0, 7, 35, 50, 63, 71]) 57 rfl
set_option maxRecDepth 20000 in
theorem e313_7 (hF : pm_fix pt_me pt_Sg (pt_R L0 xs) F) {x1 : Int32} {x2 : Int32} {s0 : Int32} : F 313 7 [some (.ref 30), some (.int x1), some (.int x2)] [.int s0] (49, pt_G, I, L) =
    if s0 = 0 then
      bif pm_ib (x1 &&& 127) 128 then
        if (I 32 (Int32.toNatClampNeg (x1 &&& 127))) = 0 then
          pm_k (F 312 0 [some (.ref 30), some (.int x1), none] [] (49, pt_G, I, L)) (fun v S => F 313 35 [some (.ref 30), some (.int x1), some (.int x2)] (v.toList ++ []) S)
        else
          pm_k (F 312 0 [some (.ref 30), some (.int x1), none] [] (49, pt_G, I, L)) (fun v S => F 313 35 [some (.ref 30), some (.int x1), some (.int (x2 ||| 2))] (v.toList ++ []) S)
      else none
    else
      bif pm_ib (x1 &&& 127) 128 then
        if (I 32 (Int32.toNatClampNeg (x1 &&& 127))) = 0 then
          pm_k (F 312 0 [some (.ref 30), some (.int x1), none] [] (49, pt_G, I, L)) (fun v S => F 313 35 [some (.ref 30), some (.int x1), some (.int (x2 ||| 1))] (v.toList ++ []) S)
        else
          pm_k (F 312 0 [some (.ref 30), some (.int x1), none] [] (49, pt_G, I, L)) (fun v S => F 313 35 [some (.ref 30), some (.int x1), some (.int ((x2 ||| 1) ||| 2))] (v.toList ++ []) S)
      else none := pm_blk_to hF (pm_stp 313 [0, 7, 35, 50, 63, 71]) 57 rfl
set_option maxRecDepth 20000 in
theorem e313_35 (hF : pm_fix pt_me pt_Sg (pt_R L0 xs) F) {x1 : Int32} {x2 : Int32} {s0 : Int32} : F 313 35 [some (.ref 30), some (.int x1), some (.int x2)] [.int s0] (49, pt_G, I, L) =
    if s0 = 0 then
      pm_k (F 529 0 [some (.ref 3), some (.int x1), none, none, none] [] (49, pt_G, I, L)) (fun v S => F 313 50 [some (.ref 30), some (.int x1), some (.int x2)] (v.toList ++ []) S)
    else
      pm_k (F 529 0 [some (.ref 3), some (.int x1), none, none, none] [] (49, pt_G, I, L)) (fun v S => F 313 50 [some (.ref 30), some (.int x1), some (.int (x2 ||| 4))] (v.toList ++ []) S) := pm_blk_to hF (pm_stp 313 [0, 7, 35, 50, 63, 71]) 57 rfl
set_option maxRecDepth 20000 in
theorem e313_50 (hF : pm_fix pt_me pt_Sg (pt_R L0 xs) F) {x1 : Int32} {x2 : Int32} {s0 : Int32} : F 313 50 [some (.ref 30), some (.int x1), some (.int x2)] [.int s0] (49, pt_G, I, L) =
    if s0 = 0 then
      pm_k (F 310 0 [some (.ref 30), some (.int x1)] [] (49, pt_G, I, L)) (fun v S => F 313 63 [some (.ref 30), some (.int x1), some (.int x2)] (v.toList ++ []) S)
    else
      pm_k (F 310 0 [some (.ref 30), some (.int x1)] [] (49, pt_G, I, L)) (fun v S => F 313 63 [some (.ref 30), some (.int x1), some (.int (x2 ||| 8))] (v.toList ++ []) S) := pm_blk_to hF (pm_stp 313 [0, 7, 35, 50, 63, 71]) 57 rfl
set_option maxRecDepth 20000 in
theorem e313_63 (hF : pm_fix pt_me pt_Sg (pt_R L0 xs) F) {x1 : Int32} {x2 : Int32} {s0 : Int32} : F 313 63 [some (.ref 30), some (.int x1), some (.int x2)] [.int s0] (49, pt_G, I, L) =
    if s0 = 0 then
      some (some (.int x2), (49, pt_G, I, L))
    else
      pm_k (F 316 0 [some (.ref 30), some (.int x1), none] [] (49, pt_G, I, L)) (fun v S => F 313 71 [some (.ref 30), some (.int x1), some (.int x2)] (v.toList ++ []) S) := pm_blk_to hF (pm_stp 313 [0, 7, 35, 50, 63, 71]) 57 rfl
set_option maxRecDepth 20000 in
theorem e313_71 (hF : pm_fix pt_me pt_Sg (pt_R L0 xs) F) {x1 : Int32} {x2 : Int32} {s0 : Int32} : F 313 71 [some (.ref 30), some (.int x1), some (.int x2)] [.int s0] (49, pt_G, I, L) =
    if s0 = 0 then
      some (some (.int (x2 ||| 16)), (49, pt_G, I, L))
    else
      some (some (.int x2), (49, pt_G, I, L)) := pm_blk_to hF (pm_stp 313 [0, 7, 35, 50, 63, 71]) 57 rfl
-- TurnCabinet$Coalitions.countOf(I)I 30
set_option maxRecDepth 20000 in
theorem e314_0 (hF : pm_fix pt_me pt_Sg (pt_R L0 xs) F) {x1 : Int32} : F 314 0 [some (.ref 30), some (.int x1), none, none] [] (49, pt_G, I, L) =
    F 314 4 [some (.ref 30), some (.int x1), some (.int 0), some (.int 1)] [] (49, pt_G, I, L) := pm_blk_to hF (pm_stp 314 [0, 4, 12, 20]) 26 rfl
set_option maxRecDepth 20000 in
theorem e314_4 (hF : pm_fix pt_me pt_Sg (pt_R L0 xs) F) {x1 : Int32} {x2 : Int32} {x3 : Int32} : F 314 4 [some (.ref 30), some (.int x1), some (.int x2), some (.int x3)] [] (49, pt_G, I, L) =
    pm_k (F 507 0 [some (.ref 3)] [] (49, pt_G, I, L)) (fun v S => F 314 12 [some (.ref 30), some (.int x1), some (.int x2), some (.int x3)] (v.toList ++ [.int x3]) S) := pm_blk_to hF (pm_stp 314 [0, 4, 12, 20]) 26 rfl
set_option maxRecDepth 20000 in
theorem e314_12 (hF : pm_fix pt_me pt_Sg (pt_R L0 xs) F) {x1 : Int32} {x2 : Int32} {x3 : Int32} {s0 : Int32} {s1 : Int32} : F 314 12 [some (.ref 30), some (.int x1), some (.int x2), some (.int x3)] [.int s0, .int s1] (49, pt_G, I, L) =
    if s1 ≤ s0 then
      pm_k (F 313 0 [some (.ref 30), some (.int x3), none] [] (49, pt_G, I, L)) (fun v S => F 314 20 [some (.ref 30), some (.int x1), some (.int x2), some (.int x3)] (v.toList ++ []) S)
    else
      some (some (.int x2), (49, pt_G, I, L)) := pm_blk_to hF (pm_stp 314 [0, 4, 12, 20]) 26 rfl
set_option maxRecDepth 20000 in
theorem e314_20 (hF : pm_fix pt_me pt_Sg (pt_R L0 xs) F) {x1 : Int32} {x2 : Int32} {x3 : Int32} {s0 : Int32} : F 314 20 [some (.ref 30), some (.int x1), some (.int x2), some (.int x3)] [.int s0] (49, pt_G, I, L) =
    if (s0 &&& x1) = x1 then
      F 314 4 [some (.ref 30), some (.int x1), some (.int (x2 + 1)), some (.int (x3 + 1))] [] (49, pt_G, I, L)
    else
      F 314 4 [some (.ref 30), some (.int x1), some (.int x2), some (.int (x3 + 1))] [] (49, pt_G, I, L) := pm_blk_to hF (pm_stp 314 [0, 4, 12, 20]) 26 rfl
-- TurnCabinet$Coalitions.rivalOf(I)I 30
set_option maxRecDepth 20000 in
theorem e316_0 (hF : pm_fix pt_me pt_Sg (pt_R L0 xs) F) {x1 : Int32} : F 316 0 [some (.ref 30), some (.int x1), none] [] (49, pt_G, I, L) =
    bif pm_ib (x1 &&& 127) 128 then
      if (I 38 (Int32.toNatClampNeg (x1 &&& 127))) = (-1) then
        pm_k (F 317 0 [some (.ref 30), some (.int (x1 &&& 127)), none] [] (49, pt_G, I, L)) (fun v S => F 316 25 [some (.ref 30), some (.int x1), some (.int (x1 &&& 127))] (v.toList ++ [.int (x1 &&& 127), .ref 38]) S)
      else
        bif pm_ib (x1 &&& 127) 128 then
          some (some (.int (I 38 (Int32.toNatClampNeg (x1 &&& 127)))), (49, pt_G, I, L))
        else none
    else none := pm_blk_to hF (pm_stp 316 [0, 25]) 27 rfl
set_option maxRecDepth 20000 in
theorem e316_25 (hF : pm_fix pt_me pt_Sg (pt_R L0 xs) F) {x1 : Int32} {x2 : Int32} {s0 : Int32} {s1 : Int32} : F 316 25 [some (.ref 30), some (.int x1), some (.int x2)] [.int s0, .int s1, .ref 38] (49, pt_G, I, L) =
    bif pm_ib s1 128 then
      bif pm_ib x2 128 then
        some (some (.int ((pm_ui I 38 (Int32.toNatClampNeg s1) s0) 38 (Int32.toNatClampNeg x2))), (49, pt_G, (pm_ui I 38 (Int32.toNatClampNeg s1) s0), L))
      else none
    else none := pm_blk_to hF (pm_stp 316 [0, 25]) 27 rfl
-- TurnCabinet$Coalitions.firstRival(I)I 30
set_option maxRecDepth 20000 in
theorem e317_0 (hF : pm_fix pt_me pt_Sg (pt_R L0 xs) F) {x1 : Int32} : F 317 0 [some (.ref 30), some (.int x1), none] [] (49, pt_G, I, L) =
    F 317 2 [some (.ref 30), some (.int x1), some (.int 1)] [] (49, pt_G, I, L) := pm_blk_to hF (pm_stp 317 [0, 2, 10, 23, 32]) 30 rfl
set_option maxRecDepth 20000 in
theorem e317_2 (hF : pm_fix pt_me pt_Sg (pt_R L0 xs) F) {x1 : Int32} {x2 : Int32} : F 317 2 [some (.ref 30), some (.int x1), some (.int x2)] [] (49, pt_G, I, L) =
    pm_k (F 507 0 [some (.ref 3)] [] (49, pt_G, I, L)) (fun v S => F 317 10 [some (.ref 30), some (.int x1), some (.int x2)] (v.toList ++ [.int x2]) S) := pm_blk_to hF (pm_stp 317 [0, 2, 10, 23, 32]) 30 rfl
set_option maxRecDepth 20000 in
theorem e317_10 (hF : pm_fix pt_me pt_Sg (pt_R L0 xs) F) {x1 : Int32} {x2 : Int32} {s0 : Int32} {s1 : Int32} : F 317 10 [some (.ref 30), some (.int x1), some (.int x2)] [.int s0, .int s1] (49, pt_G, I, L) =
    if s1 ≤ s0 then
      if x2 = x1 then
        F 317 2 [some (.ref 30), some (.int x1), some (.int (x2 + 1))] [] (49, pt_G, I, L)
      else
        pm_k (F 310 0 [some (.ref 30), some (.int x2)] [] (49, pt_G, I, L)) (fun v S => F 317 23 [some (.ref 30), some (.int x1), some (.int x2)] (v.toList ++ []) S)
    else
      some (some (.int 0), (49, pt_G, I, L)) := pm_blk_to hF (pm_stp 317 [0, 2, 10, 23, 32]) 30 rfl
set_option maxRecDepth 20000 in
theorem e317_23 (hF : pm_fix pt_me pt_Sg (pt_R L0 xs) F) {x1 : Int32} {x2 : Int32} {s0 : Int32} : F 317 23 [some (.ref 30), some (.int x1), some (.int x2)] [.int s0] (49, pt_G, I, L) =
    if s0 = 0 then
      F 317 2 [some (.ref 30), some (.int x1), some (.int (x2 + 1))] [] (49, pt_G, I, L)
    else
      pm_k (F 318 0 [some (.ref 30), some (.int x2), some (.int x1), none] [] (49, pt_G, I, L)) (fun v S => F 317 32 [some (.ref 30), some (.int x1), some (.int x2)] (v.toList ++ []) S) := pm_blk_to hF (pm_stp 317 [0, 2, 10, 23, 32]) 30 rfl
set_option maxRecDepth 20000 in
theorem e317_32 (hF : pm_fix pt_me pt_Sg (pt_R L0 xs) F) {x1 : Int32} {x2 : Int32} {s0 : Int32} : F 317 32 [some (.ref 30), some (.int x1), some (.int x2)] [.int s0] (49, pt_G, I, L) =
    if s0 = 0 then
      F 317 2 [some (.ref 30), some (.int x1), some (.int (x2 + 1))] [] (49, pt_G, I, L)
    else
      some (some (.int x2), (49, pt_G, I, L)) := pm_blk_to hF (pm_stp 317 [0, 2, 10, 23, 32]) 30 rfl
-- TurnCabinet$Coalitions.paysMore(II)Z 30
set_option maxRecDepth 20000 in
theorem e318_0 (hF : pm_fix pt_me pt_Sg (pt_R L0 xs) F) {x1 : Int32} {x2 : Int32} : F 318 0 [some (.ref 30), some (.int x1), some (.int x2), none] [] (49, pt_G, I, L) =
    F 318 2 [some (.ref 30), some (.int x1), some (.int x2), some (.int 0)] [] (49, pt_G, I, L) := pm_blk_to hF (pm_stp 318 [0, 2, 18, 27, 33]) 31 rfl
set_option maxRecDepth 20000 in
theorem e318_2 (hF : pm_fix pt_me pt_Sg (pt_R L0 xs) F) {x1 : Int32} {x2 : Int32} {x3 : Int32} : F 318 2 [some (.ref 30), some (.int x1), some (.int x2), some (.int x3)] [] (49, pt_G, I, L) =
    if x3 < (I 3 0) then
      pm_k (F 151 0 [some (.int x3), some (.int x1)] [] (49, pt_G, I, L)) (fun v S => F 318 18 [some (.ref 30), some (.int x1), some (.int x2), some (.int x3)] (v.toList ++ []) S)
    else
      some (some (.int 1), (49, pt_G, I, L)) := pm_blk_to hF (pm_stp 318 [0, 2, 18, 27, 33]) 31 rfl
set_option maxRecDepth 20000 in
theorem e318_18 (hF : pm_fix pt_me pt_Sg (pt_R L0 xs) F) {x1 : Int32} {x2 : Int32} {x3 : Int32} {s0 : Int32} : F 318 18 [some (.ref 30), some (.int x1), some (.int x2), some (.int x3)] [.int s0] (49, pt_G, I, L) =
    if s0 = 0 then
      F 318 2 [some (.ref 30), some (.int x1), some (.int x2), some (.int (x3 + 1))] [] (49, pt_G, I, L)
    else
      pm_k (F 308 0 [some (.ref 30), some (.int x1), some (.int x3)] [] (49, pt_G, I, L)) (fun v S => F 318 27 [some (.ref 30), some (.int x1), some (.int x2), some (.int x3)] (v.toList ++ []) S) := pm_blk_to hF (pm_stp 318 [0, 2, 18, 27, 33]) 31 rfl
set_option maxRecDepth 20000 in
theorem e318_27 (hF : pm_fix pt_me pt_Sg (pt_R L0 xs) F) {x1 : Int32} {x2 : Int32} {x3 : Int32} {s0 : Int32} : F 318 27 [some (.ref 30), some (.int x1), some (.int x2), some (.int x3)] [.int s0] (49, pt_G, I, L) =
    pm_k (F 308 0 [some (.ref 30), some (.int x2), some (.int x3)] [] (49, pt_G, I, L)) (fun v S => F 318 33 [some (.ref 30), some (.int x1), some (.int x2), some (.int x3)] (v.toList ++ [.int s0]) S) := pm_blk_to hF (pm_stp 318 [0, 2, 18, 27, 33]) 31 rfl
set_option maxRecDepth 20000 in
theorem e318_33 (hF : pm_fix pt_me pt_Sg (pt_R L0 xs) F) {x1 : Int32} {x2 : Int32} {x3 : Int32} {s0 : Int32} {s1 : Int32} : F 318 33 [some (.ref 30), some (.int x1), some (.int x2), some (.int x3)] [.int s0, .int s1] (49, pt_G, I, L) =
    if s1 ≤ s0 then
      some (some (.int 0), (49, pt_G, I, L))
    else
      F 318 2 [some (.ref 30), some (.int x1), some (.int x2), some (.int (x3 + 1))] [] (49, pt_G, I, L) := pm_blk_to hF (pm_stp 318 [0, 2, 18, 27, 33]) 31 rfl
-- TurnCabinet$Coalitions.driftFrom(IZ)I 30
set_option maxRecDepth 20000 in
theorem e319_0 (hF : pm_fix pt_me pt_Sg (pt_R L0 xs) F) {x1 : Int32} {x2 : Int32} : F 319 0 [some (.ref 30), some (.int x1), some (.int x2), none, none, none] [] (49, pt_G, I, L) =
    F 319 2 [some (.ref 30), some (.int x1), some (.int x2), some (.int 0), none, none] [] (49, pt_G, I, L) := pm_blk_to hF (pm_stp 319 [0, 2, 32, 44, 88]) 69 rfl
set_option maxRecDepth 20000 in
theorem e319_2 (hF : pm_fix pt_me pt_Sg (pt_R L0 xs) F) {x1 : Int32} {x2 : Int32} {x3 : Int32} : F 319 2 [some (.ref 30), some (.int x1), some (.int x2), some (.int x3), none, none] [] (49, pt_G, I, L) =
    if x3 < 128 then
      bif pm_ib x3 128 then
        F 319 2 [some (.ref 30), some (.int x1), some (.int x2), some (.int (x3 + 1)), none, none] [] (49, pt_G, (pm_ui I 40 (Int32.toNatClampNeg x3) (vp_nar .boolean 0)), L)
      else none
    else
      pm_k (F 316 0 [some (.ref 30), some (.int (x1 &&& 127)), none] [] (49, pt_G, I, L)) (fun v S => F 319 32 [some (.ref 30), some (.int x1), some (.int x2), some (.int (x1 &&& 127)), none, none] (v.toList ++ []) S) := pm_blk_to hF (pm_stp 319 [0, 2, 32, 44, 88]) 69 rfl
set_option maxRecDepth 20000 in
theorem e319_32 (hF : pm_fix pt_me pt_Sg (pt_R L0 xs) F) {x1 : Int32} {x2 : Int32} {x3 : Int32} {s0 : Int32} : F 319 32 [some (.ref 30), some (.int x1), some (.int x2), some (.int x3), none, none] [.int s0] (49, pt_G, I, L) =
    bif pm_ib x3 128 then
      F 319 44 [some (.ref 30), some (.int x1), some (.int x2), some (.int x3), some (.int s0), some (.int 0)] [] (49, pt_G, (pm_ui I 40 (Int32.toNatClampNeg x3) (vp_nar .boolean 1)), L)
    else none := pm_blk_to hF (pm_stp 319 [0, 2, 32, 44, 88]) 69 rfl
set_option maxRecDepth 20000 in
theorem e319_44 (hF : pm_fix pt_me pt_Sg (pt_R L0 xs) F) {x1 : Int32} {x2 : Int32} {x3 : Int32} {x4 : Int32} {x5 : Int32} : F 319 44 [some (.ref 30), some (.int x1), some (.int x2), some (.int x3), some (.int x4), some (.int x5)] [] (49, pt_G, I, L) =
    if x4 = 0 then
      if x2 = 0 then
        some (some (.int x5), (49, pt_G, I, L))
      else
        if x4 = 0 then
          some (some (.int x3), (49, pt_G, I, L))
        else
          some (some (.int 0), (49, pt_G, I, L))
    else
      bif pm_ib (x4 &&& 127) 128 then
        if (I 40 (Int32.toNatClampNeg (x4 &&& 127))) = 0 then
          if x5 < 128 then
            bif pm_ib (x4 &&& 127) 128 then
              pm_k (F 316 0 [some (.ref 30), some (.int (x4 &&& 127)), none] [] (49, pt_G, (pm_ui I 40 (Int32.toNatClampNeg (x4 &&& 127)) (vp_nar .boolean 1)), L)) (fun v S => F 319 88 [some (.ref 30), some (.int x1), some (.int x2), some (.int (x4 &&& 127)), some (.int x4), some (.int x5)] (v.toList ++ []) S)
            else none
          else
            if x2 = 0 then
              some (some (.int x5), (49, pt_G, I, L))
            else
              if x4 = 0 then
                some (some (.int x3), (49, pt_G, I, L))
              else
                some (some (.int 0), (49, pt_G, I, L))
        else
          if x2 = 0 then
            some (some (.int x5), (49, pt_G, I, L))
          else
            if x4 = 0 then
              some (some (.int x3), (49, pt_G, I, L))
            else
              some (some (.int 0), (49, pt_G, I, L))
      else none := pm_blk_to hF (pm_stp 319 [0, 2, 32, 44, 88]) 69 rfl
set_option maxRecDepth 20000 in
theorem e319_88 (hF : pm_fix pt_me pt_Sg (pt_R L0 xs) F) {x1 : Int32} {x2 : Int32} {x3 : Int32} {x4 : Int32} {x5 : Int32} {s0 : Int32} : F 319 88 [some (.ref 30), some (.int x1), some (.int x2), some (.int x3), some (.int x4), some (.int x5)] [.int s0] (49, pt_G, I, L) =
    F 319 44 [some (.ref 30), some (.int x1), some (.int x2), some (.int x3), some (.int s0), some (.int (x5 + 1))] [] (49, pt_G, I, L) := pm_blk_to hF (pm_stp 319 [0, 2, 32, 44, 88]) 69 rfl
-- TurnCabinet$Coalitions.countPivots(I)I 30
set_option maxRecDepth 20000 in
theorem e327_0 (hF : pm_fix pt_me pt_Sg (pt_R L0 xs) F) {x1 : Int32} : F 327 0 [some (.ref 30), some (.int x1), none, none, none, none] [] (49, pt_G, I, L) =
    F 327 4 [some (.ref 30), some (.int x1), some (.int 0), some (.int 1), none, none] [] (49, pt_G, I, L) := pm_blk_to hF (pm_stp 327 [0, 4, 12, 20, 28, 37, 47]) 59 rfl
set_option maxRecDepth 20000 in
theorem e327_4 (hF : pm_fix pt_me pt_Sg (pt_R L0 xs) F) {x1 : Int32} {x2 : Int32} {x3 : Int32} : F 327 4 [some (.ref 30), some (.int x1), some (.int x2), some (.int x3), none, none] [] (49, pt_G, I, L) =
    pm_k (F 507 0 [some (.ref 3)] [] (49, pt_G, I, L)) (fun v S => F 327 12 [some (.ref 30), some (.int x1), some (.int x2), some (.int x3), none, none] (v.toList ++ [.int x3]) S) := pm_blk_to hF (pm_stp 327 [0, 4, 12, 20, 28, 37, 47]) 59 rfl
set_option maxRecDepth 20000 in
theorem e327_12 (hF : pm_fix pt_me pt_Sg (pt_R L0 xs) F) {x1 : Int32} {x2 : Int32} {x3 : Int32} {s0 : Int32} {s1 : Int32} : F 327 12 [some (.ref 30), some (.int x1), some (.int x2), some (.int x3), none, none] [.int s0, .int s1] (49, pt_G, I, L) =
    if s1 ≤ s0 then
      pm_k (F 151 0 [some (.int x1), some (.int x3)] [] (49, pt_G, I, L)) (fun v S => F 327 20 [some (.ref 30), some (.int x1), some (.int x2), some (.int x3), none, none] (v.toList ++ []) S)
    else
      some (some (.int x2), (49, pt_G, I, L)) := pm_blk_to hF (pm_stp 327 [0, 4, 12, 20, 28, 37, 47]) 59 rfl
set_option maxRecDepth 20000 in
theorem e327_20 (hF : pm_fix pt_me pt_Sg (pt_R L0 xs) F) {x1 : Int32} {x2 : Int32} {x3 : Int32} {s0 : Int32} : F 327 20 [some (.ref 30), some (.int x1), some (.int x2), some (.int x3), none, none] [.int s0] (49, pt_G, I, L) =
    if s0 = 0 then
      F 327 4 [some (.ref 30), some (.int x1), some (.int x2), some (.int (x3 + 1)), none, none] [] (49, pt_G, I, L)
    else
      pm_k (F 309 0 [some (.ref 30), some (.int x3)] [] (49, pt_G, I, L)) (fun v S => F 327 28 [some (.ref 30), some (.int x1), some (.int x2), some (.int x3), none, none] (v.toList ++ []) S) := pm_blk_to hF (pm_stp 327 [0, 4, 12, 20, 28, 37, 47]) 59 rfl
set_option maxRecDepth 20000 in
theorem e327_28 (hF : pm_fix pt_me pt_Sg (pt_R L0 xs) F) {x1 : Int32} {x2 : Int32} {x3 : Int32} {s0 : Int32} : F 327 28 [some (.ref 30), some (.int x1), some (.int x2), some (.int x3), none, none] [.int s0] (49, pt_G, I, L) =
    if s0 = 0 then
      F 327 4 [some (.ref 30), some (.int x1), some (.int x2), some (.int (x3 + 1)), none, none] [] (49, pt_G, I, L)
    else
      pm_k (F 311 0 [some (.ref 30), some (.int x3), some (.int x1)] [] (49, pt_G, I, L)) (fun v S => F 327 37 [some (.ref 30), some (.int x1), some (.int x2), some (.int x3), none, none] (v.toList ++ []) S) := pm_blk_to hF (pm_stp 327 [0, 4, 12, 20, 28, 37, 47]) 59 rfl
set_option maxRecDepth 20000 in
theorem e327_37 (hF : pm_fix pt_me pt_Sg (pt_R L0 xs) F) {x1 : Int32} {x2 : Int32} {x3 : Int32} {s0 : Int32} : F 327 37 [some (.ref 30), some (.int x1), some (.int x2), some (.int x3), none, none] [.int s0] (49, pt_G, I, L) =
    if s0 = 0 then
      pm_k (F 1508 0 [some (.int x3)] [] (49, pt_G, I, L)) (fun v S => F 327 47 [some (.ref 30), some (.int x1), some (.int x2), some (.int x3), none, none] (v.toList ++ []) S)
    else
      F 327 4 [some (.ref 30), some (.int x1), some (.int x2), some (.int (x3 + 1)), none, none] [] (49, pt_G, I, L) := pm_blk_to hF (pm_stp 327 [0, 4, 12, 20, 28, 37, 47]) 59 rfl
set_option maxRecDepth 20000 in
theorem e327_47 (hF : pm_fix pt_me pt_Sg (pt_R L0 xs) F) {x1 : Int32} {x2 : Int32} {x3 : Int32} {s0 : Int32} : F 327 47 [some (.ref 30), some (.int x1), some (.int x2), some (.int x3), none, none] [.int s0] (49, pt_G, I, L) =
    bif pm_ib ((s0 - 1) &&& 7) 8 then
      bif pm_ib ((((I 3 0) - 1) - (s0 - 1)) &&& 7) 8 then
        F 327 4 [some (.ref 30), some (.int x1), some (.int (x2 + ((pt_ord (Int32.toNatClampNeg ((s0 - 1) &&& 7))) * (pt_ord (Int32.toNatClampNeg ((((I 3 0) - 1) - (s0 - 1)) &&& 7)))))), some (.int (x3 + 1)), none, none] [] (49, pt_G, I, L)
      else none
    else none := pm_blk_to hF (pm_stp 327 [0, 4, 12, 20, 28, 37, 47]) 59 rfl
-- TurnCabinet$Coalitions.fewestToJoin(I)I 30
set_option maxRecDepth 20000 in
theorem e328_0 (hF : pm_fix pt_me pt_Sg (pt_R L0 xs) F) {x1 : Int32} : F 328 0 [some (.ref 30), some (.int x1), none, none] [] (49, pt_G, I, L) =
    pm_k (F 310 0 [some (.ref 30), some (.int x1)] [] (49, pt_G, I, L)) (fun v S => F 328 5 [some (.ref 30), some (.int x1), none, none] (v.toList ++ []) S) := pm_blk_to hF (pm_stp 328 [0, 5, 14, 22, 38, 53, 57]) 45 rfl
set_option maxRecDepth 20000 in
theorem e328_5 (hF : pm_fix pt_me pt_Sg (pt_R L0 xs) F) {x1 : Int32} {s0 : Int32} : F 328 5 [some (.ref 30), some (.int x1), none, none] [.int s0] (49, pt_G, I, L) =
    if s0 = 0 then
      F 328 14 [some (.ref 30), some (.int x1), some (.int (-1)), some (.int 1)] [] (49, pt_G, I, L)
    else
      some (some (.int 0), (49, pt_G, I, L)) := pm_blk_to hF (pm_stp 328 [0, 5, 14, 22, 38, 53, 57]) 45 rfl
set_option maxRecDepth 20000 in
theorem e328_14 (hF : pm_fix pt_me pt_Sg (pt_R L0 xs) F) {x1 : Int32} {x2 : Int32} {x3 : Int32} : F 328 14 [some (.ref 30), some (.int x1), some (.int x2), some (.int x3)] [] (49, pt_G, I, L) =
    pm_k (F 507 0 [some (.ref 3)] [] (49, pt_G, I, L)) (fun v S => F 328 22 [some (.ref 30), some (.int x1), some (.int x2), some (.int x3)] (v.toList ++ [.int x3]) S) := pm_blk_to hF (pm_stp 328 [0, 5, 14, 22, 38, 53, 57]) 45 rfl
set_option maxRecDepth 20000 in
theorem e328_22 (hF : pm_fix pt_me pt_Sg (pt_R L0 xs) F) {x1 : Int32} {x2 : Int32} {x3 : Int32} {s0 : Int32} {s1 : Int32} : F 328 22 [some (.ref 30), some (.int x1), some (.int x2), some (.int x3)] [.int s0, .int s1] (49, pt_G, I, L) =
    if s1 ≤ s0 then
      if (x3 &&& x1) = 0 then
        pm_k (F 310 0 [some (.ref 30), some (.int (x3 ||| x1))] [] (49, pt_G, I, L)) (fun v S => F 328 38 [some (.ref 30), some (.int x1), some (.int x2), some (.int x3)] (v.toList ++ []) S)
      else
        F 328 14 [some (.ref 30), some (.int x1), some (.int x2), some (.int (x3 + 1))] [] (49, pt_G, I, L)
    else
      some (some (.int x2), (49, pt_G, I, L)) := pm_blk_to hF (pm_stp 328 [0, 5, 14, 22, 38, 53, 57]) 45 rfl
set_option maxRecDepth 20000 in
theorem e328_38 (hF : pm_fix pt_me pt_Sg (pt_R L0 xs) F) {x1 : Int32} {x2 : Int32} {x3 : Int32} {s0 : Int32} : F 328 38 [some (.ref 30), some (.int x1), some (.int x2), some (.int x3)] [.int s0] (49, pt_G, I, L) =
    if s0 = 0 then
      F 328 14 [some (.ref 30), some (.int x1), some (.int x2), some (.int (x3 + 1))] [] (49, pt_G, I, L)
    else
      if x2 = (-1) then
        F 328 14 [some (.ref 30), some (.int x1), some (.int x3), some (.int (x3 + 1))] [] (49, pt_G, I, L)
      else
        pm_k (F 1508 0 [some (.int x3)] [] (49, pt_G, I, L)) (fun v S => F 328 53 [some (.ref 30), some (.int x1), some (.int x2), some (.int x3)] (v.toList ++ []) S) := pm_blk_to hF (pm_stp 328 [0, 5, 14, 22, 38, 53, 57]) 45 rfl
set_option maxRecDepth 20000 in
theorem e328_53 (hF : pm_fix pt_me pt_Sg (pt_R L0 xs) F) {x1 : Int32} {x2 : Int32} {x3 : Int32} {s0 : Int32} : F 328 53 [some (.ref 30), some (.int x1), some (.int x2), some (.int x3)] [.int s0] (49, pt_G, I, L) =
    pm_k (F 1508 0 [some (.int x2)] [] (49, pt_G, I, L)) (fun v S => F 328 57 [some (.ref 30), some (.int x1), some (.int x2), some (.int x3)] (v.toList ++ [.int s0]) S) := pm_blk_to hF (pm_stp 328 [0, 5, 14, 22, 38, 53, 57]) 45 rfl
set_option maxRecDepth 20000 in
theorem e328_57 (hF : pm_fix pt_me pt_Sg (pt_R L0 xs) F) {x1 : Int32} {x2 : Int32} {x3 : Int32} {s0 : Int32} {s1 : Int32} : F 328 57 [some (.ref 30), some (.int x1), some (.int x2), some (.int x3)] [.int s0, .int s1] (49, pt_G, I, L) =
    if s1 < s0 then
      F 328 14 [some (.ref 30), some (.int x1), some (.int x3), some (.int (x3 + 1))] [] (49, pt_G, I, L)
    else
      F 328 14 [some (.ref 30), some (.int x1), some (.int x2), some (.int (x3 + 1))] [] (49, pt_G, I, L) := pm_blk_to hF (pm_stp 328 [0, 5, 14, 22, 38, 53, 57]) 45 rfl
-- TurnCabinet$Forming.run()V 41
set_option maxRecDepth 20000 in
theorem e402_0 (hF : pm_fix pt_me pt_Sg (pt_R L0 xs) F) : F 402 0 [some (.ref 41), none] [] (49, pt_G, I, L) =
    if (I 41 7) = (I 3 9) then
      some (none, (49, pt_G, I, L))
    else
      F 402 43 [some (.ref 41), some (.int 0)] [] (49, pt_G, (pm_ui (pm_ui (pm_ui (pm_ui I 41 7 (I 3 9)) 41 4 0) 41 5 0) 41 6 0), L) := pm_blk_to hF (pm_stp 402 [0, 43, 71]) 46 rfl
set_option maxRecDepth 20000 in
theorem e402_43 (hF : pm_fix pt_me pt_Sg (pt_R L0 xs) F) {x1 : Int32} : F 402 43 [some (.ref 41), some (.int x1)] [] (49, pt_G, I, L) =
    if x1 < 9 then
      if (I 41 6) = 0 then
        pm_k (F 403 0 [some (.ref 41), some (.int x1), none, none, none] [] (49, pt_G, (pm_ui I 41 5 ((I 41 5) + 1)), L)) (fun v S => F 402 71 [some (.ref 41), some (.int x1)] (v.toList ++ []) S)
      else
        some (none, (49, pt_G, I, L))
    else
      some (none, (49, pt_G, I, L)) := pm_blk_to hF (pm_stp 402 [0, 43, 71]) 46 rfl
set_option maxRecDepth 20000 in
theorem e402_71 (hF : pm_fix pt_me pt_Sg (pt_R L0 xs) F) {x1 : Int32} : F 402 71 [some (.ref 41), some (.int x1)] [] (49, pt_G, I, L) =
    F 402 43 [some (.ref 41), some (.int (x1 + 1))] [] (49, pt_G, I, L) := pm_blk_to hF (pm_stp 402 [0, 43, 71]) 46 rfl
-- TurnCabinet$Forming.goRound(I)V 41
set_option maxRecDepth 20000 in
theorem e403_0 (hF : pm_fix pt_me pt_Sg (pt_R L0 xs) F) {x1 : Int32} : F 403 0 [some (.ref 41), some (.int x1), none, none, none] [] (49, pt_G, I, L) =
    F 403 2 [some (.ref 41), some (.int x1), some (.int 0), none, none] [] (49, pt_G, I, L) := pm_blk_to hF (pm_stp 403 [0, 2, 26, 49, 65]) 46 rfl
set_option maxRecDepth 20000 in
theorem e403_2 (hF : pm_fix pt_me pt_Sg (pt_R L0 xs) F) {x1 : Int32} {x2 : Int32} : F 403 2 [some (.ref 41), some (.int x1), some (.int x2), none, none] [] (49, pt_G, I, L) =
    if x2 < 128 then
      bif pm_ib x2 128 then
        F 403 2 [some (.ref 41), some (.int x1), some (.int (x2 + 1)), none, none] [] (49, pt_G, (pm_ui I 43 (Int32.toNatClampNeg x2) (vp_nar .boolean 0)), L)
      else none
    else
      F 403 26 [some (.ref 41), some (.int x1), some (.int 0), some (.int 0), none] [] (49, pt_G, I, L) := pm_blk_to hF (pm_stp 403 [0, 2, 26, 49, 65]) 46 rfl
set_option maxRecDepth 20000 in
theorem e403_26 (hF : pm_fix pt_me pt_Sg (pt_R L0 xs) F) {x1 : Int32} {x2 : Int32} {x3 : Int32} : F 403 26 [some (.ref 41), some (.int x1), some (.int x2), some (.int x3), none] [] (49, pt_G, I, L) =
    if x3 < (I 3 0) then
      if (I 41 6) = 0 then
        pm_k (F 404 0 [some (.ref 41), some (.int x2), none, none] [] (49, pt_G, I, L)) (fun v S => F 403 49 [some (.ref 41), some (.int x1), some (.int x2), some (.int x3), none] (v.toList ++ []) S)
      else
        some (none, (49, pt_G, I, L))
    else
      some (none, (49, pt_G, I, L)) := pm_blk_to hF (pm_stp 403 [0, 2, 26, 49, 65]) 46 rfl
set_option maxRecDepth 20000 in
theorem e403_49 (hF : pm_fix pt_me pt_Sg (pt_R L0 xs) F) {x1 : Int32} {x2 : Int32} {x3 : Int32} {s0 : Int32} : F 403 49 [some (.ref 41), some (.int x1), some (.int x2), some (.int x3), none] [.int s0] (49, pt_G, I, L) =
    pm_k (F 405 0 [some (.ref 41), some (.int s0), some (.int x1), none, none, none] [] (49, pt_G, I, L)) (fun v S => F 403 65 [some (.ref 41), some (.int x1), some (.int (x2 ||| ((1 : Int32) <<< (s0 &&& 31)))), some (.int x3), some (.int s0)] (v.toList ++ []) S) := pm_blk_to hF (pm_stp 403 [0, 2, 26, 49, 65]) 46 rfl
set_option maxRecDepth 20000 in
theorem e403_65 (hF : pm_fix pt_me pt_Sg (pt_R L0 xs) F) {x1 : Int32} {x2 : Int32} {x3 : Int32} {x4 : Int32} : F 403 65 [some (.ref 41), some (.int x1), some (.int x2), some (.int x3), some (.int x4)] [] (49, pt_G, I, L) =
    F 403 26 [some (.ref 41), some (.int x1), some (.int x2), some (.int (x3 + 1)), none] [] (49, pt_G, I, L) := pm_blk_to hF (pm_stp 403 [0, 2, 26, 49, 65]) 46 rfl
-- TurnCabinet$Forming.nextFormer(I)I 41
set_option maxRecDepth 20000 in
theorem e404_0 (hF : pm_fix pt_me pt_Sg (pt_R L0 xs) F) {x1 : Int32} : F 404 0 [some (.ref 41), some (.int x1), none, none] [] (49, pt_G, I, L) =
    F 404 4 [some (.ref 41), some (.int x1), some (.int (-1)), some (.int 0)] [] (49, pt_G, I, L) := pm_blk_to hF (pm_stp 404 [0, 4, 20, 36, 44]) 36 rfl
set_option maxRecDepth 20000 in
theorem e404_4 (hF : pm_fix pt_me pt_Sg (pt_R L0 xs) F) {x1 : Int32} {x2 : Int32} {x3 : Int32} : F 404 4 [some (.ref 41), some (.int x1), some (.int x2), some (.int x3)] [] (49, pt_G, I, L) =
    if x3 < (I 3 0) then
      pm_k (F 151 0 [some (.int x3), some (.int x1)] [] (49, pt_G, I, L)) (fun v S => F 404 20 [some (.ref 41), some (.int x1), some (.int x2), some (.int x3)] (v.toList ++ []) S)
    else
      some (some (.int x2), (49, pt_G, I, L)) := pm_blk_to hF (pm_stp 404 [0, 4, 20, 36, 44]) 36 rfl
set_option maxRecDepth 20000 in
theorem e404_20 (hF : pm_fix pt_me pt_Sg (pt_R L0 xs) F) {x1 : Int32} {x2 : Int32} {x3 : Int32} {s0 : Int32} : F 404 20 [some (.ref 41), some (.int x1), some (.int x2), some (.int x3)] [.int s0] (49, pt_G, I, L) =
    if s0 = 0 then
      if x2 = (-1) then
        F 404 4 [some (.ref 41), some (.int x1), some (.int x3), some (.int (x3 + 1))] [] (49, pt_G, I, L)
      else
        pm_k (F 508 0 [some (.ref 3), some (.int x3)] [] (49, pt_G, I, L)) (fun v S => F 404 36 [some (.ref 41), some (.int x1), some (.int x2), some (.int x3)] (v.toList ++ []) S)
    else
      F 404 4 [some (.ref 41), some (.int x1), some (.int x2), some (.int (x3 + 1))] [] (49, pt_G, I, L) := pm_blk_to hF (pm_stp 404 [0, 4, 20, 36, 44]) 36 rfl
set_option maxRecDepth 20000 in
theorem e404_36 (hF : pm_fix pt_me pt_Sg (pt_R L0 xs) F) {x1 : Int32} {x2 : Int32} {x3 : Int32} {s0 : Int32} : F 404 36 [some (.ref 41), some (.int x1), some (.int x2), some (.int x3)] [.int s0] (49, pt_G, I, L) =
    pm_k (F 508 0 [some (.ref 3), some (.int x2)] [] (49, pt_G, I, L)) (fun v S => F 404 44 [some (.ref 41), some (.int x1), some (.int x2), some (.int x3)] (v.toList ++ [.int s0]) S) := pm_blk_to hF (pm_stp 404 [0, 4, 20, 36, 44]) 36 rfl
set_option maxRecDepth 20000 in
theorem e404_44 (hF : pm_fix pt_me pt_Sg (pt_R L0 xs) F) {x1 : Int32} {x2 : Int32} {x3 : Int32} {s0 : Int32} {s1 : Int32} : F 404 44 [some (.ref 41), some (.int x1), some (.int x2), some (.int x3)] [.int s0, .int s1] (49, pt_G, I, L) =
    if s1 ≤ s0 then
      F 404 4 [some (.ref 41), some (.int x1), some (.int x2), some (.int (x3 + 1))] [] (49, pt_G, I, L)
    else
      F 404 4 [some (.ref 41), some (.int x1), some (.int x3), some (.int (x3 + 1))] [] (49, pt_G, I, L) := pm_blk_to hF (pm_stp 404 [0, 4, 20, 36, 44]) 36 rfl
-- TurnCabinet$Forming.letForm(II)V 41
set_option maxRecDepth 20000 in
theorem e405_0 (hF : pm_fix pt_me pt_Sg (pt_R L0 xs) F) {x1 : Int32} {x2 : Int32} : F 405 0 [some (.ref 41), some (.int x1), some (.int x2), none, none, none] [] (49, pt_G, I, L) =
    F 405 2 [some (.ref 41), some (.int x1), some (.int x2), some (.int 0), none, none] [] (49, pt_G, I, L) := pm_blk_to hF (pm_stp 405 [0, 2, 25, 48, 70]) 51 rfl
set_option maxRecDepth 20000 in
theorem e405_2 (hF : pm_fix pt_me pt_Sg (pt_R L0 xs) F) {x1 : Int32} {x2 : Int32} {x3 : Int32} : F 405 2 [some (.ref 41), some (.int x1), some (.int x2), some (.int x3), none, none] [] (49, pt_G, I, L) =
    if x3 < (I 3 6) then
      if (I 41 6) = 0 then
        pm_k (F 406 0 [some (.ref 41), some (.int x1), none, none] [] (49, pt_G, I, L)) (fun v S => F 405 25 [some (.ref 41), some (.int x1), some (.int x2), some (.int x3), none, none] (v.toList ++ []) S)
      else
        some (none, (49, pt_G, I, L))
    else
      some (none, (49, pt_G, I, L)) := pm_blk_to hF (pm_stp 405 [0, 2, 25, 48, 70]) 51 rfl
set_option maxRecDepth 20000 in
theorem e405_25 (hF : pm_fix pt_me pt_Sg (pt_R L0 xs) F) {x1 : Int32} {x2 : Int32} {x3 : Int32} {s0 : Int32} : F 405 25 [some (.ref 41), some (.int x1), some (.int x2), some (.int x3), none, none] [.int s0] (49, pt_G, I, L) =
    if s0 = 0 then
      some (none, (49, pt_G, I, L))
    else
      pm_k (F 408 0 [some (.ref 41), some (.int s0), some (.int ((I 3 7) * x2)), none, none] [] (49, pt_G, I, L)) (fun v S => F 405 48 [some (.ref 41), some (.int x1), some (.int x2), some (.int x3), some (.int s0), none] (v.toList ++ []) S) := pm_blk_to hF (pm_stp 405 [0, 2, 25, 48, 70]) 51 rfl
set_option maxRecDepth 20000 in
theorem e405_48 (hF : pm_fix pt_me pt_Sg (pt_R L0 xs) F) {x1 : Int32} {x2 : Int32} {x3 : Int32} {x4 : Int32} {s0 : Int32} : F 405 48 [some (.ref 41), some (.int x1), some (.int x2), some (.int x3), some (.int x4), none] [.int s0] (49, pt_G, I, L) =
    bif pm_ib (x4 &&& 127) 128 then
      pm_k (F 409 0 [some (.ref 41), some (.int x1), some (.int x4), some (.int s0)] [] (49, pt_G, (pm_ui I 43 (Int32.toNatClampNeg (x4 &&& 127)) (vp_nar .boolean 1)), L)) (fun v S => F 405 70 [some (.ref 41), some (.int x1), some (.int x2), some (.int x3), some (.int x4), some (.int s0)] (v.toList ++ []) S)
    else none := pm_blk_to hF (pm_stp 405 [0, 2, 25, 48, 70]) 51 rfl
set_option maxRecDepth 20000 in
theorem e405_70 (hF : pm_fix pt_me pt_Sg (pt_R L0 xs) F) {x1 : Int32} {x2 : Int32} {x3 : Int32} {x4 : Int32} {x5 : Int32} : F 405 70 [some (.ref 41), some (.int x1), some (.int x2), some (.int x3), some (.int x4), some (.int x5)] [] (49, pt_G, I, L) =
    if x5 = 0 then
      F 405 2 [some (.ref 41), some (.int x1), some (.int x2), some (.int (x3 + 1)), none, none] [] (49, pt_G, (pm_ui I 41 6 x4), L)
    else
      F 405 2 [some (.ref 41), some (.int x1), some (.int x2), some (.int (x3 + 1)), none, none] [] (49, pt_G, I, L) := pm_blk_to hF (pm_stp 405 [0, 2, 25, 48, 70]) 51 rfl
-- TurnCabinet$Forming.choice(I)I 41
set_option maxRecDepth 20000 in
theorem e406_0 (hF : pm_fix pt_me pt_Sg (pt_R L0 xs) F) {x1 : Int32} : F 406 0 [some (.ref 41), some (.int x1), none, none] [] (49, pt_G, I, L) =
    F 406 4 [some (.ref 41), some (.int x1), some (.int 0), some (.int 1)] [] (49, pt_G, I, L) := pm_blk_to hF (pm_stp 406 [0, 4, 12, 27, 47, 64]) 46 rfl
set_option maxRecDepth 20000 in
theorem e406_4 (hF : pm_fix pt_me pt_Sg (pt_R L0 xs) F) {x1 : Int32} {x2 : Int32} {x3 : Int32} : F 406 4 [some (.ref 41), some (.int x1), some (.int x2), some (.int x3)] [] (49, pt_G, I, L) =
    pm_k (F 507 0 [some (.ref 3)] [] (49, pt_G, I, L)) (fun v S => F 406 12 [some (.ref 41), some (.int x1), some (.int x2), some (.int x3)] (v.toList ++ [.int x3]) S) := pm_blk_to hF (pm_stp 406 [0, 4, 12, 27, 47, 64]) 46 rfl
set_option maxRecDepth 20000 in
theorem e406_12 (hF : pm_fix pt_me pt_Sg (pt_R L0 xs) F) {x1 : Int32} {x2 : Int32} {x3 : Int32} {s0 : Int32} {s1 : Int32} : F 406 12 [some (.ref 41), some (.int x1), some (.int x2), some (.int x3)] [.int s0, .int s1] (49, pt_G, I, L) =
    if s1 ≤ s0 then
      if x3 < 128 then
        pm_k (F 151 0 [some (.int x1), some (.int x3)] [] (49, pt_G, I, L)) (fun v S => F 406 27 [some (.ref 41), some (.int x1), some (.int x2), some (.int x3)] (v.toList ++ []) S)
      else
        some (some (.int x2), (49, pt_G, I, L))
    else
      some (some (.int x2), (49, pt_G, I, L)) := pm_blk_to hF (pm_stp 406 [0, 4, 12, 27, 47, 64]) 46 rfl
set_option maxRecDepth 20000 in
theorem e406_27 (hF : pm_fix pt_me pt_Sg (pt_R L0 xs) F) {x1 : Int32} {x2 : Int32} {x3 : Int32} {s0 : Int32} : F 406 27 [some (.ref 41), some (.int x1), some (.int x2), some (.int x3)] [.int s0] (49, pt_G, I, L) =
    if s0 = 0 then
      F 406 4 [some (.ref 41), some (.int x1), some (.int x2), some (.int (x3 + 1))] [] (49, pt_G, I, L)
    else
      bif pm_ib x3 128 then
        if (I 43 (Int32.toNatClampNeg x3)) = 0 then
          pm_k (F 310 0 [some (.ref 30), some (.int x3)] [] (49, pt_G, I, L)) (fun v S => F 406 47 [some (.ref 41), some (.int x1), some (.int x2), some (.int x3)] (v.toList ++ []) S)
        else
          F 406 4 [some (.ref 41), some (.int x1), some (.int x2), some (.int (x3 + 1))] [] (49, pt_G, I, L)
      else none := pm_blk_to hF (pm_stp 406 [0, 4, 12, 27, 47, 64]) 46 rfl
set_option maxRecDepth 20000 in
theorem e406_47 (hF : pm_fix pt_me pt_Sg (pt_R L0 xs) F) {x1 : Int32} {x2 : Int32} {x3 : Int32} {s0 : Int32} : F 406 47 [some (.ref 41), some (.int x1), some (.int x2), some (.int x3)] [.int s0] (49, pt_G, I, L) =
    if s0 = 0 then
      F 406 4 [some (.ref 41), some (.int x1), some (.int x2), some (.int (x3 + 1))] [] (49, pt_G, I, L)
    else
      if x2 = 0 then
        F 406 4 [some (.ref 41), some (.int x1), some (.int x3), some (.int (x3 + 1))] [] (49, pt_G, I, L)
      else
        pm_k (F 407 0 [some (.ref 41), some (.int x1), some (.int x3), some (.int x2), none] [] (49, pt_G, I, L)) (fun v S => F 406 64 [some (.ref 41), some (.int x1), some (.int x2), some (.int x3)] (v.toList ++ []) S) := pm_blk_to hF (pm_stp 406 [0, 4, 12, 27, 47, 64]) 46 rfl
set_option maxRecDepth 20000 in
theorem e406_64 (hF : pm_fix pt_me pt_Sg (pt_R L0 xs) F) {x1 : Int32} {x2 : Int32} {x3 : Int32} {s0 : Int32} : F 406 64 [some (.ref 41), some (.int x1), some (.int x2), some (.int x3)] [.int s0] (49, pt_G, I, L) =
    if s0 = 0 then
      F 406 4 [some (.ref 41), some (.int x1), some (.int x2), some (.int (x3 + 1))] [] (49, pt_G, I, L)
    else
      F 406 4 [some (.ref 41), some (.int x1), some (.int x3), some (.int (x3 + 1))] [] (49, pt_G, I, L) := pm_blk_to hF (pm_stp 406 [0, 4, 12, 27, 47, 64]) 46 rfl
-- TurnCabinet$Forming.isLiked(III)Z 41
set_option maxRecDepth 20000 in
theorem e407_0 (hF : pm_fix pt_me pt_Sg (pt_R L0 xs) F) {x1 : Int32} {x2 : Int32} {x3 : Int32} : F 407 0 [some (.ref 41), some (.int x1), some (.int x2), some (.int x3), none] [] (49, pt_G, I, L) =
    pm_k (F 308 0 [some (.ref 30), some (.int x2), some (.int x1)] [] (49, pt_G, I, L)) (fun v S => F 407 9 [some (.ref 41), some (.int x1), some (.int x2), some (.int x3), none] (v.toList ++ []) S) := pm_blk_to hF (pm_stp 407 [0, 9, 18, 35, 39]) 30 rfl
set_option maxRecDepth 20000 in
theorem e407_9 (hF : pm_fix pt_me pt_Sg (pt_R L0 xs) F) {x1 : Int32} {x2 : Int32} {x3 : Int32} {s0 : Int32} : F 407 9 [some (.ref 41), some (.int x1), some (.int x2), some (.int x3), none] [.int s0] (49, pt_G, I, L) =
    pm_k (F 308 0 [some (.ref 30), some (.int x3), some (.int x1)] [] (49, pt_G, I, L)) (fun v S => F 407 18 [some (.ref 41), some (.int x1), some (.int x2), some (.int x3), none] (v.toList ++ [.int s0]) S) := pm_blk_to hF (pm_stp 407 [0, 9, 18, 35, 39]) 30 rfl
set_option maxRecDepth 20000 in
theorem e407_18 (hF : pm_fix pt_me pt_Sg (pt_R L0 xs) F) {x1 : Int32} {x2 : Int32} {x3 : Int32} {s0 : Int32} {s1 : Int32} : F 407 18 [some (.ref 41), some (.int x1), some (.int x2), some (.int x3), none] [.int s0, .int s1] (49, pt_G, I, L) =
    if (s1 - s0) ≤ 0 then
      if (s1 - s0) = 0 then
        pm_k (F 1508 0 [some (.int x2)] [] (49, pt_G, I, L)) (fun v S => F 407 35 [some (.ref 41), some (.int x1), some (.int x2), some (.int x3), some (.int (s1 - s0))] (v.toList ++ []) S)
      else
        some (some (.int 0), (49, pt_G, I, L))
    else
      some (some (.int 1), (49, pt_G, I, L)) := pm_blk_to hF (pm_stp 407 [0, 9, 18, 35, 39]) 30 rfl
set_option maxRecDepth 20000 in
theorem e407_35 (hF : pm_fix pt_me pt_Sg (pt_R L0 xs) F) {x1 : Int32} {x2 : Int32} {x3 : Int32} {x4 : Int32} {s0 : Int32} : F 407 35 [some (.ref 41), some (.int x1), some (.int x2), some (.int x3), some (.int x4)] [.int s0] (49, pt_G, I, L) =
    pm_k (F 1508 0 [some (.int x3)] [] (49, pt_G, I, L)) (fun v S => F 407 39 [some (.ref 41), some (.int x1), some (.int x2), some (.int x3), some (.int x4)] (v.toList ++ [.int s0]) S) := pm_blk_to hF (pm_stp 407 [0, 9, 18, 35, 39]) 30 rfl
set_option maxRecDepth 20000 in
theorem e407_39 (hF : pm_fix pt_me pt_Sg (pt_R L0 xs) F) {x1 : Int32} {x2 : Int32} {x3 : Int32} {x4 : Int32} {s0 : Int32} {s1 : Int32} : F 407 39 [some (.ref 41), some (.int x1), some (.int x2), some (.int x3), some (.int x4)] [.int s0, .int s1] (49, pt_G, I, L) =
    if s1 < s0 then
      some (some (.int 1), (49, pt_G, I, L))
    else
      some (some (.int 0), (49, pt_G, I, L)) := pm_blk_to hF (pm_stp 407 [0, 9, 18, 35, 39]) 30 rfl
-- TurnCabinet$Forming.walkersFrom(II)I 41
set_option maxRecDepth 20000 in
theorem e408_0 (hF : pm_fix pt_me pt_Sg (pt_R L0 xs) F) {x1 : Int32} {x2 : Int32} : F 408 0 [some (.ref 41), some (.int x1), some (.int x2), none, none] [] (49, pt_G, I, L) =
    F 408 5 [some (.ref 41), some (.int x1), some (.int x2), some (.int 0), some (.int 0)] [] (49, pt_G, I, L) := pm_blk_to hF (pm_stp 408 [0, 5, 23, 36, 45]) 40 rfl
set_option maxRecDepth 20000 in
theorem e408_5 (hF : pm_fix pt_me pt_Sg (pt_R L0 xs) F) {x1 : Int32} {x2 : Int32} {x3 : Int32} {x4 : Int32} : F 408 5 [some (.ref 41), some (.int x1), some (.int x2), some (.int x3), some (.int x4)] [] (49, pt_G, I, L) =
    if x4 < (I 3 0) then
      pm_k (F 151 0 [some (.int x4), some (.int x1)] [] (49, pt_G, I, L)) (fun v S => F 408 23 [some (.ref 41), some (.int x1), some (.int x2), some (.int x3), some (.int x4)] (v.toList ++ []) S)
    else
      some (some (.int x3), (49, pt_G, I, L)) := pm_blk_to hF (pm_stp 408 [0, 5, 23, 36, 45]) 40 rfl
set_option maxRecDepth 20000 in
theorem e408_23 (hF : pm_fix pt_me pt_Sg (pt_R L0 xs) F) {x1 : Int32} {x2 : Int32} {x3 : Int32} {x4 : Int32} {s0 : Int32} : F 408 23 [some (.ref 41), some (.int x1), some (.int x2), some (.int x3), some (.int x4)] [.int s0] (49, pt_G, I, L) =
    if s0 = 0 then
      F 408 5 [some (.ref 41), some (.int x1), some (.int x2), some (.int x3), some (.int (x4 + 1))] [] (49, pt_G, I, L)
    else
      pm_k (F 308 0 [some (.ref 30), some (.int x1), some (.int x4)] [] (49, pt_G, I, L)) (fun v S => F 408 36 [some (.ref 41), some (.int x1), some (.int x2), some (.int x3), some (.int x4)] (v.toList ++ []) S) := pm_blk_to hF (pm_stp 408 [0, 5, 23, 36, 45]) 40 rfl
set_option maxRecDepth 20000 in
theorem e408_36 (hF : pm_fix pt_me pt_Sg (pt_R L0 xs) F) {x1 : Int32} {x2 : Int32} {x3 : Int32} {x4 : Int32} {s0 : Int32} : F 408 36 [some (.ref 41), some (.int x1), some (.int x2), some (.int x3), some (.int x4)] [.int s0] (49, pt_G, I, L) =
    pm_k (F 510 0 [some (.ref 3), some (.int x4)] [] (49, pt_G, I, L)) (fun v S => F 408 45 [some (.ref 41), some (.int x1), some (.int x2), some (.int x3), some (.int x4)] (v.toList ++ [.int s0]) S) := pm_blk_to hF (pm_stp 408 [0, 5, 23, 36, 45]) 40 rfl
set_option maxRecDepth 20000 in
theorem e408_45 (hF : pm_fix pt_me pt_Sg (pt_R L0 xs) F) {x1 : Int32} {x2 : Int32} {x3 : Int32} {x4 : Int32} {s0 : Int32} {s1 : Int32} : F 408 45 [some (.ref 41), some (.int x1), some (.int x2), some (.int x3), some (.int x4)] [.int s0, .int s1] (49, pt_G, I, L) =
    if s1 < (s0 - x2) then
      F 408 5 [some (.ref 41), some (.int x1), some (.int x2), some (.int (x3 ||| ((1 : Int32) <<< (x4 &&& 31)))), some (.int (x4 + 1))] [] (49, pt_G, I, L)
    else
      F 408 5 [some (.ref 41), some (.int x1), some (.int x2), some (.int x3), some (.int (x4 + 1))] [] (49, pt_G, I, L) := pm_blk_to hF (pm_stp 408 [0, 5, 23, 36, 45]) 40 rfl
-- TurnCabinet$Forming.keep(III)V 41
set_option maxRecDepth 20000 in
theorem e409_0 (hF : pm_fix pt_me pt_Sg (pt_R L0 xs) F) {x1 : Int32} {x2 : Int32} {x3 : Int32} : F 409 0 [some (.ref 41), some (.int x1), some (.int x2), some (.int x3)] [] (49, pt_G, I, L) =
    if (I 41 4) < 0 then
      some (none, (49, pt_G, I, L))
    else
      if (I 41 4) < 567 then
        bif pm_ib (I 41 4) 567 then
          some (none, (49, pt_G, (pm_ui (pm_ui I 42 (Int32.toNatClampNeg (I 41 4)) ((((x1 : Int32) <<< (14 &&& 31)) ||| ((x3 : Int32) <<< (7 &&& 31))) ||| x2)) 41 4 ((I 41 4) + 1)), L))
        else none
      else
        some (none, (49, pt_G, I, L)) := pm_blk_to hF (pm_stp 409 [0]) 34 rfl
-- TurnCabinet$Forming.wasMade(I)Z 41
set_option maxRecDepth 20000 in
theorem e410_0 (hF : pm_fix pt_me pt_Sg (pt_R L0 xs) F) {x1 : Int32} : F 410 0 [some (.ref 41), some (.int x1)] [] (49, pt_G, I, L) =
    if x1 < 0 then
      some (some (.int 0), (49, pt_G, I, L))
    else
      if x1 < (I 41 4) then
        if x1 < 567 then
          some (some (.int 1), (49, pt_G, I, L))
        else
          some (some (.int 0), (49, pt_G, I, L))
      else
        some (some (.int 0), (49, pt_G, I, L)) := pm_blk_to hF (pm_stp 410 [0]) 18 rfl
-- TurnCabinet$Forming.formerOf(I)I 41
set_option maxRecDepth 20000 in
theorem e411_0 (hF : pm_fix pt_me pt_Sg (pt_R L0 xs) F) {x1 : Int32} : F 411 0 [some (.ref 41), some (.int x1)] [] (49, pt_G, I, L) =
    pm_k (F 410 0 [some (.ref 41), some (.int x1)] [] (49, pt_G, I, L)) (fun v S => F 411 5 [some (.ref 41), some (.int x1)] (v.toList ++ []) S) := pm_blk_to hF (pm_stp 411 [0, 5]) 18 rfl
set_option maxRecDepth 20000 in
theorem e411_5 (hF : pm_fix pt_me pt_Sg (pt_R L0 xs) F) {x1 : Int32} {s0 : Int32} : F 411 5 [some (.ref 41), some (.int x1)] [.int s0] (49, pt_G, I, L) =
    if s0 = 0 then
      some (some (.int (-1)), (49, pt_G, I, L))
    else
      bif pm_ib x1 567 then
        some (some (.int (pm_us (I 42 (Int32.toNatClampNeg x1)) 14)), (49, pt_G, I, L))
      else none := pm_blk_to hF (pm_stp 411 [0, 5]) 18 rfl
-- TurnCabinet$Forming.coalitionOf(I)I 41
set_option maxRecDepth 20000 in
theorem e412_0 (hF : pm_fix pt_me pt_Sg (pt_R L0 xs) F) {x1 : Int32} : F 412 0 [some (.ref 41), some (.int x1)] [] (49, pt_G, I, L) =
    pm_k (F 410 0 [some (.ref 41), some (.int x1)] [] (49, pt_G, I, L)) (fun v S => F 412 5 [some (.ref 41), some (.int x1)] (v.toList ++ []) S) := pm_blk_to hF (pm_stp 412 [0, 5]) 18 rfl
set_option maxRecDepth 20000 in
theorem e412_5 (hF : pm_fix pt_me pt_Sg (pt_R L0 xs) F) {x1 : Int32} {s0 : Int32} : F 412 5 [some (.ref 41), some (.int x1)] [.int s0] (49, pt_G, I, L) =
    if s0 = 0 then
      some (some (.int (-1)), (49, pt_G, I, L))
    else
      bif pm_ib x1 567 then
        some (some (.int ((I 42 (Int32.toNatClampNeg x1)) &&& 127)), (49, pt_G, I, L))
      else none := pm_blk_to hF (pm_stp 412 [0, 5]) 18 rfl
-- TurnCabinet$Forming.walkersOf(I)I 41
set_option maxRecDepth 20000 in
theorem e413_0 (hF : pm_fix pt_me pt_Sg (pt_R L0 xs) F) {x1 : Int32} : F 413 0 [some (.ref 41), some (.int x1)] [] (49, pt_G, I, L) =
    pm_k (F 410 0 [some (.ref 41), some (.int x1)] [] (49, pt_G, I, L)) (fun v S => F 413 5 [some (.ref 41), some (.int x1)] (v.toList ++ []) S) := pm_blk_to hF (pm_stp 413 [0, 5]) 20 rfl
set_option maxRecDepth 20000 in
theorem e413_5 (hF : pm_fix pt_me pt_Sg (pt_R L0 xs) F) {x1 : Int32} {s0 : Int32} : F 413 5 [some (.ref 41), some (.int x1)] [.int s0] (49, pt_G, I, L) =
    if s0 = 0 then
      some (some (.int (-1)), (49, pt_G, I, L))
    else
      bif pm_ib x1 567 then
        some (some (.int ((pm_us (I 42 (Int32.toNatClampNeg x1)) 7) &&& 127)), (49, pt_G, I, L))
      else none := pm_blk_to hF (pm_stp 413 [0, 5]) 20 rfl
end
