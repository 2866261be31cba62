/-! ===== printed by gen/eqs.py: what the methods do between cuts ===== -/
section
variable {F : pm_F} {L0 : Nat} {xs : Nat → Int32} {I : Nat → Nat → Int32} {L : Nat → Nat → Int64}
-- TurnCabinet.feed(IIIII)I 0
set_option maxRecDepth 20000 in
theorem e102_0 (hF : pm_fix pt_me pt_Sg (pt_R L0 xs) F) {x1 : Int32} {x2 : Int32} {x3 : Int32} {x4 : Int32} {x5 : Int32} : F 102 0 [some (.ref 0), some (.int x1), some (.int x2), some (.int x3), some (.int x4), some (.int x5)] [] (49, pt_G, I, L) =
    pm_k (F 1002 0 [some (.ref 1)] [] (49, pt_G, I, L)) (fun v S => F 102 7 [some (.ref 0), some (.int x1), some (.int x2), some (.int x3), some (.int x4), some (.int x5)] (v.toList ++ []) S) := pm_blk_to hF (pm_stp 102 [0, 7, 26, 34, 42, 51, 60, 67]) 38 rfl
set_option maxRecDepth 20000 in
theorem e102_7 (hF : pm_fix pt_me pt_Sg (pt_R L0 xs) F) {x1 : Int32} {x2 : Int32} {x3 : Int32} {x4 : Int32} {x5 : Int32} {s0 : Int32} : F 102 7 [some (.ref 0), some (.int x1), some (.int x2), some (.int x3), some (.int x4), some (.int x5)] [.int s0] (49, pt_G, I, L) =
    if (s0 + 20) ≤ 900 then
      pm_k (F 1004 0 [some (.ref 1), some (.int x1), none] [] (49, pt_G, I, L)) (fun v S => F 102 26 [some (.ref 0), some (.int x1), some (.int x2), some (.int x3), some (.int x4), some (.int x5)] (v.toList ++ []) S)
    else
      some (some (.int (-1)), (49, pt_G, I, L)) := pm_blk_to hF (pm_stp 102 [0, 7, 26, 34, 42, 51, 60, 67]) 38 rfl
set_option maxRecDepth 20000 in
theorem e102_26 (hF : pm_fix pt_me pt_Sg (pt_R L0 xs) F) {x1 : Int32} {x2 : Int32} {x3 : Int32} {x4 : Int32} {x5 : Int32} : F 102 26 [some (.ref 0), some (.int x1), some (.int x2), some (.int x3), some (.int x4), some (.int x5)] [] (49, pt_G, I, L) =
    pm_k (F 1004 0 [some (.ref 1), some (.int x2), none] [] (49, pt_G, I, L)) (fun v S => F 102 34 [some (.ref 0), some (.int x1), some (.int x2), some (.int x3), some (.int x4), some (.int x5)] (v.toList ++ []) S) := pm_blk_to hF (pm_stp 102 [0, 7, 26, 34, 42, 51, 60, 67]) 38 rfl
set_option maxRecDepth 20000 in
theorem e102_34 (hF : pm_fix pt_me pt_Sg (pt_R L0 xs) F) {x1 : Int32} {x2 : Int32} {x3 : Int32} {x4 : Int32} {x5 : Int32} : F 102 34 [some (.ref 0), some (.int x1), some (.int x2), some (.int x3), some (.int x4), some (.int x5)] [] (49, pt_G, I, L) =
    pm_k (F 1004 0 [some (.ref 1), some (.int x3), none] [] (49, pt_G, I, L)) (fun v S => F 102 42 [some (.ref 0), some (.int x1), some (.int x2), some (.int x3), some (.int x4), some (.int x5)] (v.toList ++ []) S) := pm_blk_to hF (pm_stp 102 [0, 7, 26, 34, 42, 51, 60, 67]) 38 rfl
set_option maxRecDepth 20000 in
theorem e102_42 (hF : pm_fix pt_me pt_Sg (pt_R L0 xs) F) {x1 : Int32} {x2 : Int32} {x3 : Int32} {x4 : Int32} {x5 : Int32} : F 102 42 [some (.ref 0), some (.int x1), some (.int x2), some (.int x3), some (.int x4), some (.int x5)] [] (49, pt_G, I, L) =
    pm_k (F 1004 0 [some (.ref 1), some (.int x4), none] [] (49, pt_G, I, L)) (fun v S => F 102 51 [some (.ref 0), some (.int x1), some (.int x2), some (.int x3), some (.int x4), some (.int x5)] (v.toList ++ []) S) := pm_blk_to hF (pm_stp 102 [0, 7, 26, 34, 42, 51, 60, 67]) 38 rfl
set_option maxRecDepth 20000 in
theorem e102_51 (hF : pm_fix pt_me pt_Sg (pt_R L0 xs) F) {x1 : Int32} {x2 : Int32} {x3 : Int32} {x4 : Int32} {x5 : Int32} : F 102 51 [some (.ref 0), some (.int x1), some (.int x2), some (.int x3), some (.int x4), some (.int x5)] [] (49, pt_G, I, L) =
    pm_k (F 1004 0 [some (.ref 1), some (.int x5), none] [] (49, pt_G, I, L)) (fun v S => F 102 60 [some (.ref 0), some (.int x1), some (.int x2), some (.int x3), some (.int x4), some (.int x5)] (v.toList ++ []) S) := pm_blk_to hF (pm_stp 102 [0, 7, 26, 34, 42, 51, 60, 67]) 38 rfl
set_option maxRecDepth 20000 in
theorem e102_60 (hF : pm_fix pt_me pt_Sg (pt_R L0 xs) F) {x1 : Int32} {x2 : Int32} {x3 : Int32} {x4 : Int32} {x5 : Int32} : F 102 60 [some (.ref 0), some (.int x1), some (.int x2), some (.int x3), some (.int x4), some (.int x5)] [] (49, pt_G, I, L) =
    pm_k (F 1002 0 [some (.ref 1)] [] (49, pt_G, I, L)) (fun v S => F 102 67 [some (.ref 0), some (.int x1), some (.int x2), some (.int x3), some (.int x4), some (.int x5)] (v.toList ++ []) S) := pm_blk_to hF (pm_stp 102 [0, 7, 26, 34, 42, 51, 60, 67]) 38 rfl
set_option maxRecDepth 20000 in
theorem e102_67 (hF : pm_fix pt_me pt_Sg (pt_R L0 xs) F) {x1 : Int32} {x2 : Int32} {x3 : Int32} {x4 : Int32} {x5 : Int32} {s0 : Int32} : F 102 67 [some (.ref 0), some (.int x1), some (.int x2), some (.int x3), some (.int x4), some (.int x5)] [.int s0] (49, pt_G, I, L) =
    some (some (.int s0), (49, pt_G, I, L)) := pm_blk_to hF (pm_stp 102 [0, 7, 26, 34, 42, 51, 60, 67]) 38 rfl
-- TurnCabinet.end(I)I 0
set_option maxRecDepth 20000 in
theorem e103_0 (hF : pm_fix pt_me pt_Sg (pt_R L0 xs) F) {x1 : Int32} : F 103 0 [some (.ref 0), some (.int x1)] [] (49, pt_G, I, L) =
    if x1 < 0 then
      some (some (.int (-1)), (49, pt_G, I, L))
    else
      pm_k (F 1002 0 [some (.ref 1)] [] (49, pt_G, I, L)) (fun v S => F 103 12 [some (.ref 0), some (.int x1)] (v.toList ++ [.int x1]) S) := pm_blk_to hF (pm_stp 103 [0, 12, 25]) 20 rfl
set_option maxRecDepth 20000 in
theorem e103_12 (hF : pm_fix pt_me pt_Sg (pt_R L0 xs) F) {x1 : Int32} {s0 : Int32} {s1 : Int32} : F 103 12 [some (.ref 0), some (.int x1)] [.int s0, .int s1] (49, pt_G, I, L) =
    if s1 ≤ s0 then
      pm_k (F 1005 0 [some (.ref 1), some (.int x1)] [] (49, pt_G, I, L)) (fun v S => F 103 25 [some (.ref 0), some (.int x1)] (v.toList ++ []) S)
    else
      some (some (.int (-1)), (49, pt_G, I, L)) := pm_blk_to hF (pm_stp 103 [0, 12, 25]) 20 rfl
set_option maxRecDepth 20000 in
theorem e103_25 (hF : pm_fix pt_me pt_Sg (pt_R L0 xs) F) {x1 : Int32} : F 103 25 [some (.ref 0), some (.int x1)] [] (49, pt_G, I, L) =
    some (some (.int x1), (49, pt_G, I, L)) := pm_blk_to hF (pm_stp 103 [0, 12, 25]) 20 rfl
-- TurnCabinet.house()I 0
set_option maxRecDepth 20000 in
theorem e104_0 (hF : pm_fix pt_me pt_Sg (pt_R L0 xs) F) : F 104 0 [some (.ref 0), none] [] (49, pt_G, I, L) =
    pm_k (F 702 0 [some (.ref 10), none] [] (49, pt_G, I, L)) (fun v S => F 104 7 [some (.ref 0), none] (v.toList ++ []) S) := pm_blk_to hF (pm_stp 104 [0, 7, 9, 23, 33, 47, 73, 80]) 45 rfl
set_option maxRecDepth 20000 in
theorem e104_7 (hF : pm_fix pt_me pt_Sg (pt_R L0 xs) F) : F 104 7 [some (.ref 0), none] [] (49, pt_G, I, L) =
    F 104 9 [some (.ref 0), some (.int 0)] [] (49, pt_G, I, L) := pm_blk_to hF (pm_stp 104 [0, 7, 9, 23, 33, 47, 73, 80]) 45 rfl
set_option maxRecDepth 20000 in
theorem e104_9 (hF : pm_fix pt_me pt_Sg (pt_R L0 xs) F) {x1 : Int32} : F 104 9 [some (.ref 0), some (.int x1)] [] (49, pt_G, I, L) =
    if x1 < 900 then
      pm_k (F 703 0 [some (.ref 10)] [] (49, pt_G, I, L)) (fun v S => F 104 23 [some (.ref 0), some (.int x1)] (v.toList ++ []) S)
    else
      pm_k (F 1005 0 [some (.ref 1), some (.int 0)] [] (49, pt_G, I, L)) (fun v S => F 104 47 [some (.ref 0), some (.int x1)] (v.toList ++ []) S) := pm_blk_to hF (pm_stp 104 [0, 7, 9, 23, 33, 47, 73, 80]) 45 rfl
set_option maxRecDepth 20000 in
theorem e104_23 (hF : pm_fix pt_me pt_Sg (pt_R L0 xs) F) {x1 : Int32} {s0 : Int32} : F 104 23 [some (.ref 0), some (.int x1)] [.int s0] (49, pt_G, I, L) =
    if s0 = 0 then
      pm_k (F 1005 0 [some (.ref 1), some (.int 0)] [] (49, pt_G, I, L)) (fun v S => F 104 47 [some (.ref 0), some (.int x1)] (v.toList ++ []) S)
    else
      pm_k (F 706 0 [some (.ref 10)] [] (49, pt_G, I, L)) (fun v S => F 104 33 [some (.ref 0), some (.int x1)] (v.toList ++ []) S) := pm_blk_to hF (pm_stp 104 [0, 7, 9, 23, 33, 47, 73, 80]) 45 rfl
set_option maxRecDepth 20000 in
theorem e104_33 (hF : pm_fix pt_me pt_Sg (pt_R L0 xs) F) {x1 : Int32} : F 104 33 [some (.ref 0), some (.int x1)] [] (49, pt_G, I, L) =
    F 104 9 [some (.ref 0), some (.int (x1 + 1))] [] (49, pt_G, I, L) := pm_blk_to hF (pm_stp 104 [0, 7, 9, 23, 33, 47, 73, 80]) 45 rfl
set_option maxRecDepth 20000 in
theorem e104_47 (hF : pm_fix pt_me pt_Sg (pt_R L0 xs) F) {x1 : Int32} : F 104 47 [some (.ref 0), some (.int x1)] [] (49, pt_G, I, L) =
    if (I 10 8) = 0 then
      pm_k (F 503 0 [some (.ref 3), some (.ref 11), none] [] (49, pt_G, I, L)) (fun v S => F 104 73 [some (.ref 0), some (.int x1)] (v.toList ++ []) S)
    else
      some (some (.int (-1)), (49, pt_G, I, L)) := pm_blk_to hF (pm_stp 104 [0, 7, 9, 23, 33, 47, 73, 80]) 45 rfl
set_option maxRecDepth 20000 in
theorem e104_73 (hF : pm_fix pt_me pt_Sg (pt_R L0 xs) F) {x1 : Int32} : F 104 73 [some (.ref 0), some (.int x1)] [] (49, pt_G, I, L) =
    pm_k (F 202 0 [some (.ref 44)] [] (49, pt_G, I, L)) (fun v S => F 104 80 [some (.ref 0), some (.int x1)] (v.toList ++ []) S) := pm_blk_to hF (pm_stp 104 [0, 7, 9, 23, 33, 47, 73, 80]) 45 rfl
set_option maxRecDepth 20000 in
theorem e104_80 (hF : pm_fix pt_me pt_Sg (pt_R L0 xs) F) {x1 : Int32} : F 104 80 [some (.ref 0), some (.int x1)] [] (49, pt_G, I, L) =
    some (some (.int (I 3 0)), (49, pt_G, I, L)) := pm_blk_to hF (pm_stp 104 [0, 7, 9, 23, 33, 47, 73, 80]) 45 rfl
-- TurnCabinet.party(II)I 0
set_option maxRecDepth 20000 in
theorem e106_0 (hF : pm_fix pt_me pt_Sg (pt_R L0 xs) F) {x1 : Int32} {x2 : Int32} : F 106 0 [some (.ref 0), some (.int x1), some (.int x2)] [] (49, pt_G, I, L) =
    pm_k (F 504 0 [some (.ref 3), some (.int x1)] [] (49, pt_G, I, L)) (fun v S => F 106 8 [some (.ref 0), some (.int x1), some (.int x2)] (v.toList ++ []) S) := pm_blk_to hF (pm_stp 106 [0, 8, 56, 65, 74, 83, 92]) 41 rfl
set_option maxRecDepth 20000 in
theorem e106_8 (hF : pm_fix pt_me pt_Sg (pt_R L0 xs) F) {x1 : Int32} {x2 : Int32} {s0 : Int32} : F 106 8 [some (.ref 0), some (.int x1), some (.int x2)] [.int s0] (49, pt_G, I, L) =
    if s0 = 0 then
      some (some (.int (-1)), (49, pt_G, I, L))
    else
      if x2 = nI 0 then
        pm_k (F 508 0 [some (.ref 3), some (.int x1)] [] (49, pt_G, I, L)) (fun v S => F 106 56 [some (.ref 0), some (.int x1), some (.int x2)] (v.toList ++ []) S)
      else
      if x2 = nI 1 then
        pm_k (F 509 0 [some (.ref 3), some (.int x1)] [] (49, pt_G, I, L)) (fun v S => F 106 65 [some (.ref 0), some (.int x1), some (.int x2)] (v.toList ++ []) S)
      else
      if x2 = nI 2 then
        pm_k (F 510 0 [some (.ref 3), some (.int x1)] [] (49, pt_G, I, L)) (fun v S => F 106 74 [some (.ref 0), some (.int x1), some (.int x2)] (v.toList ++ []) S)
      else
      if x2 = nI 3 then
        pm_k (F 205 0 [some (.ref 44), some (.int x1)] [] (49, pt_G, I, L)) (fun v S => F 106 83 [some (.ref 0), some (.int x1), some (.int x2)] (v.toList ++ []) S)
      else
      if x2 = nI 4 then
        pm_k (F 511 0 [some (.ref 3), some (.int x1)] [] (49, pt_G, I, L)) (fun v S => F 106 92 [some (.ref 0), some (.int x1), some (.int x2)] (v.toList ++ []) S)
      else
      some (some (.int (-1)), (49, pt_G, I, L)) := pm_blk_to hF (pm_stp 106 [0, 8, 56, 65, 74, 83, 92]) 41 rfl
set_option maxRecDepth 20000 in
theorem e106_56 (hF : pm_fix pt_me pt_Sg (pt_R L0 xs) F) {x1 : Int32} {x2 : Int32} {s0 : Int32} : F 106 56 [some (.ref 0), some (.int x1), some (.int x2)] [.int s0] (49, pt_G, I, L) =
    some (some (.int s0), (49, pt_G, I, L)) := pm_blk_to hF (pm_stp 106 [0, 8, 56, 65, 74, 83, 92]) 41 rfl
set_option maxRecDepth 20000 in
theorem e106_65 (hF : pm_fix pt_me pt_Sg (pt_R L0 xs) F) {x1 : Int32} {x2 : Int32} {s0 : Int32} : F 106 65 [some (.ref 0), some (.int x1), some (.int x2)] [.int s0] (49, pt_G, I, L) =
    some (some (.int s0), (49, pt_G, I, L)) := pm_blk_to hF (pm_stp 106 [0, 8, 56, 65, 74, 83, 92]) 41 rfl
set_option maxRecDepth 20000 in
theorem e106_74 (hF : pm_fix pt_me pt_Sg (pt_R L0 xs) F) {x1 : Int32} {x2 : Int32} {s0 : Int32} : F 106 74 [some (.ref 0), some (.int x1), some (.int x2)] [.int s0] (49, pt_G, I, L) =
    some (some (.int s0), (49, pt_G, I, L)) := pm_blk_to hF (pm_stp 106 [0, 8, 56, 65, 74, 83, 92]) 41 rfl
set_option maxRecDepth 20000 in
theorem e106_83 (hF : pm_fix pt_me pt_Sg (pt_R L0 xs) F) {x1 : Int32} {x2 : Int32} {s0 : Int32} : F 106 83 [some (.ref 0), some (.int x1), some (.int x2)] [.int s0] (49, pt_G, I, L) =
    some (some (.int s0), (49, pt_G, I, L)) := pm_blk_to hF (pm_stp 106 [0, 8, 56, 65, 74, 83, 92]) 41 rfl
set_option maxRecDepth 20000 in
theorem e106_92 (hF : pm_fix pt_me pt_Sg (pt_R L0 xs) F) {x1 : Int32} {x2 : Int32} {s0 : Int32} : F 106 92 [some (.ref 0), some (.int x1), some (.int x2)] [.int s0] (49, pt_G, I, L) =
    some (some (.int s0), (49, pt_G, I, L)) := pm_blk_to hF (pm_stp 106 [0, 8, 56, 65, 74, 83, 92]) 41 rfl
-- TurnCabinet.about(I)I 0
set_option maxRecDepth 20000 in
theorem e108_0 (hF : pm_fix pt_me pt_Sg (pt_R L0 xs) F) {x1 : Int32} : F 108 0 [some (.ref 0), some (.int x1)] [] (49, pt_G, I, L) =
    if x1 = nI 0 then
      some (some (.int (I 3 0)), (49, pt_G, I, L))
    else
    if x1 = nI 1 then
      some (some (.int (I 3 1)), (49, pt_G, I, L))
    else
    if x1 = nI 2 then
      pm_k (F 517 0 [some (.ref 3)] [] (49, pt_G, I, L)) (fun v S => F 108 83 [some (.ref 0), some (.int x1)] (v.toList ++ []) S)
    else
    if x1 = nI 3 then
      some (some (.int (I 3 5)), (49, pt_G, I, L))
    else
    if x1 = nI 4 then
      some (some (.int (I 3 6)), (49, pt_G, I, L))
    else
    if x1 = nI 5 then
      some (some (.int (I 3 7)), (49, pt_G, I, L))
    else
    if x1 = nI 6 then
      pm_k (F 507 0 [some (.ref 3)] [] (49, pt_G, I, L)) (fun v S => F 108 119 [some (.ref 0), some (.int x1)] (v.toList ++ [.ref 3]) S)
    else
    if x1 = nI 7 then
      some (some (.int (I 44 7)), (49, pt_G, I, L))
    else
    if x1 = nI 8 then
      pm_k (F 1002 0 [some (.ref 1)] [] (49, pt_G, I, L)) (fun v S => F 108 138 [some (.ref 0), some (.int x1)] (v.toList ++ []) S)
    else
    if x1 = nI 9 then
      some (some (.int (I 3 2)), (49, pt_G, I, L))
    else
    if x1 = nI 10 then
      some (some (.int (I 3 3)), (49, pt_G, I, L))
    else
    some (some (.int (-1)), (49, pt_G, I, L)) := pm_blk_to hF (pm_stp 108 [0, 83, 119, 122, 138]) 56 rfl
set_option maxRecDepth 20000 in
theorem e108_83 (hF : pm_fix pt_me pt_Sg (pt_R L0 xs) F) {x1 : Int32} {s0 : Int32} : F 108 83 [some (.ref 0), some (.int x1)] [.int s0] (49, pt_G, I, L) =
    some (some (.int s0), (49, pt_G, I, L)) := pm_blk_to hF (pm_stp 108 [0, 83, 119, 122, 138]) 56 rfl
set_option maxRecDepth 20000 in
theorem e108_119 (hF : pm_fix pt_me pt_Sg (pt_R L0 xs) F) {x1 : Int32} {s0 : Int32} : F 108 119 [some (.ref 0), some (.int x1)] [.int s0, .ref 3] (49, pt_G, I, L) =
    pm_k (F 515 0 [some (.ref 3), some (.int s0), none, none] [] (49, pt_G, I, L)) (fun v S => F 108 122 [some (.ref 0), some (.int x1)] (v.toList ++ []) S) := pm_blk_to hF (pm_stp 108 [0, 83, 119, 122, 138]) 56 rfl
set_option maxRecDepth 20000 in
theorem e108_122 (hF : pm_fix pt_me pt_Sg (pt_R L0 xs) F) {x1 : Int32} {s0 : Int32} : F 108 122 [some (.ref 0), some (.int x1)] [.int s0] (49, pt_G, I, L) =
    some (some (.int s0), (49, pt_G, I, L)) := pm_blk_to hF (pm_stp 108 [0, 83, 119, 122, 138]) 56 rfl
set_option maxRecDepth 20000 in
theorem e108_138 (hF : pm_fix pt_me pt_Sg (pt_R L0 xs) F) {x1 : Int32} {s0 : Int32} : F 108 138 [some (.ref 0), some (.int x1)] [.int s0] (49, pt_G, I, L) =
    some (some (.int s0), (49, pt_G, I, L)) := pm_blk_to hF (pm_stp 108 [0, 83, 119, 122, 138]) 56 rfl
-- TurnCabinet.turn(II)I 0
set_option maxRecDepth 20000 in
theorem e109_0 (hF : pm_fix pt_me pt_Sg (pt_R L0 xs) F) {x1 : Int32} {x2 : Int32} : F 109 0 [some (.ref 0), some (.int x1), some (.int x2)] [] (49, pt_G, I, L) =
    pm_k (F 110 0 [some (.ref 0), some (.int x1), some (.int (I 3 2)), some (.int (I 3 3)), some (.int x2)] [] (49, pt_G, I, L)) (fun v S => F 109 20 [some (.ref 0), some (.int x1), some (.int x2)] (v.toList ++ []) S) := pm_blk_to hF (pm_stp 109 [0, 20]) 16 rfl
set_option maxRecDepth 20000 in
theorem e109_20 (hF : pm_fix pt_me pt_Sg (pt_R L0 xs) F) {x1 : Int32} {x2 : Int32} {s0 : Int32} : F 109 20 [some (.ref 0), some (.int x1), some (.int x2)] [.int s0] (49, pt_G, I, L) =
    some (some (.int s0), (49, pt_G, I, L)) := pm_blk_to hF (pm_stp 109 [0, 20]) 16 rfl
-- TurnCabinet.turnBy(IIII)I 0
set_option maxRecDepth 20000 in
theorem e110_0 (hF : pm_fix pt_me pt_Sg (pt_R L0 xs) F) {x1 : Int32} {x2 : Int32} {x3 : Int32} {x4 : Int32} : F 110 0 [some (.ref 0), some (.int x1), some (.int x2), some (.int x3), some (.int x4)] [] (49, pt_G, I, L) =
    pm_k (F 506 0 [some (.ref 3), some (.int x1)] [] (49, pt_G, I, L)) (fun v S => F 110 8 [some (.ref 0), some (.int x1), some (.int x2), some (.int x3), some (.int x4)] (v.toList ++ []) S) := pm_blk_to hF (pm_stp 110 [0, 8, 34, 41, 56, 61]) 36 rfl
set_option maxRecDepth 20000 in
theorem e110_8 (hF : pm_fix pt_me pt_Sg (pt_R L0 xs) F) {x1 : Int32} {x2 : Int32} {x3 : Int32} {x4 : Int32} {s0 : Int32} : F 110 8 [some (.ref 0), some (.int x1), some (.int x2), some (.int x3), some (.int x4)] [.int s0] (49, pt_G, I, L) =
    if s0 = 0 then
      some (some (.int (-1)), (49, pt_G, I, L))
    else
      if x4 < 0 then
        some (some (.int (-1)), (49, pt_G, I, L))
      else
        if x4 < (I 3 1) then
          pm_k (F 150 0 [some (.int x2)] [] (49, pt_G, I, L)) (fun v S => F 110 34 [some (.ref 0), some (.int x1), some (.int x2), some (.int x3), some (.int x4)] (v.toList ++ []) S)
        else
          some (some (.int (-1)), (49, pt_G, I, L)) := pm_blk_to hF (pm_stp 110 [0, 8, 34, 41, 56, 61]) 36 rfl
set_option maxRecDepth 20000 in
theorem e110_34 (hF : pm_fix pt_me pt_Sg (pt_R L0 xs) F) {x1 : Int32} {x2 : Int32} {x3 : Int32} {x4 : Int32} {s0 : Int32} : F 110 34 [some (.ref 0), some (.int x1), some (.int x2), some (.int x3), some (.int x4)] [.int s0] (49, pt_G, I, L) =
    if s0 = 0 then
      some (some (.int (-1)), (49, pt_G, I, L))
    else
      pm_k (F 150 0 [some (.int x3)] [] (49, pt_G, I, L)) (fun v S => F 110 41 [some (.ref 0), some (.int x1), some (.int x2), some (.int x3), some (.int x4)] (v.toList ++ []) S) := pm_blk_to hF (pm_stp 110 [0, 8, 34, 41, 56, 61]) 36 rfl
set_option maxRecDepth 20000 in
theorem e110_41 (hF : pm_fix pt_me pt_Sg (pt_R L0 xs) F) {x1 : Int32} {x2 : Int32} {x3 : Int32} {x4 : Int32} {s0 : Int32} : F 110 41 [some (.ref 0), some (.int x1), some (.int x2), some (.int x3), some (.int x4)] [.int s0] (49, pt_G, I, L) =
    if s0 = 0 then
      some (some (.int (-1)), (49, pt_G, I, L))
    else
      pm_k (F 602 0 [some (.ref 23), some (.int x1), some (.int x2), some (.int x3), none, none, none, none] [] (49, pt_G, I, L)) (fun v S => F 110 56 [some (.ref 0), some (.int x1), some (.int x2), some (.int x3), some (.int x4)] (v.toList ++ []) S) := pm_blk_to hF (pm_stp 110 [0, 8, 34, 41, 56, 61]) 36 rfl
set_option maxRecDepth 20000 in
theorem e110_56 (hF : pm_fix pt_me pt_Sg (pt_R L0 xs) F) {x1 : Int32} {x2 : Int32} {x3 : Int32} {x4 : Int32} {s0 : Int32} : F 110 56 [some (.ref 0), some (.int x1), some (.int x2), some (.int x3), some (.int x4)] [.int s0] (49, pt_G, I, L) =
    pm_k (F 902 0 [some (.int s0), some (.int x4)] [] (49, pt_G, I, L)) (fun v S => F 110 61 [some (.ref 0), some (.int x1), some (.int x2), some (.int x3), some (.int x4)] (v.toList ++ []) S) := pm_blk_to hF (pm_stp 110 [0, 8, 34, 41, 56, 61]) 36 rfl
set_option maxRecDepth 20000 in
theorem e110_61 (hF : pm_fix pt_me pt_Sg (pt_R L0 xs) F) {x1 : Int32} {x2 : Int32} {x3 : Int32} {x4 : Int32} {s0 : Int32} : F 110 61 [some (.ref 0), some (.int x1), some (.int x2), some (.int x3), some (.int x4)] [.int s0] (49, pt_G, I, L) =
    some (some (.int s0), (49, pt_G, I, L)) := pm_blk_to hF (pm_stp 110 [0, 8, 34, 41, 56, 61]) 36 rfl
-- TurnCabinet.gets(III)I 0
set_option maxRecDepth 20000 in
theorem e111_0 (hF : pm_fix pt_me pt_Sg (pt_R L0 xs) F) {x1 : Int32} {x2 : Int32} {x3 : Int32} : F 111 0 [some (.ref 0), some (.int x1), some (.int x2), some (.int x3)] [] (49, pt_G, I, L) =
    pm_k (F 506 0 [some (.ref 3), some (.int x1)] [] (49, pt_G, I, L)) (fun v S => F 111 8 [some (.ref 0), some (.int x1), some (.int x2), some (.int x3)] (v.toList ++ []) S) := pm_blk_to hF (pm_stp 111 [0, 8, 15, 26, 40, 44]) 28 rfl
set_option maxRecDepth 20000 in
theorem e111_8 (hF : pm_fix pt_me pt_Sg (pt_R L0 xs) F) {x1 : Int32} {x2 : Int32} {x3 : Int32} {s0 : Int32} : F 111 8 [some (.ref 0), some (.int x1), some (.int x2), some (.int x3)] [.int s0] (49, pt_G, I, L) =
    if s0 = 0 then
      some (some (.int (-1)), (49, pt_G, I, L))
    else
      pm_k (F 149 0 [some (.int x2)] [] (49, pt_G, I, L)) (fun v S => F 111 15 [some (.ref 0), some (.int x1), some (.int x2), some (.int x3)] (v.toList ++ []) S) := pm_blk_to hF (pm_stp 111 [0, 8, 15, 26, 40, 44]) 28 rfl
set_option maxRecDepth 20000 in
theorem e111_15 (hF : pm_fix pt_me pt_Sg (pt_R L0 xs) F) {x1 : Int32} {x2 : Int32} {x3 : Int32} {s0 : Int32} : F 111 15 [some (.ref 0), some (.int x1), some (.int x2), some (.int x3)] [.int s0] (49, pt_G, I, L) =
    if s0 = 0 then
      some (some (.int (-1)), (49, pt_G, I, L))
    else
      pm_k (F 505 0 [some (.ref 3), some (.int x3)] [] (49, pt_G, I, L)) (fun v S => F 111 26 [some (.ref 0), some (.int x1), some (.int x2), some (.int x3)] (v.toList ++ []) S) := pm_blk_to hF (pm_stp 111 [0, 8, 15, 26, 40, 44]) 28 rfl
set_option maxRecDepth 20000 in
theorem e111_26 (hF : pm_fix pt_me pt_Sg (pt_R L0 xs) F) {x1 : Int32} {x2 : Int32} {x3 : Int32} {s0 : Int32} : F 111 26 [some (.ref 0), some (.int x1), some (.int x2), some (.int x3)] [.int s0] (49, pt_G, I, L) =
    if s0 = 0 then
      some (some (.int (-1)), (49, pt_G, I, L))
    else
      pm_k (F 307 0 [some (.ref 30), some (.int x1), some (.int x2), none] [] (49, pt_G, I, L)) (fun v S => F 111 40 [some (.ref 0), some (.int x1), some (.int x2), some (.int x3)] (v.toList ++ []) S) := pm_blk_to hF (pm_stp 111 [0, 8, 15, 26, 40, 44]) 28 rfl
set_option maxRecDepth 20000 in
theorem e111_40 (hF : pm_fix pt_me pt_Sg (pt_R L0 xs) F) {x1 : Int32} {x2 : Int32} {x3 : Int32} {s0 : Int32} : F 111 40 [some (.ref 0), some (.int x1), some (.int x2), some (.int x3)] [.int s0] (49, pt_G, I, L) =
    pm_k (F 902 0 [some (.int s0), some (.int x3)] [] (49, pt_G, I, L)) (fun v S => F 111 44 [some (.ref 0), some (.int x1), some (.int x2), some (.int x3)] (v.toList ++ []) S) := pm_blk_to hF (pm_stp 111 [0, 8, 15, 26, 40, 44]) 28 rfl
set_option maxRecDepth 20000 in
theorem e111_44 (hF : pm_fix pt_me pt_Sg (pt_R L0 xs) F) {x1 : Int32} {x2 : Int32} {x3 : Int32} {s0 : Int32} : F 111 44 [some (.ref 0), some (.int x1), some (.int x2), some (.int x3)] [.int s0] (49, pt_G, I, L) =
    some (some (.int s0), (49, pt_G, I, L)) := pm_blk_to hF (pm_stp 111 [0, 8, 15, 26, 40, 44]) 28 rfl
-- TurnCabinet.has(III)I 0
set_option maxRecDepth 20000 in
theorem e112_0 (hF : pm_fix pt_me pt_Sg (pt_R L0 xs) F) {x1 : Int32} {x2 : Int32} {x3 : Int32} : F 112 0 [some (.ref 0), some (.int x1), some (.int x2), some (.int x3)] [] (49, pt_G, I, L) =
    pm_k (F 506 0 [some (.ref 3), some (.int x1)] [] (49, pt_G, I, L)) (fun v S => F 112 8 [some (.ref 0), some (.int x1), some (.int x2), some (.int x3)] (v.toList ++ []) S) := pm_blk_to hF (pm_stp 112 [0, 8, 15, 26, 36, 55, 59]) 37 rfl
set_option maxRecDepth 20000 in
theorem e112_8 (hF : pm_fix pt_me pt_Sg (pt_R L0 xs) F) {x1 : Int32} {x2 : Int32} {x3 : Int32} {s0 : Int32} : F 112 8 [some (.ref 0), some (.int x1), some (.int x2), some (.int x3)] [.int s0] (49, pt_G, I, L) =
    if s0 = 0 then
      some (some (.int (-1)), (49, pt_G, I, L))
    else
      pm_k (F 149 0 [some (.int x2)] [] (49, pt_G, I, L)) (fun v S => F 112 15 [some (.ref 0), some (.int x1), some (.int x2), some (.int x3)] (v.toList ++ []) S) := pm_blk_to hF (pm_stp 112 [0, 8, 15, 26, 36, 55, 59]) 37 rfl
set_option maxRecDepth 20000 in
theorem e112_15 (hF : pm_fix pt_me pt_Sg (pt_R L0 xs) F) {x1 : Int32} {x2 : Int32} {x3 : Int32} {s0 : Int32} : F 112 15 [some (.ref 0), some (.int x1), some (.int x2), some (.int x3)] [.int s0] (49, pt_G, I, L) =
    if s0 = 0 then
      some (some (.int (-1)), (49, pt_G, I, L))
    else
      pm_k (F 504 0 [some (.ref 3), some (.int x3)] [] (49, pt_G, I, L)) (fun v S => F 112 26 [some (.ref 0), some (.int x1), some (.int x2), some (.int x3)] (v.toList ++ []) S) := pm_blk_to hF (pm_stp 112 [0, 8, 15, 26, 36, 55, 59]) 37 rfl
set_option maxRecDepth 20000 in
theorem e112_26 (hF : pm_fix pt_me pt_Sg (pt_R L0 xs) F) {x1 : Int32} {x2 : Int32} {x3 : Int32} {s0 : Int32} : F 112 26 [some (.ref 0), some (.int x1), some (.int x2), some (.int x3)] [.int s0] (49, pt_G, I, L) =
    if s0 = 0 then
      some (some (.int (-1)), (49, pt_G, I, L))
    else
      pm_k (F 151 0 [some (.int x3), some (.int x1)] [] (49, pt_G, I, L)) (fun v S => F 112 36 [some (.ref 0), some (.int x1), some (.int x2), some (.int x3)] (v.toList ++ []) S) := pm_blk_to hF (pm_stp 112 [0, 8, 15, 26, 36, 55, 59]) 37 rfl
set_option maxRecDepth 20000 in
theorem e112_36 (hF : pm_fix pt_me pt_Sg (pt_R L0 xs) F) {x1 : Int32} {x2 : Int32} {x3 : Int32} {s0 : Int32} : F 112 36 [some (.ref 0), some (.int x1), some (.int x2), some (.int x3)] [.int s0] (49, pt_G, I, L) =
    if s0 = 0 then
      some (some (.int 0), (49, pt_G, I, L))
    else
      pm_k (F 307 0 [some (.ref 30), some (.int x1), some (.int x2), none] [] (49, pt_G, I, L)) (fun v S => F 112 55 [some (.ref 0), some (.int x1), some (.int x2), some (.int x3)] (v.toList ++ [.int x3, .ref 3]) S) := pm_blk_to hF (pm_stp 112 [0, 8, 15, 26, 36, 55, 59]) 37 rfl
set_option maxRecDepth 20000 in
theorem e112_55 (hF : pm_fix pt_me pt_Sg (pt_R L0 xs) F) {x1 : Int32} {x2 : Int32} {x3 : Int32} {s0 : Int32} {s1 : Int32} : F 112 55 [some (.ref 0), some (.int x1), some (.int x2), some (.int x3)] [.int s0, .int s1, .ref 3] (49, pt_G, I, L) =
    pm_k (F 521 0 [some (.ref 3), some (.int s1), some (.int s0), some (.int x3), none, none] [] (49, pt_G, I, L)) (fun v S => F 112 59 [some (.ref 0), some (.int x1), some (.int x2), some (.int x3)] (v.toList ++ []) S) := pm_blk_to hF (pm_stp 112 [0, 8, 15, 26, 36, 55, 59]) 37 rfl
set_option maxRecDepth 20000 in
theorem e112_59 (hF : pm_fix pt_me pt_Sg (pt_R L0 xs) F) {x1 : Int32} {x2 : Int32} {x3 : Int32} {s0 : Int32} : F 112 59 [some (.ref 0), some (.int x1), some (.int x2), some (.int x3)] [.int s0] (49, pt_G, I, L) =
    some (some (.int s0), (49, pt_G, I, L)) := pm_blk_to hF (pm_stp 112 [0, 8, 15, 26, 36, 55, 59]) 37 rfl
-- TurnCabinet.instead(III)I 0
set_option maxRecDepth 20000 in
theorem e114_0 (hF : pm_fix pt_me pt_Sg (pt_R L0 xs) F) {x1 : Int32} {x2 : Int32} {x3 : Int32} : F 114 0 [some (.ref 0), some (.int x1), some (.int x2), some (.int x3), none] [] (49, pt_G, I, L) =
    pm_k (F 506 0 [some (.ref 3), some (.int x1)] [] (49, pt_G, I, L)) (fun v S => F 114 8 [some (.ref 0), some (.int x1), some (.int x2), some (.int x3), none] (v.toList ++ []) S) := pm_blk_to hF (pm_stp 114 [0, 8, 36, 63, 74, 85]) 48 rfl
set_option maxRecDepth 20000 in
theorem e114_8 (hF : pm_fix pt_me pt_Sg (pt_R L0 xs) F) {x1 : Int32} {x2 : Int32} {x3 : Int32} {s0 : Int32} : F 114 8 [some (.ref 0), some (.int x1), some (.int x2), some (.int x3), none] [.int s0] (49, pt_G, I, L) =
    if s0 = 0 then
      some (some (.int (-1)), (49, pt_G, I, L))
    else
      if x2 < 0 then
        some (some (.int (-1)), (49, pt_G, I, L))
      else
        if x2 < (I 3 1) then
          pm_k (F 505 0 [some (.ref 3), some (.int x3)] [] (49, pt_G, I, L)) (fun v S => F 114 36 [some (.ref 0), some (.int x1), some (.int x2), some (.int x3), none] (v.toList ++ []) S)
        else
          some (some (.int (-1)), (49, pt_G, I, L)) := pm_blk_to hF (pm_stp 114 [0, 8, 36, 63, 74, 85]) 48 rfl
set_option maxRecDepth 20000 in
theorem e114_36 (hF : pm_fix pt_me pt_Sg (pt_R L0 xs) F) {x1 : Int32} {x2 : Int32} {x3 : Int32} {s0 : Int32} : F 114 36 [some (.ref 0), some (.int x1), some (.int x2), some (.int x3), none] [.int s0] (49, pt_G, I, L) =
    if s0 = 0 then
      some (some (.int (-1)), (49, pt_G, I, L))
    else
      pm_k (F 602 0 [some (.ref 23), some (.int x1), some (.int (I 3 2)), some (.int (I 3 3)), none, none, none, none] [] (49, pt_G, I, L)) (fun v S => F 114 63 [some (.ref 0), some (.int x1), some (.int x2), some (.int x3), none] (v.toList ++ []) S) := pm_blk_to hF (pm_stp 114 [0, 8, 36, 63, 74, 85]) 48 rfl
set_option maxRecDepth 20000 in
theorem e114_63 (hF : pm_fix pt_me pt_Sg (pt_R L0 xs) F) {x1 : Int32} {x2 : Int32} {x3 : Int32} {s0 : Int32} : F 114 63 [some (.ref 0), some (.int x1), some (.int x2), some (.int x3), none] [.int s0] (49, pt_G, I, L) =
    pm_k (F 607 0 [some (.ref 23), some (.int s0), none] [] (49, pt_G, I, L)) (fun v S => F 114 74 [some (.ref 0), some (.int x1), some (.int x2), some (.int x3), some (.int s0)] (v.toList ++ []) S) := pm_blk_to hF (pm_stp 114 [0, 8, 36, 63, 74, 85]) 48 rfl
set_option maxRecDepth 20000 in
theorem e114_74 (hF : pm_fix pt_me pt_Sg (pt_R L0 xs) F) {x1 : Int32} {x2 : Int32} {x3 : Int32} {x4 : Int32} : F 114 74 [some (.ref 0), some (.int x1), some (.int x2), some (.int x3), some (.int x4)] [] (49, pt_G, I, L) =
    pm_k (F 605 0 [some (.ref 23), some (.int x4), some (.int x2), some (.int x3), none, none, none, none, none] [] (49, pt_G, I, L)) (fun v S => F 114 85 [some (.ref 0), some (.int x1), some (.int x2), some (.int x3), some (.int x4)] (v.toList ++ []) S) := pm_blk_to hF (pm_stp 114 [0, 8, 36, 63, 74, 85]) 48 rfl
set_option maxRecDepth 20000 in
theorem e114_85 (hF : pm_fix pt_me pt_Sg (pt_R L0 xs) F) {x1 : Int32} {x2 : Int32} {x3 : Int32} {x4 : Int32} {s0 : Int32} : F 114 85 [some (.ref 0), some (.int x1), some (.int x2), some (.int x3), some (.int x4)] [.int s0] (49, pt_G, I, L) =
    some (some (.int s0), (49, pt_G, I, L)) := pm_blk_to hF (pm_stp 114 [0, 8, 36, 63, 74, 85]) 48 rfl
-- TurnCabinet.pay(II)I 0
set_option maxRecDepth 20000 in
theorem e116_0 (hF : pm_fix pt_me pt_Sg (pt_R L0 xs) F) {x1 : Int32} {x2 : Int32} : F 116 0 [some (.ref 0), some (.int x1), some (.int x2)] [] (49, pt_G, I, L) =
    pm_k (F 506 0 [some (.ref 3), some (.int x1)] [] (49, pt_G, I, L)) (fun v S => F 116 8 [some (.ref 0), some (.int x1), some (.int x2)] (v.toList ++ []) S) := pm_blk_to hF (pm_stp 116 [0, 8, 19, 33, 42]) 27 rfl
set_option maxRecDepth 20000 in
theorem e116_8 (hF : pm_fix pt_me pt_Sg (pt_R L0 xs) F) {x1 : Int32} {x2 : Int32} {s0 : Int32} : F 116 8 [some (.ref 0), some (.int x1), some (.int x2)] [.int s0] (49, pt_G, I, L) =
    if s0 = 0 then
      some (some (.int (-1000000)), (49, pt_G, I, L))
    else
      pm_k (F 504 0 [some (.ref 3), some (.int x2)] [] (49, pt_G, I, L)) (fun v S => F 116 19 [some (.ref 0), some (.int x1), some (.int x2)] (v.toList ++ []) S) := pm_blk_to hF (pm_stp 116 [0, 8, 19, 33, 42]) 27 rfl
set_option maxRecDepth 20000 in
theorem e116_19 (hF : pm_fix pt_me pt_Sg (pt_R L0 xs) F) {x1 : Int32} {x2 : Int32} {s0 : Int32} : F 116 19 [some (.ref 0), some (.int x1), some (.int x2)] [.int s0] (49, pt_G, I, L) =
    if s0 = 0 then
      some (some (.int (-1000000)), (49, pt_G, I, L))
    else
      pm_k (F 305 0 [some (.ref 30), some (.int x1), none, none, none, none] [] (49, pt_G, I, L)) (fun v S => F 116 33 [some (.ref 0), some (.int x1), some (.int x2)] (v.toList ++ []) S) := pm_blk_to hF (pm_stp 116 [0, 8, 19, 33, 42]) 27 rfl
set_option maxRecDepth 20000 in
theorem e116_33 (hF : pm_fix pt_me pt_Sg (pt_R L0 xs) F) {x1 : Int32} {x2 : Int32} : F 116 33 [some (.ref 0), some (.int x1), some (.int x2)] [] (49, pt_G, I, L) =
    pm_k (F 308 0 [some (.ref 30), some (.int x1), some (.int x2)] [] (49, pt_G, I, L)) (fun v S => F 116 42 [some (.ref 0), some (.int x1), some (.int x2)] (v.toList ++ []) S) := pm_blk_to hF (pm_stp 116 [0, 8, 19, 33, 42]) 27 rfl
set_option maxRecDepth 20000 in
theorem e116_42 (hF : pm_fix pt_me pt_Sg (pt_R L0 xs) F) {x1 : Int32} {x2 : Int32} {s0 : Int32} : F 116 42 [some (.ref 0), some (.int x1), some (.int x2)] [.int s0] (49, pt_G, I, L) =
    some (some (.int s0), (49, pt_G, I, L)) := pm_blk_to hF (pm_stp 116 [0, 8, 19, 33, 42]) 27 rfl
-- TurnCabinet.kind(I)I 0
set_option maxRecDepth 20000 in
theorem e121_0 (hF : pm_fix pt_me pt_Sg (pt_R L0 xs) F) {x1 : Int32} : F 121 0 [some (.ref 0), some (.int x1)] [] (49, pt_G, I, L) =
    pm_k (F 506 0 [some (.ref 3), some (.int x1)] [] (49, pt_G, I, L)) (fun v S => F 121 8 [some (.ref 0), some (.int x1)] (v.toList ++ []) S) := pm_blk_to hF (pm_stp 121 [0, 8, 20, 28]) 20 rfl
set_option maxRecDepth 20000 in
theorem e121_8 (hF : pm_fix pt_me pt_Sg (pt_R L0 xs) F) {x1 : Int32} {s0 : Int32} : F 121 8 [some (.ref 0), some (.int x1)] [.int s0] (49, pt_G, I, L) =
    if s0 = 0 then
      some (some (.int (-1)), (49, pt_G, I, L))
    else
      pm_k (F 304 0 [some (.ref 30), none] [] (49, pt_G, I, L)) (fun v S => F 121 20 [some (.ref 0), some (.int x1)] (v.toList ++ []) S) := pm_blk_to hF (pm_stp 121 [0, 8, 20, 28]) 20 rfl
set_option maxRecDepth 20000 in
theorem e121_20 (hF : pm_fix pt_me pt_Sg (pt_R L0 xs) F) {x1 : Int32} : F 121 20 [some (.ref 0), some (.int x1)] [] (49, pt_G, I, L) =
    pm_k (F 313 0 [some (.ref 30), some (.int x1), none] [] (49, pt_G, I, L)) (fun v S => F 121 28 [some (.ref 0), some (.int x1)] (v.toList ++ []) S) := pm_blk_to hF (pm_stp 121 [0, 8, 20, 28]) 20 rfl
set_option maxRecDepth 20000 in
theorem e121_28 (hF : pm_fix pt_me pt_Sg (pt_R L0 xs) F) {x1 : Int32} {s0 : Int32} : F 121 28 [some (.ref 0), some (.int x1)] [.int s0] (49, pt_G, I, L) =
    some (some (.int s0), (49, pt_G, I, L)) := pm_blk_to hF (pm_stp 121 [0, 8, 20, 28]) 20 rfl
-- TurnCabinet.many(I)I 0
set_option maxRecDepth 20000 in
theorem e122_0 (hF : pm_fix pt_me pt_Sg (pt_R L0 xs) F) {x1 : Int32} : F 122 0 [some (.ref 0), some (.int x1)] [] (49, pt_G, I, L) =
    if x1 < 0 then
      some (some (.int (-1)), (49, pt_G, I, L))
    else
      if x1 ≤ 31 then
        pm_k (F 304 0 [some (.ref 30), none] [] (49, pt_G, I, L)) (fun v S => F 122 19 [some (.ref 0), some (.int x1)] (v.toList ++ []) S)
      else
        some (some (.int (-1)), (49, pt_G, I, L)) := pm_blk_to hF (pm_stp 122 [0, 19, 27]) 20 rfl
set_option maxRecDepth 20000 in
theorem e122_19 (hF : pm_fix pt_me pt_Sg (pt_R L0 xs) F) {x1 : Int32} : F 122 19 [some (.ref 0), some (.int x1)] [] (49, pt_G, I, L) =
    pm_k (F 314 0 [some (.ref 30), some (.int x1), none, none] [] (49, pt_G, I, L)) (fun v S => F 122 27 [some (.ref 0), some (.int x1)] (v.toList ++ []) S) := pm_blk_to hF (pm_stp 122 [0, 19, 27]) 20 rfl
set_option maxRecDepth 20000 in
theorem e122_27 (hF : pm_fix pt_me pt_Sg (pt_R L0 xs) F) {x1 : Int32} {s0 : Int32} : F 122 27 [some (.ref 0), some (.int x1)] [.int s0] (49, pt_G, I, L) =
    some (some (.int s0), (49, pt_G, I, L)) := pm_blk_to hF (pm_stp 122 [0, 19, 27]) 20 rfl
-- TurnCabinet.rival(I)I 0
set_option maxRecDepth 20000 in
theorem e124_0 (hF : pm_fix pt_me pt_Sg (pt_R L0 xs) F) {x1 : Int32} : F 124 0 [some (.ref 0), some (.int x1)] [] (49, pt_G, I, L) =
    pm_k (F 506 0 [some (.ref 3), some (.int x1)] [] (49, pt_G, I, L)) (fun v S => F 124 8 [some (.ref 0), some (.int x1)] (v.toList ++ []) S) := pm_blk_to hF (pm_stp 124 [0, 8, 21, 28, 36]) 24 rfl
set_option maxRecDepth 20000 in
theorem e124_8 (hF : pm_fix pt_me pt_Sg (pt_R L0 xs) F) {x1 : Int32} {s0 : Int32} : F 124 8 [some (.ref 0), some (.int x1)] [.int s0] (49, pt_G, I, L) =
    if s0 = 0 then
      some (some (.int (-1)), (49, pt_G, I, L))
    else
      pm_k (F 305 0 [some (.ref 30), some (.int x1), none, none, none, none] [] (49, pt_G, I, L)) (fun v S => F 124 21 [some (.ref 0), some (.int x1)] (v.toList ++ []) S) := pm_blk_to hF (pm_stp 124 [0, 8, 21, 28, 36]) 24 rfl
set_option maxRecDepth 20000 in
theorem e124_21 (hF : pm_fix pt_me pt_Sg (pt_R L0 xs) F) {x1 : Int32} : F 124 21 [some (.ref 0), some (.int x1)] [] (49, pt_G, I, L) =
    pm_k (F 304 0 [some (.ref 30), none] [] (49, pt_G, I, L)) (fun v S => F 124 28 [some (.ref 0), some (.int x1)] (v.toList ++ []) S) := pm_blk_to hF (pm_stp 124 [0, 8, 21, 28, 36]) 24 rfl
set_option maxRecDepth 20000 in
theorem e124_28 (hF : pm_fix pt_me pt_Sg (pt_R L0 xs) F) {x1 : Int32} : F 124 28 [some (.ref 0), some (.int x1)] [] (49, pt_G, I, L) =
    pm_k (F 316 0 [some (.ref 30), some (.int x1), none] [] (49, pt_G, I, L)) (fun v S => F 124 36 [some (.ref 0), some (.int x1)] (v.toList ++ []) S) := pm_blk_to hF (pm_stp 124 [0, 8, 21, 28, 36]) 24 rfl
set_option maxRecDepth 20000 in
theorem e124_36 (hF : pm_fix pt_me pt_Sg (pt_R L0 xs) F) {x1 : Int32} {s0 : Int32} : F 124 36 [some (.ref 0), some (.int x1)] [.int s0] (49, pt_G, I, L) =
    some (some (.int s0), (49, pt_G, I, L)) := pm_blk_to hF (pm_stp 124 [0, 8, 21, 28, 36]) 24 rfl
-- TurnCabinet.pivot(I)I 0
set_option maxRecDepth 20000 in
theorem e131_0 (hF : pm_fix pt_me pt_Sg (pt_R L0 xs) F) {x1 : Int32} : F 131 0 [some (.ref 0), some (.int x1)] [] (49, pt_G, I, L) =
    pm_k (F 504 0 [some (.ref 3), some (.int x1)] [] (49, pt_G, I, L)) (fun v S => F 131 8 [some (.ref 0), some (.int x1)] (v.toList ++ []) S) := pm_blk_to hF (pm_stp 131 [0, 8, 20, 28]) 20 rfl
set_option maxRecDepth 20000 in
theorem e131_8 (hF : pm_fix pt_me pt_Sg (pt_R L0 xs) F) {x1 : Int32} {s0 : Int32} : F 131 8 [some (.ref 0), some (.int x1)] [.int s0] (49, pt_G, I, L) =
    if s0 = 0 then
      some (some (.int (-1)), (49, pt_G, I, L))
    else
      pm_k (F 302 0 [some (.ref 30), none, none, none] [] (49, pt_G, I, L)) (fun v S => F 131 20 [some (.ref 0), some (.int x1)] (v.toList ++ []) S) := pm_blk_to hF (pm_stp 131 [0, 8, 20, 28]) 20 rfl
set_option maxRecDepth 20000 in
theorem e131_20 (hF : pm_fix pt_me pt_Sg (pt_R L0 xs) F) {x1 : Int32} : F 131 20 [some (.ref 0), some (.int x1)] [] (49, pt_G, I, L) =
    pm_k (F 327 0 [some (.ref 30), some (.int x1), none, none, none, none] [] (49, pt_G, I, L)) (fun v S => F 131 28 [some (.ref 0), some (.int x1)] (v.toList ++ []) S) := pm_blk_to hF (pm_stp 131 [0, 8, 20, 28]) 20 rfl
set_option maxRecDepth 20000 in
theorem e131_28 (hF : pm_fix pt_me pt_Sg (pt_R L0 xs) F) {x1 : Int32} {s0 : Int32} : F 131 28 [some (.ref 0), some (.int x1)] [.int s0] (49, pt_G, I, L) =
    some (some (.int s0), (49, pt_G, I, L)) := pm_blk_to hF (pm_stp 131 [0, 8, 20, 28]) 20 rfl
-- TurnCabinet.joins(I)I 0
set_option maxRecDepth 20000 in
theorem e132_0 (hF : pm_fix pt_me pt_Sg (pt_R L0 xs) F) {x1 : Int32} : F 132 0 [some (.ref 0), some (.int x1)] [] (49, pt_G, I, L) =
    pm_k (F 506 0 [some (.ref 3), some (.int x1)] [] (49, pt_G, I, L)) (fun v S => F 132 8 [some (.ref 0), some (.int x1)] (v.toList ++ []) S) := pm_blk_to hF (pm_stp 132 [0, 8, 20, 28]) 20 rfl
set_option maxRecDepth 20000 in
theorem e132_8 (hF : pm_fix pt_me pt_Sg (pt_R L0 xs) F) {x1 : Int32} {s0 : Int32} : F 132 8 [some (.ref 0), some (.int x1)] [.int s0] (49, pt_G, I, L) =
    if s0 = 0 then
      some (some (.int (-1)), (49, pt_G, I, L))
    else
      pm_k (F 302 0 [some (.ref 30), none, none, none] [] (49, pt_G, I, L)) (fun v S => F 132 20 [some (.ref 0), some (.int x1)] (v.toList ++ []) S) := pm_blk_to hF (pm_stp 132 [0, 8, 20, 28]) 20 rfl
set_option maxRecDepth 20000 in
theorem e132_20 (hF : pm_fix pt_me pt_Sg (pt_R L0 xs) F) {x1 : Int32} : F 132 20 [some (.ref 0), some (.int x1)] [] (49, pt_G, I, L) =
    pm_k (F 328 0 [some (.ref 30), some (.int x1), none, none] [] (49, pt_G, I, L)) (fun v S => F 132 28 [some (.ref 0), some (.int x1)] (v.toList ++ []) S) := pm_blk_to hF (pm_stp 132 [0, 8, 20, 28]) 20 rfl
set_option maxRecDepth 20000 in
theorem e132_28 (hF : pm_fix pt_me pt_Sg (pt_R L0 xs) F) {x1 : Int32} {s0 : Int32} : F 132 28 [some (.ref 0), some (.int x1)] [.int s0] (49, pt_G, I, L) =
    some (some (.int s0), (49, pt_G, I, L)) := pm_blk_to hF (pm_stp 132 [0, 8, 20, 28]) 20 rfl
-- TurnCabinet.drift(II)I 0
set_option maxRecDepth 20000 in
theorem e134_0 (hF : pm_fix pt_me pt_Sg (pt_R L0 xs) F) {x1 : Int32} {x2 : Int32} : F 134 0 [some (.ref 0), some (.int x1), some (.int x2)] [] (49, pt_G, I, L) =
    pm_k (F 506 0 [some (.ref 3), some (.int x1)] [] (49, pt_G, I, L)) (fun v S => F 134 8 [some (.ref 0), some (.int x1), some (.int x2)] (v.toList ++ []) S) := pm_blk_to hF (pm_stp 134 [0, 8, 30, 37, 55]) 35 rfl
set_option maxRecDepth 20000 in
theorem e134_8 (hF : pm_fix pt_me pt_Sg (pt_R L0 xs) F) {x1 : Int32} {x2 : Int32} {s0 : Int32} : F 134 8 [some (.ref 0), some (.int x1), some (.int x2)] [.int s0] (49, pt_G, I, L) =
    if s0 = 0 then
      some (some (.int (-1)), (49, pt_G, I, L))
    else
      if x2 < 0 then
        some (some (.int (-1)), (49, pt_G, I, L))
      else
        if x2 ≤ 1 then
          pm_k (F 305 0 [some (.ref 30), some (.int x1), none, none, none, none] [] (49, pt_G, I, L)) (fun v S => F 134 30 [some (.ref 0), some (.int x1), some (.int x2)] (v.toList ++ []) S)
        else
          some (some (.int (-1)), (49, pt_G, I, L)) := pm_blk_to hF (pm_stp 134 [0, 8, 30, 37, 55]) 35 rfl
set_option maxRecDepth 20000 in
theorem e134_30 (hF : pm_fix pt_me pt_Sg (pt_R L0 xs) F) {x1 : Int32} {x2 : Int32} : F 134 30 [some (.ref 0), some (.int x1), some (.int x2)] [] (49, pt_G, I, L) =
    pm_k (F 304 0 [some (.ref 30), none] [] (49, pt_G, I, L)) (fun v S => F 134 37 [some (.ref 0), some (.int x1), some (.int x2)] (v.toList ++ []) S) := pm_blk_to hF (pm_stp 134 [0, 8, 30, 37, 55]) 35 rfl
set_option maxRecDepth 20000 in
theorem e134_37 (hF : pm_fix pt_me pt_Sg (pt_R L0 xs) F) {x1 : Int32} {x2 : Int32} : F 134 37 [some (.ref 0), some (.int x1), some (.int x2)] [] (49, pt_G, I, L) =
    if x2 = 1 then
      pm_k (F 319 0 [some (.ref 30), some (.int x1), some (.int 1), none, none, none] [] (49, pt_G, I, L)) (fun v S => F 134 55 [some (.ref 0), some (.int x1), some (.int x2)] (v.toList ++ []) S)
    else
      pm_k (F 319 0 [some (.ref 30), some (.int x1), some (.int 0), none, none, none] [] (49, pt_G, I, L)) (fun v S => F 134 55 [some (.ref 0), some (.int x1), some (.int x2)] (v.toList ++ []) S) := pm_blk_to hF (pm_stp 134 [0, 8, 30, 37, 55]) 35 rfl
set_option maxRecDepth 20000 in
theorem e134_55 (hF : pm_fix pt_me pt_Sg (pt_R L0 xs) F) {x1 : Int32} {x2 : Int32} {s0 : Int32} : F 134 55 [some (.ref 0), some (.int x1), some (.int x2)] [.int s0] (49, pt_G, I, L) =
    some (some (.int s0), (49, pt_G, I, L)) := pm_blk_to hF (pm_stp 134 [0, 8, 30, 37, 55]) 35 rfl
-- TurnCabinet.formed(I)I 0
set_option maxRecDepth 20000 in
theorem e135_0 (hF : pm_fix pt_me pt_Sg (pt_R L0 xs) F) {x1 : Int32} : F 135 0 [some (.ref 0), some (.int x1)] [] (49, pt_G, I, L) =
    if (I 3 0) = 0 then
      some (some (.int (-1)), (49, pt_G, I, L))
    else
      pm_k (F 304 0 [some (.ref 30), none] [] (49, pt_G, I, L)) (fun v S => F 135 19 [some (.ref 0), some (.int x1)] (v.toList ++ []) S) := pm_blk_to hF (pm_stp 135 [0, 19, 26, 96]) 42 rfl
set_option maxRecDepth 20000 in
theorem e135_19 (hF : pm_fix pt_me pt_Sg (pt_R L0 xs) F) {x1 : Int32} : F 135 19 [some (.ref 0), some (.int x1)] [] (49, pt_G, I, L) =
    pm_k (F 402 0 [some (.ref 41), none] [] (49, pt_G, I, L)) (fun v S => F 135 26 [some (.ref 0), some (.int x1)] (v.toList ++ []) S) := pm_blk_to hF (pm_stp 135 [0, 19, 26, 96]) 42 rfl
set_option maxRecDepth 20000 in
theorem e135_26 (hF : pm_fix pt_me pt_Sg (pt_R L0 xs) F) {x1 : Int32} : F 135 26 [some (.ref 0), some (.int x1)] [] (49, pt_G, I, L) =
    if x1 = nI 0 then
      some (some (.int (I 41 6)), (49, pt_G, I, L))
    else
    if x1 = nI 1 then
      some (some (.int (I 41 4)), (49, pt_G, I, L))
    else
    if x1 = nI 2 then
      some (some (.int (I 41 5)), (49, pt_G, I, L))
    else
    if x1 = nI 3 then
      pm_k (F 411 0 [some (.ref 41), some (.int ((I 41 4) - 1))] [] (49, pt_G, I, L)) (fun v S => F 135 96 [some (.ref 0), some (.int x1)] (v.toList ++ []) S)
    else
    some (some (.int (-1)), (49, pt_G, I, L)) := pm_blk_to hF (pm_stp 135 [0, 19, 26, 96]) 42 rfl
set_option maxRecDepth 20000 in
theorem e135_96 (hF : pm_fix pt_me pt_Sg (pt_R L0 xs) F) {x1 : Int32} {s0 : Int32} : F 135 96 [some (.ref 0), some (.int x1)] [.int s0] (49, pt_G, I, L) =
    some (some (.int s0), (49, pt_G, I, L)) := pm_blk_to hF (pm_stp 135 [0, 19, 26, 96]) 42 rfl
-- TurnCabinet.tried(II)I 0
set_option maxRecDepth 20000 in
theorem e136_0 (hF : pm_fix pt_me pt_Sg (pt_R L0 xs) F) {x1 : Int32} {x2 : Int32} : F 136 0 [some (.ref 0), some (.int x1), some (.int x2)] [] (49, pt_G, I, L) =
    pm_k (F 304 0 [some (.ref 30), none] [] (49, pt_G, I, L)) (fun v S => F 136 7 [some (.ref 0), some (.int x1), some (.int x2)] (v.toList ++ []) S) := pm_blk_to hF (pm_stp 136 [0, 7, 14, 48, 57, 66]) 30 rfl
set_option maxRecDepth 20000 in
theorem e136_7 (hF : pm_fix pt_me pt_Sg (pt_R L0 xs) F) {x1 : Int32} {x2 : Int32} : F 136 7 [some (.ref 0), some (.int x1), some (.int x2)] [] (49, pt_G, I, L) =
    pm_k (F 402 0 [some (.ref 41), none] [] (49, pt_G, I, L)) (fun v S => F 136 14 [some (.ref 0), some (.int x1), some (.int x2)] (v.toList ++ []) S) := pm_blk_to hF (pm_stp 136 [0, 7, 14, 48, 57, 66]) 30 rfl
set_option maxRecDepth 20000 in
theorem e136_14 (hF : pm_fix pt_me pt_Sg (pt_R L0 xs) F) {x1 : Int32} {x2 : Int32} : F 136 14 [some (.ref 0), some (.int x1), some (.int x2)] [] (49, pt_G, I, L) =
    if x2 = nI 0 then
      pm_k (F 411 0 [some (.ref 41), some (.int x1)] [] (49, pt_G, I, L)) (fun v S => F 136 48 [some (.ref 0), some (.int x1), some (.int x2)] (v.toList ++ []) S)
    else
    if x2 = nI 1 then
      pm_k (F 412 0 [some (.ref 41), some (.int x1)] [] (49, pt_G, I, L)) (fun v S => F 136 57 [some (.ref 0), some (.int x1), some (.int x2)] (v.toList ++ []) S)
    else
    if x2 = nI 2 then
      pm_k (F 413 0 [some (.ref 41), some (.int x1)] [] (49, pt_G, I, L)) (fun v S => F 136 66 [some (.ref 0), some (.int x1), some (.int x2)] (v.toList ++ []) S)
    else
    some (some (.int (-1)), (49, pt_G, I, L)) := pm_blk_to hF (pm_stp 136 [0, 7, 14, 48, 57, 66]) 30 rfl
set_option maxRecDepth 20000 in
theorem e136_48 (hF : pm_fix pt_me pt_Sg (pt_R L0 xs) F) {x1 : Int32} {x2 : Int32} {s0 : Int32} : F 136 48 [some (.ref 0), some (.int x1), some (.int x2)] [.int s0] (49, pt_G, I, L) =
    some (some (.int s0), (49, pt_G, I, L)) := pm_blk_to hF (pm_stp 136 [0, 7, 14, 48, 57, 66]) 30 rfl
set_option maxRecDepth 20000 in
theorem e136_57 (hF : pm_fix pt_me pt_Sg (pt_R L0 xs) F) {x1 : Int32} {x2 : Int32} {s0 : Int32} : F 136 57 [some (.ref 0), some (.int x1), some (.int x2)] [.int s0] (49, pt_G, I, L) =
    some (some (.int s0), (49, pt_G, I, L)) := pm_blk_to hF (pm_stp 136 [0, 7, 14, 48, 57, 66]) 30 rfl
set_option maxRecDepth 20000 in
theorem e136_66 (hF : pm_fix pt_me pt_Sg (pt_R L0 xs) F) {x1 : Int32} {x2 : Int32} {s0 : Int32} : F 136 66 [some (.ref 0), some (.int x1), some (.int x2)] [.int s0] (49, pt_G, I, L) =
    some (some (.int s0), (49, pt_G, I, L)) := pm_blk_to hF (pm_stp 136 [0, 7, 14, 48, 57, 66]) 30 rfl
-- TurnCabinet.hold(II)I 0
set_option maxRecDepth 20000 in
theorem e137_0 (hF : pm_fix pt_me pt_Sg (pt_R L0 xs) F) {x1 : Int32} {x2 : Int32} : F 137 0 [some (.ref 0), some (.int x1), some (.int x2)] [] (49, pt_G, I, L) =
    pm_k (F 506 0 [some (.ref 3), some (.int x1)] [] (49, pt_G, I, L)) (fun v S => F 137 8 [some (.ref 0), some (.int x1), some (.int x2)] (v.toList ++ []) S) := pm_blk_to hF (pm_stp 137 [0, 8, 15, 34, 37]) 25 rfl
set_option maxRecDepth 20000 in
theorem e137_8 (hF : pm_fix pt_me pt_Sg (pt_R L0 xs) F) {x1 : Int32} {x2 : Int32} {s0 : Int32} : F 137 8 [some (.ref 0), some (.int x1), some (.int x2)] [.int s0] (49, pt_G, I, L) =
    if s0 = 0 then
      some (some (.int (-1)), (49, pt_G, I, L))
    else
      pm_k (F 149 0 [some (.int x2)] [] (49, pt_G, I, L)) (fun v S => F 137 15 [some (.ref 0), some (.int x1), some (.int x2)] (v.toList ++ []) S) := pm_blk_to hF (pm_stp 137 [0, 8, 15, 34, 37]) 25 rfl
set_option maxRecDepth 20000 in
theorem e137_15 (hF : pm_fix pt_me pt_Sg (pt_R L0 xs) F) {x1 : Int32} {x2 : Int32} {s0 : Int32} : F 137 15 [some (.ref 0), some (.int x1), some (.int x2)] [.int s0] (49, pt_G, I, L) =
    if s0 = 0 then
      some (some (.int (-1)), (49, pt_G, I, L))
    else
      pm_k (F 307 0 [some (.ref 30), some (.int x1), some (.int x2), none] [] (49, pt_G, I, L)) (fun v S => F 137 34 [some (.ref 0), some (.int x1), some (.int x2)] (v.toList ++ [.int x1, .ref 44]) S) := pm_blk_to hF (pm_stp 137 [0, 8, 15, 34, 37]) 25 rfl
set_option maxRecDepth 20000 in
theorem e137_34 (hF : pm_fix pt_me pt_Sg (pt_R L0 xs) F) {x1 : Int32} {x2 : Int32} {s0 : Int32} {s1 : Int32} : F 137 34 [some (.ref 0), some (.int x1), some (.int x2)] [.int s0, .int s1, .ref 44] (49, pt_G, I, L) =
    pm_k (F 208 0 [some (.ref 44), some (.int s1), some (.int s0), none, none] [] (49, pt_G, I, L)) (fun v S => F 137 37 [some (.ref 0), some (.int x1), some (.int x2)] (v.toList ++ []) S) := pm_blk_to hF (pm_stp 137 [0, 8, 15, 34, 37]) 25 rfl
set_option maxRecDepth 20000 in
theorem e137_37 (hF : pm_fix pt_me pt_Sg (pt_R L0 xs) F) {x1 : Int32} {x2 : Int32} {s0 : Int32} : F 137 37 [some (.ref 0), some (.int x1), some (.int x2)] [.int s0] (49, pt_G, I, L) =
    some (some (.int s0), (49, pt_G, I, L)) := pm_blk_to hF (pm_stp 137 [0, 8, 15, 34, 37]) 25 rfl
-- TurnCabinet.now(I)I 0
set_option maxRecDepth 20000 in
theorem e138_0 (hF : pm_fix pt_me pt_Sg (pt_R L0 xs) F) {x1 : Int32} : F 138 0 [some (.ref 0), some (.int x1)] [] (49, pt_G, I, L) =
    if x1 = (-1) then
      F 138 23 [some (.ref 0), some (.int x1)] [.int (I 44 5)] (49, pt_G, I, L)
    else
      pm_k (F 204 0 [some (.ref 44), some (.int x1)] [] (49, pt_G, I, L)) (fun v S => F 138 23 [some (.ref 0), some (.int x1)] (v.toList ++ []) S) := pm_blk_to hF (pm_stp 138 [0, 23]) 17 rfl
set_option maxRecDepth 20000 in
theorem e138_23 (hF : pm_fix pt_me pt_Sg (pt_R L0 xs) F) {x1 : Int32} {s0 : Int32} : F 138 23 [some (.ref 0), some (.int x1)] [.int s0] (49, pt_G, I, L) =
    some (some (.int s0), (49, pt_G, I, L)) := pm_blk_to hF (pm_stp 138 [0, 23]) 17 rfl
-- TurnCabinet.leave(I)I 0
set_option maxRecDepth 20000 in
theorem e139_0 (hF : pm_fix pt_me pt_Sg (pt_R L0 xs) F) {x1 : Int32} : F 139 0 [some (.ref 0), some (.int x1)] [] (49, pt_G, I, L) =
    pm_k (F 203 0 [some (.ref 44), some (.int x1)] [] (49, pt_G, I, L)) (fun v S => F 139 8 [some (.ref 0), some (.int x1)] (v.toList ++ []) S) := pm_blk_to hF (pm_stp 139 [0, 8, 21, 29]) 21 rfl
set_option maxRecDepth 20000 in
theorem e139_8 (hF : pm_fix pt_me pt_Sg (pt_R L0 xs) F) {x1 : Int32} {s0 : Int32} : F 139 8 [some (.ref 0), some (.int x1)] [.int s0] (49, pt_G, I, L) =
    if s0 = 0 then
      some (some (.int (-1)), (49, pt_G, I, L))
    else
      pm_k (F 214 0 [some (.ref 44), some (.int (-1)), none] [] (49, pt_G, I, L)) (fun v S => F 139 21 [some (.ref 0), some (.int x1)] (v.toList ++ []) S) := pm_blk_to hF (pm_stp 139 [0, 8, 21, 29]) 21 rfl
set_option maxRecDepth 20000 in
theorem e139_21 (hF : pm_fix pt_me pt_Sg (pt_R L0 xs) F) {x1 : Int32} : F 139 21 [some (.ref 0), some (.int x1)] [] (49, pt_G, I, L) =
    pm_k (F 212 0 [some (.ref 44), some (.int x1), none, none, none, none, none] [] (49, pt_G, I, L)) (fun v S => F 139 29 [some (.ref 0), some (.int x1)] (v.toList ++ []) S) := pm_blk_to hF (pm_stp 139 [0, 8, 21, 29]) 21 rfl
set_option maxRecDepth 20000 in
theorem e139_29 (hF : pm_fix pt_me pt_Sg (pt_R L0 xs) F) {x1 : Int32} {s0 : Int32} : F 139 29 [some (.ref 0), some (.int x1)] [.int s0] (49, pt_G, I, L) =
    some (some (.int s0), (49, pt_G, I, L)) := pm_blk_to hF (pm_stp 139 [0, 8, 21, 29]) 21 rfl
-- TurnCabinet.crisis()I 0
set_option maxRecDepth 20000 in
theorem e141_0 (hF : pm_fix pt_me pt_Sg (pt_R L0 xs) F) : F 141 0 [some (.ref 0)] [] (49, pt_G, I, L) =
    pm_k (F 210 0 [some (.ref 44), none, none, none] [] (49, pt_G, I, L)) (fun v S => F 141 7 [some (.ref 0)] (v.toList ++ []) S) := pm_blk_to hF (pm_stp 141 [0, 7]) 9 rfl
set_option maxRecDepth 20000 in
theorem e141_7 (hF : pm_fix pt_me pt_Sg (pt_R L0 xs) F) {s0 : Int32} : F 141 7 [some (.ref 0)] [.int s0] (49, pt_G, I, L) =
    some (some (.int s0), (49, pt_G, I, L)) := pm_blk_to hF (pm_stp 141 [0, 7]) 9 rfl
-- TurnCabinet.trade(II)I 0
set_option maxRecDepth 20000 in
theorem e142_0 (hF : pm_fix pt_me pt_Sg (pt_R L0 xs) F) {x1 : Int32} {x2 : Int32} : F 142 0 [some (.ref 0), some (.int x1), some (.int x2), none, none] [] (49, pt_G, I, L) =
    pm_k (F 204 0 [some (.ref 44), some (.int x1)] [] (49, pt_G, I, L)) (fun v S => F 142 8 [some (.ref 0), some (.int x1), some (.int x2), none, none] (v.toList ++ []) S) := pm_blk_to hF (pm_stp 142 [0, 8, 17, 48]) 32 rfl
set_option maxRecDepth 20000 in
theorem e142_8 (hF : pm_fix pt_me pt_Sg (pt_R L0 xs) F) {x1 : Int32} {x2 : Int32} {s0 : Int32} : F 142 8 [some (.ref 0), some (.int x1), some (.int x2), none, none] [.int s0] (49, pt_G, I, L) =
    pm_k (F 204 0 [some (.ref 44), some (.int x2)] [] (49, pt_G, I, L)) (fun v S => F 142 17 [some (.ref 0), some (.int x1), some (.int x2), some (.int s0), none] (v.toList ++ []) S) := pm_blk_to hF (pm_stp 142 [0, 8, 17, 48]) 32 rfl
set_option maxRecDepth 20000 in
theorem e142_17 (hF : pm_fix pt_me pt_Sg (pt_R L0 xs) F) {x1 : Int32} {x2 : Int32} {x3 : Int32} {s0 : Int32} : F 142 17 [some (.ref 0), some (.int x1), some (.int x2), some (.int x3), none] [.int s0] (49, pt_G, I, L) =
    if x3 = (-1) then
      some (some (.int (-1000000)), (49, pt_G, I, L))
    else
      if s0 = (-1) then
        some (some (.int (-1000000)), (49, pt_G, I, L))
      else
        if x3 = s0 then
          some (some (.int (-1000000)), (49, pt_G, I, L))
        else
          pm_k (F 209 0 [some (.ref 44), some (.int x1), some (.int x2), none] [] (49, pt_G, I, L)) (fun v S => F 142 48 [some (.ref 0), some (.int x1), some (.int x2), some (.int x3), some (.int s0)] (v.toList ++ []) S) := pm_blk_to hF (pm_stp 142 [0, 8, 17, 48]) 32 rfl
set_option maxRecDepth 20000 in
theorem e142_48 (hF : pm_fix pt_me pt_Sg (pt_R L0 xs) F) {x1 : Int32} {x2 : Int32} {x3 : Int32} {x4 : Int32} {s0 : Int32} : F 142 48 [some (.ref 0), some (.int x1), some (.int x2), some (.int x3), some (.int x4)] [.int s0] (49, pt_G, I, L) =
    some (some (.int s0), (49, pt_G, I, L)) := pm_blk_to hF (pm_stp 142 [0, 8, 17, 48]) 32 rfl
-- TurnCabinet.seats(II)I 0
set_option maxRecDepth 20000 in
theorem e143_0 (hF : pm_fix pt_me pt_Sg (pt_R L0 xs) F) {x1 : Int32} {x2 : Int32} : F 143 0 [some (.ref 0), some (.int x1), some (.int x2), none] [] (49, pt_G, I, L) =
    pm_k (F 504 0 [some (.ref 3), some (.int x1)] [] (49, pt_G, I, L)) (fun v S => F 143 8 [some (.ref 0), some (.int x1), some (.int x2), none] (v.toList ++ []) S) := pm_blk_to hF (pm_stp 143 [0, 8, 33, 49, 58]) 39 rfl
set_option maxRecDepth 20000 in
theorem e143_8 (hF : pm_fix pt_me pt_Sg (pt_R L0 xs) F) {x1 : Int32} {x2 : Int32} {s0 : Int32} : F 143 8 [some (.ref 0), some (.int x1), some (.int x2), none] [.int s0] (49, pt_G, I, L) =
    if s0 = 0 then
      some (some (.int (-1)), (49, pt_G, I, L))
    else
      if x2 < 1 then
        some (some (.int (-1)), (49, pt_G, I, L))
      else
        if x2 ≤ 999 then
          pm_k (F 508 0 [some (.ref 3), some (.int x1)] [] (49, pt_G, I, L)) (fun v S => F 143 33 [some (.ref 0), some (.int x1), some (.int x2), none] (v.toList ++ []) S)
        else
          some (some (.int (-1)), (49, pt_G, I, L)) := pm_blk_to hF (pm_stp 143 [0, 8, 33, 49, 58]) 39 rfl
set_option maxRecDepth 20000 in
theorem e143_33 (hF : pm_fix pt_me pt_Sg (pt_R L0 xs) F) {x1 : Int32} {x2 : Int32} {s0 : Int32} : F 143 33 [some (.ref 0), some (.int x1), some (.int x2), none] [.int s0] (49, pt_G, I, L) =
    if s0 = x2 then
      some (some (.int (-1)), (49, pt_G, I, L))
    else
      pm_k (F 214 0 [some (.ref 44), some (.int x1), none] [] (49, pt_G, I, L)) (fun v S => F 143 49 [some (.ref 0), some (.int x1), some (.int x2), some (.int s0)] (v.toList ++ []) S) := pm_blk_to hF (pm_stp 143 [0, 8, 33, 49, 58]) 39 rfl
set_option maxRecDepth 20000 in
theorem e143_49 (hF : pm_fix pt_me pt_Sg (pt_R L0 xs) F) {x1 : Int32} {x2 : Int32} {x3 : Int32} : F 143 49 [some (.ref 0), some (.int x1), some (.int x2), some (.int x3)] [] (49, pt_G, I, L) =
    pm_k (F 514 0 [some (.ref 3), some (.int x1), some (.int x2)] [] (49, pt_G, I, L)) (fun v S => F 143 58 [some (.ref 0), some (.int x1), some (.int x2), some (.int x3)] (v.toList ++ []) S) := pm_blk_to hF (pm_stp 143 [0, 8, 33, 49, 58]) 39 rfl
set_option maxRecDepth 20000 in
theorem e143_58 (hF : pm_fix pt_me pt_Sg (pt_R L0 xs) F) {x1 : Int32} {x2 : Int32} {x3 : Int32} : F 143 58 [some (.ref 0), some (.int x1), some (.int x2), some (.int x3)] [] (49, pt_G, I, L) =
    some (some (.int x3), (49, pt_G, I, L)) := pm_blk_to hF (pm_stp 143 [0, 8, 33, 49, 58]) 39 rfl
-- TurnCabinet.undo()I 0
set_option maxRecDepth 20000 in
theorem e145_0 (hF : pm_fix pt_me pt_Sg (pt_R L0 xs) F) : F 145 0 [some (.ref 0)] [] (49, pt_G, I, L) =
    if (I 44 7) ≤ 0 then
      some (some (.int (-1)), (49, pt_G, I, L))
    else
      pm_k (F 216 0 [some (.ref 44), none] [] (49, pt_G, I, L)) (fun v S => F 145 17 [some (.ref 0)] (v.toList ++ []) S) := pm_blk_to hF (pm_stp 145 [0, 17]) 15 rfl
set_option maxRecDepth 20000 in
theorem e145_17 (hF : pm_fix pt_me pt_Sg (pt_R L0 xs) F) {s0 : Int32} : F 145 17 [some (.ref 0)] [.int s0] (49, pt_G, I, L) =
    some (some (.int s0), (49, pt_G, I, L)) := pm_blk_to hF (pm_stp 145 [0, 17]) 15 rfl
-- TurnCabinet.judge(II)I 0
set_option maxRecDepth 20000 in
theorem e146_0 (hF : pm_fix pt_me pt_Sg (pt_R L0 xs) F) {x1 : Int32} {x2 : Int32} : F 146 0 [some (.ref 0), some (.int x1), some (.int x2), none] [] (49, pt_G, I, L) =
    pm_k (F 506 0 [some (.ref 3), some (.int x1)] [] (49, pt_G, I, L)) (fun v S => F 146 8 [some (.ref 0), some (.int x1), some (.int x2), none] (v.toList ++ []) S) := pm_blk_to hF (pm_stp 146 [0, 8, 27, 36, 80, 89, 98, 106, 114]) 57 rfl
set_option maxRecDepth 20000 in
theorem e146_8 (hF : pm_fix pt_me pt_Sg (pt_R L0 xs) F) {x1 : Int32} {x2 : Int32} {s0 : Int32} : F 146 8 [some (.ref 0), some (.int x1), some (.int x2), none] [.int s0] (49, pt_G, I, L) =
    if s0 = 0 then
      some (some (.int (-1)), (49, pt_G, I, L))
    else
      if x2 < 0 then
        some (some (.int (-1)), (49, pt_G, I, L))
      else
        if x2 ≤ 3 then
          pm_k (F 147 0 [some (.ref 0), some (.int x1), none, none, none] [] (49, pt_G, I, L)) (fun v S => F 146 27 [some (.ref 0), some (.int x1), some (.int x2), none] (v.toList ++ []) S)
        else
          some (some (.int (-1)), (49, pt_G, I, L)) := pm_blk_to hF (pm_stp 146 [0, 8, 27, 36, 80, 89, 98, 106, 114]) 57 rfl
set_option maxRecDepth 20000 in
theorem e146_27 (hF : pm_fix pt_me pt_Sg (pt_R L0 xs) F) {x1 : Int32} {x2 : Int32} {s0 : Int32} : F 146 27 [some (.ref 0), some (.int x1), some (.int x2), none] [.int s0] (49, pt_G, I, L) =
    pm_k (F 1005 0 [some (.ref 1), some (.int 0)] [] (49, pt_G, I, L)) (fun v S => F 146 36 [some (.ref 0), some (.int x1), some (.int x2), some (.int s0)] (v.toList ++ []) S) := pm_blk_to hF (pm_stp 146 [0, 8, 27, 36, 80, 89, 98, 106, 114]) 57 rfl
set_option maxRecDepth 20000 in
theorem e146_36 (hF : pm_fix pt_me pt_Sg (pt_R L0 xs) F) {x1 : Int32} {x2 : Int32} {x3 : Int32} : F 146 36 [some (.ref 0), some (.int x1), some (.int x2), some (.int x3)] [] (49, pt_G, I, L) =
    if x3 = (-1) then
      some (some (.int (-2)), (49, pt_G, I, L))
    else
      if x2 = nI 0 then
        pm_k (F 613 0 [some (.ref 23), some (.int x3), none, none, none] [] (49, pt_G, I, L)) (fun v S => F 146 80 [some (.ref 0), some (.int x1), some (.int x2), some (.int x3)] (v.toList ++ []) S)
      else
      if x2 = nI 1 then
        pm_k (F 522 0 [some (.ref 3), some (.int x3), none, none] [] (49, pt_G, I, L)) (fun v S => F 146 89 [some (.ref 0), some (.int x1), some (.int x2), some (.int x3)] (v.toList ++ []) S)
      else
      if x2 = nI 2 then
        pm_k (F 523 0 [some (.ref 3), some (.int x1), none, none, none, none] [] (49, pt_G, I, L)) (fun v S => F 146 98 [some (.ref 0), some (.int x1), some (.int x2), some (.int x3)] (v.toList ++ []) S)
      else
      pm_k (F 148 0 [some (.ref 0), some (.int x1), some (.int x3), none, none, none, none, none] [] (49, pt_G, I, L)) (fun v S => F 146 114 [some (.ref 0), some (.int x1), some (.int x2), some (.int x3)] (v.toList ++ []) S) := pm_blk_to hF (pm_stp 146 [0, 8, 27, 36, 80, 89, 98, 106, 114]) 57 rfl
set_option maxRecDepth 20000 in
theorem e146_80 (hF : pm_fix pt_me pt_Sg (pt_R L0 xs) F) {x1 : Int32} {x2 : Int32} {x3 : Int32} {s0 : Int32} : F 146 80 [some (.ref 0), some (.int x1), some (.int x2), some (.int x3)] [.int s0] (49, pt_G, I, L) =
    some (some (.int s0), (49, pt_G, I, L)) := pm_blk_to hF (pm_stp 146 [0, 8, 27, 36, 80, 89, 98, 106, 114]) 57 rfl
set_option maxRecDepth 20000 in
theorem e146_89 (hF : pm_fix pt_me pt_Sg (pt_R L0 xs) F) {x1 : Int32} {x2 : Int32} {x3 : Int32} {s0 : Int32} : F 146 89 [some (.ref 0), some (.int x1), some (.int x2), some (.int x3)] [.int s0] (49, pt_G, I, L) =
    some (some (.int s0), (49, pt_G, I, L)) := pm_blk_to hF (pm_stp 146 [0, 8, 27, 36, 80, 89, 98, 106, 114]) 57 rfl
set_option maxRecDepth 20000 in
theorem e146_98 (hF : pm_fix pt_me pt_Sg (pt_R L0 xs) F) {x1 : Int32} {x2 : Int32} {x3 : Int32} {s0 : Int32} : F 146 98 [some (.ref 0), some (.int x1), some (.int x2), some (.int x3)] [.int s0] (49, pt_G, I, L) =
    pm_k (F 522 0 [some (.ref 3), some (.int x3), none, none] [] (49, pt_G, I, L)) (fun v S => F 146 106 [some (.ref 0), some (.int x1), some (.int x2), some (.int x3)] (v.toList ++ [.int s0]) S) := pm_blk_to hF (pm_stp 146 [0, 8, 27, 36, 80, 89, 98, 106, 114]) 57 rfl
set_option maxRecDepth 20000 in
theorem e146_106 (hF : pm_fix pt_me pt_Sg (pt_R L0 xs) F) {x1 : Int32} {x2 : Int32} {x3 : Int32} {s0 : Int32} {s1 : Int32} : F 146 106 [some (.ref 0), some (.int x1), some (.int x2), some (.int x3)] [.int s0, .int s1] (49, pt_G, I, L) =
    some (some (.int (s1 - s0)), (49, pt_G, I, L)) := pm_blk_to hF (pm_stp 146 [0, 8, 27, 36, 80, 89, 98, 106, 114]) 57 rfl
set_option maxRecDepth 20000 in
theorem e146_114 (hF : pm_fix pt_me pt_Sg (pt_R L0 xs) F) {x1 : Int32} {x2 : Int32} {x3 : Int32} {s0 : Int32} : F 146 114 [some (.ref 0), some (.int x1), some (.int x2), some (.int x3)] [.int s0] (49, pt_G, I, L) =
    some (some (.int s0), (49, pt_G, I, L)) := pm_blk_to hF (pm_stp 146 [0, 8, 27, 36, 80, 89, 98, 106, 114]) 57 rfl
-- TurnCabinet.toldCabinet(I)I 0
set_option maxRecDepth 20000 in
theorem e147_0 (hF : pm_fix pt_me pt_Sg (pt_R L0 xs) F) {x1 : Int32} : F 147 0 [some (.ref 0), some (.int x1), none, none, none] [] (49, pt_G, I, L) =
    pm_k (F 1002 0 [some (.ref 1)] [] (49, pt_G, I, L)) (fun v S => F 147 7 [some (.ref 0), some (.int x1), none, none, none] (v.toList ++ []) S) := pm_blk_to hF (pm_stp 147 [0, 7, 23, 42, 53, 62, 74]) 48 rfl
set_option maxRecDepth 20000 in
theorem e147_7 (hF : pm_fix pt_me pt_Sg (pt_R L0 xs) F) {x1 : Int32} {s0 : Int32} : F 147 7 [some (.ref 0), some (.int x1), none, none, none] [.int s0] (49, pt_G, I, L) =
    if s0 = (I 3 1) then
      F 147 23 [some (.ref 0), some (.int x1), some (.int 0), some (.int 0), none] [] (49, pt_G, I, L)
    else
      some (some (.int (-1)), (49, pt_G, I, L)) := pm_blk_to hF (pm_stp 147 [0, 7, 23, 42, 53, 62, 74]) 48 rfl
set_option maxRecDepth 20000 in
theorem e147_23 (hF : pm_fix pt_me pt_Sg (pt_R L0 xs) F) {x1 : Int32} {x2 : Int32} {x3 : Int32} : F 147 23 [some (.ref 0), some (.int x1), some (.int x2), some (.int x3), none] [] (49, pt_G, I, L) =
    if x3 < (I 3 1) then
      pm_k (F 1003 0 [some (.ref 1), some (.int x3)] [] (49, pt_G, I, L)) (fun v S => F 147 42 [some (.ref 0), some (.int x1), some (.int x2), some (.int x3), none] (v.toList ++ []) S)
    else
      some (some (.int x2), (49, pt_G, I, L)) := pm_blk_to hF (pm_stp 147 [0, 7, 23, 42, 53, 62, 74]) 48 rfl
set_option maxRecDepth 20000 in
theorem e147_42 (hF : pm_fix pt_me pt_Sg (pt_R L0 xs) F) {x1 : Int32} {x2 : Int32} {x3 : Int32} {s0 : Int32} : F 147 42 [some (.ref 0), some (.int x1), some (.int x2), some (.int x3), none] [.int s0] (49, pt_G, I, L) =
    pm_k (F 504 0 [some (.ref 3), some (.int s0)] [] (49, pt_G, I, L)) (fun v S => F 147 53 [some (.ref 0), some (.int x1), some (.int x2), some (.int x3), some (.int s0)] (v.toList ++ []) S) := pm_blk_to hF (pm_stp 147 [0, 7, 23, 42, 53, 62, 74]) 48 rfl
set_option maxRecDepth 20000 in
theorem e147_53 (hF : pm_fix pt_me pt_Sg (pt_R L0 xs) F) {x1 : Int32} {x2 : Int32} {x3 : Int32} {x4 : Int32} {s0 : Int32} : F 147 53 [some (.ref 0), some (.int x1), some (.int x2), some (.int x3), some (.int x4)] [.int s0] (49, pt_G, I, L) =
    if s0 = 0 then
      some (some (.int (-1)), (49, pt_G, I, L))
    else
      pm_k (F 151 0 [some (.int x4), some (.int x1)] [] (49, pt_G, I, L)) (fun v S => F 147 62 [some (.ref 0), some (.int x1), some (.int x2), some (.int x3), some (.int x4)] (v.toList ++ []) S) := pm_blk_to hF (pm_stp 147 [0, 7, 23, 42, 53, 62, 74]) 48 rfl
set_option maxRecDepth 20000 in
theorem e147_62 (hF : pm_fix pt_me pt_Sg (pt_R L0 xs) F) {x1 : Int32} {x2 : Int32} {x3 : Int32} {x4 : Int32} {s0 : Int32} : F 147 62 [some (.ref 0), some (.int x1), some (.int x2), some (.int x3), some (.int x4)] [.int s0] (49, pt_G, I, L) =
    if s0 = 0 then
      some (some (.int (-1)), (49, pt_G, I, L))
    else
      pm_k (F 903 0 [some (.int x2), some (.int x3), some (.int x4), none] [] (49, pt_G, I, L)) (fun v S => F 147 74 [some (.ref 0), some (.int x1), some (.int x2), some (.int x3), some (.int x4)] (v.toList ++ []) S) := pm_blk_to hF (pm_stp 147 [0, 7, 23, 42, 53, 62, 74]) 48 rfl
set_option maxRecDepth 20000 in
theorem e147_74 (hF : pm_fix pt_me pt_Sg (pt_R L0 xs) F) {x1 : Int32} {x2 : Int32} {x3 : Int32} {x4 : Int32} {s0 : Int32} : F 147 74 [some (.ref 0), some (.int x1), some (.int x2), some (.int x3), some (.int x4)] [.int s0] (49, pt_G, I, L) =
    F 147 23 [some (.ref 0), some (.int x1), some (.int s0), some (.int (x3 + 1)), none] [] (49, pt_G, I, L) := pm_blk_to hF (pm_stp 147 [0, 7, 23, 42, 53, 62, 74]) 48 rfl
-- TurnCabinet.countUnkept(II)I 0
set_option maxRecDepth 20000 in
theorem e148_0 (hF : pm_fix pt_me pt_Sg (pt_R L0 xs) F) {x1 : Int32} {x2 : Int32} : F 148 0 [some (.ref 0), some (.int x1), some (.int x2), none, none, none, none, none] [] (49, pt_G, I, L) =
    pm_k (F 602 0 [some (.ref 23), some (.int x1), some (.int (I 3 2)), some (.int (I 3 3)), none, none, none, none] [] (49, pt_G, I, L)) (fun v S => F 148 22 [some (.ref 0), some (.int x1), some (.int x2), none, none, none, none, none] (v.toList ++ []) S) := pm_blk_to hF (pm_stp 148 [0, 22, 34, 47, 55, 74, 81]) 49 rfl
set_option maxRecDepth 20000 in
theorem e148_22 (hF : pm_fix pt_me pt_Sg (pt_R L0 xs) F) {x1 : Int32} {x2 : Int32} {s0 : Int32} : F 148 22 [some (.ref 0), some (.int x1), some (.int x2), none, none, none, none, none] [.int s0] (49, pt_G, I, L) =
    pm_k (F 908 0 [some (.int s0), some (.int (I 3 1)), none, none] [] (49, pt_G, I, L)) (fun v S => F 148 34 [some (.ref 0), some (.int x1), some (.int x2), some (.int s0), none, none, none, none] (v.toList ++ []) S) := pm_blk_to hF (pm_stp 148 [0, 22, 34, 47, 55, 74, 81]) 49 rfl
set_option maxRecDepth 20000 in
theorem e148_34 (hF : pm_fix pt_me pt_Sg (pt_R L0 xs) F) {x1 : Int32} {x2 : Int32} {x3 : Int32} {s0 : Int32} : F 148 34 [some (.ref 0), some (.int x1), some (.int x2), some (.int x3), none, none, none, none] [.int s0] (49, pt_G, I, L) =
    pm_k (F 908 0 [some (.int x2), some (.int (I 3 1)), none, none] [] (49, pt_G, I, L)) (fun v S => F 148 47 [some (.ref 0), some (.int x1), some (.int x2), some (.int x3), some (.int s0), none, none, none] (v.toList ++ []) S) := pm_blk_to hF (pm_stp 148 [0, 22, 34, 47, 55, 74, 81]) 49 rfl
set_option maxRecDepth 20000 in
theorem e148_47 (hF : pm_fix pt_me pt_Sg (pt_R L0 xs) F) {x1 : Int32} {x2 : Int32} {x3 : Int32} {x4 : Int32} {s0 : Int32} : F 148 47 [some (.ref 0), some (.int x1), some (.int x2), some (.int x3), some (.int x4), none, none, none] [.int s0] (49, pt_G, I, L) =
    F 148 55 [some (.ref 0), some (.int x1), some (.int x2), some (.int x3), some (.int x4), some (.int s0), some (.int 0), some (.int 0)] [] (49, pt_G, I, L) := pm_blk_to hF (pm_stp 148 [0, 22, 34, 47, 55, 74, 81]) 49 rfl
set_option maxRecDepth 20000 in
theorem e148_55 (hF : pm_fix pt_me pt_Sg (pt_R L0 xs) F) {x1 : Int32} {x2 : Int32} {x3 : Int32} {x4 : Int32} {x5 : Int32} {x6 : Int32} {x7 : Int32} : F 148 55 [some (.ref 0), some (.int x1), some (.int x2), some (.int x3), some (.int x4), some (.int x5), some (.int x6), some (.int x7)] [] (49, pt_G, I, L) =
    if x7 < (I 3 0) then
      pm_k (F 906 0 [some (.int x4), some (.int x7)] [] (49, pt_G, I, L)) (fun v S => F 148 74 [some (.ref 0), some (.int x1), some (.int x2), some (.int x3), some (.int x4), some (.int x5), some (.int x6), some (.int x7)] (v.toList ++ []) S)
    else
      some (some (.int x6), (49, pt_G, I, L)) := pm_blk_to hF (pm_stp 148 [0, 22, 34, 47, 55, 74, 81]) 49 rfl
set_option maxRecDepth 20000 in
theorem e148_74 (hF : pm_fix pt_me pt_Sg (pt_R L0 xs) F) {x1 : Int32} {x2 : Int32} {x3 : Int32} {x4 : Int32} {x5 : Int32} {x6 : Int32} {x7 : Int32} {s0 : Int32} : F 148 74 [some (.ref 0), some (.int x1), some (.int x2), some (.int x3), some (.int x4), some (.int x5), some (.int x6), some (.int x7)] [.int s0] (49, pt_G, I, L) =
    pm_k (F 906 0 [some (.int x5), some (.int x7)] [] (49, pt_G, I, L)) (fun v S => F 148 81 [some (.ref 0), some (.int x1), some (.int x2), some (.int x3), some (.int x4), some (.int x5), some (.int x6), some (.int x7)] (v.toList ++ [.int s0]) S) := pm_blk_to hF (pm_stp 148 [0, 22, 34, 47, 55, 74, 81]) 49 rfl
set_option maxRecDepth 20000 in
theorem e148_81 (hF : pm_fix pt_me pt_Sg (pt_R L0 xs) F) {x1 : Int32} {x2 : Int32} {x3 : Int32} {x4 : Int32} {x5 : Int32} {x6 : Int32} {x7 : Int32} {s0 : Int32} {s1 : Int32} : F 148 81 [some (.ref 0), some (.int x1), some (.int x2), some (.int x3), some (.int x4), some (.int x5), some (.int x6), some (.int x7)] [.int s0, .int s1] (49, pt_G, I, L) =
    if s1 = s0 then
      F 148 55 [some (.ref 0), some (.int x1), some (.int x2), some (.int x3), some (.int x4), some (.int x5), some (.int x6), some (.int (x7 + 1))] [] (49, pt_G, I, L)
    else
      F 148 55 [some (.ref 0), some (.int x1), some (.int x2), some (.int x3), some (.int x4), some (.int x5), some (.int (x6 + 1)), some (.int (x7 + 1))] [] (49, pt_G, I, L) := pm_blk_to hF (pm_stp 148 [0, 22, 34, 47, 55, 74, 81]) 49 rfl
-- TurnCabinet.isWay(I)Z 
set_option maxRecDepth 20000 in
theorem e149_0 (hF : pm_fix pt_me pt_Sg (pt_R L0 xs) F) {x0 : Int32} : F 149 0 [some (.int x0)] [] (49, pt_G, I, L) =
    if x0 < 0 then
      some (some (.int 0), (49, pt_G, I, L))
    else
      if x0 ≤ 2 then
        some (some (.int 1), (49, pt_G, I, L))
      else
        some (some (.int 0), (49, pt_G, I, L)) := pm_blk_to hF (pm_stp 149 [0]) 14 rfl
-- TurnCabinet.isDivisor(I)Z 
set_option maxRecDepth 20000 in
theorem e150_0 (hF : pm_fix pt_me pt_Sg (pt_R L0 xs) F) {x0 : Int32} : F 150 0 [some (.int x0)] [] (49, pt_G, I, L) =
    if x0 < 1 then
      some (some (.int 0), (49, pt_G, I, L))
    else
      if x0 ≤ 99 then
        some (some (.int 1), (49, pt_G, I, L))
      else
        some (some (.int 0), (49, pt_G, I, L)) := pm_blk_to hF (pm_stp 150 [0]) 15 rfl
-- TurnCabinet.isIn(II)Z 
set_option maxRecDepth 20000 in
theorem e151_0 (hF : pm_fix pt_me pt_Sg (pt_R L0 xs) F) {x0 : Int32} {x1 : Int32} : F 151 0 [some (.int x0), some (.int x1)] [] (49, pt_G, I, L) =
    if ((pm_us x1 x0) &&& 1) = 1 then
      some (some (.int 1), (49, pt_G, I, L))
    else
      some (some (.int 0), (49, pt_G, I, L)) := pm_blk_to hF (pm_stp 151 [0]) 16 rfl
-- TurnCabinet$Cabinet.reset()V 44
set_option maxRecDepth 20000 in
theorem e202_0 (hF : pm_fix pt_me pt_Sg (pt_R L0 xs) F) : F 202 0 [some (.ref 44)] [] (49, pt_G, I, L) =
    some (none, (49, pt_G, (pm_ui (pm_ui (pm_ui I 44 5 0) 44 6 0) 44 7 0), L)) := pm_blk_to hF (pm_stp 202 [0]) 15 rfl
-- TurnCabinet$Cabinet.includes(I)Z 44
set_option maxRecDepth 20000 in
theorem e203_0 (hF : pm_fix pt_me pt_Sg (pt_R L0 xs) F) {x1 : Int32} : F 203 0 [some (.ref 44), some (.int x1)] [] (49, pt_G, I, L) =
    pm_k (F 504 0 [some (.ref 3), some (.int x1)] [] (49, pt_G, I, L)) (fun v S => F 203 8 [some (.ref 44), some (.int x1)] (v.toList ++ []) S) := pm_blk_to hF (pm_stp 203 [0, 8, 19]) 19 rfl
set_option maxRecDepth 20000 in
theorem e203_8 (hF : pm_fix pt_me pt_Sg (pt_R L0 xs) F) {x1 : Int32} {s0 : Int32} : F 203 8 [some (.ref 44), some (.int x1)] [.int s0] (49, pt_G, I, L) =
    if s0 = 0 then
      some (some (.int 0), (49, pt_G, I, L))
    else
      pm_k (F 151 0 [some (.int x1), some (.int (I 44 5))] [] (49, pt_G, I, L)) (fun v S => F 203 19 [some (.ref 44), some (.int x1)] (v.toList ++ []) S) := pm_blk_to hF (pm_stp 203 [0, 8, 19]) 19 rfl
set_option maxRecDepth 20000 in
theorem e203_19 (hF : pm_fix pt_me pt_Sg (pt_R L0 xs) F) {x1 : Int32} {s0 : Int32} : F 203 19 [some (.ref 44), some (.int x1)] [.int s0] (49, pt_G, I, L) =
    if s0 = 0 then
      some (some (.int 0), (49, pt_G, I, L))
    else
      some (some (.int 1), (49, pt_G, I, L)) := pm_blk_to hF (pm_stp 203 [0, 8, 19]) 19 rfl
-- TurnCabinet$Cabinet.holderOf(I)I 44
set_option maxRecDepth 20000 in
theorem e204_0 (hF : pm_fix pt_me pt_Sg (pt_R L0 xs) F) {x1 : Int32} : F 204 0 [some (.ref 44), some (.int x1)] [] (49, pt_G, I, L) =
    if (I 44 5) = 0 then
      some (some (.int (-1)), (49, pt_G, I, L))
    else
      pm_k (F 505 0 [some (.ref 3), some (.int x1)] [] (49, pt_G, I, L)) (fun v S => F 204 15 [some (.ref 44), some (.int x1)] (v.toList ++ []) S) := pm_blk_to hF (pm_stp 204 [0, 15, 26]) 20 rfl
set_option maxRecDepth 20000 in
theorem e204_15 (hF : pm_fix pt_me pt_Sg (pt_R L0 xs) F) {x1 : Int32} {s0 : Int32} : F 204 15 [some (.ref 44), some (.int x1)] [.int s0] (49, pt_G, I, L) =
    if s0 = 0 then
      some (some (.int (-1)), (49, pt_G, I, L))
    else
      pm_k (F 902 0 [some (.int (I 44 6)), some (.int x1)] [] (49, pt_G, I, L)) (fun v S => F 204 26 [some (.ref 44), some (.int x1)] (v.toList ++ []) S) := pm_blk_to hF (pm_stp 204 [0, 15, 26]) 20 rfl
set_option maxRecDepth 20000 in
theorem e204_26 (hF : pm_fix pt_me pt_Sg (pt_R L0 xs) F) {x1 : Int32} {s0 : Int32} : F 204 26 [some (.ref 44), some (.int x1)] [.int s0] (49, pt_G, I, L) =
    some (some (.int s0), (49, pt_G, I, L)) := pm_blk_to hF (pm_stp 204 [0, 15, 26]) 20 rfl
-- TurnCabinet$Cabinet.officesOf(I)I 44
set_option maxRecDepth 20000 in
theorem e205_0 (hF : pm_fix pt_me pt_Sg (pt_R L0 xs) F) {x1 : Int32} : F 205 0 [some (.ref 44), some (.int x1)] [] (49, pt_G, I, L) =
    pm_k (F 206 0 [some (.ref 44), some (.int x1)] [] (49, pt_G, I, L)) (fun v S => F 205 5 [some (.ref 44), some (.int x1)] (v.toList ++ []) S) := pm_blk_to hF (pm_stp 205 [0, 5, 8]) 10 rfl
set_option maxRecDepth 20000 in
theorem e205_5 (hF : pm_fix pt_me pt_Sg (pt_R L0 xs) F) {x1 : Int32} {s0 : Int32} : F 205 5 [some (.ref 44), some (.int x1)] [.int s0] (49, pt_G, I, L) =
    pm_k (F 1508 0 [some (.int s0)] [] (49, pt_G, I, L)) (fun v S => F 205 8 [some (.ref 44), some (.int x1)] (v.toList ++ []) S) := pm_blk_to hF (pm_stp 205 [0, 5, 8]) 10 rfl
set_option maxRecDepth 20000 in
theorem e205_8 (hF : pm_fix pt_me pt_Sg (pt_R L0 xs) F) {x1 : Int32} {s0 : Int32} : F 205 8 [some (.ref 44), some (.int x1)] [.int s0] (49, pt_G, I, L) =
    some (some (.int s0), (49, pt_G, I, L)) := pm_blk_to hF (pm_stp 205 [0, 5, 8]) 10 rfl
-- TurnCabinet$Cabinet.heldBy(I)I 44
set_option maxRecDepth 20000 in
theorem e206_0 (hF : pm_fix pt_me pt_Sg (pt_R L0 xs) F) {x1 : Int32} : F 206 0 [some (.ref 44), some (.int x1)] [] (49, pt_G, I, L) =
    if (I 44 5) = 0 then
      F 206 26 [some (.ref 44), some (.int x1)] [.int 0] (49, pt_G, I, L)
    else
      pm_k (F 905 0 [some (.int (I 44 6)), some (.int (I 3 1)), some (.int x1), none, none] [] (49, pt_G, I, L)) (fun v S => F 206 26 [some (.ref 44), some (.int x1)] (v.toList ++ []) S) := pm_blk_to hF (pm_stp 206 [0, 26]) 18 rfl
set_option maxRecDepth 20000 in
theorem e206_26 (hF : pm_fix pt_me pt_Sg (pt_R L0 xs) F) {x1 : Int32} {s0 : Int32} : F 206 26 [some (.ref 44), some (.int x1)] [.int s0] (49, pt_G, I, L) =
    some (some (.int s0), (49, pt_G, I, L)) := pm_blk_to hF (pm_stp 206 [0, 26]) 18 rfl
-- TurnCabinet$Cabinet.payOf(I)I 44
set_option maxRecDepth 20000 in
theorem e207_0 (hF : pm_fix pt_me pt_Sg (pt_R L0 xs) F) {x1 : Int32} : F 207 0 [some (.ref 44), some (.int x1), none] [] (49, pt_G, I, L) =
    pm_k (F 521 0 [some (.ref 3), some (.int x1), some (.int (I 44 6)), some (.int x1), none, none] [] (49, pt_G, I, L)) (fun v S => F 207 13 [some (.ref 44), some (.int x1), none] (v.toList ++ []) S) := pm_blk_to hF (pm_stp 207 [0, 13, 31, 34]) 24 rfl
set_option maxRecDepth 20000 in
theorem e207_13 (hF : pm_fix pt_me pt_Sg (pt_R L0 xs) F) {x1 : Int32} {s0 : Int32} : F 207 13 [some (.ref 44), some (.int x1), none] [.int s0] (49, pt_G, I, L) =
    pm_k (F 520 0 [some (.ref 3), some (.int (I 44 5)), none, none, none] [] (49, pt_G, I, L)) (fun v S => F 207 31 [some (.ref 44), some (.int x1), some (.int s0)] (v.toList ++ [.int x1, .int s0, .ref 3]) S) := pm_blk_to hF (pm_stp 207 [0, 13, 31, 34]) 24 rfl
set_option maxRecDepth 20000 in
theorem e207_31 (hF : pm_fix pt_me pt_Sg (pt_R L0 xs) F) {x1 : Int32} {x2 : Int32} {s0 : Int32} {s1 : Int32} {s2 : Int32} : F 207 31 [some (.ref 44), some (.int x1), some (.int x2)] [.int s0, .int s1, .int s2, .ref 3] (49, pt_G, I, L) =
    pm_k (F 524 0 [some (.ref 3), some (.int s2), some (.int s1), some (.int s0)] [] (49, pt_G, I, L)) (fun v S => F 207 34 [some (.ref 44), some (.int x1), some (.int x2)] (v.toList ++ []) S) := pm_blk_to hF (pm_stp 207 [0, 13, 31, 34]) 24 rfl
set_option maxRecDepth 20000 in
theorem e207_34 (hF : pm_fix pt_me pt_Sg (pt_R L0 xs) F) {x1 : Int32} {x2 : Int32} {s0 : Int32} : F 207 34 [some (.ref 44), some (.int x1), some (.int x2)] [.int s0] (49, pt_G, I, L) =
    some (some (.int s0), (49, pt_G, I, L)) := pm_blk_to hF (pm_stp 207 [0, 13, 31, 34]) 24 rfl
-- TurnCabinet$Cabinet.install(II)I 44
set_option maxRecDepth 20000 in
theorem e208_0 (hF : pm_fix pt_me pt_Sg (pt_R L0 xs) F) {x1 : Int32} {x2 : Int32} : F 208 0 [some (.ref 44), some (.int x1), some (.int x2), none, none] [] (49, pt_G, I, L) =
    pm_k (F 214 0 [some (.ref 44), some (.int (-1)), none] [] (49, pt_G, I, L)) (fun v S => F 208 5 [some (.ref 44), some (.int x1), some (.int x2), none, none] (v.toList ++ []) S) := pm_blk_to hF (pm_stp 208 [0, 5, 20, 38]) 32 rfl
set_option maxRecDepth 20000 in
theorem e208_5 (hF : pm_fix pt_me pt_Sg (pt_R L0 xs) F) {x1 : Int32} {x2 : Int32} : F 208 5 [some (.ref 44), some (.int x1), some (.int x2), none, none] [] (49, pt_G, I, L) =
    F 208 20 [some (.ref 44), some (.int x1), some (.int x2), some (.int 0), some (.int 0)] [] (49, pt_G, (pm_ui (pm_ui I 44 5 x1) 44 6 x2), L) := pm_blk_to hF (pm_stp 208 [0, 5, 20, 38]) 32 rfl
set_option maxRecDepth 20000 in
theorem e208_20 (hF : pm_fix pt_me pt_Sg (pt_R L0 xs) F) {x1 : Int32} {x2 : Int32} {x3 : Int32} {x4 : Int32} : F 208 20 [some (.ref 44), some (.int x1), some (.int x2), some (.int x3), some (.int x4)] [] (49, pt_G, I, L) =
    if x4 < (I 3 0) then
      pm_k (F 206 0 [some (.ref 44), some (.int x4)] [] (49, pt_G, I, L)) (fun v S => F 208 38 [some (.ref 44), some (.int x1), some (.int x2), some (.int x3), some (.int x4)] (v.toList ++ []) S)
    else
      some (some (.int x3), (49, pt_G, I, L)) := pm_blk_to hF (pm_stp 208 [0, 5, 20, 38]) 32 rfl
set_option maxRecDepth 20000 in
theorem e208_38 (hF : pm_fix pt_me pt_Sg (pt_R L0 xs) F) {x1 : Int32} {x2 : Int32} {x3 : Int32} {x4 : Int32} {s0 : Int32} : F 208 38 [some (.ref 44), some (.int x1), some (.int x2), some (.int x3), some (.int x4)] [.int s0] (49, pt_G, I, L) =
    if s0 = 0 then
      F 208 20 [some (.ref 44), some (.int x1), some (.int x2), some (.int x3), some (.int (x4 + 1))] [] (49, pt_G, I, L)
    else
      F 208 20 [some (.ref 44), some (.int x1), some (.int x2), some (.int (x3 + 1)), some (.int (x4 + 1))] [] (49, pt_G, I, L) := pm_blk_to hF (pm_stp 208 [0, 5, 20, 38]) 32 rfl
-- TurnCabinet$Cabinet.exchange(II)I 44
set_option maxRecDepth 20000 in
theorem e209_0 (hF : pm_fix pt_me pt_Sg (pt_R L0 xs) F) {x1 : Int32} {x2 : Int32} : F 209 0 [some (.ref 44), some (.int x1), some (.int x2), none] [] (49, pt_G, I, L) =
    pm_k (F 522 0 [some (.ref 3), some (.int (I 44 6)), none, none] [] (49, pt_G, I, L)) (fun v S => F 209 11 [some (.ref 44), some (.int x1), some (.int x2), none] (v.toList ++ []) S) := pm_blk_to hF (pm_stp 209 [0, 11, 17, 27, 41]) 29 rfl
set_option maxRecDepth 20000 in
theorem e209_11 (hF : pm_fix pt_me pt_Sg (pt_R L0 xs) F) {x1 : Int32} {x2 : Int32} {s0 : Int32} : F 209 11 [some (.ref 44), some (.int x1), some (.int x2), none] [.int s0] (49, pt_G, I, L) =
    pm_k (F 214 0 [some (.ref 44), some (.int (-1)), none] [] (49, pt_G, I, L)) (fun v S => F 209 17 [some (.ref 44), some (.int x1), some (.int x2), some (.int s0)] (v.toList ++ []) S) := pm_blk_to hF (pm_stp 209 [0, 11, 17, 27, 41]) 29 rfl
set_option maxRecDepth 20000 in
theorem e209_17 (hF : pm_fix pt_me pt_Sg (pt_R L0 xs) F) {x1 : Int32} {x2 : Int32} {x3 : Int32} : F 209 17 [some (.ref 44), some (.int x1), some (.int x2), some (.int x3)] [] (49, pt_G, I, L) =
    pm_k (F 904 0 [some (.int (I 44 6)), some (.int x1), some (.int x2)] [] (49, pt_G, I, L)) (fun v S => F 209 27 [some (.ref 44), some (.int x1), some (.int x2), some (.int x3)] (v.toList ++ [.ref 44]) S) := pm_blk_to hF (pm_stp 209 [0, 11, 17, 27, 41]) 29 rfl
set_option maxRecDepth 20000 in
theorem e209_27 (hF : pm_fix pt_me pt_Sg (pt_R L0 xs) F) {x1 : Int32} {x2 : Int32} {x3 : Int32} {s0 : Int32} : F 209 27 [some (.ref 44), some (.int x1), some (.int x2), some (.int x3)] [.int s0, .ref 44] (49, pt_G, I, L) =
    pm_k (F 522 0 [some (.ref 3), some (.int s0), none, none] [] (49, pt_G, (pm_ui I 44 6 s0), L)) (fun v S => F 209 41 [some (.ref 44), some (.int x1), some (.int x2), some (.int x3)] (v.toList ++ []) S) := pm_blk_to hF (pm_stp 209 [0, 11, 17, 27, 41]) 29 rfl
set_option maxRecDepth 20000 in
theorem e209_41 (hF : pm_fix pt_me pt_Sg (pt_R L0 xs) F) {x1 : Int32} {x2 : Int32} {x3 : Int32} {s0 : Int32} : F 209 41 [some (.ref 44), some (.int x1), some (.int x2), some (.int x3)] [.int s0] (49, pt_G, I, L) =
    some (some (.int (s0 - x3)), (49, pt_G, I, L)) := pm_blk_to hF (pm_stp 209 [0, 11, 17, 27, 41]) 29 rfl
-- TurnCabinet$Cabinet.letUnpaidGo()I 44
set_option maxRecDepth 20000 in
theorem e210_0 (hF : pm_fix pt_me pt_Sg (pt_R L0 xs) F) : F 210 0 [some (.ref 44), none, none, none] [] (49, pt_G, I, L) =
    F 210 4 [some (.ref 44), some (.int 0), some (.int 0), none] [] (49, pt_G, I, L) := pm_blk_to hF (pm_stp 210 [0, 4, 14, 31, 36]) 34 rfl
set_option maxRecDepth 20000 in
theorem e210_4 (hF : pm_fix pt_me pt_Sg (pt_R L0 xs) F) {x1 : Int32} {x2 : Int32} : F 210 4 [some (.ref 44), some (.int x1), some (.int x2), none] [] (49, pt_G, I, L) =
    if x2 < 7 then
      pm_k (F 211 0 [some (.ref 44), none] [] (49, pt_G, I, L)) (fun v S => F 210 14 [some (.ref 44), some (.int x1), some (.int x2), none] (v.toList ++ []) S)
    else
      some (some (.int x1), (49, pt_G, I, L)) := pm_blk_to hF (pm_stp 210 [0, 4, 14, 31, 36]) 34 rfl
set_option maxRecDepth 20000 in
theorem e210_14 (hF : pm_fix pt_me pt_Sg (pt_R L0 xs) F) {x1 : Int32} {x2 : Int32} {s0 : Int32} : F 210 14 [some (.ref 44), some (.int x1), some (.int x2), none] [.int s0] (49, pt_G, I, L) =
    if s0 = (-1) then
      some (some (.int x1), (49, pt_G, I, L))
    else
      if x1 = 0 then
        pm_k (F 214 0 [some (.ref 44), some (.int (-1)), none] [] (49, pt_G, I, L)) (fun v S => F 210 31 [some (.ref 44), some (.int x1), some (.int x2), some (.int s0)] (v.toList ++ []) S)
      else
        F 210 31 [some (.ref 44), some (.int x1), some (.int x2), some (.int s0)] [] (49, pt_G, I, L) := pm_blk_to hF (pm_stp 210 [0, 4, 14, 31, 36]) 34 rfl
set_option maxRecDepth 20000 in
theorem e210_31 (hF : pm_fix pt_me pt_Sg (pt_R L0 xs) F) {x1 : Int32} {x2 : Int32} {x3 : Int32} : F 210 31 [some (.ref 44), some (.int x1), some (.int x2), some (.int x3)] [] (49, pt_G, I, L) =
    pm_k (F 212 0 [some (.ref 44), some (.int x3), none, none, none, none, none] [] (49, pt_G, I, L)) (fun v S => F 210 36 [some (.ref 44), some (.int x1), some (.int x2), some (.int x3)] (v.toList ++ []) S) := pm_blk_to hF (pm_stp 210 [0, 4, 14, 31, 36]) 34 rfl
set_option maxRecDepth 20000 in
theorem e210_36 (hF : pm_fix pt_me pt_Sg (pt_R L0 xs) F) {x1 : Int32} {x2 : Int32} {x3 : Int32} {s0 : Int32} : F 210 36 [some (.ref 44), some (.int x1), some (.int x2), some (.int x3)] [.int s0] (49, pt_G, I, L) =
    F 210 4 [some (.ref 44), some (.int (x1 + 1)), some (.int (x2 + 1)), none] [] (49, pt_G, I, L) := pm_blk_to hF (pm_stp 210 [0, 4, 14, 31, 36]) 34 rfl
-- TurnCabinet$Cabinet.firstUnpaid()I 44
set_option maxRecDepth 20000 in
theorem e211_0 (hF : pm_fix pt_me pt_Sg (pt_R L0 xs) F) : F 211 0 [some (.ref 44), none] [] (49, pt_G, I, L) =
    F 211 2 [some (.ref 44), some (.int 0)] [] (49, pt_G, I, L) := pm_blk_to hF (pm_stp 211 [0, 2, 21, 29, 37]) 31 rfl
set_option maxRecDepth 20000 in
theorem e211_2 (hF : pm_fix pt_me pt_Sg (pt_R L0 xs) F) {x1 : Int32} : F 211 2 [some (.ref 44), some (.int x1)] [] (49, pt_G, I, L) =
    if x1 < (I 3 0) then
      pm_k (F 151 0 [some (.int x1), some (.int (I 44 5))] [] (49, pt_G, I, L)) (fun v S => F 211 21 [some (.ref 44), some (.int x1)] (v.toList ++ []) S)
    else
      some (some (.int (-1)), (49, pt_G, I, L)) := pm_blk_to hF (pm_stp 211 [0, 2, 21, 29, 37]) 31 rfl
set_option maxRecDepth 20000 in
theorem e211_21 (hF : pm_fix pt_me pt_Sg (pt_R L0 xs) F) {x1 : Int32} {s0 : Int32} : F 211 21 [some (.ref 44), some (.int x1)] [.int s0] (49, pt_G, I, L) =
    if s0 = 0 then
      F 211 2 [some (.ref 44), some (.int (x1 + 1))] [] (49, pt_G, I, L)
    else
      pm_k (F 207 0 [some (.ref 44), some (.int x1), none] [] (49, pt_G, I, L)) (fun v S => F 211 29 [some (.ref 44), some (.int x1)] (v.toList ++ []) S) := pm_blk_to hF (pm_stp 211 [0, 2, 21, 29, 37]) 31 rfl
set_option maxRecDepth 20000 in
theorem e211_29 (hF : pm_fix pt_me pt_Sg (pt_R L0 xs) F) {x1 : Int32} {s0 : Int32} : F 211 29 [some (.ref 44), some (.int x1)] [.int s0] (49, pt_G, I, L) =
    pm_k (F 510 0 [some (.ref 3), some (.int x1)] [] (49, pt_G, I, L)) (fun v S => F 211 37 [some (.ref 44), some (.int x1)] (v.toList ++ [.int s0]) S) := pm_blk_to hF (pm_stp 211 [0, 2, 21, 29, 37]) 31 rfl
set_option maxRecDepth 20000 in
theorem e211_37 (hF : pm_fix pt_me pt_Sg (pt_R L0 xs) F) {x1 : Int32} {s0 : Int32} {s1 : Int32} : F 211 37 [some (.ref 44), some (.int x1)] [.int s0, .int s1] (49, pt_G, I, L) =
    if s1 < s0 then
      some (some (.int x1), (49, pt_G, I, L))
    else
      F 211 2 [some (.ref 44), some (.int (x1 + 1))] [] (49, pt_G, I, L) := pm_blk_to hF (pm_stp 211 [0, 2, 21, 29, 37]) 31 rfl
-- TurnCabinet$Cabinet.letGo(I)I 44
set_option maxRecDepth 20000 in
theorem e212_0 (hF : pm_fix pt_me pt_Sg (pt_R L0 xs) F) {x1 : Int32} : F 212 0 [some (.ref 44), some (.int x1), none, none, none, none, none] [] (49, pt_G, I, L) =
    pm_k (F 206 0 [some (.ref 44), some (.int x1)] [] (49, pt_G, I, L)) (fun v S => F 212 5 [some (.ref 44), some (.int x1), none, none, none, none, none] (v.toList ++ []) S) := pm_blk_to hF (pm_stp 212 [0, 5, 10, 28, 54, 71, 83, 97]) 70 rfl
set_option maxRecDepth 20000 in
theorem e212_5 (hF : pm_fix pt_me pt_Sg (pt_R L0 xs) F) {x1 : Int32} {s0 : Int32} : F 212 5 [some (.ref 44), some (.int x1), none, none, none, none, none] [.int s0] (49, pt_G, I, L) =
    pm_k (F 1508 0 [some (.int s0)] [] (49, pt_G, I, L)) (fun v S => F 212 10 [some (.ref 44), some (.int x1), some (.int s0), none, none, none, none] (v.toList ++ []) S) := pm_blk_to hF (pm_stp 212 [0, 5, 10, 28, 54, 71, 83, 97]) 70 rfl
set_option maxRecDepth 20000 in
theorem e212_10 (hF : pm_fix pt_me pt_Sg (pt_R L0 xs) F) {x1 : Int32} {x2 : Int32} {s0 : Int32} : F 212 10 [some (.ref 44), some (.int x1), some (.int x2), none, none, none, none] [.int s0] (49, pt_G, I, L) =
    F 212 28 [some (.ref 44), some (.int x1), some (.int x2), some (.int s0), some (.int 0), none, none] [] (49, pt_G, (pm_ui I 44 5 ((I 44 5) &&& (((1 : Int32) <<< (x1 &&& 31)) ^^^ (-1)))), L) := pm_blk_to hF (pm_stp 212 [0, 5, 10, 28, 54, 71, 83, 97]) 70 rfl
set_option maxRecDepth 20000 in
theorem e212_28 (hF : pm_fix pt_me pt_Sg (pt_R L0 xs) F) {x1 : Int32} {x2 : Int32} {x3 : Int32} {x4 : Int32} : F 212 28 [some (.ref 44), some (.int x1), some (.int x2), some (.int x3), some (.int x4), none, none] [] (49, pt_G, I, L) =
    if x4 < x3 then
      if (I 44 5) = 0 then
        some (some (.int x3), (49, pt_G, I, L))
      else
        pm_k (F 213 0 [some (.ref 44), some (.int x2), none, none] [] (49, pt_G, I, L)) (fun v S => F 212 54 [some (.ref 44), some (.int x1), some (.int x2), some (.int x3), some (.int x4), none, none] (v.toList ++ [.int (I 44 5), .ref 3]) S)
    else
      some (some (.int x3), (49, pt_G, I, L)) := pm_blk_to hF (pm_stp 212 [0, 5, 10, 28, 54, 71, 83, 97]) 70 rfl
set_option maxRecDepth 20000 in
theorem e212_54 (hF : pm_fix pt_me pt_Sg (pt_R L0 xs) F) {x1 : Int32} {x2 : Int32} {x3 : Int32} {x4 : Int32} {s0 : Int32} {s1 : Int32} : F 212 54 [some (.ref 44), some (.int x1), some (.int x2), some (.int x3), some (.int x4), none, none] [.int s0, .int s1, .ref 3] (49, pt_G, I, L) =
    pm_k (F 518 0 [some (.ref 3), some (.int s1), some (.int s0), some (.int (I 3 2)), some (.int (I 3 3)), none, none, none, none, none, none, none] [] (49, pt_G, I, L)) (fun v S => F 212 71 [some (.ref 44), some (.int x1), some (.int x2), some (.int x3), some (.int x4), none, none] (v.toList ++ []) S) := pm_blk_to hF (pm_stp 212 [0, 5, 10, 28, 54, 71, 83, 97]) 70 rfl
set_option maxRecDepth 20000 in
theorem e212_71 (hF : pm_fix pt_me pt_Sg (pt_R L0 xs) F) {x1 : Int32} {x2 : Int32} {x3 : Int32} {x4 : Int32} {s0 : Int32} : F 212 71 [some (.ref 44), some (.int x1), some (.int x2), some (.int x3), some (.int x4), none, none] [.int s0] (49, pt_G, I, L) =
    pm_k (F 519 0 [some (.ref 3), some (.int s0), some (.int x2), none, none, none] [] (49, pt_G, I, L)) (fun v S => F 212 83 [some (.ref 44), some (.int x1), some (.int x2), some (.int x3), some (.int x4), some (.int s0), none] (v.toList ++ []) S) := pm_blk_to hF (pm_stp 212 [0, 5, 10, 28, 54, 71, 83, 97]) 70 rfl
set_option maxRecDepth 20000 in
theorem e212_83 (hF : pm_fix pt_me pt_Sg (pt_R L0 xs) F) {x1 : Int32} {x2 : Int32} {x3 : Int32} {x4 : Int32} {x5 : Int32} {s0 : Int32} : F 212 83 [some (.ref 44), some (.int x1), some (.int x2), some (.int x3), some (.int x4), some (.int x5), none] [.int s0] (49, pt_G, I, L) =
    pm_k (F 903 0 [some (.int (I 44 6)), some (.int s0), some (.int x5), none] [] (49, pt_G, I, L)) (fun v S => F 212 97 [some (.ref 44), some (.int x1), some (.int x2), some (.int x3), some (.int x4), some (.int x5), some (.int s0)] (v.toList ++ [.ref 44]) S) := pm_blk_to hF (pm_stp 212 [0, 5, 10, 28, 54, 71, 83, 97]) 70 rfl
set_option maxRecDepth 20000 in
theorem e212_97 (hF : pm_fix pt_me pt_Sg (pt_R L0 xs) F) {x1 : Int32} {x2 : Int32} {x3 : Int32} {x4 : Int32} {x5 : Int32} {x6 : Int32} {s0 : Int32} : F 212 97 [some (.ref 44), some (.int x1), some (.int x2), some (.int x3), some (.int x4), some (.int x5), some (.int x6)] [.int s0, .ref 44] (49, pt_G, I, L) =
    F 212 28 [some (.ref 44), some (.int x1), some (.int (x2 &&& (((1 : Int32) <<< (x6 &&& 31)) ^^^ (-1)))), some (.int x3), some (.int (x4 + 1)), none, none] [] (49, pt_G, (pm_ui I 44 6 s0), L) := pm_blk_to hF (pm_stp 212 [0, 5, 10, 28, 54, 71, 83, 97]) 70 rfl
-- TurnCabinet$Cabinet.countsHeld(I)I 44
set_option maxRecDepth 20000 in
theorem e213_0 (hF : pm_fix pt_me pt_Sg (pt_R L0 xs) F) {x1 : Int32} : F 213 0 [some (.ref 44), some (.int x1), none, none] [] (49, pt_G, I, L) =
    F 213 4 [some (.ref 44), some (.int x1), some (.int 0), some (.int 0)] [] (49, pt_G, I, L) := pm_blk_to hF (pm_stp 213 [0, 4, 20, 32, 35]) 29 rfl
set_option maxRecDepth 20000 in
theorem e213_4 (hF : pm_fix pt_me pt_Sg (pt_R L0 xs) F) {x1 : Int32} {x2 : Int32} {x3 : Int32} : F 213 4 [some (.ref 44), some (.int x1), some (.int x2), some (.int x3)] [] (49, pt_G, I, L) =
    if x3 < (I 3 1) then
      pm_k (F 151 0 [some (.int x3), some (.int x1)] [] (49, pt_G, I, L)) (fun v S => F 213 20 [some (.ref 44), some (.int x1), some (.int x2), some (.int x3)] (v.toList ++ []) S)
    else
      some (some (.int x2), (49, pt_G, I, L)) := pm_blk_to hF (pm_stp 213 [0, 4, 20, 32, 35]) 29 rfl
set_option maxRecDepth 20000 in
theorem e213_20 (hF : pm_fix pt_me pt_Sg (pt_R L0 xs) F) {x1 : Int32} {x2 : Int32} {x3 : Int32} {s0 : Int32} : F 213 20 [some (.ref 44), some (.int x1), some (.int x2), some (.int x3)] [.int s0] (49, pt_G, I, L) =
    if s0 = 0 then
      pm_k (F 902 0 [some (.int (I 44 6)), some (.int x3)] [] (49, pt_G, I, L)) (fun v S => F 213 32 [some (.ref 44), some (.int x1), some (.int x2), some (.int x3)] (v.toList ++ [.int x2]) S)
    else
      F 213 4 [some (.ref 44), some (.int x1), some (.int x2), some (.int (x3 + 1))] [] (49, pt_G, I, L) := pm_blk_to hF (pm_stp 213 [0, 4, 20, 32, 35]) 29 rfl
set_option maxRecDepth 20000 in
theorem e213_32 (hF : pm_fix pt_me pt_Sg (pt_R L0 xs) F) {x1 : Int32} {x2 : Int32} {x3 : Int32} {s0 : Int32} {s1 : Int32} : F 213 32 [some (.ref 44), some (.int x1), some (.int x2), some (.int x3)] [.int s0, .int s1] (49, pt_G, I, L) =
    pm_k (F 907 0 [some (.int s1), some (.int s0)] [] (49, pt_G, I, L)) (fun v S => F 213 35 [some (.ref 44), some (.int x1), some (.int x2), some (.int x3)] (v.toList ++ []) S) := pm_blk_to hF (pm_stp 213 [0, 4, 20, 32, 35]) 29 rfl
set_option maxRecDepth 20000 in
theorem e213_35 (hF : pm_fix pt_me pt_Sg (pt_R L0 xs) F) {x1 : Int32} {x2 : Int32} {x3 : Int32} {s0 : Int32} : F 213 35 [some (.ref 44), some (.int x1), some (.int x2), some (.int x3)] [.int s0] (49, pt_G, I, L) =
    F 213 4 [some (.ref 44), some (.int x1), some (.int s0), some (.int (x3 + 1))] [] (49, pt_G, I, L) := pm_blk_to hF (pm_stp 213 [0, 4, 20, 32, 35]) 29 rfl
-- TurnCabinet$Cabinet.remember(I)V 44
set_option maxRecDepth 20000 in
theorem e214_0 (hF : pm_fix pt_me pt_Sg (pt_R L0 xs) F) {x1 : Int32} : F 214 0 [some (.ref 44), some (.int x1), none] [] (49, pt_G, I, L) =
    if (I 44 7) < 12 then
      F 214 13 [some (.ref 44), some (.int x1), none] [] (49, pt_G, I, L)
    else
      pm_k (F 215 0 [some (.ref 44), none] [] (49, pt_G, I, L)) (fun v S => F 214 13 [some (.ref 44), some (.int x1), none] (v.toList ++ []) S) := pm_blk_to hF (pm_stp 214 [0, 13, 78]) 57 rfl
set_option maxRecDepth 20000 in
theorem e214_13 (hF : pm_fix pt_me pt_Sg (pt_R L0 xs) F) {x1 : Int32} : F 214 13 [some (.ref 44), some (.int x1), none] [] (49, pt_G, I, L) =
    if (I 44 7) < 0 then
      some (none, (49, pt_G, I, L))
    else
      if (I 44 7) < 12 then
        bif pm_ib (I 44 7) 12 then
          bif pm_ib (I 44 7) 12 then
            bif pm_ib (I 44 7) 12 then
              if x1 = (-1) then
                F 214 78 [some (.ref 44), some (.int x1), some (.int (I 44 7))] [.int 0, .int (I 44 7), .ref 48] (49, pt_G, (pm_ui (pm_ui (pm_ui I 45 (Int32.toNatClampNeg (I 44 7)) (I 44 5)) 46 (Int32.toNatClampNeg (I 44 7)) (I 44 6)) 47 (Int32.toNatClampNeg (I 44 7)) x1), L)
              else
                pm_k (F 508 0 [some (.ref 3), some (.int x1)] [] (49, pt_G, (pm_ui (pm_ui (pm_ui I 45 (Int32.toNatClampNeg (I 44 7)) (I 44 5)) 46 (Int32.toNatClampNeg (I 44 7)) (I 44 6)) 47 (Int32.toNatClampNeg (I 44 7)) x1), L)) (fun v S => F 214 78 [some (.ref 44), some (.int x1), some (.int (I 44 7))] (v.toList ++ [.int (I 44 7), .ref 48]) S)
            else none
          else none
        else none
      else
        some (none, (49, pt_G, I, L)) := pm_blk_to hF (pm_stp 214 [0, 13, 78]) 57 rfl
set_option maxRecDepth 20000 in
theorem e214_78 (hF : pm_fix pt_me pt_Sg (pt_R L0 xs) F) {x1 : Int32} {x2 : Int32} {s0 : Int32} {s1 : Int32} : F 214 78 [some (.ref 44), some (.int x1), some (.int x2)] [.int s0, .int s1, .ref 48] (49, pt_G, I, L) =
    bif pm_ib s1 12 then
      some (none, (49, pt_G, (pm_ui (pm_ui I 48 (Int32.toNatClampNeg s1) s0) 44 7 ((I 44 7) + 1)), L))
    else none := pm_blk_to hF (pm_stp 214 [0, 13, 78]) 57 rfl
-- TurnCabinet$Cabinet.dropOldest()V 44
set_option maxRecDepth 20000 in
theorem e215_0 (hF : pm_fix pt_me pt_Sg (pt_R L0 xs) F) : F 215 0 [some (.ref 44), none] [] (49, pt_G, I, L) =
    F 215 2 [some (.ref 44), some (.int 1)] [] (49, pt_G, I, L) := pm_blk_to hF (pm_stp 215 [0, 2]) 56 rfl
set_option maxRecDepth 20000 in
theorem e215_2 (hF : pm_fix pt_me pt_Sg (pt_R L0 xs) F) {x1 : Int32} : F 215 2 [some (.ref 44), some (.int x1)] [] (49, pt_G, I, L) =
    if x1 < 12 then
      bif pm_ib x1 12 then
        bif pm_ib (x1 - 1) 12 then
          bif pm_ib x1 12 then
            bif pm_ib (x1 - 1) 12 then
              bif pm_ib x1 12 then
                bif pm_ib (x1 - 1) 12 then
                  bif pm_ib x1 12 then
                    bif pm_ib (x1 - 1) 12 then
                      F 215 2 [some (.ref 44), some (.int (x1 + 1))] [] (49, pt_G, (pm_ui (pm_ui (pm_ui (pm_ui I 45 (Int32.toNatClampNeg (x1 - 1)) (I 45 (Int32.toNatClampNeg x1))) 46 (Int32.toNatClampNeg (x1 - 1)) (I 46 (Int32.toNatClampNeg x1))) 47 (Int32.toNatClampNeg (x1 - 1)) (I 47 (Int32.toNatClampNeg x1))) 48 (Int32.toNatClampNeg (x1 - 1)) (I 48 (Int32.toNatClampNeg x1))), L)
                    else none
                  else none
                else none
              else none
            else none
          else none
        else none
      else none
    else
      some (none, (49, pt_G, (pm_ui I 44 7 11), L)) := pm_blk_to hF (pm_stp 215 [0, 2]) 56 rfl
-- TurnCabinet$Cabinet.takeBack()I 44
set_option maxRecDepth 20000 in
theorem e216_0 (hF : pm_fix pt_me pt_Sg (pt_R L0 xs) F) : F 216 0 [some (.ref 44), none] [] (49, pt_G, I, L) =
    if ((I 44 7) - 1) < 0 then
      some (some (.int (-1)), (49, pt_G, I, L))
    else
      if ((I 44 7) - 1) < 12 then
        bif pm_ib ((I 44 7) - 1) 12 then
          bif pm_ib ((I 44 7) - 1) 12 then
            bif pm_ib ((I 44 7) - 1) 12 then
              if (I 47 (Int32.toNatClampNeg ((I 44 7) - 1))) = (-1) then
                F 216 73 [some (.ref 44), some (.int ((I 44 7) - 1))] [] (49, pt_G, (pm_ui (pm_ui (pm_ui I 44 7 ((I 44 7) - 1)) 44 5 (I 45 (Int32.toNatClampNeg ((I 44 7) - 1)))) 44 6 (I 46 (Int32.toNatClampNeg ((I 44 7) - 1)))), L)
              else
                bif pm_ib ((I 44 7) - 1) 12 then
                  bif pm_ib ((I 44 7) - 1) 12 then
                    pm_k (F 514 0 [some (.ref 3), some (.int (I 47 (Int32.toNatClampNeg ((I 44 7) - 1)))), some (.int (I 48 (Int32.toNatClampNeg ((I 44 7) - 1))))] [] (49, pt_G, (pm_ui (pm_ui (pm_ui I 44 7 ((I 44 7) - 1)) 44 5 (I 45 (Int32.toNatClampNeg ((I 44 7) - 1)))) 44 6 (I 46 (Int32.toNatClampNeg ((I 44 7) - 1)))), L)) (fun v S => F 216 73 [some (.ref 44), some (.int ((I 44 7) - 1))] (v.toList ++ []) S)
                  else none
                else none
            else none
          else none
        else none
      else
        some (some (.int (-1)), (49, pt_G, I, L)) := pm_blk_to hF (pm_stp 216 [0, 73]) 52 rfl
set_option maxRecDepth 20000 in
theorem e216_73 (hF : pm_fix pt_me pt_Sg (pt_R L0 xs) F) {x1 : Int32} : F 216 73 [some (.ref 44), some (.int x1)] [] (49, pt_G, I, L) =
    some (some (.int (I 44 7)), (49, pt_G, I, L)) := pm_blk_to hF (pm_stp 216 [0, 73]) 52 rfl
end
