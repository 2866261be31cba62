/-! ===== printed by gen/eqs.py: what the methods do between cuts ===== -/
section
variable {F : pm_F} {L0 : Nat} {xs : Nat → Int32} {I : Nat → Nat → Int32} {L : Nat → Nat → Int64}
-- TurnCabinet.feed(IIIII)I 0
set_option maxRecDepth 20000 in
theorem e102_0 (hF : pm_fix pt_me pt_Sg (pt_R L0 xs) F) {x1 : Int32} {x2 : Int32} {x3 : Int32} {x4 : Int32} {x5 : Int32} : F 102 0 [some (.ref 0), some (.int x1), some (.int x2), some (.int x3), some (.int x4), some (.int x5)] [] (81, pt_G, I, L) =
    pm_k (F 1002 0 [some (.ref 1)] [] (81, pt_G, I, L)) (fun v S => F 102 7 [some (.ref 0), some (.int x1), some (.int x2), some (.int x3), some (.int x4), some (.int x5)] (v.toList ++ []) S) := pm_blk_to hF (pm_stp 102 [0, 7, 26, 34, 42, 51, 60, 67]) 38 rfl
set_option maxRecDepth 20000 in
theorem e102_7 (hF : pm_fix pt_me pt_Sg (pt_R L0 xs) F) {x1 : Int32} {x2 : Int32} {x3 : Int32} {x4 : Int32} {x5 : Int32} {s0 : Int32} : F 102 7 [some (.ref 0), some (.int x1), some (.int x2), some (.int x3), some (.int x4), some (.int x5)] [.int s0] (81, pt_G, I, L) =
    if (s0 + 20) ≤ 900 then
      pm_k (F 1004 0 [some (.ref 1), some (.int x1), none] [] (81, pt_G, I, L)) (fun v S => F 102 26 [some (.ref 0), some (.int x1), some (.int x2), some (.int x3), some (.int x4), some (.int x5)] (v.toList ++ []) S)
    else
      some (some (.int (-1)), (81, pt_G, I, L)) := pm_blk_to hF (pm_stp 102 [0, 7, 26, 34, 42, 51, 60, 67]) 38 rfl
set_option maxRecDepth 20000 in
theorem e102_26 (hF : pm_fix pt_me pt_Sg (pt_R L0 xs) F) {x1 : Int32} {x2 : Int32} {x3 : Int32} {x4 : Int32} {x5 : Int32} : F 102 26 [some (.ref 0), some (.int x1), some (.int x2), some (.int x3), some (.int x4), some (.int x5)] [] (81, pt_G, I, L) =
    pm_k (F 1004 0 [some (.ref 1), some (.int x2), none] [] (81, pt_G, I, L)) (fun v S => F 102 34 [some (.ref 0), some (.int x1), some (.int x2), some (.int x3), some (.int x4), some (.int x5)] (v.toList ++ []) S) := pm_blk_to hF (pm_stp 102 [0, 7, 26, 34, 42, 51, 60, 67]) 38 rfl
set_option maxRecDepth 20000 in
theorem e102_34 (hF : pm_fix pt_me pt_Sg (pt_R L0 xs) F) {x1 : Int32} {x2 : Int32} {x3 : Int32} {x4 : Int32} {x5 : Int32} : F 102 34 [some (.ref 0), some (.int x1), some (.int x2), some (.int x3), some (.int x4), some (.int x5)] [] (81, pt_G, I, L) =
    pm_k (F 1004 0 [some (.ref 1), some (.int x3), none] [] (81, pt_G, I, L)) (fun v S => F 102 42 [some (.ref 0), some (.int x1), some (.int x2), some (.int x3), some (.int x4), some (.int x5)] (v.toList ++ []) S) := pm_blk_to hF (pm_stp 102 [0, 7, 26, 34, 42, 51, 60, 67]) 38 rfl
set_option maxRecDepth 20000 in
theorem e102_42 (hF : pm_fix pt_me pt_Sg (pt_R L0 xs) F) {x1 : Int32} {x2 : Int32} {x3 : Int32} {x4 : Int32} {x5 : Int32} : F 102 42 [some (.ref 0), some (.int x1), some (.int x2), some (.int x3), some (.int x4), some (.int x5)] [] (81, pt_G, I, L) =
    pm_k (F 1004 0 [some (.ref 1), some (.int x4), none] [] (81, pt_G, I, L)) (fun v S => F 102 51 [some (.ref 0), some (.int x1), some (.int x2), some (.int x3), some (.int x4), some (.int x5)] (v.toList ++ []) S) := pm_blk_to hF (pm_stp 102 [0, 7, 26, 34, 42, 51, 60, 67]) 38 rfl
set_option maxRecDepth 20000 in
theorem e102_51 (hF : pm_fix pt_me pt_Sg (pt_R L0 xs) F) {x1 : Int32} {x2 : Int32} {x3 : Int32} {x4 : Int32} {x5 : Int32} : F 102 51 [some (.ref 0), some (.int x1), some (.int x2), some (.int x3), some (.int x4), some (.int x5)] [] (81, pt_G, I, L) =
    pm_k (F 1004 0 [some (.ref 1), some (.int x5), none] [] (81, pt_G, I, L)) (fun v S => F 102 60 [some (.ref 0), some (.int x1), some (.int x2), some (.int x3), some (.int x4), some (.int x5)] (v.toList ++ []) S) := pm_blk_to hF (pm_stp 102 [0, 7, 26, 34, 42, 51, 60, 67]) 38 rfl
set_option maxRecDepth 20000 in
theorem e102_60 (hF : pm_fix pt_me pt_Sg (pt_R L0 xs) F) {x1 : Int32} {x2 : Int32} {x3 : Int32} {x4 : Int32} {x5 : Int32} : F 102 60 [some (.ref 0), some (.int x1), some (.int x2), some (.int x3), some (.int x4), some (.int x5)] [] (81, pt_G, I, L) =
    pm_k (F 1002 0 [some (.ref 1)] [] (81, pt_G, I, L)) (fun v S => F 102 67 [some (.ref 0), some (.int x1), some (.int x2), some (.int x3), some (.int x4), some (.int x5)] (v.toList ++ []) S) := pm_blk_to hF (pm_stp 102 [0, 7, 26, 34, 42, 51, 60, 67]) 38 rfl
set_option maxRecDepth 20000 in
theorem e102_67 (hF : pm_fix pt_me pt_Sg (pt_R L0 xs) F) {x1 : Int32} {x2 : Int32} {x3 : Int32} {x4 : Int32} {x5 : Int32} {s0 : Int32} : F 102 67 [some (.ref 0), some (.int x1), some (.int x2), some (.int x3), some (.int x4), some (.int x5)] [.int s0] (81, pt_G, I, L) =
    some (some (.int s0), (81, pt_G, I, L)) := pm_blk_to hF (pm_stp 102 [0, 7, 26, 34, 42, 51, 60, 67]) 38 rfl
-- TurnCabinet.end(I)I 0
set_option maxRecDepth 20000 in
theorem e103_0 (hF : pm_fix pt_me pt_Sg (pt_R L0 xs) F) {x1 : Int32} : F 103 0 [some (.ref 0), some (.int x1)] [] (81, pt_G, I, L) =
    if x1 < 0 then
      some (some (.int (-1)), (81, pt_G, I, L))
    else
      pm_k (F 1002 0 [some (.ref 1)] [] (81, pt_G, I, L)) (fun v S => F 103 12 [some (.ref 0), some (.int x1)] (v.toList ++ [.int x1]) S) := pm_blk_to hF (pm_stp 103 [0, 12, 25]) 20 rfl
set_option maxRecDepth 20000 in
theorem e103_12 (hF : pm_fix pt_me pt_Sg (pt_R L0 xs) F) {x1 : Int32} {s0 : Int32} {s1 : Int32} : F 103 12 [some (.ref 0), some (.int x1)] [.int s0, .int s1] (81, pt_G, I, L) =
    if s1 ≤ s0 then
      pm_k (F 1005 0 [some (.ref 1), some (.int x1)] [] (81, pt_G, I, L)) (fun v S => F 103 25 [some (.ref 0), some (.int x1)] (v.toList ++ []) S)
    else
      some (some (.int (-1)), (81, pt_G, I, L)) := pm_blk_to hF (pm_stp 103 [0, 12, 25]) 20 rfl
set_option maxRecDepth 20000 in
theorem e103_25 (hF : pm_fix pt_me pt_Sg (pt_R L0 xs) F) {x1 : Int32} : F 103 25 [some (.ref 0), some (.int x1)] [] (81, pt_G, I, L) =
    some (some (.int x1), (81, pt_G, I, L)) := pm_blk_to hF (pm_stp 103 [0, 12, 25]) 20 rfl
-- TurnCabinet.house()I 0
set_option maxRecDepth 20000 in
theorem e104_0 (hF : pm_fix pt_me pt_Sg (pt_R L0 xs) F) : F 104 0 [some (.ref 0), none] [] (81, pt_G, I, L) =
    pm_k (F 702 0 [some (.ref 10), none] [] (81, pt_G, I, L)) (fun v S => F 104 7 [some (.ref 0), none] (v.toList ++ []) S) := pm_blk_to hF (pm_stp 104 [0, 7, 9, 23, 33, 47, 73, 80]) 45 rfl
set_option maxRecDepth 20000 in
theorem e104_7 (hF : pm_fix pt_me pt_Sg (pt_R L0 xs) F) : F 104 7 [some (.ref 0), none] [] (81, pt_G, I, L) =
    F 104 9 [some (.ref 0), some (.int 0)] [] (81, pt_G, I, L) := pm_blk_to hF (pm_stp 104 [0, 7, 9, 23, 33, 47, 73, 80]) 45 rfl
set_option maxRecDepth 20000 in
theorem e104_9 (hF : pm_fix pt_me pt_Sg (pt_R L0 xs) F) {x1 : Int32} : F 104 9 [some (.ref 0), some (.int x1)] [] (81, pt_G, I, L) =
    if x1 < 900 then
      pm_k (F 703 0 [some (.ref 10)] [] (81, pt_G, I, L)) (fun v S => F 104 23 [some (.ref 0), some (.int x1)] (v.toList ++ []) S)
    else
      pm_k (F 1005 0 [some (.ref 1), some (.int 0)] [] (81, pt_G, I, L)) (fun v S => F 104 47 [some (.ref 0), some (.int x1)] (v.toList ++ []) S) := pm_blk_to hF (pm_stp 104 [0, 7, 9, 23, 33, 47, 73, 80]) 45 rfl
set_option maxRecDepth 20000 in
theorem e104_23 (hF : pm_fix pt_me pt_Sg (pt_R L0 xs) F) {x1 : Int32} {s0 : Int32} : F 104 23 [some (.ref 0), some (.int x1)] [.int s0] (81, pt_G, I, L) =
    if s0 = 0 then
      pm_k (F 1005 0 [some (.ref 1), some (.int 0)] [] (81, pt_G, I, L)) (fun v S => F 104 47 [some (.ref 0), some (.int x1)] (v.toList ++ []) S)
    else
      pm_k (F 706 0 [some (.ref 10)] [] (81, pt_G, I, L)) (fun v S => F 104 33 [some (.ref 0), some (.int x1)] (v.toList ++ []) S) := pm_blk_to hF (pm_stp 104 [0, 7, 9, 23, 33, 47, 73, 80]) 45 rfl
set_option maxRecDepth 20000 in
theorem e104_33 (hF : pm_fix pt_me pt_Sg (pt_R L0 xs) F) {x1 : Int32} : F 104 33 [some (.ref 0), some (.int x1)] [] (81, pt_G, I, L) =
    F 104 9 [some (.ref 0), some (.int (x1 + 1))] [] (81, pt_G, I, L) := pm_blk_to hF (pm_stp 104 [0, 7, 9, 23, 33, 47, 73, 80]) 45 rfl
set_option maxRecDepth 20000 in
theorem e104_47 (hF : pm_fix pt_me pt_Sg (pt_R L0 xs) F) {x1 : Int32} : F 104 47 [some (.ref 0), some (.int x1)] [] (81, pt_G, I, L) =
    if (I 10 8) = 0 then
      pm_k (F 503 0 [some (.ref 3), some (.ref 11), none] [] (81, pt_G, I, L)) (fun v S => F 104 73 [some (.ref 0), some (.int x1)] (v.toList ++ []) S)
    else
      some (some (.int (-1)), (81, pt_G, I, L)) := pm_blk_to hF (pm_stp 104 [0, 7, 9, 23, 33, 47, 73, 80]) 45 rfl
set_option maxRecDepth 20000 in
theorem e104_73 (hF : pm_fix pt_me pt_Sg (pt_R L0 xs) F) {x1 : Int32} : F 104 73 [some (.ref 0), some (.int x1)] [] (81, pt_G, I, L) =
    pm_k (F 202 0 [some (.ref 44)] [] (81, pt_G, I, L)) (fun v S => F 104 80 [some (.ref 0), some (.int x1)] (v.toList ++ []) S) := pm_blk_to hF (pm_stp 104 [0, 7, 9, 23, 33, 47, 73, 80]) 45 rfl
set_option maxRecDepth 20000 in
theorem e104_80 (hF : pm_fix pt_me pt_Sg (pt_R L0 xs) F) {x1 : Int32} : F 104 80 [some (.ref 0), some (.int x1)] [] (81, pt_G, I, L) =
    some (some (.int (I 3 0)), (81, pt_G, I, L)) := pm_blk_to hF (pm_stp 104 [0, 7, 9, 23, 33, 47, 73, 80]) 45 rfl
-- TurnCabinet.fault(I)I 0
set_option maxRecDepth 20000 in
theorem e105_0 (hF : pm_fix pt_me pt_Sg (pt_R L0 xs) F) {x1 : Int32} : F 105 0 [some (.ref 0), some (.int x1)] [] (81, pt_G, I, L) =
    if x1 = 0 then
      some (some (.int (I 10 8)), (81, pt_G, I, L))
    else
      if x1 = 1 then
        some (some (.int (I 10 9)), (81, pt_G, I, L))
      else
        some (some (.int (-1)), (81, pt_G, I, L)) := pm_blk_to hF (pm_stp 105 [0]) 20 rfl
-- TurnCabinet.party(II)I 0
set_option maxRecDepth 20000 in
theorem e106_0 (hF : pm_fix pt_me pt_Sg (pt_R L0 xs) F) {x1 : Int32} {x2 : Int32} : F 106 0 [some (.ref 0), some (.int x1), some (.int x2)] [] (81, pt_G, I, L) =
    pm_k (F 504 0 [some (.ref 3), some (.int x1)] [] (81, pt_G, I, L)) (fun v S => F 106 8 [some (.ref 0), some (.int x1), some (.int x2)] (v.toList ++ []) S) := pm_blk_to hF (pm_stp 106 [0, 8, 56, 65, 74, 83, 92]) 41 rfl
set_option maxRecDepth 20000 in
theorem e106_8 (hF : pm_fix pt_me pt_Sg (pt_R L0 xs) F) {x1 : Int32} {x2 : Int32} {s0 : Int32} : F 106 8 [some (.ref 0), some (.int x1), some (.int x2)] [.int s0] (81, pt_G, I, L) =
    if s0 = 0 then
      some (some (.int (-1)), (81, pt_G, I, L))
    else
      if x2 = nI 0 then
        pm_k (F 508 0 [some (.ref 3), some (.int x1)] [] (81, pt_G, I, L)) (fun v S => F 106 56 [some (.ref 0), some (.int x1), some (.int x2)] (v.toList ++ []) S)
      else
      if x2 = nI 1 then
        pm_k (F 509 0 [some (.ref 3), some (.int x1)] [] (81, pt_G, I, L)) (fun v S => F 106 65 [some (.ref 0), some (.int x1), some (.int x2)] (v.toList ++ []) S)
      else
      if x2 = nI 2 then
        pm_k (F 510 0 [some (.ref 3), some (.int x1)] [] (81, pt_G, I, L)) (fun v S => F 106 74 [some (.ref 0), some (.int x1), some (.int x2)] (v.toList ++ []) S)
      else
      if x2 = nI 3 then
        pm_k (F 205 0 [some (.ref 44), some (.int x1)] [] (81, pt_G, I, L)) (fun v S => F 106 83 [some (.ref 0), some (.int x1), some (.int x2)] (v.toList ++ []) S)
      else
      if x2 = nI 4 then
        pm_k (F 511 0 [some (.ref 3), some (.int x1)] [] (81, pt_G, I, L)) (fun v S => F 106 92 [some (.ref 0), some (.int x1), some (.int x2)] (v.toList ++ []) S)
      else
      some (some (.int (-1)), (81, pt_G, I, L)) := pm_blk_to hF (pm_stp 106 [0, 8, 56, 65, 74, 83, 92]) 41 rfl
set_option maxRecDepth 20000 in
theorem e106_56 (hF : pm_fix pt_me pt_Sg (pt_R L0 xs) F) {x1 : Int32} {x2 : Int32} {s0 : Int32} : F 106 56 [some (.ref 0), some (.int x1), some (.int x2)] [.int s0] (81, pt_G, I, L) =
    some (some (.int s0), (81, pt_G, I, L)) := pm_blk_to hF (pm_stp 106 [0, 8, 56, 65, 74, 83, 92]) 41 rfl
set_option maxRecDepth 20000 in
theorem e106_65 (hF : pm_fix pt_me pt_Sg (pt_R L0 xs) F) {x1 : Int32} {x2 : Int32} {s0 : Int32} : F 106 65 [some (.ref 0), some (.int x1), some (.int x2)] [.int s0] (81, pt_G, I, L) =
    some (some (.int s0), (81, pt_G, I, L)) := pm_blk_to hF (pm_stp 106 [0, 8, 56, 65, 74, 83, 92]) 41 rfl
set_option maxRecDepth 20000 in
theorem e106_74 (hF : pm_fix pt_me pt_Sg (pt_R L0 xs) F) {x1 : Int32} {x2 : Int32} {s0 : Int32} : F 106 74 [some (.ref 0), some (.int x1), some (.int x2)] [.int s0] (81, pt_G, I, L) =
    some (some (.int s0), (81, pt_G, I, L)) := pm_blk_to hF (pm_stp 106 [0, 8, 56, 65, 74, 83, 92]) 41 rfl
set_option maxRecDepth 20000 in
theorem e106_83 (hF : pm_fix pt_me pt_Sg (pt_R L0 xs) F) {x1 : Int32} {x2 : Int32} {s0 : Int32} : F 106 83 [some (.ref 0), some (.int x1), some (.int x2)] [.int s0] (81, pt_G, I, L) =
    some (some (.int s0), (81, pt_G, I, L)) := pm_blk_to hF (pm_stp 106 [0, 8, 56, 65, 74, 83, 92]) 41 rfl
set_option maxRecDepth 20000 in
theorem e106_92 (hF : pm_fix pt_me pt_Sg (pt_R L0 xs) F) {x1 : Int32} {x2 : Int32} {s0 : Int32} : F 106 92 [some (.ref 0), some (.int x1), some (.int x2)] [.int s0] (81, pt_G, I, L) =
    some (some (.int s0), (81, pt_G, I, L)) := pm_blk_to hF (pm_stp 106 [0, 8, 56, 65, 74, 83, 92]) 41 rfl
-- TurnCabinet.worth(II)I 0
set_option maxRecDepth 20000 in
theorem e107_0 (hF : pm_fix pt_me pt_Sg (pt_R L0 xs) F) {x1 : Int32} {x2 : Int32} : F 107 0 [some (.ref 0), some (.int x1), some (.int x2)] [] (81, pt_G, I, L) =
    pm_k (F 504 0 [some (.ref 3), some (.int x1)] [] (81, pt_G, I, L)) (fun v S => F 107 8 [some (.ref 0), some (.int x1), some (.int x2)] (v.toList ++ []) S) := pm_blk_to hF (pm_stp 107 [0, 8, 19, 33]) 23 rfl
set_option maxRecDepth 20000 in
theorem e107_8 (hF : pm_fix pt_me pt_Sg (pt_R L0 xs) F) {x1 : Int32} {x2 : Int32} {s0 : Int32} : F 107 8 [some (.ref 0), some (.int x1), some (.int x2)] [.int s0] (81, pt_G, I, L) =
    if s0 = 0 then
      some (some (.int (-1)), (81, pt_G, I, L))
    else
      pm_k (F 505 0 [some (.ref 3), some (.int x2)] [] (81, pt_G, I, L)) (fun v S => F 107 19 [some (.ref 0), some (.int x1), some (.int x2)] (v.toList ++ []) S) := pm_blk_to hF (pm_stp 107 [0, 8, 19, 33]) 23 rfl
set_option maxRecDepth 20000 in
theorem e107_19 (hF : pm_fix pt_me pt_Sg (pt_R L0 xs) F) {x1 : Int32} {x2 : Int32} {s0 : Int32} : F 107 19 [some (.ref 0), some (.int x1), some (.int x2)] [.int s0] (81, pt_G, I, L) =
    if s0 = 0 then
      some (some (.int (-1)), (81, pt_G, I, L))
    else
      pm_k (F 512 0 [some (.ref 3), some (.int x1), some (.int x2)] [] (81, pt_G, I, L)) (fun v S => F 107 33 [some (.ref 0), some (.int x1), some (.int x2)] (v.toList ++ []) S) := pm_blk_to hF (pm_stp 107 [0, 8, 19, 33]) 23 rfl
set_option maxRecDepth 20000 in
theorem e107_33 (hF : pm_fix pt_me pt_Sg (pt_R L0 xs) F) {x1 : Int32} {x2 : Int32} {s0 : Int32} : F 107 33 [some (.ref 0), some (.int x1), some (.int x2)] [.int s0] (81, pt_G, I, L) =
    some (some (.int s0), (81, pt_G, I, L)) := pm_blk_to hF (pm_stp 107 [0, 8, 19, 33]) 23 rfl
-- TurnCabinet.about(I)I 0
set_option maxRecDepth 20000 in
theorem e108_0 (hF : pm_fix pt_me pt_Sg (pt_R L0 xs) F) {x1 : Int32} : F 108 0 [some (.ref 0), some (.int x1)] [] (81, pt_G, I, L) =
    if x1 = nI 0 then
      some (some (.int (I 3 0)), (81, pt_G, I, L))
    else
    if x1 = nI 1 then
      some (some (.int (I 3 1)), (81, pt_G, I, L))
    else
    if x1 = nI 2 then
      pm_k (F 517 0 [some (.ref 3)] [] (81, pt_G, I, L)) (fun v S => F 108 83 [some (.ref 0), some (.int x1)] (v.toList ++ []) S)
    else
    if x1 = nI 3 then
      some (some (.int (I 3 5)), (81, pt_G, I, L))
    else
    if x1 = nI 4 then
      some (some (.int (I 3 6)), (81, pt_G, I, L))
    else
    if x1 = nI 5 then
      some (some (.int (I 3 7)), (81, pt_G, I, L))
    else
    if x1 = nI 6 then
      pm_k (F 507 0 [some (.ref 3)] [] (81, pt_G, I, L)) (fun v S => F 108 119 [some (.ref 0), some (.int x1)] (v.toList ++ [.ref 3]) S)
    else
    if x1 = nI 7 then
      some (some (.int (I 44 7)), (81, pt_G, I, L))
    else
    if x1 = nI 8 then
      pm_k (F 1002 0 [some (.ref 1)] [] (81, pt_G, I, L)) (fun v S => F 108 138 [some (.ref 0), some (.int x1)] (v.toList ++ []) S)
    else
    if x1 = nI 9 then
      some (some (.int (I 3 2)), (81, pt_G, I, L))
    else
    if x1 = nI 10 then
      some (some (.int (I 3 3)), (81, pt_G, I, L))
    else
    some (some (.int (-1)), (81, pt_G, I, L)) := pm_blk_to hF (pm_stp 108 [0, 83, 119, 122, 138]) 56 rfl
set_option maxRecDepth 20000 in
theorem e108_83 (hF : pm_fix pt_me pt_Sg (pt_R L0 xs) F) {x1 : Int32} {s0 : Int32} : F 108 83 [some (.ref 0), some (.int x1)] [.int s0] (81, pt_G, I, L) =
    some (some (.int s0), (81, pt_G, I, L)) := pm_blk_to hF (pm_stp 108 [0, 83, 119, 122, 138]) 56 rfl
set_option maxRecDepth 20000 in
theorem e108_119 (hF : pm_fix pt_me pt_Sg (pt_R L0 xs) F) {x1 : Int32} {s0 : Int32} : F 108 119 [some (.ref 0), some (.int x1)] [.int s0, .ref 3] (81, pt_G, I, L) =
    pm_k (F 515 0 [some (.ref 3), some (.int s0), none, none] [] (81, pt_G, I, L)) (fun v S => F 108 122 [some (.ref 0), some (.int x1)] (v.toList ++ []) S) := pm_blk_to hF (pm_stp 108 [0, 83, 119, 122, 138]) 56 rfl
set_option maxRecDepth 20000 in
theorem e108_122 (hF : pm_fix pt_me pt_Sg (pt_R L0 xs) F) {x1 : Int32} {s0 : Int32} : F 108 122 [some (.ref 0), some (.int x1)] [.int s0] (81, pt_G, I, L) =
    some (some (.int s0), (81, pt_G, I, L)) := pm_blk_to hF (pm_stp 108 [0, 83, 119, 122, 138]) 56 rfl
set_option maxRecDepth 20000 in
theorem e108_138 (hF : pm_fix pt_me pt_Sg (pt_R L0 xs) F) {x1 : Int32} {s0 : Int32} : F 108 138 [some (.ref 0), some (.int x1)] [.int s0] (81, pt_G, I, L) =
    some (some (.int s0), (81, pt_G, I, L)) := pm_blk_to hF (pm_stp 108 [0, 83, 119, 122, 138]) 56 rfl
-- TurnCabinet.turn(II)I 0
set_option maxRecDepth 20000 in
theorem e109_0 (hF : pm_fix pt_me pt_Sg (pt_R L0 xs) F) {x1 : Int32} {x2 : Int32} : F 109 0 [some (.ref 0), some (.int x1), some (.int x2)] [] (81, pt_G, I, L) =
    pm_k (F 110 0 [some (.ref 0), some (.int x1), some (.int (I 3 2)), some (.int (I 3 3)), some (.int x2)] [] (81, pt_G, I, L)) (fun v S => F 109 20 [some (.ref 0), some (.int x1), some (.int x2)] (v.toList ++ []) S) := pm_blk_to hF (pm_stp 109 [0, 20]) 16 rfl
set_option maxRecDepth 20000 in
theorem e109_20 (hF : pm_fix pt_me pt_Sg (pt_R L0 xs) F) {x1 : Int32} {x2 : Int32} {s0 : Int32} : F 109 20 [some (.ref 0), some (.int x1), some (.int x2)] [.int s0] (81, pt_G, I, L) =
    some (some (.int s0), (81, pt_G, I, L)) := pm_blk_to hF (pm_stp 109 [0, 20]) 16 rfl
-- TurnCabinet.turnBy(IIII)I 0
set_option maxRecDepth 20000 in
theorem e110_0 (hF : pm_fix pt_me pt_Sg (pt_R L0 xs) F) {x1 : Int32} {x2 : Int32} {x3 : Int32} {x4 : Int32} : F 110 0 [some (.ref 0), some (.int x1), some (.int x2), some (.int x3), some (.int x4)] [] (81, pt_G, I, L) =
    pm_k (F 506 0 [some (.ref 3), some (.int x1)] [] (81, pt_G, I, L)) (fun v S => F 110 8 [some (.ref 0), some (.int x1), some (.int x2), some (.int x3), some (.int x4)] (v.toList ++ []) S) := pm_blk_to hF (pm_stp 110 [0, 8, 34, 41, 56, 61]) 36 rfl
set_option maxRecDepth 20000 in
theorem e110_8 (hF : pm_fix pt_me pt_Sg (pt_R L0 xs) F) {x1 : Int32} {x2 : Int32} {x3 : Int32} {x4 : Int32} {s0 : Int32} : F 110 8 [some (.ref 0), some (.int x1), some (.int x2), some (.int x3), some (.int x4)] [.int s0] (81, pt_G, I, L) =
    if s0 = 0 then
      some (some (.int (-1)), (81, pt_G, I, L))
    else
      if x4 < 0 then
        some (some (.int (-1)), (81, pt_G, I, L))
      else
        if x4 < (I 3 1) then
          pm_k (F 150 0 [some (.int x2)] [] (81, pt_G, I, L)) (fun v S => F 110 34 [some (.ref 0), some (.int x1), some (.int x2), some (.int x3), some (.int x4)] (v.toList ++ []) S)
        else
          some (some (.int (-1)), (81, pt_G, I, L)) := pm_blk_to hF (pm_stp 110 [0, 8, 34, 41, 56, 61]) 36 rfl
set_option maxRecDepth 20000 in
theorem e110_34 (hF : pm_fix pt_me pt_Sg (pt_R L0 xs) F) {x1 : Int32} {x2 : Int32} {x3 : Int32} {x4 : Int32} {s0 : Int32} : F 110 34 [some (.ref 0), some (.int x1), some (.int x2), some (.int x3), some (.int x4)] [.int s0] (81, pt_G, I, L) =
    if s0 = 0 then
      some (some (.int (-1)), (81, pt_G, I, L))
    else
      pm_k (F 150 0 [some (.int x3)] [] (81, pt_G, I, L)) (fun v S => F 110 41 [some (.ref 0), some (.int x1), some (.int x2), some (.int x3), some (.int x4)] (v.toList ++ []) S) := pm_blk_to hF (pm_stp 110 [0, 8, 34, 41, 56, 61]) 36 rfl
set_option maxRecDepth 20000 in
theorem e110_41 (hF : pm_fix pt_me pt_Sg (pt_R L0 xs) F) {x1 : Int32} {x2 : Int32} {x3 : Int32} {x4 : Int32} {s0 : Int32} : F 110 41 [some (.ref 0), some (.int x1), some (.int x2), some (.int x3), some (.int x4)] [.int s0] (81, pt_G, I, L) =
    if s0 = 0 then
      some (some (.int (-1)), (81, pt_G, I, L))
    else
      pm_k (F 602 0 [some (.ref 23), some (.int x1), some (.int x2), some (.int x3), none, none, none, none] [] (81, pt_G, I, L)) (fun v S => F 110 56 [some (.ref 0), some (.int x1), some (.int x2), some (.int x3), some (.int x4)] (v.toList ++ []) S) := pm_blk_to hF (pm_stp 110 [0, 8, 34, 41, 56, 61]) 36 rfl
set_option maxRecDepth 20000 in
theorem e110_56 (hF : pm_fix pt_me pt_Sg (pt_R L0 xs) F) {x1 : Int32} {x2 : Int32} {x3 : Int32} {x4 : Int32} {s0 : Int32} : F 110 56 [some (.ref 0), some (.int x1), some (.int x2), some (.int x3), some (.int x4)] [.int s0] (81, pt_G, I, L) =
    pm_k (F 902 0 [some (.int s0), some (.int x4)] [] (81, pt_G, I, L)) (fun v S => F 110 61 [some (.ref 0), some (.int x1), some (.int x2), some (.int x3), some (.int x4)] (v.toList ++ []) S) := pm_blk_to hF (pm_stp 110 [0, 8, 34, 41, 56, 61]) 36 rfl
set_option maxRecDepth 20000 in
theorem e110_61 (hF : pm_fix pt_me pt_Sg (pt_R L0 xs) F) {x1 : Int32} {x2 : Int32} {x3 : Int32} {x4 : Int32} {s0 : Int32} : F 110 61 [some (.ref 0), some (.int x1), some (.int x2), some (.int x3), some (.int x4)] [.int s0] (81, pt_G, I, L) =
    some (some (.int s0), (81, pt_G, I, L)) := pm_blk_to hF (pm_stp 110 [0, 8, 34, 41, 56, 61]) 36 rfl
-- TurnCabinet.gets(III)I 0
set_option maxRecDepth 20000 in
theorem e111_0 (hF : pm_fix pt_me pt_Sg (pt_R L0 xs) F) {x1 : Int32} {x2 : Int32} {x3 : Int32} : F 111 0 [some (.ref 0), some (.int x1), some (.int x2), some (.int x3)] [] (81, pt_G, I, L) =
    pm_k (F 506 0 [some (.ref 3), some (.int x1)] [] (81, pt_G, I, L)) (fun v S => F 111 8 [some (.ref 0), some (.int x1), some (.int x2), some (.int x3)] (v.toList ++ []) S) := pm_blk_to hF (pm_stp 111 [0, 8, 15, 26, 40, 44]) 28 rfl
set_option maxRecDepth 20000 in
theorem e111_8 (hF : pm_fix pt_me pt_Sg (pt_R L0 xs) F) {x1 : Int32} {x2 : Int32} {x3 : Int32} {s0 : Int32} : F 111 8 [some (.ref 0), some (.int x1), some (.int x2), some (.int x3)] [.int s0] (81, pt_G, I, L) =
    if s0 = 0 then
      some (some (.int (-1)), (81, pt_G, I, L))
    else
      pm_k (F 149 0 [some (.int x2)] [] (81, pt_G, I, L)) (fun v S => F 111 15 [some (.ref 0), some (.int x1), some (.int x2), some (.int x3)] (v.toList ++ []) S) := pm_blk_to hF (pm_stp 111 [0, 8, 15, 26, 40, 44]) 28 rfl
set_option maxRecDepth 20000 in
theorem e111_15 (hF : pm_fix pt_me pt_Sg (pt_R L0 xs) F) {x1 : Int32} {x2 : Int32} {x3 : Int32} {s0 : Int32} : F 111 15 [some (.ref 0), some (.int x1), some (.int x2), some (.int x3)] [.int s0] (81, pt_G, I, L) =
    if s0 = 0 then
      some (some (.int (-1)), (81, pt_G, I, L))
    else
      pm_k (F 505 0 [some (.ref 3), some (.int x3)] [] (81, pt_G, I, L)) (fun v S => F 111 26 [some (.ref 0), some (.int x1), some (.int x2), some (.int x3)] (v.toList ++ []) S) := pm_blk_to hF (pm_stp 111 [0, 8, 15, 26, 40, 44]) 28 rfl
set_option maxRecDepth 20000 in
theorem e111_26 (hF : pm_fix pt_me pt_Sg (pt_R L0 xs) F) {x1 : Int32} {x2 : Int32} {x3 : Int32} {s0 : Int32} : F 111 26 [some (.ref 0), some (.int x1), some (.int x2), some (.int x3)] [.int s0] (81, pt_G, I, L) =
    if s0 = 0 then
      some (some (.int (-1)), (81, pt_G, I, L))
    else
      pm_k (F 307 0 [some (.ref 30), some (.int x1), some (.int x2), none] [] (81, pt_G, I, L)) (fun v S => F 111 40 [some (.ref 0), some (.int x1), some (.int x2), some (.int x3)] (v.toList ++ []) S) := pm_blk_to hF (pm_stp 111 [0, 8, 15, 26, 40, 44]) 28 rfl
set_option maxRecDepth 20000 in
theorem e111_40 (hF : pm_fix pt_me pt_Sg (pt_R L0 xs) F) {x1 : Int32} {x2 : Int32} {x3 : Int32} {s0 : Int32} : F 111 40 [some (.ref 0), some (.int x1), some (.int x2), some (.int x3)] [.int s0] (81, pt_G, I, L) =
    pm_k (F 902 0 [some (.int s0), some (.int x3)] [] (81, pt_G, I, L)) (fun v S => F 111 44 [some (.ref 0), some (.int x1), some (.int x2), some (.int x3)] (v.toList ++ []) S) := pm_blk_to hF (pm_stp 111 [0, 8, 15, 26, 40, 44]) 28 rfl
set_option maxRecDepth 20000 in
theorem e111_44 (hF : pm_fix pt_me pt_Sg (pt_R L0 xs) F) {x1 : Int32} {x2 : Int32} {x3 : Int32} {s0 : Int32} : F 111 44 [some (.ref 0), some (.int x1), some (.int x2), some (.int x3)] [.int s0] (81, pt_G, I, L) =
    some (some (.int s0), (81, pt_G, I, L)) := pm_blk_to hF (pm_stp 111 [0, 8, 15, 26, 40, 44]) 28 rfl
-- TurnCabinet.has(III)I 0
set_option maxRecDepth 20000 in
theorem e112_0 (hF : pm_fix pt_me pt_Sg (pt_R L0 xs) F) {x1 : Int32} {x2 : Int32} {x3 : Int32} : F 112 0 [some (.ref 0), some (.int x1), some (.int x2), some (.int x3)] [] (81, pt_G, I, L) =
    pm_k (F 506 0 [some (.ref 3), some (.int x1)] [] (81, pt_G, I, L)) (fun v S => F 112 8 [some (.ref 0), some (.int x1), some (.int x2), some (.int x3)] (v.toList ++ []) S) := pm_blk_to hF (pm_stp 112 [0, 8, 15, 26, 36, 55, 59]) 37 rfl
set_option maxRecDepth 20000 in
theorem e112_8 (hF : pm_fix pt_me pt_Sg (pt_R L0 xs) F) {x1 : Int32} {x2 : Int32} {x3 : Int32} {s0 : Int32} : F 112 8 [some (.ref 0), some (.int x1), some (.int x2), some (.int x3)] [.int s0] (81, pt_G, I, L) =
    if s0 = 0 then
      some (some (.int (-1)), (81, pt_G, I, L))
    else
      pm_k (F 149 0 [some (.int x2)] [] (81, pt_G, I, L)) (fun v S => F 112 15 [some (.ref 0), some (.int x1), some (.int x2), some (.int x3)] (v.toList ++ []) S) := pm_blk_to hF (pm_stp 112 [0, 8, 15, 26, 36, 55, 59]) 37 rfl
set_option maxRecDepth 20000 in
theorem e112_15 (hF : pm_fix pt_me pt_Sg (pt_R L0 xs) F) {x1 : Int32} {x2 : Int32} {x3 : Int32} {s0 : Int32} : F 112 15 [some (.ref 0), some (.int x1), some (.int x2), some (.int x3)] [.int s0] (81, pt_G, I, L) =
    if s0 = 0 then
      some (some (.int (-1)), (81, pt_G, I, L))
    else
      pm_k (F 504 0 [some (.ref 3), some (.int x3)] [] (81, pt_G, I, L)) (fun v S => F 112 26 [some (.ref 0), some (.int x1), some (.int x2), some (.int x3)] (v.toList ++ []) S) := pm_blk_to hF (pm_stp 112 [0, 8, 15, 26, 36, 55, 59]) 37 rfl
set_option maxRecDepth 20000 in
theorem e112_26 (hF : pm_fix pt_me pt_Sg (pt_R L0 xs) F) {x1 : Int32} {x2 : Int32} {x3 : Int32} {s0 : Int32} : F 112 26 [some (.ref 0), some (.int x1), some (.int x2), some (.int x3)] [.int s0] (81, pt_G, I, L) =
    if s0 = 0 then
      some (some (.int (-1)), (81, pt_G, I, L))
    else
      pm_k (F 151 0 [some (.int x3), some (.int x1)] [] (81, pt_G, I, L)) (fun v S => F 112 36 [some (.ref 0), some (.int x1), some (.int x2), some (.int x3)] (v.toList ++ []) S) := pm_blk_to hF (pm_stp 112 [0, 8, 15, 26, 36, 55, 59]) 37 rfl
set_option maxRecDepth 20000 in
theorem e112_36 (hF : pm_fix pt_me pt_Sg (pt_R L0 xs) F) {x1 : Int32} {x2 : Int32} {x3 : Int32} {s0 : Int32} : F 112 36 [some (.ref 0), some (.int x1), some (.int x2), some (.int x3)] [.int s0] (81, pt_G, I, L) =
    if s0 = 0 then
      some (some (.int 0), (81, pt_G, I, L))
    else
      pm_k (F 307 0 [some (.ref 30), some (.int x1), some (.int x2), none] [] (81, pt_G, I, L)) (fun v S => F 112 55 [some (.ref 0), some (.int x1), some (.int x2), some (.int x3)] (v.toList ++ [.int x3, .ref 3]) S) := pm_blk_to hF (pm_stp 112 [0, 8, 15, 26, 36, 55, 59]) 37 rfl
set_option maxRecDepth 20000 in
theorem e112_55 (hF : pm_fix pt_me pt_Sg (pt_R L0 xs) F) {x1 : Int32} {x2 : Int32} {x3 : Int32} {s0 : Int32} {s1 : Int32} : F 112 55 [some (.ref 0), some (.int x1), some (.int x2), some (.int x3)] [.int s0, .int s1, .ref 3] (81, pt_G, I, L) =
    pm_k (F 521 0 [some (.ref 3), some (.int s1), some (.int s0), some (.int x3), none, none] [] (81, pt_G, I, L)) (fun v S => F 112 59 [some (.ref 0), some (.int x1), some (.int x2), some (.int x3)] (v.toList ++ []) S) := pm_blk_to hF (pm_stp 112 [0, 8, 15, 26, 36, 55, 59]) 37 rfl
set_option maxRecDepth 20000 in
theorem e112_59 (hF : pm_fix pt_me pt_Sg (pt_R L0 xs) F) {x1 : Int32} {x2 : Int32} {x3 : Int32} {s0 : Int32} : F 112 59 [some (.ref 0), some (.int x1), some (.int x2), some (.int x3)] [.int s0] (81, pt_G, I, L) =
    some (some (.int s0), (81, pt_G, I, L)) := pm_blk_to hF (pm_stp 112 [0, 8, 15, 26, 36, 55, 59]) 37 rfl
-- TurnCabinet.swaps(I)I 0
set_option maxRecDepth 20000 in
theorem e113_0 (hF : pm_fix pt_me pt_Sg (pt_R L0 xs) F) {x1 : Int32} : F 113 0 [some (.ref 0), some (.int x1)] [] (81, pt_G, I, L) =
    pm_k (F 506 0 [some (.ref 3), some (.int x1)] [] (81, pt_G, I, L)) (fun v S => F 113 8 [some (.ref 0), some (.int x1)] (v.toList ++ []) S) := pm_blk_to hF (pm_stp 113 [0, 8, 26, 29]) 21 rfl
set_option maxRecDepth 20000 in
theorem e113_8 (hF : pm_fix pt_me pt_Sg (pt_R L0 xs) F) {x1 : Int32} {s0 : Int32} : F 113 8 [some (.ref 0), some (.int x1)] [.int s0] (81, pt_G, I, L) =
    if s0 = 0 then
      some (some (.int (-1)), (81, pt_G, I, L))
    else
      pm_k (F 307 0 [some (.ref 30), some (.int x1), some (.int 1), none] [] (81, pt_G, I, L)) (fun v S => F 113 26 [some (.ref 0), some (.int x1)] (v.toList ++ [.ref 23]) S) := pm_blk_to hF (pm_stp 113 [0, 8, 26, 29]) 21 rfl
set_option maxRecDepth 20000 in
theorem e113_26 (hF : pm_fix pt_me pt_Sg (pt_R L0 xs) F) {x1 : Int32} {s0 : Int32} : F 113 26 [some (.ref 0), some (.int x1)] [.int s0, .ref 23] (81, pt_G, I, L) =
    pm_k (F 612 0 [some (.ref 23), some (.int s0), none, none, none] [] (81, pt_G, I, L)) (fun v S => F 113 29 [some (.ref 0), some (.int x1)] (v.toList ++ []) S) := pm_blk_to hF (pm_stp 113 [0, 8, 26, 29]) 21 rfl
set_option maxRecDepth 20000 in
theorem e113_29 (hF : pm_fix pt_me pt_Sg (pt_R L0 xs) F) {x1 : Int32} {s0 : Int32} : F 113 29 [some (.ref 0), some (.int x1)] [.int s0] (81, pt_G, I, L) =
    some (some (.int s0), (81, pt_G, I, L)) := pm_blk_to hF (pm_stp 113 [0, 8, 26, 29]) 21 rfl
-- TurnCabinet.instead(III)I 0
set_option maxRecDepth 20000 in
theorem e114_0 (hF : pm_fix pt_me pt_Sg (pt_R L0 xs) F) {x1 : Int32} {x2 : Int32} {x3 : Int32} : F 114 0 [some (.ref 0), some (.int x1), some (.int x2), some (.int x3), none] [] (81, pt_G, I, L) =
    pm_k (F 506 0 [some (.ref 3), some (.int x1)] [] (81, pt_G, I, L)) (fun v S => F 114 8 [some (.ref 0), some (.int x1), some (.int x2), some (.int x3), none] (v.toList ++ []) S) := pm_blk_to hF (pm_stp 114 [0, 8, 36, 63, 74, 85]) 48 rfl
set_option maxRecDepth 20000 in
theorem e114_8 (hF : pm_fix pt_me pt_Sg (pt_R L0 xs) F) {x1 : Int32} {x2 : Int32} {x3 : Int32} {s0 : Int32} : F 114 8 [some (.ref 0), some (.int x1), some (.int x2), some (.int x3), none] [.int s0] (81, pt_G, I, L) =
    if s0 = 0 then
      some (some (.int (-1)), (81, pt_G, I, L))
    else
      if x2 < 0 then
        some (some (.int (-1)), (81, pt_G, I, L))
      else
        if x2 < (I 3 1) then
          pm_k (F 505 0 [some (.ref 3), some (.int x3)] [] (81, pt_G, I, L)) (fun v S => F 114 36 [some (.ref 0), some (.int x1), some (.int x2), some (.int x3), none] (v.toList ++ []) S)
        else
          some (some (.int (-1)), (81, pt_G, I, L)) := pm_blk_to hF (pm_stp 114 [0, 8, 36, 63, 74, 85]) 48 rfl
set_option maxRecDepth 20000 in
theorem e114_36 (hF : pm_fix pt_me pt_Sg (pt_R L0 xs) F) {x1 : Int32} {x2 : Int32} {x3 : Int32} {s0 : Int32} : F 114 36 [some (.ref 0), some (.int x1), some (.int x2), some (.int x3), none] [.int s0] (81, pt_G, I, L) =
    if s0 = 0 then
      some (some (.int (-1)), (81, pt_G, I, L))
    else
      pm_k (F 602 0 [some (.ref 23), some (.int x1), some (.int (I 3 2)), some (.int (I 3 3)), none, none, none, none] [] (81, pt_G, I, L)) (fun v S => F 114 63 [some (.ref 0), some (.int x1), some (.int x2), some (.int x3), none] (v.toList ++ []) S) := pm_blk_to hF (pm_stp 114 [0, 8, 36, 63, 74, 85]) 48 rfl
set_option maxRecDepth 20000 in
theorem e114_63 (hF : pm_fix pt_me pt_Sg (pt_R L0 xs) F) {x1 : Int32} {x2 : Int32} {x3 : Int32} {s0 : Int32} : F 114 63 [some (.ref 0), some (.int x1), some (.int x2), some (.int x3), none] [.int s0] (81, pt_G, I, L) =
    pm_k (F 607 0 [some (.ref 23), some (.int s0), none] [] (81, pt_G, I, L)) (fun v S => F 114 74 [some (.ref 0), some (.int x1), some (.int x2), some (.int x3), some (.int s0)] (v.toList ++ []) S) := pm_blk_to hF (pm_stp 114 [0, 8, 36, 63, 74, 85]) 48 rfl
set_option maxRecDepth 20000 in
theorem e114_74 (hF : pm_fix pt_me pt_Sg (pt_R L0 xs) F) {x1 : Int32} {x2 : Int32} {x3 : Int32} {x4 : Int32} : F 114 74 [some (.ref 0), some (.int x1), some (.int x2), some (.int x3), some (.int x4)] [] (81, pt_G, I, L) =
    pm_k (F 605 0 [some (.ref 23), some (.int x4), some (.int x2), some (.int x3), none, none, none, none, none] [] (81, pt_G, I, L)) (fun v S => F 114 85 [some (.ref 0), some (.int x1), some (.int x2), some (.int x3), some (.int x4)] (v.toList ++ []) S) := pm_blk_to hF (pm_stp 114 [0, 8, 36, 63, 74, 85]) 48 rfl
set_option maxRecDepth 20000 in
theorem e114_85 (hF : pm_fix pt_me pt_Sg (pt_R L0 xs) F) {x1 : Int32} {x2 : Int32} {x3 : Int32} {x4 : Int32} {s0 : Int32} : F 114 85 [some (.ref 0), some (.int x1), some (.int x2), some (.int x3), some (.int x4)] [.int s0] (81, pt_G, I, L) =
    some (some (.int s0), (81, pt_G, I, L)) := pm_blk_to hF (pm_stp 114 [0, 8, 36, 63, 74, 85]) 48 rfl
-- TurnCabinet.middle(I)I 0
set_option maxRecDepth 20000 in
theorem e115_0 (hF : pm_fix pt_me pt_Sg (pt_R L0 xs) F) {x1 : Int32} : F 115 0 [some (.ref 0), some (.int x1)] [] (81, pt_G, I, L) =
    pm_k (F 506 0 [some (.ref 3), some (.int x1)] [] (81, pt_G, I, L)) (fun v S => F 115 8 [some (.ref 0), some (.int x1)] (v.toList ++ []) S) := pm_blk_to hF (pm_stp 115 [0, 8, 21]) 17 rfl
set_option maxRecDepth 20000 in
theorem e115_8 (hF : pm_fix pt_me pt_Sg (pt_R L0 xs) F) {x1 : Int32} {s0 : Int32} : F 115 8 [some (.ref 0), some (.int x1)] [.int s0] (81, pt_G, I, L) =
    if s0 = 0 then
      some (some (.int (-1)), (81, pt_G, I, L))
    else
      pm_k (F 520 0 [some (.ref 3), some (.int x1), none, none, none] [] (81, pt_G, I, L)) (fun v S => F 115 21 [some (.ref 0), some (.int x1)] (v.toList ++ []) S) := pm_blk_to hF (pm_stp 115 [0, 8, 21]) 17 rfl
set_option maxRecDepth 20000 in
theorem e115_21 (hF : pm_fix pt_me pt_Sg (pt_R L0 xs) F) {x1 : Int32} {s0 : Int32} : F 115 21 [some (.ref 0), some (.int x1)] [.int s0] (81, pt_G, I, L) =
    some (some (.int s0), (81, pt_G, I, L)) := pm_blk_to hF (pm_stp 115 [0, 8, 21]) 17 rfl
-- TurnCabinet.pay(II)I 0
set_option maxRecDepth 20000 in
theorem e116_0 (hF : pm_fix pt_me pt_Sg (pt_R L0 xs) F) {x1 : Int32} {x2 : Int32} : F 116 0 [some (.ref 0), some (.int x1), some (.int x2)] [] (81, pt_G, I, L) =
    pm_k (F 506 0 [some (.ref 3), some (.int x1)] [] (81, pt_G, I, L)) (fun v S => F 116 8 [some (.ref 0), some (.int x1), some (.int x2)] (v.toList ++ []) S) := pm_blk_to hF (pm_stp 116 [0, 8, 19, 33, 42]) 27 rfl
set_option maxRecDepth 20000 in
theorem e116_8 (hF : pm_fix pt_me pt_Sg (pt_R L0 xs) F) {x1 : Int32} {x2 : Int32} {s0 : Int32} : F 116 8 [some (.ref 0), some (.int x1), some (.int x2)] [.int s0] (81, pt_G, I, L) =
    if s0 = 0 then
      some (some (.int (-1000000)), (81, pt_G, I, L))
    else
      pm_k (F 504 0 [some (.ref 3), some (.int x2)] [] (81, pt_G, I, L)) (fun v S => F 116 19 [some (.ref 0), some (.int x1), some (.int x2)] (v.toList ++ []) S) := pm_blk_to hF (pm_stp 116 [0, 8, 19, 33, 42]) 27 rfl
set_option maxRecDepth 20000 in
theorem e116_19 (hF : pm_fix pt_me pt_Sg (pt_R L0 xs) F) {x1 : Int32} {x2 : Int32} {s0 : Int32} : F 116 19 [some (.ref 0), some (.int x1), some (.int x2)] [.int s0] (81, pt_G, I, L) =
    if s0 = 0 then
      some (some (.int (-1000000)), (81, pt_G, I, L))
    else
      pm_k (F 305 0 [some (.ref 30), some (.int x1), none, none, none, none] [] (81, pt_G, I, L)) (fun v S => F 116 33 [some (.ref 0), some (.int x1), some (.int x2)] (v.toList ++ []) S) := pm_blk_to hF (pm_stp 116 [0, 8, 19, 33, 42]) 27 rfl
set_option maxRecDepth 20000 in
theorem e116_33 (hF : pm_fix pt_me pt_Sg (pt_R L0 xs) F) {x1 : Int32} {x2 : Int32} : F 116 33 [some (.ref 0), some (.int x1), some (.int x2)] [] (81, pt_G, I, L) =
    pm_k (F 308 0 [some (.ref 30), some (.int x1), some (.int x2)] [] (81, pt_G, I, L)) (fun v S => F 116 42 [some (.ref 0), some (.int x1), some (.int x2)] (v.toList ++ []) S) := pm_blk_to hF (pm_stp 116 [0, 8, 19, 33, 42]) 27 rfl
set_option maxRecDepth 20000 in
theorem e116_42 (hF : pm_fix pt_me pt_Sg (pt_R L0 xs) F) {x1 : Int32} {x2 : Int32} {s0 : Int32} : F 116 42 [some (.ref 0), some (.int x1), some (.int x2)] [.int s0] (81, pt_G, I, L) =
    some (some (.int s0), (81, pt_G, I, L)) := pm_blk_to hF (pm_stp 116 [0, 8, 19, 33, 42]) 27 rfl
-- TurnCabinet.policy(III)I 0
set_option maxRecDepth 20000 in
theorem e117_0 (hF : pm_fix pt_me pt_Sg (pt_R L0 xs) F) {x1 : Int32} {x2 : Int32} {x3 : Int32} : F 117 0 [some (.ref 0), some (.int x1), some (.int x2), some (.int x3), none] [] (81, pt_G, I, L) =
    pm_k (F 506 0 [some (.ref 3), some (.int x1)] [] (81, pt_G, I, L)) (fun v S => F 117 8 [some (.ref 0), some (.int x1), some (.int x2), some (.int x3), none] (v.toList ++ []) S) := pm_blk_to hF (pm_stp 117 [0, 8, 15, 26, 40, 44, 56]) 34 rfl
set_option maxRecDepth 20000 in
theorem e117_8 (hF : pm_fix pt_me pt_Sg (pt_R L0 xs) F) {x1 : Int32} {x2 : Int32} {x3 : Int32} {s0 : Int32} : F 117 8 [some (.ref 0), some (.int x1), some (.int x2), some (.int x3), none] [.int s0] (81, pt_G, I, L) =
    if s0 = 0 then
      some (some (.int (-1)), (81, pt_G, I, L))
    else
      pm_k (F 149 0 [some (.int x2)] [] (81, pt_G, I, L)) (fun v S => F 117 15 [some (.ref 0), some (.int x1), some (.int x2), some (.int x3), none] (v.toList ++ []) S) := pm_blk_to hF (pm_stp 117 [0, 8, 15, 26, 40, 44, 56]) 34 rfl
set_option maxRecDepth 20000 in
theorem e117_15 (hF : pm_fix pt_me pt_Sg (pt_R L0 xs) F) {x1 : Int32} {x2 : Int32} {x3 : Int32} {s0 : Int32} : F 117 15 [some (.ref 0), some (.int x1), some (.int x2), some (.int x3), none] [.int s0] (81, pt_G, I, L) =
    if s0 = 0 then
      some (some (.int (-1)), (81, pt_G, I, L))
    else
      pm_k (F 505 0 [some (.ref 3), some (.int x3)] [] (81, pt_G, I, L)) (fun v S => F 117 26 [some (.ref 0), some (.int x1), some (.int x2), some (.int x3), none] (v.toList ++ []) S) := pm_blk_to hF (pm_stp 117 [0, 8, 15, 26, 40, 44, 56]) 34 rfl
set_option maxRecDepth 20000 in
theorem e117_26 (hF : pm_fix pt_me pt_Sg (pt_R L0 xs) F) {x1 : Int32} {x2 : Int32} {x3 : Int32} {s0 : Int32} : F 117 26 [some (.ref 0), some (.int x1), some (.int x2), some (.int x3), none] [.int s0] (81, pt_G, I, L) =
    if s0 = 0 then
      some (some (.int (-1)), (81, pt_G, I, L))
    else
      pm_k (F 307 0 [some (.ref 30), some (.int x1), some (.int x2), none] [] (81, pt_G, I, L)) (fun v S => F 117 40 [some (.ref 0), some (.int x1), some (.int x2), some (.int x3), none] (v.toList ++ []) S) := pm_blk_to hF (pm_stp 117 [0, 8, 15, 26, 40, 44, 56]) 34 rfl
set_option maxRecDepth 20000 in
theorem e117_40 (hF : pm_fix pt_me pt_Sg (pt_R L0 xs) F) {x1 : Int32} {x2 : Int32} {x3 : Int32} {s0 : Int32} : F 117 40 [some (.ref 0), some (.int x1), some (.int x2), some (.int x3), none] [.int s0] (81, pt_G, I, L) =
    pm_k (F 902 0 [some (.int s0), some (.int x3)] [] (81, pt_G, I, L)) (fun v S => F 117 44 [some (.ref 0), some (.int x1), some (.int x2), some (.int x3), none] (v.toList ++ []) S) := pm_blk_to hF (pm_stp 117 [0, 8, 15, 26, 40, 44, 56]) 34 rfl
set_option maxRecDepth 20000 in
theorem e117_44 (hF : pm_fix pt_me pt_Sg (pt_R L0 xs) F) {x1 : Int32} {x2 : Int32} {x3 : Int32} {s0 : Int32} : F 117 44 [some (.ref 0), some (.int x1), some (.int x2), some (.int x3), none] [.int s0] (81, pt_G, I, L) =
    pm_k (F 513 0 [some (.ref 3), some (.int s0), some (.int x3)] [] (81, pt_G, I, L)) (fun v S => F 117 56 [some (.ref 0), some (.int x1), some (.int x2), some (.int x3), some (.int s0)] (v.toList ++ []) S) := pm_blk_to hF (pm_stp 117 [0, 8, 15, 26, 40, 44, 56]) 34 rfl
set_option maxRecDepth 20000 in
theorem e117_56 (hF : pm_fix pt_me pt_Sg (pt_R L0 xs) F) {x1 : Int32} {x2 : Int32} {x3 : Int32} {x4 : Int32} {s0 : Int32} : F 117 56 [some (.ref 0), some (.int x1), some (.int x2), some (.int x3), some (.int x4)] [.int s0] (81, pt_G, I, L) =
    some (some (.int s0), (81, pt_G, I, L)) := pm_blk_to hF (pm_stp 117 [0, 8, 15, 26, 40, 44, 56]) 34 rfl
-- TurnCabinet.grief(III)I 0
set_option maxRecDepth 20000 in
theorem e118_0 (hF : pm_fix pt_me pt_Sg (pt_R L0 xs) F) {x1 : Int32} {x2 : Int32} {x3 : Int32} : F 118 0 [some (.ref 0), some (.int x1), some (.int x2), some (.int x3)] [] (81, pt_G, I, L) =
    pm_k (F 506 0 [some (.ref 3), some (.int x1)] [] (81, pt_G, I, L)) (fun v S => F 118 8 [some (.ref 0), some (.int x1), some (.int x2), some (.int x3)] (v.toList ++ []) S) := pm_blk_to hF (pm_stp 118 [0, 8, 15, 26, 45, 48]) 30 rfl
set_option maxRecDepth 20000 in
theorem e118_8 (hF : pm_fix pt_me pt_Sg (pt_R L0 xs) F) {x1 : Int32} {x2 : Int32} {x3 : Int32} {s0 : Int32} : F 118 8 [some (.ref 0), some (.int x1), some (.int x2), some (.int x3)] [.int s0] (81, pt_G, I, L) =
    if s0 = 0 then
      some (some (.int (-1)), (81, pt_G, I, L))
    else
      pm_k (F 149 0 [some (.int x2)] [] (81, pt_G, I, L)) (fun v S => F 118 15 [some (.ref 0), some (.int x1), some (.int x2), some (.int x3)] (v.toList ++ []) S) := pm_blk_to hF (pm_stp 118 [0, 8, 15, 26, 45, 48]) 30 rfl
set_option maxRecDepth 20000 in
theorem e118_15 (hF : pm_fix pt_me pt_Sg (pt_R L0 xs) F) {x1 : Int32} {x2 : Int32} {x3 : Int32} {s0 : Int32} : F 118 15 [some (.ref 0), some (.int x1), some (.int x2), some (.int x3)] [.int s0] (81, pt_G, I, L) =
    if s0 = 0 then
      some (some (.int (-1)), (81, pt_G, I, L))
    else
      pm_k (F 504 0 [some (.ref 3), some (.int x3)] [] (81, pt_G, I, L)) (fun v S => F 118 26 [some (.ref 0), some (.int x1), some (.int x2), some (.int x3)] (v.toList ++ []) S) := pm_blk_to hF (pm_stp 118 [0, 8, 15, 26, 45, 48]) 30 rfl
set_option maxRecDepth 20000 in
theorem e118_26 (hF : pm_fix pt_me pt_Sg (pt_R L0 xs) F) {x1 : Int32} {x2 : Int32} {x3 : Int32} {s0 : Int32} : F 118 26 [some (.ref 0), some (.int x1), some (.int x2), some (.int x3)] [.int s0] (81, pt_G, I, L) =
    if s0 = 0 then
      some (some (.int (-1)), (81, pt_G, I, L))
    else
      pm_k (F 307 0 [some (.ref 30), some (.int x1), some (.int x2), none] [] (81, pt_G, I, L)) (fun v S => F 118 45 [some (.ref 0), some (.int x1), some (.int x2), some (.int x3)] (v.toList ++ [.int x3, .ref 3]) S) := pm_blk_to hF (pm_stp 118 [0, 8, 15, 26, 45, 48]) 30 rfl
set_option maxRecDepth 20000 in
theorem e118_45 (hF : pm_fix pt_me pt_Sg (pt_R L0 xs) F) {x1 : Int32} {x2 : Int32} {x3 : Int32} {s0 : Int32} {s1 : Int32} : F 118 45 [some (.ref 0), some (.int x1), some (.int x2), some (.int x3)] [.int s0, .int s1, .ref 3] (81, pt_G, I, L) =
    pm_k (F 525 0 [some (.ref 3), some (.int s1), some (.int s0), none, none, none] [] (81, pt_G, I, L)) (fun v S => F 118 48 [some (.ref 0), some (.int x1), some (.int x2), some (.int x3)] (v.toList ++ []) S) := pm_blk_to hF (pm_stp 118 [0, 8, 15, 26, 45, 48]) 30 rfl
set_option maxRecDepth 20000 in
theorem e118_48 (hF : pm_fix pt_me pt_Sg (pt_R L0 xs) F) {x1 : Int32} {x2 : Int32} {x3 : Int32} {s0 : Int32} : F 118 48 [some (.ref 0), some (.int x1), some (.int x2), some (.int x3)] [.int s0] (81, pt_G, I, L) =
    some (some (.int s0), (81, pt_G, I, L)) := pm_blk_to hF (pm_stp 118 [0, 8, 15, 26, 45, 48]) 30 rfl
-- TurnCabinet.envy(II)I 0
set_option maxRecDepth 20000 in
theorem e119_0 (hF : pm_fix pt_me pt_Sg (pt_R L0 xs) F) {x1 : Int32} {x2 : Int32} : F 119 0 [some (.ref 0), some (.int x1), some (.int x2)] [] (81, pt_G, I, L) =
    pm_k (F 506 0 [some (.ref 3), some (.int x1)] [] (81, pt_G, I, L)) (fun v S => F 119 8 [some (.ref 0), some (.int x1), some (.int x2)] (v.toList ++ []) S) := pm_blk_to hF (pm_stp 119 [0, 8, 15, 34, 37]) 25 rfl
set_option maxRecDepth 20000 in
theorem e119_8 (hF : pm_fix pt_me pt_Sg (pt_R L0 xs) F) {x1 : Int32} {x2 : Int32} {s0 : Int32} : F 119 8 [some (.ref 0), some (.int x1), some (.int x2)] [.int s0] (81, pt_G, I, L) =
    if s0 = 0 then
      some (some (.int (-1)), (81, pt_G, I, L))
    else
      pm_k (F 149 0 [some (.int x2)] [] (81, pt_G, I, L)) (fun v S => F 119 15 [some (.ref 0), some (.int x1), some (.int x2)] (v.toList ++ []) S) := pm_blk_to hF (pm_stp 119 [0, 8, 15, 34, 37]) 25 rfl
set_option maxRecDepth 20000 in
theorem e119_15 (hF : pm_fix pt_me pt_Sg (pt_R L0 xs) F) {x1 : Int32} {x2 : Int32} {s0 : Int32} : F 119 15 [some (.ref 0), some (.int x1), some (.int x2)] [.int s0] (81, pt_G, I, L) =
    if s0 = 0 then
      some (some (.int (-1)), (81, pt_G, I, L))
    else
      pm_k (F 307 0 [some (.ref 30), some (.int x1), some (.int x2), none] [] (81, pt_G, I, L)) (fun v S => F 119 34 [some (.ref 0), some (.int x1), some (.int x2)] (v.toList ++ [.int x1, .ref 3]) S) := pm_blk_to hF (pm_stp 119 [0, 8, 15, 34, 37]) 25 rfl
set_option maxRecDepth 20000 in
theorem e119_34 (hF : pm_fix pt_me pt_Sg (pt_R L0 xs) F) {x1 : Int32} {x2 : Int32} {s0 : Int32} {s1 : Int32} : F 119 34 [some (.ref 0), some (.int x1), some (.int x2)] [.int s0, .int s1, .ref 3] (81, pt_G, I, L) =
    pm_k (F 526 0 [some (.ref 3), some (.int s1), some (.int s0), none, none, none, none] [] (81, pt_G, I, L)) (fun v S => F 119 37 [some (.ref 0), some (.int x1), some (.int x2)] (v.toList ++ []) S) := pm_blk_to hF (pm_stp 119 [0, 8, 15, 34, 37]) 25 rfl
set_option maxRecDepth 20000 in
theorem e119_37 (hF : pm_fix pt_me pt_Sg (pt_R L0 xs) F) {x1 : Int32} {x2 : Int32} {s0 : Int32} : F 119 37 [some (.ref 0), some (.int x1), some (.int x2)] [.int s0] (81, pt_G, I, L) =
    some (some (.int s0), (81, pt_G, I, L)) := pm_blk_to hF (pm_stp 119 [0, 8, 15, 34, 37]) 25 rfl
-- TurnCabinet.kept(II)I 0
set_option maxRecDepth 20000 in
theorem e120_0 (hF : pm_fix pt_me pt_Sg (pt_R L0 xs) F) {x1 : Int32} {x2 : Int32} : F 120 0 [some (.ref 0), some (.int x1), some (.int x2), none] [] (81, pt_G, I, L) =
    pm_k (F 506 0 [some (.ref 3), some (.int x1)] [] (81, pt_G, I, L)) (fun v S => F 120 8 [some (.ref 0), some (.int x1), some (.int x2), none] (v.toList ++ []) S) := pm_blk_to hF (pm_stp 120 [0, 8, 44, 60, 73]) 43 rfl
set_option maxRecDepth 20000 in
theorem e120_8 (hF : pm_fix pt_me pt_Sg (pt_R L0 xs) F) {x1 : Int32} {x2 : Int32} {s0 : Int32} : F 120 8 [some (.ref 0), some (.int x1), some (.int x2), none] [.int s0] (81, pt_G, I, L) =
    if s0 = 0 then
      some (some (.int (-1)), (81, pt_G, I, L))
    else
      if x2 < 0 then
        some (some (.int (-1)), (81, pt_G, I, L))
      else
        if x2 ≤ 1 then
          pm_k (F 602 0 [some (.ref 23), some (.int x1), some (.int (I 3 2)), some (.int (I 3 3)), none, none, none, none] [] (81, pt_G, I, L)) (fun v S => F 120 44 [some (.ref 0), some (.int x1), some (.int x2), none] (v.toList ++ []) S)
        else
          some (some (.int (-1)), (81, pt_G, I, L)) := pm_blk_to hF (pm_stp 120 [0, 8, 44, 60, 73]) 43 rfl
set_option maxRecDepth 20000 in
theorem e120_44 (hF : pm_fix pt_me pt_Sg (pt_R L0 xs) F) {x1 : Int32} {x2 : Int32} {s0 : Int32} : F 120 44 [some (.ref 0), some (.int x1), some (.int x2), none] [.int s0] (81, pt_G, I, L) =
    pm_k (F 908 0 [some (.int s0), some (.int (I 3 1)), none, none] [] (81, pt_G, I, L)) (fun v S => F 120 60 [some (.ref 0), some (.int x1), some (.int x2), some (.int s0)] (v.toList ++ [.ref 27]) S) := pm_blk_to hF (pm_stp 120 [0, 8, 44, 60, 73]) 43 rfl
set_option maxRecDepth 20000 in
theorem e120_60 (hF : pm_fix pt_me pt_Sg (pt_R L0 xs) F) {x1 : Int32} {x2 : Int32} {x3 : Int32} {s0 : Int32} : F 120 60 [some (.ref 0), some (.int x1), some (.int x2), some (.int x3)] [.int s0, .ref 27] (81, pt_G, I, L) =
    if x2 = 1 then
      pm_k (F 802 0 [some (.ref 27), some (.int s0), some (.int 1), none, none, none, none, none] [] (81, pt_G, I, L)) (fun v S => F 120 73 [some (.ref 0), some (.int x1), some (.int x2), some (.int x3)] (v.toList ++ []) S)
    else
      pm_k (F 802 0 [some (.ref 27), some (.int s0), some (.int 0), none, none, none, none, none] [] (81, pt_G, I, L)) (fun v S => F 120 73 [some (.ref 0), some (.int x1), some (.int x2), some (.int x3)] (v.toList ++ []) S) := pm_blk_to hF (pm_stp 120 [0, 8, 44, 60, 73]) 43 rfl
set_option maxRecDepth 20000 in
theorem e120_73 (hF : pm_fix pt_me pt_Sg (pt_R L0 xs) F) {x1 : Int32} {x2 : Int32} {x3 : Int32} {s0 : Int32} : F 120 73 [some (.ref 0), some (.int x1), some (.int x2), some (.int x3)] [.int s0] (81, pt_G, I, L) =
    some (some (.int s0), (81, pt_G, I, L)) := pm_blk_to hF (pm_stp 120 [0, 8, 44, 60, 73]) 43 rfl
-- TurnCabinet.kind(I)I 0
set_option maxRecDepth 20000 in
theorem e121_0 (hF : pm_fix pt_me pt_Sg (pt_R L0 xs) F) {x1 : Int32} : F 121 0 [some (.ref 0), some (.int x1)] [] (81, pt_G, I, L) =
    pm_k (F 506 0 [some (.ref 3), some (.int x1)] [] (81, pt_G, I, L)) (fun v S => F 121 8 [some (.ref 0), some (.int x1)] (v.toList ++ []) S) := pm_blk_to hF (pm_stp 121 [0, 8, 20, 28]) 20 rfl
set_option maxRecDepth 20000 in
theorem e121_8 (hF : pm_fix pt_me pt_Sg (pt_R L0 xs) F) {x1 : Int32} {s0 : Int32} : F 121 8 [some (.ref 0), some (.int x1)] [.int s0] (81, pt_G, I, L) =
    if s0 = 0 then
      some (some (.int (-1)), (81, pt_G, I, L))
    else
      pm_k (F 304 0 [some (.ref 30), none] [] (81, pt_G, I, L)) (fun v S => F 121 20 [some (.ref 0), some (.int x1)] (v.toList ++ []) S) := pm_blk_to hF (pm_stp 121 [0, 8, 20, 28]) 20 rfl
set_option maxRecDepth 20000 in
theorem e121_20 (hF : pm_fix pt_me pt_Sg (pt_R L0 xs) F) {x1 : Int32} : F 121 20 [some (.ref 0), some (.int x1)] [] (81, pt_G, I, L) =
    pm_k (F 313 0 [some (.ref 30), some (.int x1), none] [] (81, pt_G, I, L)) (fun v S => F 121 28 [some (.ref 0), some (.int x1)] (v.toList ++ []) S) := pm_blk_to hF (pm_stp 121 [0, 8, 20, 28]) 20 rfl
set_option maxRecDepth 20000 in
theorem e121_28 (hF : pm_fix pt_me pt_Sg (pt_R L0 xs) F) {x1 : Int32} {s0 : Int32} : F 121 28 [some (.ref 0), some (.int x1)] [.int s0] (81, pt_G, I, L) =
    some (some (.int s0), (81, pt_G, I, L)) := pm_blk_to hF (pm_stp 121 [0, 8, 20, 28]) 20 rfl
-- TurnCabinet.many(I)I 0
set_option maxRecDepth 20000 in
theorem e122_0 (hF : pm_fix pt_me pt_Sg (pt_R L0 xs) F) {x1 : Int32} : F 122 0 [some (.ref 0), some (.int x1)] [] (81, pt_G, I, L) =
    if x1 < 0 then
      some (some (.int (-1)), (81, pt_G, I, L))
    else
      if x1 ≤ 31 then
        pm_k (F 304 0 [some (.ref 30), none] [] (81, pt_G, I, L)) (fun v S => F 122 19 [some (.ref 0), some (.int x1)] (v.toList ++ []) S)
      else
        some (some (.int (-1)), (81, pt_G, I, L)) := pm_blk_to hF (pm_stp 122 [0, 19, 27]) 20 rfl
set_option maxRecDepth 20000 in
theorem e122_19 (hF : pm_fix pt_me pt_Sg (pt_R L0 xs) F) {x1 : Int32} : F 122 19 [some (.ref 0), some (.int x1)] [] (81, pt_G, I, L) =
    pm_k (F 314 0 [some (.ref 30), some (.int x1), none, none] [] (81, pt_G, I, L)) (fun v S => F 122 27 [some (.ref 0), some (.int x1)] (v.toList ++ []) S) := pm_blk_to hF (pm_stp 122 [0, 19, 27]) 20 rfl
set_option maxRecDepth 20000 in
theorem e122_27 (hF : pm_fix pt_me pt_Sg (pt_R L0 xs) F) {x1 : Int32} {s0 : Int32} : F 122 27 [some (.ref 0), some (.int x1)] [.int s0] (81, pt_G, I, L) =
    some (some (.int s0), (81, pt_G, I, L)) := pm_blk_to hF (pm_stp 122 [0, 19, 27]) 20 rfl
-- TurnCabinet.nth(II)I 0
set_option maxRecDepth 20000 in
theorem e123_0 (hF : pm_fix pt_me pt_Sg (pt_R L0 xs) F) {x1 : Int32} {x2 : Int32} : F 123 0 [some (.ref 0), some (.int x1), some (.int x2)] [] (81, pt_G, I, L) =
    if x1 < 0 then
      some (some (.int (-1)), (81, pt_G, I, L))
    else
      if x1 ≤ 31 then
        if x2 < 0 then
          some (some (.int (-1)), (81, pt_G, I, L))
        else
          pm_k (F 304 0 [some (.ref 30), none] [] (81, pt_G, I, L)) (fun v S => F 123 23 [some (.ref 0), some (.int x1), some (.int x2)] (v.toList ++ []) S)
      else
        some (some (.int (-1)), (81, pt_G, I, L)) := pm_blk_to hF (pm_stp 123 [0, 23, 32]) 23 rfl
set_option maxRecDepth 20000 in
theorem e123_23 (hF : pm_fix pt_me pt_Sg (pt_R L0 xs) F) {x1 : Int32} {x2 : Int32} : F 123 23 [some (.ref 0), some (.int x1), some (.int x2)] [] (81, pt_G, I, L) =
    pm_k (F 315 0 [some (.ref 30), some (.int x1), some (.int x2), none, none] [] (81, pt_G, I, L)) (fun v S => F 123 32 [some (.ref 0), some (.int x1), some (.int x2)] (v.toList ++ []) S) := pm_blk_to hF (pm_stp 123 [0, 23, 32]) 23 rfl
set_option maxRecDepth 20000 in
theorem e123_32 (hF : pm_fix pt_me pt_Sg (pt_R L0 xs) F) {x1 : Int32} {x2 : Int32} {s0 : Int32} : F 123 32 [some (.ref 0), some (.int x1), some (.int x2)] [.int s0] (81, pt_G, I, L) =
    some (some (.int s0), (81, pt_G, I, L)) := pm_blk_to hF (pm_stp 123 [0, 23, 32]) 23 rfl
-- TurnCabinet.rival(I)I 0
set_option maxRecDepth 20000 in
theorem e124_0 (hF : pm_fix pt_me pt_Sg (pt_R L0 xs) F) {x1 : Int32} : F 124 0 [some (.ref 0), some (.int x1)] [] (81, pt_G, I, L) =
    pm_k (F 506 0 [some (.ref 3), some (.int x1)] [] (81, pt_G, I, L)) (fun v S => F 124 8 [some (.ref 0), some (.int x1)] (v.toList ++ []) S) := pm_blk_to hF (pm_stp 124 [0, 8, 21, 28, 36]) 24 rfl
set_option maxRecDepth 20000 in
theorem e124_8 (hF : pm_fix pt_me pt_Sg (pt_R L0 xs) F) {x1 : Int32} {s0 : Int32} : F 124 8 [some (.ref 0), some (.int x1)] [.int s0] (81, pt_G, I, L) =
    if s0 = 0 then
      some (some (.int (-1)), (81, pt_G, I, L))
    else
      pm_k (F 305 0 [some (.ref 30), some (.int x1), none, none, none, none] [] (81, pt_G, I, L)) (fun v S => F 124 21 [some (.ref 0), some (.int x1)] (v.toList ++ []) S) := pm_blk_to hF (pm_stp 124 [0, 8, 21, 28, 36]) 24 rfl
set_option maxRecDepth 20000 in
theorem e124_21 (hF : pm_fix pt_me pt_Sg (pt_R L0 xs) F) {x1 : Int32} : F 124 21 [some (.ref 0), some (.int x1)] [] (81, pt_G, I, L) =
    pm_k (F 304 0 [some (.ref 30), none] [] (81, pt_G, I, L)) (fun v S => F 124 28 [some (.ref 0), some (.int x1)] (v.toList ++ []) S) := pm_blk_to hF (pm_stp 124 [0, 8, 21, 28, 36]) 24 rfl
set_option maxRecDepth 20000 in
theorem e124_28 (hF : pm_fix pt_me pt_Sg (pt_R L0 xs) F) {x1 : Int32} : F 124 28 [some (.ref 0), some (.int x1)] [] (81, pt_G, I, L) =
    pm_k (F 316 0 [some (.ref 30), some (.int x1), none] [] (81, pt_G, I, L)) (fun v S => F 124 36 [some (.ref 0), some (.int x1)] (v.toList ++ []) S) := pm_blk_to hF (pm_stp 124 [0, 8, 21, 28, 36]) 24 rfl
set_option maxRecDepth 20000 in
theorem e124_36 (hF : pm_fix pt_me pt_Sg (pt_R L0 xs) F) {x1 : Int32} {s0 : Int32} : F 124 36 [some (.ref 0), some (.int x1)] [.int s0] (81, pt_G, I, L) =
    some (some (.int s0), (81, pt_G, I, L)) := pm_blk_to hF (pm_stp 124 [0, 8, 21, 28, 36]) 24 rfl
-- TurnCabinet.beats(II)I 0
set_option maxRecDepth 20000 in
theorem e125_0 (hF : pm_fix pt_me pt_Sg (pt_R L0 xs) F) {x1 : Int32} {x2 : Int32} : F 125 0 [some (.ref 0), some (.int x1), some (.int x2)] [] (81, pt_G, I, L) =
    pm_k (F 506 0 [some (.ref 3), some (.int x1)] [] (81, pt_G, I, L)) (fun v S => F 125 8 [some (.ref 0), some (.int x1), some (.int x2)] (v.toList ++ []) S) := pm_blk_to hF (pm_stp 125 [0, 8, 19, 32, 40, 49]) 35 rfl
set_option maxRecDepth 20000 in
theorem e125_8 (hF : pm_fix pt_me pt_Sg (pt_R L0 xs) F) {x1 : Int32} {x2 : Int32} {s0 : Int32} : F 125 8 [some (.ref 0), some (.int x1), some (.int x2)] [.int s0] (81, pt_G, I, L) =
    if s0 = 0 then
      some (some (.int (-1)), (81, pt_G, I, L))
    else
      pm_k (F 506 0 [some (.ref 3), some (.int x2)] [] (81, pt_G, I, L)) (fun v S => F 125 19 [some (.ref 0), some (.int x1), some (.int x2)] (v.toList ++ []) S) := pm_blk_to hF (pm_stp 125 [0, 8, 19, 32, 40, 49]) 35 rfl
set_option maxRecDepth 20000 in
theorem e125_19 (hF : pm_fix pt_me pt_Sg (pt_R L0 xs) F) {x1 : Int32} {x2 : Int32} {s0 : Int32} : F 125 19 [some (.ref 0), some (.int x1), some (.int x2)] [.int s0] (81, pt_G, I, L) =
    if s0 = 0 then
      some (some (.int (-1)), (81, pt_G, I, L))
    else
      pm_k (F 305 0 [some (.ref 30), some (.int x1), none, none, none, none] [] (81, pt_G, I, L)) (fun v S => F 125 32 [some (.ref 0), some (.int x1), some (.int x2)] (v.toList ++ []) S) := pm_blk_to hF (pm_stp 125 [0, 8, 19, 32, 40, 49]) 35 rfl
set_option maxRecDepth 20000 in
theorem e125_32 (hF : pm_fix pt_me pt_Sg (pt_R L0 xs) F) {x1 : Int32} {x2 : Int32} : F 125 32 [some (.ref 0), some (.int x1), some (.int x2)] [] (81, pt_G, I, L) =
    pm_k (F 305 0 [some (.ref 30), some (.int x2), none, none, none, none] [] (81, pt_G, I, L)) (fun v S => F 125 40 [some (.ref 0), some (.int x1), some (.int x2)] (v.toList ++ []) S) := pm_blk_to hF (pm_stp 125 [0, 8, 19, 32, 40, 49]) 35 rfl
set_option maxRecDepth 20000 in
theorem e125_40 (hF : pm_fix pt_me pt_Sg (pt_R L0 xs) F) {x1 : Int32} {x2 : Int32} : F 125 40 [some (.ref 0), some (.int x1), some (.int x2)] [] (81, pt_G, I, L) =
    pm_k (F 321 0 [some (.ref 30), some (.int x1), some (.int x2), none, none] [] (81, pt_G, I, L)) (fun v S => F 125 49 [some (.ref 0), some (.int x1), some (.int x2)] (v.toList ++ []) S) := pm_blk_to hF (pm_stp 125 [0, 8, 19, 32, 40, 49]) 35 rfl
set_option maxRecDepth 20000 in
theorem e125_49 (hF : pm_fix pt_me pt_Sg (pt_R L0 xs) F) {x1 : Int32} {x2 : Int32} {s0 : Int32} : F 125 49 [some (.ref 0), some (.int x1), some (.int x2)] [.int s0] (81, pt_G, I, L) =
    if s0 = 0 then
      some (some (.int 0), (81, pt_G, I, L))
    else
      some (some (.int 1), (81, pt_G, I, L)) := pm_blk_to hF (pm_stp 125 [0, 8, 19, 32, 40, 49]) 35 rfl
-- TurnCabinet.unbeaten(I)I 0
set_option maxRecDepth 20000 in
theorem e126_0 (hF : pm_fix pt_me pt_Sg (pt_R L0 xs) F) {x1 : Int32} : F 126 0 [some (.ref 0), some (.int x1)] [] (81, pt_G, I, L) =
    if x1 < (-1) then
      some (some (.int (-1)), (81, pt_G, I, L))
    else
      pm_k (F 304 0 [some (.ref 30), none] [] (81, pt_G, I, L)) (fun v S => F 126 14 [some (.ref 0), some (.int x1)] (v.toList ++ []) S) := pm_blk_to hF (pm_stp 126 [0, 14, 26, 37]) 25 rfl
set_option maxRecDepth 20000 in
theorem e126_14 (hF : pm_fix pt_me pt_Sg (pt_R L0 xs) F) {x1 : Int32} : F 126 14 [some (.ref 0), some (.int x1)] [] (81, pt_G, I, L) =
    if x1 = (-1) then
      pm_k (F 324 0 [some (.ref 30), none, none] [] (81, pt_G, I, L)) (fun v S => F 126 26 [some (.ref 0), some (.int x1)] (v.toList ++ []) S)
    else
      pm_k (F 325 0 [some (.ref 30), some (.int x1), none, none] [] (81, pt_G, I, L)) (fun v S => F 126 37 [some (.ref 0), some (.int x1)] (v.toList ++ []) S) := pm_blk_to hF (pm_stp 126 [0, 14, 26, 37]) 25 rfl
set_option maxRecDepth 20000 in
theorem e126_26 (hF : pm_fix pt_me pt_Sg (pt_R L0 xs) F) {x1 : Int32} {s0 : Int32} : F 126 26 [some (.ref 0), some (.int x1)] [.int s0] (81, pt_G, I, L) =
    F 126 37 [some (.ref 0), some (.int x1)] [.int s0] (81, pt_G, I, L) := pm_blk_to hF (pm_stp 126 [0, 14, 26, 37]) 25 rfl
set_option maxRecDepth 20000 in
theorem e126_37 (hF : pm_fix pt_me pt_Sg (pt_R L0 xs) F) {x1 : Int32} {s0 : Int32} : F 126 37 [some (.ref 0), some (.int x1)] [.int s0] (81, pt_G, I, L) =
    some (some (.int s0), (81, pt_G, I, L)) := pm_blk_to hF (pm_stp 126 [0, 14, 26, 37]) 25 rfl
-- TurnCabinet.enough(II)I 0
set_option maxRecDepth 20000 in
theorem e127_0 (hF : pm_fix pt_me pt_Sg (pt_R L0 xs) F) {x1 : Int32} {x2 : Int32} : F 127 0 [some (.ref 0), some (.int x1), some (.int x2)] [] (81, pt_G, I, L) =
    pm_k (F 506 0 [some (.ref 3), some (.int x1)] [] (81, pt_G, I, L)) (fun v S => F 127 8 [some (.ref 0), some (.int x1), some (.int x2)] (v.toList ++ []) S) := pm_blk_to hF (pm_stp 127 [0, 8, 19, 29, 41]) 29 rfl
set_option maxRecDepth 20000 in
theorem e127_8 (hF : pm_fix pt_me pt_Sg (pt_R L0 xs) F) {x1 : Int32} {x2 : Int32} {s0 : Int32} : F 127 8 [some (.ref 0), some (.int x1), some (.int x2)] [.int s0] (81, pt_G, I, L) =
    if s0 = 0 then
      some (some (.int (-1)), (81, pt_G, I, L))
    else
      pm_k (F 504 0 [some (.ref 3), some (.int x2)] [] (81, pt_G, I, L)) (fun v S => F 127 19 [some (.ref 0), some (.int x1), some (.int x2)] (v.toList ++ []) S) := pm_blk_to hF (pm_stp 127 [0, 8, 19, 29, 41]) 29 rfl
set_option maxRecDepth 20000 in
theorem e127_19 (hF : pm_fix pt_me pt_Sg (pt_R L0 xs) F) {x1 : Int32} {x2 : Int32} {s0 : Int32} : F 127 19 [some (.ref 0), some (.int x1), some (.int x2)] [.int s0] (81, pt_G, I, L) =
    if s0 = 0 then
      some (some (.int (-1)), (81, pt_G, I, L))
    else
      pm_k (F 151 0 [some (.int x2), some (.int x1)] [] (81, pt_G, I, L)) (fun v S => F 127 29 [some (.ref 0), some (.int x1), some (.int x2)] (v.toList ++ []) S) := pm_blk_to hF (pm_stp 127 [0, 8, 19, 29, 41]) 29 rfl
set_option maxRecDepth 20000 in
theorem e127_29 (hF : pm_fix pt_me pt_Sg (pt_R L0 xs) F) {x1 : Int32} {x2 : Int32} {s0 : Int32} : F 127 29 [some (.ref 0), some (.int x1), some (.int x2)] [.int s0] (81, pt_G, I, L) =
    if s0 = 0 then
      some (some (.int (-1)), (81, pt_G, I, L))
    else
      pm_k (F 530 0 [some (.ref 3), some (.int x1), some (.int x2), none, none, none] [] (81, pt_G, I, L)) (fun v S => F 127 41 [some (.ref 0), some (.int x1), some (.int x2)] (v.toList ++ []) S) := pm_blk_to hF (pm_stp 127 [0, 8, 19, 29, 41]) 29 rfl
set_option maxRecDepth 20000 in
theorem e127_41 (hF : pm_fix pt_me pt_Sg (pt_R L0 xs) F) {x1 : Int32} {x2 : Int32} {s0 : Int32} : F 127 41 [some (.ref 0), some (.int x1), some (.int x2)] [.int s0] (81, pt_G, I, L) =
    some (some (.int s0), (81, pt_G, I, L)) := pm_blk_to hF (pm_stp 127 [0, 8, 19, 29, 41]) 29 rfl
-- TurnCabinet.span(I)I 0
set_option maxRecDepth 20000 in
theorem e128_0 (hF : pm_fix pt_me pt_Sg (pt_R L0 xs) F) {x1 : Int32} : F 128 0 [some (.ref 0), some (.int x1)] [] (81, pt_G, I, L) =
    pm_k (F 506 0 [some (.ref 3), some (.int x1)] [] (81, pt_G, I, L)) (fun v S => F 128 8 [some (.ref 0), some (.int x1)] (v.toList ++ []) S) := pm_blk_to hF (pm_stp 128 [0, 8, 21, 29]) 22 rfl
set_option maxRecDepth 20000 in
theorem e128_8 (hF : pm_fix pt_me pt_Sg (pt_R L0 xs) F) {x1 : Int32} {s0 : Int32} : F 128 8 [some (.ref 0), some (.int x1)] [.int s0] (81, pt_G, I, L) =
    if s0 = 0 then
      some (some (.int (-1)), (81, pt_G, I, L))
    else
      pm_k (F 528 0 [some (.ref 3), some (.int x1), none, none] [] (81, pt_G, I, L)) (fun v S => F 128 21 [some (.ref 0), some (.int x1)] (v.toList ++ []) S) := pm_blk_to hF (pm_stp 128 [0, 8, 21, 29]) 22 rfl
set_option maxRecDepth 20000 in
theorem e128_21 (hF : pm_fix pt_me pt_Sg (pt_R L0 xs) F) {x1 : Int32} {s0 : Int32} : F 128 21 [some (.ref 0), some (.int x1)] [.int s0] (81, pt_G, I, L) =
    pm_k (F 527 0 [some (.ref 3), some (.int x1), none, none] [] (81, pt_G, I, L)) (fun v S => F 128 29 [some (.ref 0), some (.int x1)] (v.toList ++ [.int s0]) S) := pm_blk_to hF (pm_stp 128 [0, 8, 21, 29]) 22 rfl
set_option maxRecDepth 20000 in
theorem e128_29 (hF : pm_fix pt_me pt_Sg (pt_R L0 xs) F) {x1 : Int32} {s0 : Int32} {s1 : Int32} : F 128 29 [some (.ref 0), some (.int x1)] [.int s0, .int s1] (81, pt_G, I, L) =
    some (some (.int (s1 - s0)), (81, pt_G, I, L)) := pm_blk_to hF (pm_stp 128 [0, 8, 21, 29]) 22 rfl
-- TurnCabinet.median()I 0
set_option maxRecDepth 20000 in
theorem e129_0 (hF : pm_fix pt_me pt_Sg (pt_R L0 xs) F) : F 129 0 [some (.ref 0)] [] (81, pt_G, I, L) =
    pm_k (F 531 0 [some (.ref 3), none, none, none, none, none] [] (81, pt_G, I, L)) (fun v S => F 129 7 [some (.ref 0)] (v.toList ++ []) S) := pm_blk_to hF (pm_stp 129 [0, 7]) 9 rfl
set_option maxRecDepth 20000 in
theorem e129_7 (hF : pm_fix pt_me pt_Sg (pt_R L0 xs) F) {s0 : Int32} : F 129 7 [some (.ref 0)] [.int s0] (81, pt_G, I, L) =
    some (some (.int s0), (81, pt_G, I, L)) := pm_blk_to hF (pm_stp 129 [0, 7]) 9 rfl
-- TurnCabinet.needed(I)I 0
set_option maxRecDepth 20000 in
theorem e130_0 (hF : pm_fix pt_me pt_Sg (pt_R L0 xs) F) {x1 : Int32} : F 130 0 [some (.ref 0), some (.int x1)] [] (81, pt_G, I, L) =
    pm_k (F 504 0 [some (.ref 3), some (.int x1)] [] (81, pt_G, I, L)) (fun v S => F 130 8 [some (.ref 0), some (.int x1)] (v.toList ++ []) S) := pm_blk_to hF (pm_stp 130 [0, 8, 20, 28]) 20 rfl
set_option maxRecDepth 20000 in
theorem e130_8 (hF : pm_fix pt_me pt_Sg (pt_R L0 xs) F) {x1 : Int32} {s0 : Int32} : F 130 8 [some (.ref 0), some (.int x1)] [.int s0] (81, pt_G, I, L) =
    if s0 = 0 then
      some (some (.int (-1)), (81, pt_G, I, L))
    else
      pm_k (F 302 0 [some (.ref 30), none, none, none] [] (81, pt_G, I, L)) (fun v S => F 130 20 [some (.ref 0), some (.int x1)] (v.toList ++ []) S) := pm_blk_to hF (pm_stp 130 [0, 8, 20, 28]) 20 rfl
set_option maxRecDepth 20000 in
theorem e130_20 (hF : pm_fix pt_me pt_Sg (pt_R L0 xs) F) {x1 : Int32} : F 130 20 [some (.ref 0), some (.int x1)] [] (81, pt_G, I, L) =
    pm_k (F 326 0 [some (.ref 30), some (.int x1), none, none] [] (81, pt_G, I, L)) (fun v S => F 130 28 [some (.ref 0), some (.int x1)] (v.toList ++ []) S) := pm_blk_to hF (pm_stp 130 [0, 8, 20, 28]) 20 rfl
set_option maxRecDepth 20000 in
theorem e130_28 (hF : pm_fix pt_me pt_Sg (pt_R L0 xs) F) {x1 : Int32} {s0 : Int32} : F 130 28 [some (.ref 0), some (.int x1)] [.int s0] (81, pt_G, I, L) =
    some (some (.int s0), (81, pt_G, I, L)) := pm_blk_to hF (pm_stp 130 [0, 8, 20, 28]) 20 rfl
-- TurnCabinet.pivot(I)I 0
set_option maxRecDepth 20000 in
theorem e131_0 (hF : pm_fix pt_me pt_Sg (pt_R L0 xs) F) {x1 : Int32} : F 131 0 [some (.ref 0), some (.int x1)] [] (81, pt_G, I, L) =
    pm_k (F 504 0 [some (.ref 3), some (.int x1)] [] (81, pt_G, I, L)) (fun v S => F 131 8 [some (.ref 0), some (.int x1)] (v.toList ++ []) S) := pm_blk_to hF (pm_stp 131 [0, 8, 20, 28]) 20 rfl
set_option maxRecDepth 20000 in
theorem e131_8 (hF : pm_fix pt_me pt_Sg (pt_R L0 xs) F) {x1 : Int32} {s0 : Int32} : F 131 8 [some (.ref 0), some (.int x1)] [.int s0] (81, pt_G, I, L) =
    if s0 = 0 then
      some (some (.int (-1)), (81, pt_G, I, L))
    else
      pm_k (F 302 0 [some (.ref 30), none, none, none] [] (81, pt_G, I, L)) (fun v S => F 131 20 [some (.ref 0), some (.int x1)] (v.toList ++ []) S) := pm_blk_to hF (pm_stp 131 [0, 8, 20, 28]) 20 rfl
set_option maxRecDepth 20000 in
theorem e131_20 (hF : pm_fix pt_me pt_Sg (pt_R L0 xs) F) {x1 : Int32} : F 131 20 [some (.ref 0), some (.int x1)] [] (81, pt_G, I, L) =
    pm_k (F 327 0 [some (.ref 30), some (.int x1), none, none, none, none] [] (81, pt_G, I, L)) (fun v S => F 131 28 [some (.ref 0), some (.int x1)] (v.toList ++ []) S) := pm_blk_to hF (pm_stp 131 [0, 8, 20, 28]) 20 rfl
set_option maxRecDepth 20000 in
theorem e131_28 (hF : pm_fix pt_me pt_Sg (pt_R L0 xs) F) {x1 : Int32} {s0 : Int32} : F 131 28 [some (.ref 0), some (.int x1)] [.int s0] (81, pt_G, I, L) =
    some (some (.int s0), (81, pt_G, I, L)) := pm_blk_to hF (pm_stp 131 [0, 8, 20, 28]) 20 rfl
-- TurnCabinet.joins(I)I 0
set_option maxRecDepth 20000 in
theorem e132_0 (hF : pm_fix pt_me pt_Sg (pt_R L0 xs) F) {x1 : Int32} : F 132 0 [some (.ref 0), some (.int x1)] [] (81, pt_G, I, L) =
    pm_k (F 506 0 [some (.ref 3), some (.int x1)] [] (81, pt_G, I, L)) (fun v S => F 132 8 [some (.ref 0), some (.int x1)] (v.toList ++ []) S) := pm_blk_to hF (pm_stp 132 [0, 8, 20, 28]) 20 rfl
set_option maxRecDepth 20000 in
theorem e132_8 (hF : pm_fix pt_me pt_Sg (pt_R L0 xs) F) {x1 : Int32} {s0 : Int32} : F 132 8 [some (.ref 0), some (.int x1)] [.int s0] (81, pt_G, I, L) =
    if s0 = 0 then
      some (some (.int (-1)), (81, pt_G, I, L))
    else
      pm_k (F 302 0 [some (.ref 30), none, none, none] [] (81, pt_G, I, L)) (fun v S => F 132 20 [some (.ref 0), some (.int x1)] (v.toList ++ []) S) := pm_blk_to hF (pm_stp 132 [0, 8, 20, 28]) 20 rfl
set_option maxRecDepth 20000 in
theorem e132_20 (hF : pm_fix pt_me pt_Sg (pt_R L0 xs) F) {x1 : Int32} : F 132 20 [some (.ref 0), some (.int x1)] [] (81, pt_G, I, L) =
    pm_k (F 328 0 [some (.ref 30), some (.int x1), none, none] [] (81, pt_G, I, L)) (fun v S => F 132 28 [some (.ref 0), some (.int x1)] (v.toList ++ []) S) := pm_blk_to hF (pm_stp 132 [0, 8, 20, 28]) 20 rfl
set_option maxRecDepth 20000 in
theorem e132_28 (hF : pm_fix pt_me pt_Sg (pt_R L0 xs) F) {x1 : Int32} {s0 : Int32} : F 132 28 [some (.ref 0), some (.int x1)] [.int s0] (81, pt_G, I, L) =
    some (some (.int s0), (81, pt_G, I, L)) := pm_blk_to hF (pm_stp 132 [0, 8, 20, 28]) 20 rfl
-- TurnCabinet.dream(I)I 0
set_option maxRecDepth 20000 in
theorem e133_0 (hF : pm_fix pt_me pt_Sg (pt_R L0 xs) F) {x1 : Int32} : F 133 0 [some (.ref 0), some (.int x1)] [] (81, pt_G, I, L) =
    pm_k (F 504 0 [some (.ref 3), some (.int x1)] [] (81, pt_G, I, L)) (fun v S => F 133 8 [some (.ref 0), some (.int x1)] (v.toList ++ []) S) := pm_blk_to hF (pm_stp 133 [0, 8, 20, 28]) 20 rfl
set_option maxRecDepth 20000 in
theorem e133_8 (hF : pm_fix pt_me pt_Sg (pt_R L0 xs) F) {x1 : Int32} {s0 : Int32} : F 133 8 [some (.ref 0), some (.int x1)] [.int s0] (81, pt_G, I, L) =
    if s0 = 0 then
      some (some (.int (-1)), (81, pt_G, I, L))
    else
      pm_k (F 304 0 [some (.ref 30), none] [] (81, pt_G, I, L)) (fun v S => F 133 20 [some (.ref 0), some (.int x1)] (v.toList ++ []) S) := pm_blk_to hF (pm_stp 133 [0, 8, 20, 28]) 20 rfl
set_option maxRecDepth 20000 in
theorem e133_20 (hF : pm_fix pt_me pt_Sg (pt_R L0 xs) F) {x1 : Int32} : F 133 20 [some (.ref 0), some (.int x1)] [] (81, pt_G, I, L) =
    pm_k (F 320 0 [some (.ref 30), some (.int x1), none, none] [] (81, pt_G, I, L)) (fun v S => F 133 28 [some (.ref 0), some (.int x1)] (v.toList ++ []) S) := pm_blk_to hF (pm_stp 133 [0, 8, 20, 28]) 20 rfl
set_option maxRecDepth 20000 in
theorem e133_28 (hF : pm_fix pt_me pt_Sg (pt_R L0 xs) F) {x1 : Int32} {s0 : Int32} : F 133 28 [some (.ref 0), some (.int x1)] [.int s0] (81, pt_G, I, L) =
    some (some (.int s0), (81, pt_G, I, L)) := pm_blk_to hF (pm_stp 133 [0, 8, 20, 28]) 20 rfl
-- TurnCabinet.drift(II)I 0
set_option maxRecDepth 20000 in
theorem e134_0 (hF : pm_fix pt_me pt_Sg (pt_R L0 xs) F) {x1 : Int32} {x2 : Int32} : F 134 0 [some (.ref 0), some (.int x1), some (.int x2)] [] (81, pt_G, I, L) =
    pm_k (F 506 0 [some (.ref 3), some (.int x1)] [] (81, pt_G, I, L)) (fun v S => F 134 8 [some (.ref 0), some (.int x1), some (.int x2)] (v.toList ++ []) S) := pm_blk_to hF (pm_stp 134 [0, 8, 30, 37, 55]) 35 rfl
set_option maxRecDepth 20000 in
theorem e134_8 (hF : pm_fix pt_me pt_Sg (pt_R L0 xs) F) {x1 : Int32} {x2 : Int32} {s0 : Int32} : F 134 8 [some (.ref 0), some (.int x1), some (.int x2)] [.int s0] (81, pt_G, I, L) =
    if s0 = 0 then
      some (some (.int (-1)), (81, pt_G, I, L))
    else
      if x2 < 0 then
        some (some (.int (-1)), (81, pt_G, I, L))
      else
        if x2 ≤ 1 then
          pm_k (F 305 0 [some (.ref 30), some (.int x1), none, none, none, none] [] (81, pt_G, I, L)) (fun v S => F 134 30 [some (.ref 0), some (.int x1), some (.int x2)] (v.toList ++ []) S)
        else
          some (some (.int (-1)), (81, pt_G, I, L)) := pm_blk_to hF (pm_stp 134 [0, 8, 30, 37, 55]) 35 rfl
set_option maxRecDepth 20000 in
theorem e134_30 (hF : pm_fix pt_me pt_Sg (pt_R L0 xs) F) {x1 : Int32} {x2 : Int32} : F 134 30 [some (.ref 0), some (.int x1), some (.int x2)] [] (81, pt_G, I, L) =
    pm_k (F 304 0 [some (.ref 30), none] [] (81, pt_G, I, L)) (fun v S => F 134 37 [some (.ref 0), some (.int x1), some (.int x2)] (v.toList ++ []) S) := pm_blk_to hF (pm_stp 134 [0, 8, 30, 37, 55]) 35 rfl
set_option maxRecDepth 20000 in
theorem e134_37 (hF : pm_fix pt_me pt_Sg (pt_R L0 xs) F) {x1 : Int32} {x2 : Int32} : F 134 37 [some (.ref 0), some (.int x1), some (.int x2)] [] (81, pt_G, I, L) =
    if x2 = 1 then
      pm_k (F 319 0 [some (.ref 30), some (.int x1), some (.int 1), none, none, none] [] (81, pt_G, I, L)) (fun v S => F 134 55 [some (.ref 0), some (.int x1), some (.int x2)] (v.toList ++ []) S)
    else
      pm_k (F 319 0 [some (.ref 30), some (.int x1), some (.int 0), none, none, none] [] (81, pt_G, I, L)) (fun v S => F 134 55 [some (.ref 0), some (.int x1), some (.int x2)] (v.toList ++ []) S) := pm_blk_to hF (pm_stp 134 [0, 8, 30, 37, 55]) 35 rfl
set_option maxRecDepth 20000 in
theorem e134_55 (hF : pm_fix pt_me pt_Sg (pt_R L0 xs) F) {x1 : Int32} {x2 : Int32} {s0 : Int32} : F 134 55 [some (.ref 0), some (.int x1), some (.int x2)] [.int s0] (81, pt_G, I, L) =
    some (some (.int s0), (81, pt_G, I, L)) := pm_blk_to hF (pm_stp 134 [0, 8, 30, 37, 55]) 35 rfl
-- TurnCabinet.formed(I)I 0
set_option maxRecDepth 20000 in
theorem e135_0 (hF : pm_fix pt_me pt_Sg (pt_R L0 xs) F) {x1 : Int32} : F 135 0 [some (.ref 0), some (.int x1)] [] (81, pt_G, I, L) =
    if (I 3 0) = 0 then
      some (some (.int (-1)), (81, pt_G, I, L))
    else
      pm_k (F 304 0 [some (.ref 30), none] [] (81, pt_G, I, L)) (fun v S => F 135 19 [some (.ref 0), some (.int x1)] (v.toList ++ []) S) := pm_blk_to hF (pm_stp 135 [0, 19, 26, 96]) 42 rfl
set_option maxRecDepth 20000 in
theorem e135_19 (hF : pm_fix pt_me pt_Sg (pt_R L0 xs) F) {x1 : Int32} : F 135 19 [some (.ref 0), some (.int x1)] [] (81, pt_G, I, L) =
    pm_k (F 402 0 [some (.ref 41), none] [] (81, pt_G, I, L)) (fun v S => F 135 26 [some (.ref 0), some (.int x1)] (v.toList ++ []) S) := pm_blk_to hF (pm_stp 135 [0, 19, 26, 96]) 42 rfl
set_option maxRecDepth 20000 in
theorem e135_26 (hF : pm_fix pt_me pt_Sg (pt_R L0 xs) F) {x1 : Int32} : F 135 26 [some (.ref 0), some (.int x1)] [] (81, pt_G, I, L) =
    if x1 = nI 0 then
      some (some (.int (I 41 6)), (81, pt_G, I, L))
    else
    if x1 = nI 1 then
      some (some (.int (I 41 4)), (81, pt_G, I, L))
    else
    if x1 = nI 2 then
      some (some (.int (I 41 5)), (81, pt_G, I, L))
    else
    if x1 = nI 3 then
      pm_k (F 411 0 [some (.ref 41), some (.int ((I 41 4) - 1))] [] (81, pt_G, I, L)) (fun v S => F 135 96 [some (.ref 0), some (.int x1)] (v.toList ++ []) S)
    else
    some (some (.int (-1)), (81, pt_G, I, L)) := pm_blk_to hF (pm_stp 135 [0, 19, 26, 96]) 42 rfl
set_option maxRecDepth 20000 in
theorem e135_96 (hF : pm_fix pt_me pt_Sg (pt_R L0 xs) F) {x1 : Int32} {s0 : Int32} : F 135 96 [some (.ref 0), some (.int x1)] [.int s0] (81, pt_G, I, L) =
    some (some (.int s0), (81, pt_G, I, L)) := pm_blk_to hF (pm_stp 135 [0, 19, 26, 96]) 42 rfl
-- TurnCabinet.tried(II)I 0
set_option maxRecDepth 20000 in
theorem e136_0 (hF : pm_fix pt_me pt_Sg (pt_R L0 xs) F) {x1 : Int32} {x2 : Int32} : F 136 0 [some (.ref 0), some (.int x1), some (.int x2)] [] (81, pt_G, I, L) =
    pm_k (F 304 0 [some (.ref 30), none] [] (81, pt_G, I, L)) (fun v S => F 136 7 [some (.ref 0), some (.int x1), some (.int x2)] (v.toList ++ []) S) := pm_blk_to hF (pm_stp 136 [0, 7, 14, 48, 57, 66]) 30 rfl
set_option maxRecDepth 20000 in
theorem e136_7 (hF : pm_fix pt_me pt_Sg (pt_R L0 xs) F) {x1 : Int32} {x2 : Int32} : F 136 7 [some (.ref 0), some (.int x1), some (.int x2)] [] (81, pt_G, I, L) =
    pm_k (F 402 0 [some (.ref 41), none] [] (81, pt_G, I, L)) (fun v S => F 136 14 [some (.ref 0), some (.int x1), some (.int x2)] (v.toList ++ []) S) := pm_blk_to hF (pm_stp 136 [0, 7, 14, 48, 57, 66]) 30 rfl
set_option maxRecDepth 20000 in
theorem e136_14 (hF : pm_fix pt_me pt_Sg (pt_R L0 xs) F) {x1 : Int32} {x2 : Int32} : F 136 14 [some (.ref 0), some (.int x1), some (.int x2)] [] (81, pt_G, I, L) =
    if x2 = nI 0 then
      pm_k (F 411 0 [some (.ref 41), some (.int x1)] [] (81, pt_G, I, L)) (fun v S => F 136 48 [some (.ref 0), some (.int x1), some (.int x2)] (v.toList ++ []) S)
    else
    if x2 = nI 1 then
      pm_k (F 412 0 [some (.ref 41), some (.int x1)] [] (81, pt_G, I, L)) (fun v S => F 136 57 [some (.ref 0), some (.int x1), some (.int x2)] (v.toList ++ []) S)
    else
    if x2 = nI 2 then
      pm_k (F 413 0 [some (.ref 41), some (.int x1)] [] (81, pt_G, I, L)) (fun v S => F 136 66 [some (.ref 0), some (.int x1), some (.int x2)] (v.toList ++ []) S)
    else
    some (some (.int (-1)), (81, pt_G, I, L)) := pm_blk_to hF (pm_stp 136 [0, 7, 14, 48, 57, 66]) 30 rfl
set_option maxRecDepth 20000 in
theorem e136_48 (hF : pm_fix pt_me pt_Sg (pt_R L0 xs) F) {x1 : Int32} {x2 : Int32} {s0 : Int32} : F 136 48 [some (.ref 0), some (.int x1), some (.int x2)] [.int s0] (81, pt_G, I, L) =
    some (some (.int s0), (81, pt_G, I, L)) := pm_blk_to hF (pm_stp 136 [0, 7, 14, 48, 57, 66]) 30 rfl
set_option maxRecDepth 20000 in
theorem e136_57 (hF : pm_fix pt_me pt_Sg (pt_R L0 xs) F) {x1 : Int32} {x2 : Int32} {s0 : Int32} : F 136 57 [some (.ref 0), some (.int x1), some (.int x2)] [.int s0] (81, pt_G, I, L) =
    some (some (.int s0), (81, pt_G, I, L)) := pm_blk_to hF (pm_stp 136 [0, 7, 14, 48, 57, 66]) 30 rfl
set_option maxRecDepth 20000 in
theorem e136_66 (hF : pm_fix pt_me pt_Sg (pt_R L0 xs) F) {x1 : Int32} {x2 : Int32} {s0 : Int32} : F 136 66 [some (.ref 0), some (.int x1), some (.int x2)] [.int s0] (81, pt_G, I, L) =
    some (some (.int s0), (81, pt_G, I, L)) := pm_blk_to hF (pm_stp 136 [0, 7, 14, 48, 57, 66]) 30 rfl
-- TurnCabinet.hold(II)I 0
set_option maxRecDepth 20000 in
theorem e137_0 (hF : pm_fix pt_me pt_Sg (pt_R L0 xs) F) {x1 : Int32} {x2 : Int32} : F 137 0 [some (.ref 0), some (.int x1), some (.int x2)] [] (81, pt_G, I, L) =
    pm_k (F 506 0 [some (.ref 3), some (.int x1)] [] (81, pt_G, I, L)) (fun v S => F 137 8 [some (.ref 0), some (.int x1), some (.int x2)] (v.toList ++ []) S) := pm_blk_to hF (pm_stp 137 [0, 8, 15, 34, 37]) 25 rfl
set_option maxRecDepth 20000 in
theorem e137_8 (hF : pm_fix pt_me pt_Sg (pt_R L0 xs) F) {x1 : Int32} {x2 : Int32} {s0 : Int32} : F 137 8 [some (.ref 0), some (.int x1), some (.int x2)] [.int s0] (81, pt_G, I, L) =
    if s0 = 0 then
      some (some (.int (-1)), (81, pt_G, I, L))
    else
      pm_k (F 149 0 [some (.int x2)] [] (81, pt_G, I, L)) (fun v S => F 137 15 [some (.ref 0), some (.int x1), some (.int x2)] (v.toList ++ []) S) := pm_blk_to hF (pm_stp 137 [0, 8, 15, 34, 37]) 25 rfl
set_option maxRecDepth 20000 in
theorem e137_15 (hF : pm_fix pt_me pt_Sg (pt_R L0 xs) F) {x1 : Int32} {x2 : Int32} {s0 : Int32} : F 137 15 [some (.ref 0), some (.int x1), some (.int x2)] [.int s0] (81, pt_G, I, L) =
    if s0 = 0 then
      some (some (.int (-1)), (81, pt_G, I, L))
    else
      pm_k (F 307 0 [some (.ref 30), some (.int x1), some (.int x2), none] [] (81, pt_G, I, L)) (fun v S => F 137 34 [some (.ref 0), some (.int x1), some (.int x2)] (v.toList ++ [.int x1, .ref 44]) S) := pm_blk_to hF (pm_stp 137 [0, 8, 15, 34, 37]) 25 rfl
set_option maxRecDepth 20000 in
theorem e137_34 (hF : pm_fix pt_me pt_Sg (pt_R L0 xs) F) {x1 : Int32} {x2 : Int32} {s0 : Int32} {s1 : Int32} : F 137 34 [some (.ref 0), some (.int x1), some (.int x2)] [.int s0, .int s1, .ref 44] (81, pt_G, I, L) =
    pm_k (F 208 0 [some (.ref 44), some (.int s1), some (.int s0), none, none] [] (81, pt_G, I, L)) (fun v S => F 137 37 [some (.ref 0), some (.int x1), some (.int x2)] (v.toList ++ []) S) := pm_blk_to hF (pm_stp 137 [0, 8, 15, 34, 37]) 25 rfl
set_option maxRecDepth 20000 in
theorem e137_37 (hF : pm_fix pt_me pt_Sg (pt_R L0 xs) F) {x1 : Int32} {x2 : Int32} {s0 : Int32} : F 137 37 [some (.ref 0), some (.int x1), some (.int x2)] [.int s0] (81, pt_G, I, L) =
    some (some (.int s0), (81, pt_G, I, L)) := pm_blk_to hF (pm_stp 137 [0, 8, 15, 34, 37]) 25 rfl
-- TurnCabinet.now(I)I 0
set_option maxRecDepth 20000 in
theorem e138_0 (hF : pm_fix pt_me pt_Sg (pt_R L0 xs) F) {x1 : Int32} : F 138 0 [some (.ref 0), some (.int x1)] [] (81, pt_G, I, L) =
    if x1 = (-1) then
      F 138 23 [some (.ref 0), some (.int x1)] [.int (I 44 5)] (81, pt_G, I, L)
    else
      pm_k (F 204 0 [some (.ref 44), some (.int x1)] [] (81, pt_G, I, L)) (fun v S => F 138 23 [some (.ref 0), some (.int x1)] (v.toList ++ []) S) := pm_blk_to hF (pm_stp 138 [0, 23]) 17 rfl
set_option maxRecDepth 20000 in
theorem e138_23 (hF : pm_fix pt_me pt_Sg (pt_R L0 xs) F) {x1 : Int32} {s0 : Int32} : F 138 23 [some (.ref 0), some (.int x1)] [.int s0] (81, pt_G, I, L) =
    some (some (.int s0), (81, pt_G, I, L)) := pm_blk_to hF (pm_stp 138 [0, 23]) 17 rfl
-- TurnCabinet.leave(I)I 0
set_option maxRecDepth 20000 in
theorem e139_0 (hF : pm_fix pt_me pt_Sg (pt_R L0 xs) F) {x1 : Int32} : F 139 0 [some (.ref 0), some (.int x1)] [] (81, pt_G, I, L) =
    pm_k (F 203 0 [some (.ref 44), some (.int x1)] [] (81, pt_G, I, L)) (fun v S => F 139 8 [some (.ref 0), some (.int x1)] (v.toList ++ []) S) := pm_blk_to hF (pm_stp 139 [0, 8, 21, 29]) 21 rfl
set_option maxRecDepth 20000 in
theorem e139_8 (hF : pm_fix pt_me pt_Sg (pt_R L0 xs) F) {x1 : Int32} {s0 : Int32} : F 139 8 [some (.ref 0), some (.int x1)] [.int s0] (81, pt_G, I, L) =
    if s0 = 0 then
      some (some (.int (-1)), (81, pt_G, I, L))
    else
      pm_k (F 214 0 [some (.ref 44), some (.int (-1)), none] [] (81, pt_G, I, L)) (fun v S => F 139 21 [some (.ref 0), some (.int x1)] (v.toList ++ []) S) := pm_blk_to hF (pm_stp 139 [0, 8, 21, 29]) 21 rfl
set_option maxRecDepth 20000 in
theorem e139_21 (hF : pm_fix pt_me pt_Sg (pt_R L0 xs) F) {x1 : Int32} : F 139 21 [some (.ref 0), some (.int x1)] [] (81, pt_G, I, L) =
    pm_k (F 212 0 [some (.ref 44), some (.int x1), none, none, none, none, none] [] (81, pt_G, I, L)) (fun v S => F 139 29 [some (.ref 0), some (.int x1)] (v.toList ++ []) S) := pm_blk_to hF (pm_stp 139 [0, 8, 21, 29]) 21 rfl
set_option maxRecDepth 20000 in
theorem e139_29 (hF : pm_fix pt_me pt_Sg (pt_R L0 xs) F) {x1 : Int32} {s0 : Int32} : F 139 29 [some (.ref 0), some (.int x1)] [.int s0] (81, pt_G, I, L) =
    some (some (.int s0), (81, pt_G, I, L)) := pm_blk_to hF (pm_stp 139 [0, 8, 21, 29]) 21 rfl
-- TurnCabinet.payNow(I)I 0
set_option maxRecDepth 20000 in
theorem e140_0 (hF : pm_fix pt_me pt_Sg (pt_R L0 xs) F) {x1 : Int32} : F 140 0 [some (.ref 0), some (.int x1)] [] (81, pt_G, I, L) =
    pm_k (F 504 0 [some (.ref 3), some (.int x1)] [] (81, pt_G, I, L)) (fun v S => F 140 8 [some (.ref 0), some (.int x1)] (v.toList ++ []) S) := pm_blk_to hF (pm_stp 140 [0, 8, 32]) 21 rfl
set_option maxRecDepth 20000 in
theorem e140_8 (hF : pm_fix pt_me pt_Sg (pt_R L0 xs) F) {x1 : Int32} {s0 : Int32} : F 140 8 [some (.ref 0), some (.int x1)] [.int s0] (81, pt_G, I, L) =
    if s0 = 0 then
      some (some (.int (-1000000)), (81, pt_G, I, L))
    else
      if (I 44 5) = 0 then
        some (some (.int (-1000000)), (81, pt_G, I, L))
      else
        pm_k (F 207 0 [some (.ref 44), some (.int x1), none] [] (81, pt_G, I, L)) (fun v S => F 140 32 [some (.ref 0), some (.int x1)] (v.toList ++ []) S) := pm_blk_to hF (pm_stp 140 [0, 8, 32]) 21 rfl
set_option maxRecDepth 20000 in
theorem e140_32 (hF : pm_fix pt_me pt_Sg (pt_R L0 xs) F) {x1 : Int32} {s0 : Int32} : F 140 32 [some (.ref 0), some (.int x1)] [.int s0] (81, pt_G, I, L) =
    some (some (.int s0), (81, pt_G, I, L)) := pm_blk_to hF (pm_stp 140 [0, 8, 32]) 21 rfl
-- TurnCabinet.crisis()I 0
set_option maxRecDepth 20000 in
theorem e141_0 (hF : pm_fix pt_me pt_Sg (pt_R L0 xs) F) : F 141 0 [some (.ref 0)] [] (81, pt_G, I, L) =
    pm_k (F 210 0 [some (.ref 44), none, none, none] [] (81, pt_G, I, L)) (fun v S => F 141 7 [some (.ref 0)] (v.toList ++ []) S) := pm_blk_to hF (pm_stp 141 [0, 7]) 9 rfl
set_option maxRecDepth 20000 in
theorem e141_7 (hF : pm_fix pt_me pt_Sg (pt_R L0 xs) F) {s0 : Int32} : F 141 7 [some (.ref 0)] [.int s0] (81, pt_G, I, L) =
    some (some (.int s0), (81, pt_G, I, L)) := pm_blk_to hF (pm_stp 141 [0, 7]) 9 rfl
-- TurnCabinet.trade(II)I 0
set_option maxRecDepth 20000 in
theorem e142_0 (hF : pm_fix pt_me pt_Sg (pt_R L0 xs) F) {x1 : Int32} {x2 : Int32} : F 142 0 [some (.ref 0), some (.int x1), some (.int x2), none, none] [] (81, pt_G, I, L) =
    pm_k (F 204 0 [some (.ref 44), some (.int x1)] [] (81, pt_G, I, L)) (fun v S => F 142 8 [some (.ref 0), some (.int x1), some (.int x2), none, none] (v.toList ++ []) S) := pm_blk_to hF (pm_stp 142 [0, 8, 17, 48]) 32 rfl
set_option maxRecDepth 20000 in
theorem e142_8 (hF : pm_fix pt_me pt_Sg (pt_R L0 xs) F) {x1 : Int32} {x2 : Int32} {s0 : Int32} : F 142 8 [some (.ref 0), some (.int x1), some (.int x2), none, none] [.int s0] (81, pt_G, I, L) =
    pm_k (F 204 0 [some (.ref 44), some (.int x2)] [] (81, pt_G, I, L)) (fun v S => F 142 17 [some (.ref 0), some (.int x1), some (.int x2), some (.int s0), none] (v.toList ++ []) S) := pm_blk_to hF (pm_stp 142 [0, 8, 17, 48]) 32 rfl
set_option maxRecDepth 20000 in
theorem e142_17 (hF : pm_fix pt_me pt_Sg (pt_R L0 xs) F) {x1 : Int32} {x2 : Int32} {x3 : Int32} {s0 : Int32} : F 142 17 [some (.ref 0), some (.int x1), some (.int x2), some (.int x3), none] [.int s0] (81, pt_G, I, L) =
    if x3 = (-1) then
      some (some (.int (-1000000)), (81, pt_G, I, L))
    else
      if s0 = (-1) then
        some (some (.int (-1000000)), (81, pt_G, I, L))
      else
        if x3 = s0 then
          some (some (.int (-1000000)), (81, pt_G, I, L))
        else
          pm_k (F 209 0 [some (.ref 44), some (.int x1), some (.int x2), none] [] (81, pt_G, I, L)) (fun v S => F 142 48 [some (.ref 0), some (.int x1), some (.int x2), some (.int x3), some (.int s0)] (v.toList ++ []) S) := pm_blk_to hF (pm_stp 142 [0, 8, 17, 48]) 32 rfl
set_option maxRecDepth 20000 in
theorem e142_48 (hF : pm_fix pt_me pt_Sg (pt_R L0 xs) F) {x1 : Int32} {x2 : Int32} {x3 : Int32} {x4 : Int32} {s0 : Int32} : F 142 48 [some (.ref 0), some (.int x1), some (.int x2), some (.int x3), some (.int x4)] [.int s0] (81, pt_G, I, L) =
    some (some (.int s0), (81, pt_G, I, L)) := pm_blk_to hF (pm_stp 142 [0, 8, 17, 48]) 32 rfl
-- TurnCabinet.seats(II)I 0
set_option maxRecDepth 20000 in
theorem e143_0 (hF : pm_fix pt_me pt_Sg (pt_R L0 xs) F) {x1 : Int32} {x2 : Int32} : F 143 0 [some (.ref 0), some (.int x1), some (.int x2), none] [] (81, pt_G, I, L) =
    pm_k (F 504 0 [some (.ref 3), some (.int x1)] [] (81, pt_G, I, L)) (fun v S => F 143 8 [some (.ref 0), some (.int x1), some (.int x2), none] (v.toList ++ []) S) := pm_blk_to hF (pm_stp 143 [0, 8, 33, 49, 58]) 39 rfl
set_option maxRecDepth 20000 in
theorem e143_8 (hF : pm_fix pt_me pt_Sg (pt_R L0 xs) F) {x1 : Int32} {x2 : Int32} {s0 : Int32} : F 143 8 [some (.ref 0), some (.int x1), some (.int x2), none] [.int s0] (81, pt_G, I, L) =
    if s0 = 0 then
      some (some (.int (-1)), (81, pt_G, I, L))
    else
      if x2 < 1 then
        some (some (.int (-1)), (81, pt_G, I, L))
      else
        if x2 ≤ 999 then
          pm_k (F 508 0 [some (.ref 3), some (.int x1)] [] (81, pt_G, I, L)) (fun v S => F 143 33 [some (.ref 0), some (.int x1), some (.int x2), none] (v.toList ++ []) S)
        else
          some (some (.int (-1)), (81, pt_G, I, L)) := pm_blk_to hF (pm_stp 143 [0, 8, 33, 49, 58]) 39 rfl
set_option maxRecDepth 20000 in
theorem e143_33 (hF : pm_fix pt_me pt_Sg (pt_R L0 xs) F) {x1 : Int32} {x2 : Int32} {s0 : Int32} : F 143 33 [some (.ref 0), some (.int x1), some (.int x2), none] [.int s0] (81, pt_G, I, L) =
    if s0 = x2 then
      some (some (.int (-1)), (81, pt_G, I, L))
    else
      pm_k (F 214 0 [some (.ref 44), some (.int x1), none] [] (81, pt_G, I, L)) (fun v S => F 143 49 [some (.ref 0), some (.int x1), some (.int x2), some (.int s0)] (v.toList ++ []) S) := pm_blk_to hF (pm_stp 143 [0, 8, 33, 49, 58]) 39 rfl
set_option maxRecDepth 20000 in
theorem e143_49 (hF : pm_fix pt_me pt_Sg (pt_R L0 xs) F) {x1 : Int32} {x2 : Int32} {x3 : Int32} : F 143 49 [some (.ref 0), some (.int x1), some (.int x2), some (.int x3)] [] (81, pt_G, I, L) =
    pm_k (F 514 0 [some (.ref 3), some (.int x1), some (.int x2)] [] (81, pt_G, I, L)) (fun v S => F 143 58 [some (.ref 0), some (.int x1), some (.int x2), some (.int x3)] (v.toList ++ []) S) := pm_blk_to hF (pm_stp 143 [0, 8, 33, 49, 58]) 39 rfl
set_option maxRecDepth 20000 in
theorem e143_58 (hF : pm_fix pt_me pt_Sg (pt_R L0 xs) F) {x1 : Int32} {x2 : Int32} {x3 : Int32} : F 143 58 [some (.ref 0), some (.int x1), some (.int x2), some (.int x3)] [] (81, pt_G, I, L) =
    some (some (.int x3), (81, pt_G, I, L)) := pm_blk_to hF (pm_stp 143 [0, 8, 33, 49, 58]) 39 rfl
-- TurnCabinet.above()I 0
set_option maxRecDepth 20000 in
theorem e144_0 (hF : pm_fix pt_me pt_Sg (pt_R L0 xs) F) : F 144 0 [some (.ref 0)] [] (81, pt_G, I, L) =
    if (I 44 5) = 0 then
      some (some (.int (-1000000)), (81, pt_G, I, L))
    else
      pm_k (F 515 0 [some (.ref 3), some (.int (I 44 5)), none, none] [] (81, pt_G, I, L)) (fun v S => F 144 27 [some (.ref 0)] (v.toList ++ []) S) := pm_blk_to hF (pm_stp 144 [0, 27, 34]) 22 rfl
set_option maxRecDepth 20000 in
theorem e144_27 (hF : pm_fix pt_me pt_Sg (pt_R L0 xs) F) {s0 : Int32} : F 144 27 [some (.ref 0)] [.int s0] (81, pt_G, I, L) =
    pm_k (F 517 0 [some (.ref 3)] [] (81, pt_G, I, L)) (fun v S => F 144 34 [some (.ref 0)] (v.toList ++ [.int s0]) S) := pm_blk_to hF (pm_stp 144 [0, 27, 34]) 22 rfl
set_option maxRecDepth 20000 in
theorem e144_34 (hF : pm_fix pt_me pt_Sg (pt_R L0 xs) F) {s0 : Int32} {s1 : Int32} : F 144 34 [some (.ref 0)] [.int s0, .int s1] (81, pt_G, I, L) =
    some (some (.int (s1 - s0)), (81, pt_G, I, L)) := pm_blk_to hF (pm_stp 144 [0, 27, 34]) 22 rfl
-- TurnCabinet.undo()I 0
set_option maxRecDepth 20000 in
theorem e145_0 (hF : pm_fix pt_me pt_Sg (pt_R L0 xs) F) : F 145 0 [some (.ref 0)] [] (81, pt_G, I, L) =
    if (I 44 7) ≤ 0 then
      some (some (.int (-1)), (81, pt_G, I, L))
    else
      pm_k (F 216 0 [some (.ref 44), none] [] (81, pt_G, I, L)) (fun v S => F 145 17 [some (.ref 0)] (v.toList ++ []) S) := pm_blk_to hF (pm_stp 145 [0, 17]) 15 rfl
set_option maxRecDepth 20000 in
theorem e145_17 (hF : pm_fix pt_me pt_Sg (pt_R L0 xs) F) {s0 : Int32} : F 145 17 [some (.ref 0)] [.int s0] (81, pt_G, I, L) =
    some (some (.int s0), (81, pt_G, I, L)) := pm_blk_to hF (pm_stp 145 [0, 17]) 15 rfl
-- TurnCabinet.judge(II)I 0
set_option maxRecDepth 20000 in
theorem e146_0 (hF : pm_fix pt_me pt_Sg (pt_R L0 xs) F) {x1 : Int32} {x2 : Int32} : F 146 0 [some (.ref 0), some (.int x1), some (.int x2), none] [] (81, pt_G, I, L) =
    pm_k (F 506 0 [some (.ref 3), some (.int x1)] [] (81, pt_G, I, L)) (fun v S => F 146 8 [some (.ref 0), some (.int x1), some (.int x2), none] (v.toList ++ []) S) := pm_blk_to hF (pm_stp 146 [0, 8, 27, 36, 80, 89, 98, 106, 114]) 57 rfl
set_option maxRecDepth 20000 in
theorem e146_8 (hF : pm_fix pt_me pt_Sg (pt_R L0 xs) F) {x1 : Int32} {x2 : Int32} {s0 : Int32} : F 146 8 [some (.ref 0), some (.int x1), some (.int x2), none] [.int s0] (81, pt_G, I, L) =
    if s0 = 0 then
      some (some (.int (-1)), (81, pt_G, I, L))
    else
      if x2 < 0 then
        some (some (.int (-1)), (81, pt_G, I, L))
      else
        if x2 ≤ 3 then
          pm_k (F 147 0 [some (.ref 0), some (.int x1), none, none, none] [] (81, pt_G, I, L)) (fun v S => F 146 27 [some (.ref 0), some (.int x1), some (.int x2), none] (v.toList ++ []) S)
        else
          some (some (.int (-1)), (81, pt_G, I, L)) := pm_blk_to hF (pm_stp 146 [0, 8, 27, 36, 80, 89, 98, 106, 114]) 57 rfl
set_option maxRecDepth 20000 in
theorem e146_27 (hF : pm_fix pt_me pt_Sg (pt_R L0 xs) F) {x1 : Int32} {x2 : Int32} {s0 : Int32} : F 146 27 [some (.ref 0), some (.int x1), some (.int x2), none] [.int s0] (81, pt_G, I, L) =
    pm_k (F 1005 0 [some (.ref 1), some (.int 0)] [] (81, pt_G, I, L)) (fun v S => F 146 36 [some (.ref 0), some (.int x1), some (.int x2), some (.int s0)] (v.toList ++ []) S) := pm_blk_to hF (pm_stp 146 [0, 8, 27, 36, 80, 89, 98, 106, 114]) 57 rfl
set_option maxRecDepth 20000 in
theorem e146_36 (hF : pm_fix pt_me pt_Sg (pt_R L0 xs) F) {x1 : Int32} {x2 : Int32} {x3 : Int32} : F 146 36 [some (.ref 0), some (.int x1), some (.int x2), some (.int x3)] [] (81, pt_G, I, L) =
    if x3 = (-1) then
      some (some (.int (-2)), (81, pt_G, I, L))
    else
      if x2 = nI 0 then
        pm_k (F 613 0 [some (.ref 23), some (.int x3), none, none, none] [] (81, pt_G, I, L)) (fun v S => F 146 80 [some (.ref 0), some (.int x1), some (.int x2), some (.int x3)] (v.toList ++ []) S)
      else
      if x2 = nI 1 then
        pm_k (F 522 0 [some (.ref 3), some (.int x3), none, none] [] (81, pt_G, I, L)) (fun v S => F 146 89 [some (.ref 0), some (.int x1), some (.int x2), some (.int x3)] (v.toList ++ []) S)
      else
      if x2 = nI 2 then
        pm_k (F 523 0 [some (.ref 3), some (.int x1), none, none, none, none] [] (81, pt_G, I, L)) (fun v S => F 146 98 [some (.ref 0), some (.int x1), some (.int x2), some (.int x3)] (v.toList ++ []) S)
      else
      pm_k (F 148 0 [some (.ref 0), some (.int x1), some (.int x3), none, none, none, none, none] [] (81, pt_G, I, L)) (fun v S => F 146 114 [some (.ref 0), some (.int x1), some (.int x2), some (.int x3)] (v.toList ++ []) S) := pm_blk_to hF (pm_stp 146 [0, 8, 27, 36, 80, 89, 98, 106, 114]) 57 rfl
set_option maxRecDepth 20000 in
theorem e146_80 (hF : pm_fix pt_me pt_Sg (pt_R L0 xs) F) {x1 : Int32} {x2 : Int32} {x3 : Int32} {s0 : Int32} : F 146 80 [some (.ref 0), some (.int x1), some (.int x2), some (.int x3)] [.int s0] (81, pt_G, I, L) =
    some (some (.int s0), (81, pt_G, I, L)) := pm_blk_to hF (pm_stp 146 [0, 8, 27, 36, 80, 89, 98, 106, 114]) 57 rfl
set_option maxRecDepth 20000 in
theorem e146_89 (hF : pm_fix pt_me pt_Sg (pt_R L0 xs) F) {x1 : Int32} {x2 : Int32} {x3 : Int32} {s0 : Int32} : F 146 89 [some (.ref 0), some (.int x1), some (.int x2), some (.int x3)] [.int s0] (81, pt_G, I, L) =
    some (some (.int s0), (81, pt_G, I, L)) := pm_blk_to hF (pm_stp 146 [0, 8, 27, 36, 80, 89, 98, 106, 114]) 57 rfl
set_option maxRecDepth 20000 in
theorem e146_98 (hF : pm_fix pt_me pt_Sg (pt_R L0 xs) F) {x1 : Int32} {x2 : Int32} {x3 : Int32} {s0 : Int32} : F 146 98 [some (.ref 0), some (.int x1), some (.int x2), some (.int x3)] [.int s0] (81, pt_G, I, L) =
    pm_k (F 522 0 [some (.ref 3), some (.int x3), none, none] [] (81, pt_G, I, L)) (fun v S => F 146 106 [some (.ref 0), some (.int x1), some (.int x2), some (.int x3)] (v.toList ++ [.int s0]) S) := pm_blk_to hF (pm_stp 146 [0, 8, 27, 36, 80, 89, 98, 106, 114]) 57 rfl
set_option maxRecDepth 20000 in
theorem e146_106 (hF : pm_fix pt_me pt_Sg (pt_R L0 xs) F) {x1 : Int32} {x2 : Int32} {x3 : Int32} {s0 : Int32} {s1 : Int32} : F 146 106 [some (.ref 0), some (.int x1), some (.int x2), some (.int x3)] [.int s0, .int s1] (81, pt_G, I, L) =
    some (some (.int (s1 - s0)), (81, pt_G, I, L)) := pm_blk_to hF (pm_stp 146 [0, 8, 27, 36, 80, 89, 98, 106, 114]) 57 rfl
set_option maxRecDepth 20000 in
theorem e146_114 (hF : pm_fix pt_me pt_Sg (pt_R L0 xs) F) {x1 : Int32} {x2 : Int32} {x3 : Int32} {s0 : Int32} : F 146 114 [some (.ref 0), some (.int x1), some (.int x2), some (.int x3)] [.int s0] (81, pt_G, I, L) =
    some (some (.int s0), (81, pt_G, I, L)) := pm_blk_to hF (pm_stp 146 [0, 8, 27, 36, 80, 89, 98, 106, 114]) 57 rfl
-- TurnCabinet.toldCabinet(I)I 0
set_option maxRecDepth 20000 in
theorem e147_0 (hF : pm_fix pt_me pt_Sg (pt_R L0 xs) F) {x1 : Int32} : F 147 0 [some (.ref 0), some (.int x1), none, none, none] [] (81, pt_G, I, L) =
    pm_k (F 1002 0 [some (.ref 1)] [] (81, pt_G, I, L)) (fun v S => F 147 7 [some (.ref 0), some (.int x1), none, none, none] (v.toList ++ []) S) := pm_blk_to hF (pm_stp 147 [0, 7, 23, 42, 53, 62, 74]) 48 rfl
set_option maxRecDepth 20000 in
theorem e147_7 (hF : pm_fix pt_me pt_Sg (pt_R L0 xs) F) {x1 : Int32} {s0 : Int32} : F 147 7 [some (.ref 0), some (.int x1), none, none, none] [.int s0] (81, pt_G, I, L) =
    if s0 = (I 3 1) then
      F 147 23 [some (.ref 0), some (.int x1), some (.int 0), some (.int 0), none] [] (81, pt_G, I, L)
    else
      some (some (.int (-1)), (81, pt_G, I, L)) := pm_blk_to hF (pm_stp 147 [0, 7, 23, 42, 53, 62, 74]) 48 rfl
set_option maxRecDepth 20000 in
theorem e147_23 (hF : pm_fix pt_me pt_Sg (pt_R L0 xs) F) {x1 : Int32} {x2 : Int32} {x3 : Int32} : F 147 23 [some (.ref 0), some (.int x1), some (.int x2), some (.int x3), none] [] (81, pt_G, I, L) =
    if x3 < (I 3 1) then
      pm_k (F 1003 0 [some (.ref 1), some (.int x3)] [] (81, pt_G, I, L)) (fun v S => F 147 42 [some (.ref 0), some (.int x1), some (.int x2), some (.int x3), none] (v.toList ++ []) S)
    else
      some (some (.int x2), (81, pt_G, I, L)) := pm_blk_to hF (pm_stp 147 [0, 7, 23, 42, 53, 62, 74]) 48 rfl
set_option maxRecDepth 20000 in
theorem e147_42 (hF : pm_fix pt_me pt_Sg (pt_R L0 xs) F) {x1 : Int32} {x2 : Int32} {x3 : Int32} {s0 : Int32} : F 147 42 [some (.ref 0), some (.int x1), some (.int x2), some (.int x3), none] [.int s0] (81, pt_G, I, L) =
    pm_k (F 504 0 [some (.ref 3), some (.int s0)] [] (81, pt_G, I, L)) (fun v S => F 147 53 [some (.ref 0), some (.int x1), some (.int x2), some (.int x3), some (.int s0)] (v.toList ++ []) S) := pm_blk_to hF (pm_stp 147 [0, 7, 23, 42, 53, 62, 74]) 48 rfl
set_option maxRecDepth 20000 in
theorem e147_53 (hF : pm_fix pt_me pt_Sg (pt_R L0 xs) F) {x1 : Int32} {x2 : Int32} {x3 : Int32} {x4 : Int32} {s0 : Int32} : F 147 53 [some (.ref 0), some (.int x1), some (.int x2), some (.int x3), some (.int x4)] [.int s0] (81, pt_G, I, L) =
    if s0 = 0 then
      some (some (.int (-1)), (81, pt_G, I, L))
    else
      pm_k (F 151 0 [some (.int x4), some (.int x1)] [] (81, pt_G, I, L)) (fun v S => F 147 62 [some (.ref 0), some (.int x1), some (.int x2), some (.int x3), some (.int x4)] (v.toList ++ []) S) := pm_blk_to hF (pm_stp 147 [0, 7, 23, 42, 53, 62, 74]) 48 rfl
set_option maxRecDepth 20000 in
theorem e147_62 (hF : pm_fix pt_me pt_Sg (pt_R L0 xs) F) {x1 : Int32} {x2 : Int32} {x3 : Int32} {x4 : Int32} {s0 : Int32} : F 147 62 [some (.ref 0), some (.int x1), some (.int x2), some (.int x3), some (.int x4)] [.int s0] (81, pt_G, I, L) =
    if s0 = 0 then
      some (some (.int (-1)), (81, pt_G, I, L))
    else
      pm_k (F 903 0 [some (.int x2), some (.int x3), some (.int x4), none] [] (81, pt_G, I, L)) (fun v S => F 147 74 [some (.ref 0), some (.int x1), some (.int x2), some (.int x3), some (.int x4)] (v.toList ++ []) S) := pm_blk_to hF (pm_stp 147 [0, 7, 23, 42, 53, 62, 74]) 48 rfl
set_option maxRecDepth 20000 in
theorem e147_74 (hF : pm_fix pt_me pt_Sg (pt_R L0 xs) F) {x1 : Int32} {x2 : Int32} {x3 : Int32} {x4 : Int32} {s0 : Int32} : F 147 74 [some (.ref 0), some (.int x1), some (.int x2), some (.int x3), some (.int x4)] [.int s0] (81, pt_G, I, L) =
    F 147 23 [some (.ref 0), some (.int x1), some (.int s0), some (.int (x3 + 1)), none] [] (81, pt_G, I, L) := pm_blk_to hF (pm_stp 147 [0, 7, 23, 42, 53, 62, 74]) 48 rfl
-- TurnCabinet.countUnkept(II)I 0
set_option maxRecDepth 20000 in
theorem e148_0 (hF : pm_fix pt_me pt_Sg (pt_R L0 xs) F) {x1 : Int32} {x2 : Int32} : F 148 0 [some (.ref 0), some (.int x1), some (.int x2), none, none, none, none, none] [] (81, pt_G, I, L) =
    pm_k (F 602 0 [some (.ref 23), some (.int x1), some (.int (I 3 2)), some (.int (I 3 3)), none, none, none, none] [] (81, pt_G, I, L)) (fun v S => F 148 22 [some (.ref 0), some (.int x1), some (.int x2), none, none, none, none, none] (v.toList ++ []) S) := pm_blk_to hF (pm_stp 148 [0, 22, 34, 47, 55, 74, 81]) 49 rfl
set_option maxRecDepth 20000 in
theorem e148_22 (hF : pm_fix pt_me pt_Sg (pt_R L0 xs) F) {x1 : Int32} {x2 : Int32} {s0 : Int32} : F 148 22 [some (.ref 0), some (.int x1), some (.int x2), none, none, none, none, none] [.int s0] (81, pt_G, I, L) =
    pm_k (F 908 0 [some (.int s0), some (.int (I 3 1)), none, none] [] (81, pt_G, I, L)) (fun v S => F 148 34 [some (.ref 0), some (.int x1), some (.int x2), some (.int s0), none, none, none, none] (v.toList ++ []) S) := pm_blk_to hF (pm_stp 148 [0, 22, 34, 47, 55, 74, 81]) 49 rfl
set_option maxRecDepth 20000 in
theorem e148_34 (hF : pm_fix pt_me pt_Sg (pt_R L0 xs) F) {x1 : Int32} {x2 : Int32} {x3 : Int32} {s0 : Int32} : F 148 34 [some (.ref 0), some (.int x1), some (.int x2), some (.int x3), none, none, none, none] [.int s0] (81, pt_G, I, L) =
    pm_k (F 908 0 [some (.int x2), some (.int (I 3 1)), none, none] [] (81, pt_G, I, L)) (fun v S => F 148 47 [some (.ref 0), some (.int x1), some (.int x2), some (.int x3), some (.int s0), none, none, none] (v.toList ++ []) S) := pm_blk_to hF (pm_stp 148 [0, 22, 34, 47, 55, 74, 81]) 49 rfl
set_option maxRecDepth 20000 in
theorem e148_47 (hF : pm_fix pt_me pt_Sg (pt_R L0 xs) F) {x1 : Int32} {x2 : Int32} {x3 : Int32} {x4 : Int32} {s0 : Int32} : F 148 47 [some (.ref 0), some (.int x1), some (.int x2), some (.int x3), some (.int x4), none, none, none] [.int s0] (81, pt_G, I, L) =
    F 148 55 [some (.ref 0), some (.int x1), some (.int x2), some (.int x3), some (.int x4), some (.int s0), some (.int 0), some (.int 0)] [] (81, pt_G, I, L) := pm_blk_to hF (pm_stp 148 [0, 22, 34, 47, 55, 74, 81]) 49 rfl
set_option maxRecDepth 20000 in
theorem e148_55 (hF : pm_fix pt_me pt_Sg (pt_R L0 xs) F) {x1 : Int32} {x2 : Int32} {x3 : Int32} {x4 : Int32} {x5 : Int32} {x6 : Int32} {x7 : Int32} : F 148 55 [some (.ref 0), some (.int x1), some (.int x2), some (.int x3), some (.int x4), some (.int x5), some (.int x6), some (.int x7)] [] (81, pt_G, I, L) =
    if x7 < (I 3 0) then
      pm_k (F 906 0 [some (.int x4), some (.int x7)] [] (81, pt_G, I, L)) (fun v S => F 148 74 [some (.ref 0), some (.int x1), some (.int x2), some (.int x3), some (.int x4), some (.int x5), some (.int x6), some (.int x7)] (v.toList ++ []) S)
    else
      some (some (.int x6), (81, pt_G, I, L)) := pm_blk_to hF (pm_stp 148 [0, 22, 34, 47, 55, 74, 81]) 49 rfl
set_option maxRecDepth 20000 in
theorem e148_74 (hF : pm_fix pt_me pt_Sg (pt_R L0 xs) F) {x1 : Int32} {x2 : Int32} {x3 : Int32} {x4 : Int32} {x5 : Int32} {x6 : Int32} {x7 : Int32} {s0 : Int32} : F 148 74 [some (.ref 0), some (.int x1), some (.int x2), some (.int x3), some (.int x4), some (.int x5), some (.int x6), some (.int x7)] [.int s0] (81, pt_G, I, L) =
    pm_k (F 906 0 [some (.int x5), some (.int x7)] [] (81, pt_G, I, L)) (fun v S => F 148 81 [some (.ref 0), some (.int x1), some (.int x2), some (.int x3), some (.int x4), some (.int x5), some (.int x6), some (.int x7)] (v.toList ++ [.int s0]) S) := pm_blk_to hF (pm_stp 148 [0, 22, 34, 47, 55, 74, 81]) 49 rfl
set_option maxRecDepth 20000 in
theorem e148_81 (hF : pm_fix pt_me pt_Sg (pt_R L0 xs) F) {x1 : Int32} {x2 : Int32} {x3 : Int32} {x4 : Int32} {x5 : Int32} {x6 : Int32} {x7 : Int32} {s0 : Int32} {s1 : Int32} : F 148 81 [some (.ref 0), some (.int x1), some (.int x2), some (.int x3), some (.int x4), some (.int x5), some (.int x6), some (.int x7)] [.int s0, .int s1] (81, pt_G, I, L) =
    if s1 = s0 then
      F 148 55 [some (.ref 0), some (.int x1), some (.int x2), some (.int x3), some (.int x4), some (.int x5), some (.int x6), some (.int (x7 + 1))] [] (81, pt_G, I, L)
    else
      F 148 55 [some (.ref 0), some (.int x1), some (.int x2), some (.int x3), some (.int x4), some (.int x5), some (.int (x6 + 1)), some (.int (x7 + 1))] [] (81, pt_G, I, L) := pm_blk_to hF (pm_stp 148 [0, 22, 34, 47, 55, 74, 81]) 49 rfl
-- TurnCabinet.isWay(I)Z 
set_option maxRecDepth 20000 in
theorem e149_0 (hF : pm_fix pt_me pt_Sg (pt_R L0 xs) F) {x0 : Int32} : F 149 0 [some (.int x0)] [] (81, pt_G, I, L) =
    if x0 < 0 then
      some (some (.int 0), (81, pt_G, I, L))
    else
      if x0 ≤ 2 then
        some (some (.int 1), (81, pt_G, I, L))
      else
        some (some (.int 0), (81, pt_G, I, L)) := pm_blk_to hF (pm_stp 149 [0]) 14 rfl
-- TurnCabinet.isDivisor(I)Z 
set_option maxRecDepth 20000 in
theorem e150_0 (hF : pm_fix pt_me pt_Sg (pt_R L0 xs) F) {x0 : Int32} : F 150 0 [some (.int x0)] [] (81, pt_G, I, L) =
    if x0 < 1 then
      some (some (.int 0), (81, pt_G, I, L))
    else
      if x0 ≤ 99 then
        some (some (.int 1), (81, pt_G, I, L))
      else
        some (some (.int 0), (81, pt_G, I, L)) := pm_blk_to hF (pm_stp 150 [0]) 15 rfl
-- TurnCabinet.isIn(II)Z 
set_option maxRecDepth 20000 in
theorem e151_0 (hF : pm_fix pt_me pt_Sg (pt_R L0 xs) F) {x0 : Int32} {x1 : Int32} : F 151 0 [some (.int x0), some (.int x1)] [] (81, pt_G, I, L) =
    if ((pm_us x1 x0) &&& 1) = 1 then
      some (some (.int 1), (81, pt_G, I, L))
    else
      some (some (.int 0), (81, pt_G, I, L)) := pm_blk_to hF (pm_stp 151 [0]) 16 rfl
-- TurnCabinet$Cabinet.reset()V 44
set_option maxRecDepth 20000 in
theorem e202_0 (hF : pm_fix pt_me pt_Sg (pt_R L0 xs) F) : F 202 0 [some (.ref 44)] [] (81, pt_G, I, L) =
    some (none, (81, pt_G, (pm_ui (pm_ui (pm_ui I 44 5 0) 44 6 0) 44 7 0), L)) := pm_blk_to hF (pm_stp 202 [0]) 15 rfl
-- TurnCabinet$Cabinet.includes(I)Z 44
set_option maxRecDepth 20000 in
theorem e203_0 (hF : pm_fix pt_me pt_Sg (pt_R L0 xs) F) {x1 : Int32} : F 203 0 [some (.ref 44), some (.int x1)] [] (81, pt_G, I, L) =
    pm_k (F 504 0 [some (.ref 3), some (.int x1)] [] (81, pt_G, I, L)) (fun v S => F 203 8 [some (.ref 44), some (.int x1)] (v.toList ++ []) S) := pm_blk_to hF (pm_stp 203 [0, 8, 19]) 19 rfl
set_option maxRecDepth 20000 in
theorem e203_8 (hF : pm_fix pt_me pt_Sg (pt_R L0 xs) F) {x1 : Int32} {s0 : Int32} : F 203 8 [some (.ref 44), some (.int x1)] [.int s0] (81, pt_G, I, L) =
    if s0 = 0 then
      some (some (.int 0), (81, pt_G, I, L))
    else
      pm_k (F 151 0 [some (.int x1), some (.int (I 44 5))] [] (81, pt_G, I, L)) (fun v S => F 203 19 [some (.ref 44), some (.int x1)] (v.toList ++ []) S) := pm_blk_to hF (pm_stp 203 [0, 8, 19]) 19 rfl
set_option maxRecDepth 20000 in
theorem e203_19 (hF : pm_fix pt_me pt_Sg (pt_R L0 xs) F) {x1 : Int32} {s0 : Int32} : F 203 19 [some (.ref 44), some (.int x1)] [.int s0] (81, pt_G, I, L) =
    if s0 = 0 then
      some (some (.int 0), (81, pt_G, I, L))
    else
      some (some (.int 1), (81, pt_G, I, L)) := pm_blk_to hF (pm_stp 203 [0, 8, 19]) 19 rfl
-- TurnCabinet$Cabinet.holderOf(I)I 44
set_option maxRecDepth 20000 in
theorem e204_0 (hF : pm_fix pt_me pt_Sg (pt_R L0 xs) F) {x1 : Int32} : F 204 0 [some (.ref 44), some (.int x1)] [] (81, pt_G, I, L) =
    if (I 44 5) = 0 then
      some (some (.int (-1)), (81, pt_G, I, L))
    else
      pm_k (F 505 0 [some (.ref 3), some (.int x1)] [] (81, pt_G, I, L)) (fun v S => F 204 15 [some (.ref 44), some (.int x1)] (v.toList ++ []) S) := pm_blk_to hF (pm_stp 204 [0, 15, 26]) 20 rfl
set_option maxRecDepth 20000 in
theorem e204_15 (hF : pm_fix pt_me pt_Sg (pt_R L0 xs) F) {x1 : Int32} {s0 : Int32} : F 204 15 [some (.ref 44), some (.int x1)] [.int s0] (81, pt_G, I, L) =
    if s0 = 0 then
      some (some (.int (-1)), (81, pt_G, I, L))
    else
      pm_k (F 902 0 [some (.int (I 44 6)), some (.int x1)] [] (81, pt_G, I, L)) (fun v S => F 204 26 [some (.ref 44), some (.int x1)] (v.toList ++ []) S) := pm_blk_to hF (pm_stp 204 [0, 15, 26]) 20 rfl
set_option maxRecDepth 20000 in
theorem e204_26 (hF : pm_fix pt_me pt_Sg (pt_R L0 xs) F) {x1 : Int32} {s0 : Int32} : F 204 26 [some (.ref 44), some (.int x1)] [.int s0] (81, pt_G, I, L) =
    some (some (.int s0), (81, pt_G, I, L)) := pm_blk_to hF (pm_stp 204 [0, 15, 26]) 20 rfl
-- TurnCabinet$Cabinet.officesOf(I)I 44
set_option maxRecDepth 20000 in
theorem e205_0 (hF : pm_fix pt_me pt_Sg (pt_R L0 xs) F) {x1 : Int32} : F 205 0 [some (.ref 44), some (.int x1)] [] (81, pt_G, I, L) =
    pm_k (F 206 0 [some (.ref 44), some (.int x1)] [] (81, pt_G, I, L)) (fun v S => F 205 5 [some (.ref 44), some (.int x1)] (v.toList ++ []) S) := pm_blk_to hF (pm_stp 205 [0, 5, 8]) 10 rfl
set_option maxRecDepth 20000 in
theorem e205_5 (hF : pm_fix pt_me pt_Sg (pt_R L0 xs) F) {x1 : Int32} {s0 : Int32} : F 205 5 [some (.ref 44), some (.int x1)] [.int s0] (81, pt_G, I, L) =
    pm_k (F 1508 0 [some (.int s0)] [] (81, pt_G, I, L)) (fun v S => F 205 8 [some (.ref 44), some (.int x1)] (v.toList ++ []) S) := pm_blk_to hF (pm_stp 205 [0, 5, 8]) 10 rfl
set_option maxRecDepth 20000 in
theorem e205_8 (hF : pm_fix pt_me pt_Sg (pt_R L0 xs) F) {x1 : Int32} {s0 : Int32} : F 205 8 [some (.ref 44), some (.int x1)] [.int s0] (81, pt_G, I, L) =
    some (some (.int s0), (81, pt_G, I, L)) := pm_blk_to hF (pm_stp 205 [0, 5, 8]) 10 rfl
-- TurnCabinet$Cabinet.heldBy(I)I 44
set_option maxRecDepth 20000 in
theorem e206_0 (hF : pm_fix pt_me pt_Sg (pt_R L0 xs) F) {x1 : Int32} : F 206 0 [some (.ref 44), some (.int x1)] [] (81, pt_G, I, L) =
    if (I 44 5) = 0 then
      F 206 26 [some (.ref 44), some (.int x1)] [.int 0] (81, pt_G, I, L)
    else
      pm_k (F 905 0 [some (.int (I 44 6)), some (.int (I 3 1)), some (.int x1), none, none] [] (81, pt_G, I, L)) (fun v S => F 206 26 [some (.ref 44), some (.int x1)] (v.toList ++ []) S) := pm_blk_to hF (pm_stp 206 [0, 26]) 18 rfl
set_option maxRecDepth 20000 in
theorem e206_26 (hF : pm_fix pt_me pt_Sg (pt_R L0 xs) F) {x1 : Int32} {s0 : Int32} : F 206 26 [some (.ref 44), some (.int x1)] [.int s0] (81, pt_G, I, L) =
    some (some (.int s0), (81, pt_G, I, L)) := pm_blk_to hF (pm_stp 206 [0, 26]) 18 rfl
-- TurnCabinet$Cabinet.payOf(I)I 44
set_option maxRecDepth 20000 in
theorem e207_0 (hF : pm_fix pt_me pt_Sg (pt_R L0 xs) F) {x1 : Int32} : F 207 0 [some (.ref 44), some (.int x1), none] [] (81, pt_G, I, L) =
    pm_k (F 521 0 [some (.ref 3), some (.int x1), some (.int (I 44 6)), some (.int x1), none, none] [] (81, pt_G, I, L)) (fun v S => F 207 13 [some (.ref 44), some (.int x1), none] (v.toList ++ []) S) := pm_blk_to hF (pm_stp 207 [0, 13, 31, 34]) 24 rfl
set_option maxRecDepth 20000 in
theorem e207_13 (hF : pm_fix pt_me pt_Sg (pt_R L0 xs) F) {x1 : Int32} {s0 : Int32} : F 207 13 [some (.ref 44), some (.int x1), none] [.int s0] (81, pt_G, I, L) =
    pm_k (F 520 0 [some (.ref 3), some (.int (I 44 5)), none, none, none] [] (81, pt_G, I, L)) (fun v S => F 207 31 [some (.ref 44), some (.int x1), some (.int s0)] (v.toList ++ [.int x1, .int s0, .ref 3]) S) := pm_blk_to hF (pm_stp 207 [0, 13, 31, 34]) 24 rfl
set_option maxRecDepth 20000 in
theorem e207_31 (hF : pm_fix pt_me pt_Sg (pt_R L0 xs) F) {x1 : Int32} {x2 : Int32} {s0 : Int32} {s1 : Int32} {s2 : Int32} : F 207 31 [some (.ref 44), some (.int x1), some (.int x2)] [.int s0, .int s1, .int s2, .ref 3] (81, pt_G, I, L) =
    pm_k (F 524 0 [some (.ref 3), some (.int s2), some (.int s1), some (.int s0)] [] (81, pt_G, I, L)) (fun v S => F 207 34 [some (.ref 44), some (.int x1), some (.int x2)] (v.toList ++ []) S) := pm_blk_to hF (pm_stp 207 [0, 13, 31, 34]) 24 rfl
set_option maxRecDepth 20000 in
theorem e207_34 (hF : pm_fix pt_me pt_Sg (pt_R L0 xs) F) {x1 : Int32} {x2 : Int32} {s0 : Int32} : F 207 34 [some (.ref 44), some (.int x1), some (.int x2)] [.int s0] (81, pt_G, I, L) =
    some (some (.int s0), (81, pt_G, I, L)) := pm_blk_to hF (pm_stp 207 [0, 13, 31, 34]) 24 rfl
-- TurnCabinet$Cabinet.install(II)I 44
set_option maxRecDepth 20000 in
theorem e208_0 (hF : pm_fix pt_me pt_Sg (pt_R L0 xs) F) {x1 : Int32} {x2 : Int32} : F 208 0 [some (.ref 44), some (.int x1), some (.int x2), none, none] [] (81, pt_G, I, L) =
    pm_k (F 214 0 [some (.ref 44), some (.int (-1)), none] [] (81, pt_G, I, L)) (fun v S => F 208 5 [some (.ref 44), some (.int x1), some (.int x2), none, none] (v.toList ++ []) S) := pm_blk_to hF (pm_stp 208 [0, 5, 20, 38]) 32 rfl
set_option maxRecDepth 20000 in
theorem e208_5 (hF : pm_fix pt_me pt_Sg (pt_R L0 xs) F) {x1 : Int32} {x2 : Int32} : F 208 5 [some (.ref 44), some (.int x1), some (.int x2), none, none] [] (81, pt_G, I, L) =
    F 208 20 [some (.ref 44), some (.int x1), some (.int x2), some (.int 0), some (.int 0)] [] (81, pt_G, (pm_ui (pm_ui I 44 5 x1) 44 6 x2), L) := pm_blk_to hF (pm_stp 208 [0, 5, 20, 38]) 32 rfl
set_option maxRecDepth 20000 in
theorem e208_20 (hF : pm_fix pt_me pt_Sg (pt_R L0 xs) F) {x1 : Int32} {x2 : Int32} {x3 : Int32} {x4 : Int32} : F 208 20 [some (.ref 44), some (.int x1), some (.int x2), some (.int x3), some (.int x4)] [] (81, pt_G, I, L) =
    if x4 < (I 3 0) then
      pm_k (F 206 0 [some (.ref 44), some (.int x4)] [] (81, pt_G, I, L)) (fun v S => F 208 38 [some (.ref 44), some (.int x1), some (.int x2), some (.int x3), some (.int x4)] (v.toList ++ []) S)
    else
      some (some (.int x3), (81, pt_G, I, L)) := pm_blk_to hF (pm_stp 208 [0, 5, 20, 38]) 32 rfl
set_option maxRecDepth 20000 in
theorem e208_38 (hF : pm_fix pt_me pt_Sg (pt_R L0 xs) F) {x1 : Int32} {x2 : Int32} {x3 : Int32} {x4 : Int32} {s0 : Int32} : F 208 38 [some (.ref 44), some (.int x1), some (.int x2), some (.int x3), some (.int x4)] [.int s0] (81, pt_G, I, L) =
    if s0 = 0 then
      F 208 20 [some (.ref 44), some (.int x1), some (.int x2), some (.int x3), some (.int (x4 + 1))] [] (81, pt_G, I, L)
    else
      F 208 20 [some (.ref 44), some (.int x1), some (.int x2), some (.int (x3 + 1)), some (.int (x4 + 1))] [] (81, pt_G, I, L) := pm_blk_to hF (pm_stp 208 [0, 5, 20, 38]) 32 rfl
-- TurnCabinet$Cabinet.exchange(II)I 44
set_option maxRecDepth 20000 in
theorem e209_0 (hF : pm_fix pt_me pt_Sg (pt_R L0 xs) F) {x1 : Int32} {x2 : Int32} : F 209 0 [some (.ref 44), some (.int x1), some (.int x2), none] [] (81, pt_G, I, L) =
    pm_k (F 522 0 [some (.ref 3), some (.int (I 44 6)), none, none] [] (81, pt_G, I, L)) (fun v S => F 209 11 [some (.ref 44), some (.int x1), some (.int x2), none] (v.toList ++ []) S) := pm_blk_to hF (pm_stp 209 [0, 11, 17, 27, 41]) 29 rfl
set_option maxRecDepth 20000 in
theorem e209_11 (hF : pm_fix pt_me pt_Sg (pt_R L0 xs) F) {x1 : Int32} {x2 : Int32} {s0 : Int32} : F 209 11 [some (.ref 44), some (.int x1), some (.int x2), none] [.int s0] (81, pt_G, I, L) =
    pm_k (F 214 0 [some (.ref 44), some (.int (-1)), none] [] (81, pt_G, I, L)) (fun v S => F 209 17 [some (.ref 44), some (.int x1), some (.int x2), some (.int s0)] (v.toList ++ []) S) := pm_blk_to hF (pm_stp 209 [0, 11, 17, 27, 41]) 29 rfl
set_option maxRecDepth 20000 in
theorem e209_17 (hF : pm_fix pt_me pt_Sg (pt_R L0 xs) F) {x1 : Int32} {x2 : Int32} {x3 : Int32} : F 209 17 [some (.ref 44), some (.int x1), some (.int x2), some (.int x3)] [] (81, pt_G, I, L) =
    pm_k (F 904 0 [some (.int (I 44 6)), some (.int x1), some (.int x2)] [] (81, pt_G, I, L)) (fun v S => F 209 27 [some (.ref 44), some (.int x1), some (.int x2), some (.int x3)] (v.toList ++ [.ref 44]) S) := pm_blk_to hF (pm_stp 209 [0, 11, 17, 27, 41]) 29 rfl
set_option maxRecDepth 20000 in
theorem e209_27 (hF : pm_fix pt_me pt_Sg (pt_R L0 xs) F) {x1 : Int32} {x2 : Int32} {x3 : Int32} {s0 : Int32} : F 209 27 [some (.ref 44), some (.int x1), some (.int x2), some (.int x3)] [.int s0, .ref 44] (81, pt_G, I, L) =
    pm_k (F 522 0 [some (.ref 3), some (.int s0), none, none] [] (81, pt_G, (pm_ui I 44 6 s0), L)) (fun v S => F 209 41 [some (.ref 44), some (.int x1), some (.int x2), some (.int x3)] (v.toList ++ []) S) := pm_blk_to hF (pm_stp 209 [0, 11, 17, 27, 41]) 29 rfl
set_option maxRecDepth 20000 in
theorem e209_41 (hF : pm_fix pt_me pt_Sg (pt_R L0 xs) F) {x1 : Int32} {x2 : Int32} {x3 : Int32} {s0 : Int32} : F 209 41 [some (.ref 44), some (.int x1), some (.int x2), some (.int x3)] [.int s0] (81, pt_G, I, L) =
    some (some (.int (s0 - x3)), (81, pt_G, I, L)) := pm_blk_to hF (pm_stp 209 [0, 11, 17, 27, 41]) 29 rfl
-- TurnCabinet$Cabinet.letUnpaidGo()I 44
set_option maxRecDepth 20000 in
theorem e210_0 (hF : pm_fix pt_me pt_Sg (pt_R L0 xs) F) : F 210 0 [some (.ref 44), none, none, none] [] (81, pt_G, I, L) =
    F 210 4 [some (.ref 44), some (.int 0), some (.int 0), none] [] (81, pt_G, I, L) := pm_blk_to hF (pm_stp 210 [0, 4, 14, 31, 36]) 34 rfl
set_option maxRecDepth 20000 in
theorem e210_4 (hF : pm_fix pt_me pt_Sg (pt_R L0 xs) F) {x1 : Int32} {x2 : Int32} : F 210 4 [some (.ref 44), some (.int x1), some (.int x2), none] [] (81, pt_G, I, L) =
    if x2 < 7 then
      pm_k (F 211 0 [some (.ref 44), none] [] (81, pt_G, I, L)) (fun v S => F 210 14 [some (.ref 44), some (.int x1), some (.int x2), none] (v.toList ++ []) S)
    else
      some (some (.int x1), (81, pt_G, I, L)) := pm_blk_to hF (pm_stp 210 [0, 4, 14, 31, 36]) 34 rfl
set_option maxRecDepth 20000 in
theorem e210_14 (hF : pm_fix pt_me pt_Sg (pt_R L0 xs) F) {x1 : Int32} {x2 : Int32} {s0 : Int32} : F 210 14 [some (.ref 44), some (.int x1), some (.int x2), none] [.int s0] (81, pt_G, I, L) =
    if s0 = (-1) then
      some (some (.int x1), (81, pt_G, I, L))
    else
      if x1 = 0 then
        pm_k (F 214 0 [some (.ref 44), some (.int (-1)), none] [] (81, pt_G, I, L)) (fun v S => F 210 31 [some (.ref 44), some (.int x1), some (.int x2), some (.int s0)] (v.toList ++ []) S)
      else
        F 210 31 [some (.ref 44), some (.int x1), some (.int x2), some (.int s0)] [] (81, pt_G, I, L) := pm_blk_to hF (pm_stp 210 [0, 4, 14, 31, 36]) 34 rfl
set_option maxRecDepth 20000 in
theorem e210_31 (hF : pm_fix pt_me pt_Sg (pt_R L0 xs) F) {x1 : Int32} {x2 : Int32} {x3 : Int32} : F 210 31 [some (.ref 44), some (.int x1), some (.int x2), some (.int x3)] [] (81, pt_G, I, L) =
    pm_k (F 212 0 [some (.ref 44), some (.int x3), none, none, none, none, none] [] (81, pt_G, I, L)) (fun v S => F 210 36 [some (.ref 44), some (.int x1), some (.int x2), some (.int x3)] (v.toList ++ []) S) := pm_blk_to hF (pm_stp 210 [0, 4, 14, 31, 36]) 34 rfl
set_option maxRecDepth 20000 in
theorem e210_36 (hF : pm_fix pt_me pt_Sg (pt_R L0 xs) F) {x1 : Int32} {x2 : Int32} {x3 : Int32} {s0 : Int32} : F 210 36 [some (.ref 44), some (.int x1), some (.int x2), some (.int x3)] [.int s0] (81, pt_G, I, L) =
    F 210 4 [some (.ref 44), some (.int (x1 + 1)), some (.int (x2 + 1)), none] [] (81, pt_G, I, L) := pm_blk_to hF (pm_stp 210 [0, 4, 14, 31, 36]) 34 rfl
-- TurnCabinet$Cabinet.firstUnpaid()I 44
set_option maxRecDepth 20000 in
theorem e211_0 (hF : pm_fix pt_me pt_Sg (pt_R L0 xs) F) : F 211 0 [some (.ref 44), none] [] (81, pt_G, I, L) =
    F 211 2 [some (.ref 44), some (.int 0)] [] (81, pt_G, I, L) := pm_blk_to hF (pm_stp 211 [0, 2, 21, 29, 37]) 31 rfl
set_option maxRecDepth 20000 in
theorem e211_2 (hF : pm_fix pt_me pt_Sg (pt_R L0 xs) F) {x1 : Int32} : F 211 2 [some (.ref 44), some (.int x1)] [] (81, pt_G, I, L) =
    if x1 < (I 3 0) then
      pm_k (F 151 0 [some (.int x1), some (.int (I 44 5))] [] (81, pt_G, I, L)) (fun v S => F 211 21 [some (.ref 44), some (.int x1)] (v.toList ++ []) S)
    else
      some (some (.int (-1)), (81, pt_G, I, L)) := pm_blk_to hF (pm_stp 211 [0, 2, 21, 29, 37]) 31 rfl
set_option maxRecDepth 20000 in
theorem e211_21 (hF : pm_fix pt_me pt_Sg (pt_R L0 xs) F) {x1 : Int32} {s0 : Int32} : F 211 21 [some (.ref 44), some (.int x1)] [.int s0] (81, pt_G, I, L) =
    if s0 = 0 then
      F 211 2 [some (.ref 44), some (.int (x1 + 1))] [] (81, pt_G, I, L)
    else
      pm_k (F 207 0 [some (.ref 44), some (.int x1), none] [] (81, pt_G, I, L)) (fun v S => F 211 29 [some (.ref 44), some (.int x1)] (v.toList ++ []) S) := pm_blk_to hF (pm_stp 211 [0, 2, 21, 29, 37]) 31 rfl
set_option maxRecDepth 20000 in
theorem e211_29 (hF : pm_fix pt_me pt_Sg (pt_R L0 xs) F) {x1 : Int32} {s0 : Int32} : F 211 29 [some (.ref 44), some (.int x1)] [.int s0] (81, pt_G, I, L) =
    pm_k (F 510 0 [some (.ref 3), some (.int x1)] [] (81, pt_G, I, L)) (fun v S => F 211 37 [some (.ref 44), some (.int x1)] (v.toList ++ [.int s0]) S) := pm_blk_to hF (pm_stp 211 [0, 2, 21, 29, 37]) 31 rfl
set_option maxRecDepth 20000 in
theorem e211_37 (hF : pm_fix pt_me pt_Sg (pt_R L0 xs) F) {x1 : Int32} {s0 : Int32} {s1 : Int32} : F 211 37 [some (.ref 44), some (.int x1)] [.int s0, .int s1] (81, pt_G, I, L) =
    if s1 < s0 then
      some (some (.int x1), (81, pt_G, I, L))
    else
      F 211 2 [some (.ref 44), some (.int (x1 + 1))] [] (81, pt_G, I, L) := pm_blk_to hF (pm_stp 211 [0, 2, 21, 29, 37]) 31 rfl
-- TurnCabinet$Cabinet.letGo(I)I 44
set_option maxRecDepth 20000 in
theorem e212_0 (hF : pm_fix pt_me pt_Sg (pt_R L0 xs) F) {x1 : Int32} : F 212 0 [some (.ref 44), some (.int x1), none, none, none, none, none] [] (81, pt_G, I, L) =
    pm_k (F 206 0 [some (.ref 44), some (.int x1)] [] (81, pt_G, I, L)) (fun v S => F 212 5 [some (.ref 44), some (.int x1), none, none, none, none, none] (v.toList ++ []) S) := pm_blk_to hF (pm_stp 212 [0, 5, 10, 28, 54, 71, 83, 97]) 70 rfl
set_option maxRecDepth 20000 in
theorem e212_5 (hF : pm_fix pt_me pt_Sg (pt_R L0 xs) F) {x1 : Int32} {s0 : Int32} : F 212 5 [some (.ref 44), some (.int x1), none, none, none, none, none] [.int s0] (81, pt_G, I, L) =
    pm_k (F 1508 0 [some (.int s0)] [] (81, pt_G, I, L)) (fun v S => F 212 10 [some (.ref 44), some (.int x1), some (.int s0), none, none, none, none] (v.toList ++ []) S) := pm_blk_to hF (pm_stp 212 [0, 5, 10, 28, 54, 71, 83, 97]) 70 rfl
set_option maxRecDepth 20000 in
theorem e212_10 (hF : pm_fix pt_me pt_Sg (pt_R L0 xs) F) {x1 : Int32} {x2 : Int32} {s0 : Int32} : F 212 10 [some (.ref 44), some (.int x1), some (.int x2), none, none, none, none] [.int s0] (81, pt_G, I, L) =
    F 212 28 [some (.ref 44), some (.int x1), some (.int x2), some (.int s0), some (.int 0), none, none] [] (81, pt_G, (pm_ui I 44 5 ((I 44 5) &&& (((1 : Int32) <<< (x1 &&& 31)) ^^^ (-1)))), L) := pm_blk_to hF (pm_stp 212 [0, 5, 10, 28, 54, 71, 83, 97]) 70 rfl
set_option maxRecDepth 20000 in
theorem e212_28 (hF : pm_fix pt_me pt_Sg (pt_R L0 xs) F) {x1 : Int32} {x2 : Int32} {x3 : Int32} {x4 : Int32} : F 212 28 [some (.ref 44), some (.int x1), some (.int x2), some (.int x3), some (.int x4), none, none] [] (81, pt_G, I, L) =
    if x4 < x3 then
      if (I 44 5) = 0 then
        some (some (.int x3), (81, pt_G, I, L))
      else
        pm_k (F 213 0 [some (.ref 44), some (.int x2), none, none] [] (81, pt_G, I, L)) (fun v S => F 212 54 [some (.ref 44), some (.int x1), some (.int x2), some (.int x3), some (.int x4), none, none] (v.toList ++ [.int (I 44 5), .ref 3]) S)
    else
      some (some (.int x3), (81, pt_G, I, L)) := pm_blk_to hF (pm_stp 212 [0, 5, 10, 28, 54, 71, 83, 97]) 70 rfl
set_option maxRecDepth 20000 in
theorem e212_54 (hF : pm_fix pt_me pt_Sg (pt_R L0 xs) F) {x1 : Int32} {x2 : Int32} {x3 : Int32} {x4 : Int32} {s0 : Int32} {s1 : Int32} : F 212 54 [some (.ref 44), some (.int x1), some (.int x2), some (.int x3), some (.int x4), none, none] [.int s0, .int s1, .ref 3] (81, pt_G, I, L) =
    pm_k (F 518 0 [some (.ref 3), some (.int s1), some (.int s0), some (.int (I 3 2)), some (.int (I 3 3)), none, none, none, none, none, none, none] [] (81, pt_G, I, L)) (fun v S => F 212 71 [some (.ref 44), some (.int x1), some (.int x2), some (.int x3), some (.int x4), none, none] (v.toList ++ []) S) := pm_blk_to hF (pm_stp 212 [0, 5, 10, 28, 54, 71, 83, 97]) 70 rfl
set_option maxRecDepth 20000 in
theorem e212_71 (hF : pm_fix pt_me pt_Sg (pt_R L0 xs) F) {x1 : Int32} {x2 : Int32} {x3 : Int32} {x4 : Int32} {s0 : Int32} : F 212 71 [some (.ref 44), some (.int x1), some (.int x2), some (.int x3), some (.int x4), none, none] [.int s0] (81, pt_G, I, L) =
    pm_k (F 519 0 [some (.ref 3), some (.int s0), some (.int x2), none, none, none] [] (81, pt_G, I, L)) (fun v S => F 212 83 [some (.ref 44), some (.int x1), some (.int x2), some (.int x3), some (.int x4), some (.int s0), none] (v.toList ++ []) S) := pm_blk_to hF (pm_stp 212 [0, 5, 10, 28, 54, 71, 83, 97]) 70 rfl
set_option maxRecDepth 20000 in
theorem e212_83 (hF : pm_fix pt_me pt_Sg (pt_R L0 xs) F) {x1 : Int32} {x2 : Int32} {x3 : Int32} {x4 : Int32} {x5 : Int32} {s0 : Int32} : F 212 83 [some (.ref 44), some (.int x1), some (.int x2), some (.int x3), some (.int x4), some (.int x5), none] [.int s0] (81, pt_G, I, L) =
    pm_k (F 903 0 [some (.int (I 44 6)), some (.int s0), some (.int x5), none] [] (81, pt_G, I, L)) (fun v S => F 212 97 [some (.ref 44), some (.int x1), some (.int x2), some (.int x3), some (.int x4), some (.int x5), some (.int s0)] (v.toList ++ [.ref 44]) S) := pm_blk_to hF (pm_stp 212 [0, 5, 10, 28, 54, 71, 83, 97]) 70 rfl
set_option maxRecDepth 20000 in
theorem e212_97 (hF : pm_fix pt_me pt_Sg (pt_R L0 xs) F) {x1 : Int32} {x2 : Int32} {x3 : Int32} {x4 : Int32} {x5 : Int32} {x6 : Int32} {s0 : Int32} : F 212 97 [some (.ref 44), some (.int x1), some (.int x2), some (.int x3), some (.int x4), some (.int x5), some (.int x6)] [.int s0, .ref 44] (81, pt_G, I, L) =
    F 212 28 [some (.ref 44), some (.int x1), some (.int (x2 &&& (((1 : Int32) <<< (x6 &&& 31)) ^^^ (-1)))), some (.int x3), some (.int (x4 + 1)), none, none] [] (81, pt_G, (pm_ui I 44 6 s0), L) := pm_blk_to hF (pm_stp 212 [0, 5, 10, 28, 54, 71, 83, 97]) 70 rfl
-- TurnCabinet$Cabinet.countsHeld(I)I 44
set_option maxRecDepth 20000 in
theorem e213_0 (hF : pm_fix pt_me pt_Sg (pt_R L0 xs) F) {x1 : Int32} : F 213 0 [some (.ref 44), some (.int x1), none, none] [] (81, pt_G, I, L) =
    F 213 4 [some (.ref 44), some (.int x1), some (.int 0), some (.int 0)] [] (81, pt_G, I, L) := pm_blk_to hF (pm_stp 213 [0, 4, 20, 32, 35]) 29 rfl
set_option maxRecDepth 20000 in
theorem e213_4 (hF : pm_fix pt_me pt_Sg (pt_R L0 xs) F) {x1 : Int32} {x2 : Int32} {x3 : Int32} : F 213 4 [some (.ref 44), some (.int x1), some (.int x2), some (.int x3)] [] (81, pt_G, I, L) =
    if x3 < (I 3 1) then
      pm_k (F 151 0 [some (.int x3), some (.int x1)] [] (81, pt_G, I, L)) (fun v S => F 213 20 [some (.ref 44), some (.int x1), some (.int x2), some (.int x3)] (v.toList ++ []) S)
    else
      some (some (.int x2), (81, pt_G, I, L)) := pm_blk_to hF (pm_stp 213 [0, 4, 20, 32, 35]) 29 rfl
set_option maxRecDepth 20000 in
theorem e213_20 (hF : pm_fix pt_me pt_Sg (pt_R L0 xs) F) {x1 : Int32} {x2 : Int32} {x3 : Int32} {s0 : Int32} : F 213 20 [some (.ref 44), some (.int x1), some (.int x2), some (.int x3)] [.int s0] (81, pt_G, I, L) =
    if s0 = 0 then
      pm_k (F 902 0 [some (.int (I 44 6)), some (.int x3)] [] (81, pt_G, I, L)) (fun v S => F 213 32 [some (.ref 44), some (.int x1), some (.int x2), some (.int x3)] (v.toList ++ [.int x2]) S)
    else
      F 213 4 [some (.ref 44), some (.int x1), some (.int x2), some (.int (x3 + 1))] [] (81, pt_G, I, L) := pm_blk_to hF (pm_stp 213 [0, 4, 20, 32, 35]) 29 rfl
set_option maxRecDepth 20000 in
theorem e213_32 (hF : pm_fix pt_me pt_Sg (pt_R L0 xs) F) {x1 : Int32} {x2 : Int32} {x3 : Int32} {s0 : Int32} {s1 : Int32} : F 213 32 [some (.ref 44), some (.int x1), some (.int x2), some (.int x3)] [.int s0, .int s1] (81, pt_G, I, L) =
    pm_k (F 907 0 [some (.int s1), some (.int s0)] [] (81, pt_G, I, L)) (fun v S => F 213 35 [some (.ref 44), some (.int x1), some (.int x2), some (.int x3)] (v.toList ++ []) S) := pm_blk_to hF (pm_stp 213 [0, 4, 20, 32, 35]) 29 rfl
set_option maxRecDepth 20000 in
theorem e213_35 (hF : pm_fix pt_me pt_Sg (pt_R L0 xs) F) {x1 : Int32} {x2 : Int32} {x3 : Int32} {s0 : Int32} : F 213 35 [some (.ref 44), some (.int x1), some (.int x2), some (.int x3)] [.int s0] (81, pt_G, I, L) =
    F 213 4 [some (.ref 44), some (.int x1), some (.int s0), some (.int (x3 + 1))] [] (81, pt_G, I, L) := pm_blk_to hF (pm_stp 213 [0, 4, 20, 32, 35]) 29 rfl
-- TurnCabinet$Cabinet.remember(I)V 44
set_option maxRecDepth 20000 in
theorem e214_0 (hF : pm_fix pt_me pt_Sg (pt_R L0 xs) F) {x1 : Int32} : F 214 0 [some (.ref 44), some (.int x1), none] [] (81, pt_G, I, L) =
    if (I 44 7) < 12 then
      F 214 13 [some (.ref 44), some (.int x1), none] [] (81, pt_G, I, L)
    else
      pm_k (F 215 0 [some (.ref 44), none] [] (81, pt_G, I, L)) (fun v S => F 214 13 [some (.ref 44), some (.int x1), none] (v.toList ++ []) S) := pm_blk_to hF (pm_stp 214 [0, 13, 78]) 57 rfl
set_option maxRecDepth 20000 in
theorem e214_13 (hF : pm_fix pt_me pt_Sg (pt_R L0 xs) F) {x1 : Int32} : F 214 13 [some (.ref 44), some (.int x1), none] [] (81, pt_G, I, L) =
    if (I 44 7) < 0 then
      some (none, (81, pt_G, I, L))
    else
      if (I 44 7) < 12 then
        bif pm_ib (I 44 7) 12 then
          bif pm_ib (I 44 7) 12 then
            bif pm_ib (I 44 7) 12 then
              if x1 = (-1) then
                F 214 78 [some (.ref 44), some (.int x1), some (.int (I 44 7))] [.int 0, .int (I 44 7), .ref 48] (81, pt_G, (pm_ui (pm_ui (pm_ui I 45 (Int32.toNatClampNeg (I 44 7)) (I 44 5)) 46 (Int32.toNatClampNeg (I 44 7)) (I 44 6)) 47 (Int32.toNatClampNeg (I 44 7)) x1), L)
              else
                pm_k (F 508 0 [some (.ref 3), some (.int x1)] [] (81, pt_G, (pm_ui (pm_ui (pm_ui I 45 (Int32.toNatClampNeg (I 44 7)) (I 44 5)) 46 (Int32.toNatClampNeg (I 44 7)) (I 44 6)) 47 (Int32.toNatClampNeg (I 44 7)) x1), L)) (fun v S => F 214 78 [some (.ref 44), some (.int x1), some (.int (I 44 7))] (v.toList ++ [.int (I 44 7), .ref 48]) S)
            else none
          else none
        else none
      else
        some (none, (81, pt_G, I, L)) := pm_blk_to hF (pm_stp 214 [0, 13, 78]) 57 rfl
set_option maxRecDepth 20000 in
theorem e214_78 (hF : pm_fix pt_me pt_Sg (pt_R L0 xs) F) {x1 : Int32} {x2 : Int32} {s0 : Int32} {s1 : Int32} : F 214 78 [some (.ref 44), some (.int x1), some (.int x2)] [.int s0, .int s1, .ref 48] (81, pt_G, I, L) =
    bif pm_ib s1 12 then
      some (none, (81, pt_G, (pm_ui (pm_ui I 48 (Int32.toNatClampNeg s1) s0) 44 7 ((I 44 7) + 1)), L))
    else none := pm_blk_to hF (pm_stp 214 [0, 13, 78]) 57 rfl
-- TurnCabinet$Cabinet.dropOldest()V 44
set_option maxRecDepth 20000 in
theorem e215_0 (hF : pm_fix pt_me pt_Sg (pt_R L0 xs) F) : F 215 0 [some (.ref 44), none] [] (81, pt_G, I, L) =
    F 215 2 [some (.ref 44), some (.int 1)] [] (81, pt_G, I, L) := pm_blk_to hF (pm_stp 215 [0, 2]) 56 rfl
set_option maxRecDepth 20000 in
theorem e215_2 (hF : pm_fix pt_me pt_Sg (pt_R L0 xs) F) {x1 : Int32} : F 215 2 [some (.ref 44), some (.int x1)] [] (81, pt_G, I, L) =
    if x1 < 12 then
      bif pm_ib x1 12 then
        bif pm_ib (x1 - 1) 12 then
          bif pm_ib x1 12 then
            bif pm_ib (x1 - 1) 12 then
              bif pm_ib x1 12 then
                bif pm_ib (x1 - 1) 12 then
                  bif pm_ib x1 12 then
                    bif pm_ib (x1 - 1) 12 then
                      F 215 2 [some (.ref 44), some (.int (x1 + 1))] [] (81, pt_G, (pm_ui (pm_ui (pm_ui (pm_ui I 45 (Int32.toNatClampNeg (x1 - 1)) (I 45 (Int32.toNatClampNeg x1))) 46 (Int32.toNatClampNeg (x1 - 1)) (I 46 (Int32.toNatClampNeg x1))) 47 (Int32.toNatClampNeg (x1 - 1)) (I 47 (Int32.toNatClampNeg x1))) 48 (Int32.toNatClampNeg (x1 - 1)) (I 48 (Int32.toNatClampNeg x1))), L)
                    else none
                  else none
                else none
              else none
            else none
          else none
        else none
      else none
    else
      some (none, (81, pt_G, (pm_ui I 44 7 11), L)) := pm_blk_to hF (pm_stp 215 [0, 2]) 56 rfl
-- TurnCabinet$Cabinet.takeBack()I 44
set_option maxRecDepth 20000 in
theorem e216_0 (hF : pm_fix pt_me pt_Sg (pt_R L0 xs) F) : F 216 0 [some (.ref 44), none] [] (81, pt_G, I, L) =
    if ((I 44 7) - 1) < 0 then
      some (some (.int (-1)), (81, pt_G, I, L))
    else
      if ((I 44 7) - 1) < 12 then
        bif pm_ib ((I 44 7) - 1) 12 then
          bif pm_ib ((I 44 7) - 1) 12 then
            bif pm_ib ((I 44 7) - 1) 12 then
              if (I 47 (Int32.toNatClampNeg ((I 44 7) - 1))) = (-1) then
                F 216 73 [some (.ref 44), some (.int ((I 44 7) - 1))] [] (81, pt_G, (pm_ui (pm_ui (pm_ui I 44 7 ((I 44 7) - 1)) 44 5 (I 45 (Int32.toNatClampNeg ((I 44 7) - 1)))) 44 6 (I 46 (Int32.toNatClampNeg ((I 44 7) - 1)))), L)
              else
                bif pm_ib ((I 44 7) - 1) 12 then
                  bif pm_ib ((I 44 7) - 1) 12 then
                    pm_k (F 514 0 [some (.ref 3), some (.int (I 47 (Int32.toNatClampNeg ((I 44 7) - 1)))), some (.int (I 48 (Int32.toNatClampNeg ((I 44 7) - 1))))] [] (81, pt_G, (pm_ui (pm_ui (pm_ui I 44 7 ((I 44 7) - 1)) 44 5 (I 45 (Int32.toNatClampNeg ((I 44 7) - 1)))) 44 6 (I 46 (Int32.toNatClampNeg ((I 44 7) - 1)))), L)) (fun v S => F 216 73 [some (.ref 44), some (.int ((I 44 7) - 1))] (v.toList ++ []) S)
                  else none
                else none
            else none
          else none
        else none
      else
        some (some (.int (-1)), (81, pt_G, I, L)) := pm_blk_to hF (pm_stp 216 [0, 73]) 52 rfl
set_option maxRecDepth 20000 in
theorem e216_73 (hF : pm_fix pt_me pt_Sg (pt_R L0 xs) F) {x1 : Int32} : F 216 73 [some (.ref 44), some (.int x1)] [] (81, pt_G, I, L) =
    some (some (.int (I 44 7)), (81, pt_G, I, L)) := pm_blk_to hF (pm_stp 216 [0, 73]) 52 rfl
-- TurnCabinet$Coalitions.freshen()V 30
set_option maxRecDepth 20000 in
theorem e302_0 (hF : pm_fix pt_me pt_Sg (pt_R L0 xs) F) : F 302 0 [some (.ref 30), none, none, none] [] (81, pt_G, I, L) =
    if (I 30 14) = (I 3 9) then
      some (none, (81, pt_G, I, L))
    else
      if (I 30 13) = (I 3 8) then
        F 302 33 [some (.ref 30), none, none, none] [] (81, pt_G, I, L)
      else
        pm_k (F 303 0 [some (.ref 30), none] [] (81, pt_G, I, L)) (fun v S => F 302 33 [some (.ref 30), none, none, none] (v.toList ++ []) S) := pm_blk_to hF (pm_stp 302 [0, 33, 63, 82, 90, 110, 130, 154]) 114 rfl
set_option maxRecDepth 20000 in
theorem e302_33 (hF : pm_fix pt_me pt_Sg (pt_R L0 xs) F) : F 302 33 [some (.ref 30), none, none, none] [] (81, pt_G, I, L) =
    pm_k (F 517 0 [some (.ref 3)] [] (81, pt_G, (pm_ui (pm_ui I 30 14 (I 3 9)) 30 13 (I 3 8)), L)) (fun v S => F 302 63 [some (.ref 30), none, none, none] (v.toList ++ [.ref 30]) S) := pm_blk_to hF (pm_stp 302 [0, 33, 63, 82, 90, 110, 130, 154]) 114 rfl
set_option maxRecDepth 20000 in
theorem e302_63 (hF : pm_fix pt_me pt_Sg (pt_R L0 xs) F) {s0 : Int32} : F 302 63 [some (.ref 30), none, none, none] [.int s0, .ref 30] (81, pt_G, I, L) =
    bif pm_ib 0 128 then
      bif pm_ib 0 128 then
        F 302 82 [some (.ref 30), some (.int 1), none, none] [] (81, pt_G, (pm_ui (pm_ui (pm_ui I 30 12 s0) 32 (Int32.toNatClampNeg 0) (vp_nar .boolean 1)) 31 (Int32.toNatClampNeg 0) 0), L)
      else none
    else none := pm_blk_to hF (pm_stp 302 [0, 33, 63, 82, 90, 110, 130, 154]) 114 rfl
set_option maxRecDepth 20000 in
theorem e302_82 (hF : pm_fix pt_me pt_Sg (pt_R L0 xs) F) {x1 : Int32} : F 302 82 [some (.ref 30), some (.int x1), none, none] [] (81, pt_G, I, L) =
    pm_k (F 507 0 [some (.ref 3)] [] (81, pt_G, I, L)) (fun v S => F 302 90 [some (.ref 30), some (.int x1), none, none] (v.toList ++ [.int x1]) S) := pm_blk_to hF (pm_stp 302 [0, 33, 63, 82, 90, 110, 130, 154]) 114 rfl
set_option maxRecDepth 20000 in
theorem e302_90 (hF : pm_fix pt_me pt_Sg (pt_R L0 xs) F) {x1 : Int32} {s0 : Int32} {s1 : Int32} : F 302 90 [some (.ref 30), some (.int x1), none, none] [.int s0, .int s1] (81, pt_G, I, L) =
    if s1 ≤ s0 then
      if x1 < 128 then
        pm_k (F 1509 0 [some (.int x1), none] [] (81, pt_G, I, L)) (fun v S => F 302 110 [some (.ref 30), some (.int x1), some (.int (x1 &&& (x1 - 1))), none] (v.toList ++ []) S)
      else
        some (none, (81, pt_G, I, L))
    else
      some (none, (81, pt_G, I, L)) := pm_blk_to hF (pm_stp 302 [0, 33, 63, 82, 90, 110, 130, 154]) 114 rfl
set_option maxRecDepth 20000 in
theorem e302_110 (hF : pm_fix pt_me pt_Sg (pt_R L0 xs) F) {x1 : Int32} {x2 : Int32} {s0 : Int32} : F 302 110 [some (.ref 30), some (.int x1), some (.int x2), none] [.int s0] (81, pt_G, I, L) =
    bif pm_ib x2 128 then
      pm_k (F 508 0 [some (.ref 3), some (.int s0)] [] (81, pt_G, I, L)) (fun v S => F 302 130 [some (.ref 30), some (.int x1), some (.int x2), some (.int s0)] (v.toList ++ [.int (I 31 (Int32.toNatClampNeg x2)), .int x1, .ref 31]) S)
    else none := pm_blk_to hF (pm_stp 302 [0, 33, 63, 82, 90, 110, 130, 154]) 114 rfl
set_option maxRecDepth 20000 in
theorem e302_130 (hF : pm_fix pt_me pt_Sg (pt_R L0 xs) F) {x1 : Int32} {x2 : Int32} {x3 : Int32} {s0 : Int32} {s1 : Int32} {s2 : Int32} : F 302 130 [some (.ref 30), some (.int x1), some (.int x2), some (.int x3)] [.int s0, .int s1, .int s2, .ref 31] (81, pt_G, I, L) =
    bif pm_ib s2 128 then
      bif pm_ib x2 128 then
        if (I 32 (Int32.toNatClampNeg x2)) = 0 then
          bif pm_ib x1 128 then
            bif pm_ib x1 128 then
              bif pm_ib x1 128 then
                bif pm_ib x1 128 then
                  F 302 82 [some (.ref 30), some (.int (x1 + 1)), none, none] [] (81, pt_G, (pm_ui (pm_ui (pm_ui (pm_ui (pm_ui I 31 (Int32.toNatClampNeg s2) (s1 + s0)) 32 (Int32.toNatClampNeg x1) (vp_nar .boolean 0)) 33 (Int32.toNatClampNeg x1) (vp_nar .boolean 0)) 38 (Int32.toNatClampNeg x1) (-1)) 39 (Int32.toNatClampNeg x1) 0), L)
                else none
              else none
            else none
          else none
        else
          pm_k (F 511 0 [some (.ref 3), some (.int x3)] [] (81, pt_G, (pm_ui I 31 (Int32.toNatClampNeg s2) (s1 + s0)), L)) (fun v S => F 302 154 [some (.ref 30), some (.int x1), some (.int x2), some (.int x3)] (v.toList ++ [.int x1, .ref 32]) S)
      else none
    else none := pm_blk_to hF (pm_stp 302 [0, 33, 63, 82, 90, 110, 130, 154]) 114 rfl
set_option maxRecDepth 20000 in
theorem e302_154 (hF : pm_fix pt_me pt_Sg (pt_R L0 xs) F) {x1 : Int32} {x2 : Int32} {x3 : Int32} {s0 : Int32} {s1 : Int32} : F 302 154 [some (.ref 30), some (.int x1), some (.int x2), some (.int x3)] [.int s0, .int s1, .ref 32] (81, pt_G, I, L) =
    if (s0 &&& x1) = 0 then
      bif pm_ib s1 128 then
        bif pm_ib x1 128 then
          bif pm_ib x1 128 then
            bif pm_ib x1 128 then
              F 302 82 [some (.ref 30), some (.int (x1 + 1)), none, none] [] (81, pt_G, (pm_ui (pm_ui (pm_ui (pm_ui I 32 (Int32.toNatClampNeg s1) (vp_nar .boolean 1)) 33 (Int32.toNatClampNeg x1) (vp_nar .boolean 0)) 38 (Int32.toNatClampNeg x1) (-1)) 39 (Int32.toNatClampNeg x1) 0), L)
            else none
          else none
        else none
      else none
    else
      bif pm_ib s1 128 then
        bif pm_ib x1 128 then
          bif pm_ib x1 128 then
            bif pm_ib x1 128 then
              F 302 82 [some (.ref 30), some (.int (x1 + 1)), none, none] [] (81, pt_G, (pm_ui (pm_ui (pm_ui (pm_ui I 32 (Int32.toNatClampNeg s1) (vp_nar .boolean 0)) 33 (Int32.toNatClampNeg x1) (vp_nar .boolean 0)) 38 (Int32.toNatClampNeg x1) (-1)) 39 (Int32.toNatClampNeg x1) 0), L)
            else none
          else none
        else none
      else none := pm_blk_to hF (pm_stp 302 [0, 33, 63, 82, 90, 110, 130, 154]) 114 rfl
-- TurnCabinet$Coalitions.forgetPicks()V 30
set_option maxRecDepth 20000 in
theorem e303_0 (hF : pm_fix pt_me pt_Sg (pt_R L0 xs) F) : F 303 0 [some (.ref 30), none] [] (81, pt_G, I, L) =
    F 303 2 [some (.ref 30), some (.int 0)] [] (81, pt_G, I, L) := pm_blk_to hF (pm_stp 303 [0, 2]) 18 rfl
set_option maxRecDepth 20000 in
theorem e303_2 (hF : pm_fix pt_me pt_Sg (pt_R L0 xs) F) {x1 : Int32} : F 303 2 [some (.ref 30), some (.int x1)] [] (81, pt_G, I, L) =
    if x1 < 128 then
      bif pm_ib x1 128 then
        F 303 2 [some (.ref 30), some (.int (x1 + 1))] [] (81, pt_G, (pm_ui I 34 (Int32.toNatClampNeg x1) (-1)), L)
      else none
    else
      some (none, (81, pt_G, I, L)) := pm_blk_to hF (pm_stp 303 [0, 2]) 18 rfl
-- TurnCabinet$Coalitions.learnThoseThatCan()V 30
set_option maxRecDepth 20000 in
theorem e304_0 (hF : pm_fix pt_me pt_Sg (pt_R L0 xs) F) : F 304 0 [some (.ref 30), none] [] (81, pt_G, I, L) =
    pm_k (F 302 0 [some (.ref 30), none, none, none] [] (81, pt_G, I, L)) (fun v S => F 304 4 [some (.ref 30), none] (v.toList ++ []) S) := pm_blk_to hF (pm_stp 304 [0, 4, 6, 14, 22, 30]) 24 rfl
set_option maxRecDepth 20000 in
theorem e304_4 (hF : pm_fix pt_me pt_Sg (pt_R L0 xs) F) : F 304 4 [some (.ref 30), none] [] (81, pt_G, I, L) =
    F 304 6 [some (.ref 30), some (.int 1)] [] (81, pt_G, I, L) := pm_blk_to hF (pm_stp 304 [0, 4, 6, 14, 22, 30]) 24 rfl
set_option maxRecDepth 20000 in
theorem e304_6 (hF : pm_fix pt_me pt_Sg (pt_R L0 xs) F) {x1 : Int32} : F 304 6 [some (.ref 30), some (.int x1)] [] (81, pt_G, I, L) =
    pm_k (F 507 0 [some (.ref 3)] [] (81, pt_G, I, L)) (fun v S => F 304 14 [some (.ref 30), some (.int x1)] (v.toList ++ [.int x1]) S) := pm_blk_to hF (pm_stp 304 [0, 4, 6, 14, 22, 30]) 24 rfl
set_option maxRecDepth 20000 in
theorem e304_14 (hF : pm_fix pt_me pt_Sg (pt_R L0 xs) F) {x1 : Int32} {s0 : Int32} {s1 : Int32} : F 304 14 [some (.ref 30), some (.int x1)] [.int s0, .int s1] (81, pt_G, I, L) =
    if s1 ≤ s0 then
      pm_k (F 310 0 [some (.ref 30), some (.int x1)] [] (81, pt_G, I, L)) (fun v S => F 304 22 [some (.ref 30), some (.int x1)] (v.toList ++ []) S)
    else
      some (none, (81, pt_G, I, L)) := pm_blk_to hF (pm_stp 304 [0, 4, 6, 14, 22, 30]) 24 rfl
set_option maxRecDepth 20000 in
theorem e304_22 (hF : pm_fix pt_me pt_Sg (pt_R L0 xs) F) {x1 : Int32} {s0 : Int32} : F 304 22 [some (.ref 30), some (.int x1)] [.int s0] (81, pt_G, I, L) =
    if s0 = 0 then
      F 304 30 [some (.ref 30), some (.int x1)] [] (81, pt_G, I, L)
    else
      pm_k (F 305 0 [some (.ref 30), some (.int x1), none, none, none, none] [] (81, pt_G, I, L)) (fun v S => F 304 30 [some (.ref 30), some (.int x1)] (v.toList ++ []) S) := pm_blk_to hF (pm_stp 304 [0, 4, 6, 14, 22, 30]) 24 rfl
set_option maxRecDepth 20000 in
theorem e304_30 (hF : pm_fix pt_me pt_Sg (pt_R L0 xs) F) {x1 : Int32} : F 304 30 [some (.ref 30), some (.int x1)] [] (81, pt_G, I, L) =
    F 304 6 [some (.ref 30), some (.int (x1 + 1))] [] (81, pt_G, I, L) := pm_blk_to hF (pm_stp 304 [0, 4, 6, 14, 22, 30]) 24 rfl
-- TurnCabinet$Coalitions.learn(I)V 30
set_option maxRecDepth 20000 in
theorem e305_0 (hF : pm_fix pt_me pt_Sg (pt_R L0 xs) F) {x1 : Int32} : F 305 0 [some (.ref 30), some (.int x1), none, none, none, none] [] (81, pt_G, I, L) =
    pm_k (F 302 0 [some (.ref 30), none, none, none] [] (81, pt_G, I, L)) (fun v S => F 305 4 [some (.ref 30), some (.int x1), none, none, none, none] (v.toList ++ []) S) := pm_blk_to hF (pm_stp 305 [0, 4, 31, 39, 43, 68, 88, 117, 144]) 89 rfl
set_option maxRecDepth 20000 in
theorem e305_4 (hF : pm_fix pt_me pt_Sg (pt_R L0 xs) F) {x1 : Int32} : F 305 4 [some (.ref 30), some (.int x1), none, none, none, none] [] (81, pt_G, I, L) =
    bif pm_ib (x1 &&& 127) 128 then
      if (I 33 (Int32.toNatClampNeg (x1 &&& 127))) = 0 then
        bif pm_ib (x1 &&& 127) 128 then
          pm_k (F 306 0 [some (.ref 30), some (.int (x1 &&& 127)), none, none, none] [] (81, pt_G, (pm_ui I 33 (Int32.toNatClampNeg (x1 &&& 127)) (vp_nar .boolean 1)), L)) (fun v S => F 305 31 [some (.ref 30), some (.int x1), some (.int (x1 &&& 127)), none, none, none] (v.toList ++ []) S)
        else none
      else
        some (none, (81, pt_G, I, L))
    else none := pm_blk_to hF (pm_stp 305 [0, 4, 31, 39, 43, 68, 88, 117, 144]) 89 rfl
set_option maxRecDepth 20000 in
theorem e305_31 (hF : pm_fix pt_me pt_Sg (pt_R L0 xs) F) {x1 : Int32} {x2 : Int32} : F 305 31 [some (.ref 30), some (.int x1), some (.int x2), none, none, none] [] (81, pt_G, I, L) =
    pm_k (F 520 0 [some (.ref 3), some (.int x2), none, none, none] [] (81, pt_G, I, L)) (fun v S => F 305 39 [some (.ref 30), some (.int x1), some (.int x2), none, none, none] (v.toList ++ []) S) := pm_blk_to hF (pm_stp 305 [0, 4, 31, 39, 43, 68, 88, 117, 144]) 89 rfl
set_option maxRecDepth 20000 in
theorem e305_39 (hF : pm_fix pt_me pt_Sg (pt_R L0 xs) F) {x1 : Int32} {x2 : Int32} {s0 : Int32} : F 305 39 [some (.ref 30), some (.int x1), some (.int x2), none, none, none] [.int s0] (81, pt_G, I, L) =
    F 305 43 [some (.ref 30), some (.int x1), some (.int x2), some (.int s0), some (.int 0), none] [] (81, pt_G, I, L) := pm_blk_to hF (pm_stp 305 [0, 4, 31, 39, 43, 68, 88, 117, 144]) 89 rfl
set_option maxRecDepth 20000 in
theorem e305_43 (hF : pm_fix pt_me pt_Sg (pt_R L0 xs) F) {x1 : Int32} {x2 : Int32} {x3 : Int32} {x4 : Int32} : F 305 43 [some (.ref 30), some (.int x1), some (.int x2), some (.int x3), some (.int x4), none] [] (81, pt_G, I, L) =
    if x4 < (I 3 0) then
      if x4 < 8 then
        pm_k (F 151 0 [some (.int x4), some (.int x2)] [] (81, pt_G, I, L)) (fun v S => F 305 68 [some (.ref 30), some (.int x1), some (.int x2), some (.int x3), some (.int x4), none] (v.toList ++ []) S)
      else
        some (none, (81, pt_G, I, L))
    else
      some (none, (81, pt_G, I, L)) := pm_blk_to hF (pm_stp 305 [0, 4, 31, 39, 43, 68, 88, 117, 144]) 89 rfl
set_option maxRecDepth 20000 in
theorem e305_68 (hF : pm_fix pt_me pt_Sg (pt_R L0 xs) F) {x1 : Int32} {x2 : Int32} {x3 : Int32} {x4 : Int32} {s0 : Int32} : F 305 68 [some (.ref 30), some (.int x1), some (.int x2), some (.int x3), some (.int x4), none] [.int s0] (81, pt_G, I, L) =
    if s0 = 0 then
      pm_k (F 524 0 [some (.ref 3), some (.int 0), some (.int x4), some (.int x3)] [] (81, pt_G, I, L)) (fun v S => F 305 117 [some (.ref 30), some (.int x1), some (.int x2), some (.int x3), some (.int x4), some (.int 0)] (v.toList ++ [.int ((8 * x2) + x4), .ref 36]) S)
    else
      bif pm_ib x2 128 then
        pm_k (F 521 0 [some (.ref 3), some (.int x4), some (.int (I 35 (Int32.toNatClampNeg x2))), some (.int x4), none, none] [] (81, pt_G, I, L)) (fun v S => F 305 88 [some (.ref 30), some (.int x1), some (.int x2), some (.int x3), some (.int x4), none] (v.toList ++ []) S)
      else none := pm_blk_to hF (pm_stp 305 [0, 4, 31, 39, 43, 68, 88, 117, 144]) 89 rfl
set_option maxRecDepth 20000 in
theorem e305_88 (hF : pm_fix pt_me pt_Sg (pt_R L0 xs) F) {x1 : Int32} {x2 : Int32} {x3 : Int32} {x4 : Int32} {s0 : Int32} : F 305 88 [some (.ref 30), some (.int x1), some (.int x2), some (.int x3), some (.int x4), none] [.int s0] (81, pt_G, I, L) =
    pm_k (F 524 0 [some (.ref 3), some (.int s0), some (.int x4), some (.int x3)] [] (81, pt_G, I, L)) (fun v S => F 305 117 [some (.ref 30), some (.int x1), some (.int x2), some (.int x3), some (.int x4), some (.int s0)] (v.toList ++ [.int ((8 * x2) + x4), .ref 36]) S) := pm_blk_to hF (pm_stp 305 [0, 4, 31, 39, 43, 68, 88, 117, 144]) 89 rfl
set_option maxRecDepth 20000 in
theorem e305_117 (hF : pm_fix pt_me pt_Sg (pt_R L0 xs) F) {x1 : Int32} {x2 : Int32} {x3 : Int32} {x4 : Int32} {x5 : Int32} {s0 : Int32} {s1 : Int32} : F 305 117 [some (.ref 30), some (.int x1), some (.int x2), some (.int x3), some (.int x4), some (.int x5)] [.int s0, .int s1, .ref 36] (81, pt_G, I, L) =
    bif pm_ib s1 1024 then
      bif pm_ib x2 128 then
        pm_k (F 525 0 [some (.ref 3), some (.int x4), some (.int (I 35 (Int32.toNatClampNeg x2))), none, none, none] [] (81, pt_G, (pm_ui I 36 (Int32.toNatClampNeg s1) s0), L)) (fun v S => F 305 144 [some (.ref 30), some (.int x1), some (.int x2), some (.int x3), some (.int x4), some (.int x5)] (v.toList ++ [.int ((8 * x2) + x4), .ref 37]) S)
      else none
    else none := pm_blk_to hF (pm_stp 305 [0, 4, 31, 39, 43, 68, 88, 117, 144]) 89 rfl
set_option maxRecDepth 20000 in
theorem e305_144 (hF : pm_fix pt_me pt_Sg (pt_R L0 xs) F) {x1 : Int32} {x2 : Int32} {x3 : Int32} {x4 : Int32} {x5 : Int32} {s0 : Int32} {s1 : Int32} : F 305 144 [some (.ref 30), some (.int x1), some (.int x2), some (.int x3), some (.int x4), some (.int x5)] [.int s0, .int s1, .ref 37] (81, pt_G, I, L) =
    bif pm_ib s1 1024 then
      F 305 43 [some (.ref 30), some (.int x1), some (.int x2), some (.int x3), some (.int (x4 + 1)), none] [] (81, pt_G, (pm_ui I 37 (Int32.toNatClampNeg s1) s0), L)
    else none := pm_blk_to hF (pm_stp 305 [0, 4, 31, 39, 43, 68, 88, 117, 144]) 89 rfl
-- TurnCabinet$Coalitions.foreseePicks(I)V 30
set_option maxRecDepth 20000 in
theorem e306_0 (hF : pm_fix pt_me pt_Sg (pt_R L0 xs) F) {x1 : Int32} : F 306 0 [some (.ref 30), some (.int x1), none, none, none] [] (81, pt_G, I, L) =
    pm_k (F 602 0 [some (.ref 23), some (.int x1), some (.int (I 3 2)), some (.int (I 3 3)), none, none, none, none] [] (81, pt_G, I, L)) (fun v S => F 306 22 [some (.ref 30), some (.int x1), none, none, none] (v.toList ++ []) S) := pm_blk_to hF (pm_stp 306 [0, 22, 42, 117, 133]) 83 rfl
set_option maxRecDepth 20000 in
theorem e306_22 (hF : pm_fix pt_me pt_Sg (pt_R L0 xs) F) {x1 : Int32} {s0 : Int32} : F 306 22 [some (.ref 30), some (.int x1), none, none, none] [.int s0] (81, pt_G, I, L) =
    bif pm_ib (x1 &&& 127) 128 then
      if (I 34 (Int32.toNatClampNeg (x1 &&& 127))) = s0 then
        some (none, (81, pt_G, I, L))
      else
        F 306 42 [some (.ref 30), some (.int x1), some (.int s0), some (.int (-1)), some (.int 1)] [] (81, pt_G, I, L)
    else none := pm_blk_to hF (pm_stp 306 [0, 22, 42, 117, 133]) 83 rfl
set_option maxRecDepth 20000 in
theorem e306_42 (hF : pm_fix pt_me pt_Sg (pt_R L0 xs) F) {x1 : Int32} {x2 : Int32} {x3 : Int32} {x4 : Int32} : F 306 42 [some (.ref 30), some (.int x1), some (.int x2), some (.int x3), some (.int x4)] [] (81, pt_G, I, L) =
    if x4 < 128 then
      if x3 = (-1) then
        bif pm_ib x4 128 then
          if (I 34 (Int32.toNatClampNeg x4)) = x2 then
            F 306 42 [some (.ref 30), some (.int x1), some (.int x2), some (.int x4), some (.int (x4 + 1))] [] (81, pt_G, I, L)
          else
            F 306 42 [some (.ref 30), some (.int x1), some (.int x2), some (.int x3), some (.int (x4 + 1))] [] (81, pt_G, I, L)
        else none
      else
        bif pm_ib (x1 &&& 127) 128 then
          if x3 = (-1) then
            pm_k (F 607 0 [some (.ref 23), some (.int x2), none] [] (81, pt_G, (pm_ui I 34 (Int32.toNatClampNeg (x1 &&& 127)) x2), L)) (fun v S => F 306 117 [some (.ref 30), some (.int x1), some (.int x2), some (.int x3), some (.int x4)] (v.toList ++ []) S)
          else
            bif pm_ib (x3 &&& 127) 128 then
              bif pm_ib (x1 &&& 127) 128 then
                some (none, (81, pt_G, (pm_ui (pm_ui I 34 (Int32.toNatClampNeg (x1 &&& 127)) x2) 35 (Int32.toNatClampNeg (x1 &&& 127)) (I 35 (Int32.toNatClampNeg (x3 &&& 127)))), L))
              else none
            else none
        else none
    else
      bif pm_ib (x1 &&& 127) 128 then
        if x3 = (-1) then
          pm_k (F 607 0 [some (.ref 23), some (.int x2), none] [] (81, pt_G, (pm_ui I 34 (Int32.toNatClampNeg (x1 &&& 127)) x2), L)) (fun v S => F 306 117 [some (.ref 30), some (.int x1), some (.int x2), some (.int x3), some (.int x4)] (v.toList ++ []) S)
        else
          bif pm_ib (x3 &&& 127) 128 then
            bif pm_ib (x1 &&& 127) 128 then
              some (none, (81, pt_G, (pm_ui (pm_ui I 34 (Int32.toNatClampNeg (x1 &&& 127)) x2) 35 (Int32.toNatClampNeg (x1 &&& 127)) (I 35 (Int32.toNatClampNeg (x3 &&& 127)))), L))
            else none
          else none
      else none := pm_blk_to hF (pm_stp 306 [0, 22, 42, 117, 133]) 83 rfl
set_option maxRecDepth 20000 in
theorem e306_117 (hF : pm_fix pt_me pt_Sg (pt_R L0 xs) F) {x1 : Int32} {x2 : Int32} {x3 : Int32} {x4 : Int32} : F 306 117 [some (.ref 30), some (.int x1), some (.int x2), some (.int x3), some (.int x4)] [] (81, pt_G, I, L) =
    pm_k (F 604 0 [some (.ref 23), some (.int x2), none, none, none, none] [] (81, pt_G, I, L)) (fun v S => F 306 133 [some (.ref 30), some (.int x1), some (.int x2), some (.int x3), some (.int x4)] (v.toList ++ [.int (x1 &&& 127), .ref 35]) S) := pm_blk_to hF (pm_stp 306 [0, 22, 42, 117, 133]) 83 rfl
set_option maxRecDepth 20000 in
theorem e306_133 (hF : pm_fix pt_me pt_Sg (pt_R L0 xs) F) {x1 : Int32} {x2 : Int32} {x3 : Int32} {x4 : Int32} {s0 : Int32} {s1 : Int32} : F 306 133 [some (.ref 30), some (.int x1), some (.int x2), some (.int x3), some (.int x4)] [.int s0, .int s1, .ref 35] (81, pt_G, I, L) =
    bif pm_ib s1 128 then
      some (none, (81, pt_G, (pm_ui I 35 (Int32.toNatClampNeg s1) s0), L))
    else none := pm_blk_to hF (pm_stp 306 [0, 22, 42, 117, 133]) 83 rfl
-- TurnCabinet$Coalitions.picked(II)I 30
set_option maxRecDepth 20000 in
theorem e307_0 (hF : pm_fix pt_me pt_Sg (pt_R L0 xs) F) {x1 : Int32} {x2 : Int32} : F 307 0 [some (.ref 30), some (.int x1), some (.int x2), none] [] (81, pt_G, I, L) =
    pm_k (F 305 0 [some (.ref 30), some (.int x1), none, none, none, none] [] (81, pt_G, I, L)) (fun v S => F 307 5 [some (.ref 30), some (.int x1), some (.int x2), none] (v.toList ++ []) S) := pm_blk_to hF (pm_stp 307 [0, 5, 27, 55]) 38 rfl
set_option maxRecDepth 20000 in
theorem e307_5 (hF : pm_fix pt_me pt_Sg (pt_R L0 xs) F) {x1 : Int32} {x2 : Int32} : F 307 5 [some (.ref 30), some (.int x1), some (.int x2), none] [] (81, pt_G, I, L) =
    if x2 = 0 then
      bif pm_ib (x1 &&& 127) 128 then
        pm_k (F 603 0 [some (.ref 23), some (.int (I 34 (Int32.toNatClampNeg (x1 &&& 127)))), none, none, none, none, none] [] (81, pt_G, I, L)) (fun v S => F 307 27 [some (.ref 30), some (.int x1), some (.int x2), some (.int (x1 &&& 127))] (v.toList ++ []) S)
      else none
    else
      if x2 = 1 then
        bif pm_ib (x1 &&& 127) 128 then
          F 307 55 [some (.ref 30), some (.int x1), some (.int x2), some (.int (x1 &&& 127))] [.int (I 35 (Int32.toNatClampNeg (x1 &&& 127)))] (81, pt_G, I, L)
        else none
      else
        bif pm_ib (x1 &&& 127) 128 then
          pm_k (F 611 0 [some (.ref 23), some (.int (I 35 (Int32.toNatClampNeg (x1 &&& 127)))), none, none, none] [] (81, pt_G, I, L)) (fun v S => F 307 55 [some (.ref 30), some (.int x1), some (.int x2), some (.int (x1 &&& 127))] (v.toList ++ []) S)
        else none := pm_blk_to hF (pm_stp 307 [0, 5, 27, 55]) 38 rfl
set_option maxRecDepth 20000 in
theorem e307_27 (hF : pm_fix pt_me pt_Sg (pt_R L0 xs) F) {x1 : Int32} {x2 : Int32} {x3 : Int32} {s0 : Int32} : F 307 27 [some (.ref 30), some (.int x1), some (.int x2), some (.int x3)] [.int s0] (81, pt_G, I, L) =
    some (some (.int s0), (81, pt_G, I, L)) := pm_blk_to hF (pm_stp 307 [0, 5, 27, 55]) 38 rfl
set_option maxRecDepth 20000 in
theorem e307_55 (hF : pm_fix pt_me pt_Sg (pt_R L0 xs) F) {x1 : Int32} {x2 : Int32} {x3 : Int32} {s0 : Int32} : F 307 55 [some (.ref 30), some (.int x1), some (.int x2), some (.int x3)] [.int s0] (81, pt_G, I, L) =
    some (some (.int s0), (81, pt_G, I, L)) := pm_blk_to hF (pm_stp 307 [0, 5, 27, 55]) 38 rfl
-- TurnCabinet$Coalitions.payOf(II)I 30
set_option maxRecDepth 20000 in
theorem e308_0 (hF : pm_fix pt_me pt_Sg (pt_R L0 xs) F) {x1 : Int32} {x2 : Int32} : F 308 0 [some (.ref 30), some (.int x1), some (.int x2)] [] (81, pt_G, I, L) =
    bif pm_ib ((8 * (x1 &&& 127)) + (x2 &&& 7)) 1024 then
      some (some (.int (I 36 (Int32.toNatClampNeg ((8 * (x1 &&& 127)) + (x2 &&& 7))))), (81, pt_G, I, L))
    else none := pm_blk_to hF (pm_stp 308 [0]) 18 rfl
-- TurnCabinet$Coalitions.leads(I)Z 30
set_option maxRecDepth 20000 in
theorem e309_0 (hF : pm_fix pt_me pt_Sg (pt_R L0 xs) F) {x1 : Int32} : F 309 0 [some (.ref 30), some (.int x1)] [] (81, pt_G, I, L) =
    bif pm_ib (x1 &&& 127) 128 then
      if (I 31 (Int32.toNatClampNeg (x1 &&& 127))) < (I 30 12) then
        some (some (.int 0), (81, pt_G, I, L))
      else
        some (some (.int 1), (81, pt_G, I, L))
    else none := pm_blk_to hF (pm_stp 309 [0]) 18 rfl
-- TurnCabinet$Coalitions.canBe(I)Z 30
set_option maxRecDepth 20000 in
theorem e310_0 (hF : pm_fix pt_me pt_Sg (pt_R L0 xs) F) {x1 : Int32} : F 310 0 [some (.ref 30), some (.int x1)] [] (81, pt_G, I, L) =
    pm_k (F 309 0 [some (.ref 30), some (.int x1)] [] (81, pt_G, I, L)) (fun v S => F 310 5 [some (.ref 30), some (.int x1)] (v.toList ++ []) S) := pm_blk_to hF (pm_stp 310 [0, 5]) 20 rfl
set_option maxRecDepth 20000 in
theorem e310_5 (hF : pm_fix pt_me pt_Sg (pt_R L0 xs) F) {x1 : Int32} {s0 : Int32} : F 310 5 [some (.ref 30), some (.int x1)] [.int s0] (81, pt_G, I, L) =
    if s0 = 0 then
      some (some (.int 0), (81, pt_G, I, L))
    else
      bif pm_ib (x1 &&& 127) 128 then
        if (I 32 (Int32.toNatClampNeg (x1 &&& 127))) = 0 then
          some (some (.int 0), (81, pt_G, I, L))
        else
          some (some (.int 1), (81, pt_G, I, L))
      else none := pm_blk_to hF (pm_stp 310 [0, 5]) 20 rfl
-- TurnCabinet$Coalitions.leadsWithout(II)Z 30
set_option maxRecDepth 20000 in
theorem e311_0 (hF : pm_fix pt_me pt_Sg (pt_R L0 xs) F) {x1 : Int32} {x2 : Int32} : F 311 0 [some (.ref 30), some (.int x1), some (.int x2)] [] (81, pt_G, I, L) =
    pm_k (F 309 0 [some (.ref 30), some (.int (x1 &&& (((1 : Int32) <<< (x2 &&& 31)) ^^^ (-1))))] [] (81, pt_G, I, L)) (fun v S => F 311 11 [some (.ref 30), some (.int x1), some (.int x2)] (v.toList ++ []) S) := pm_blk_to hF (pm_stp 311 [0, 11]) 15 rfl
set_option maxRecDepth 20000 in
theorem e311_11 (hF : pm_fix pt_me pt_Sg (pt_R L0 xs) F) {x1 : Int32} {x2 : Int32} {s0 : Int32} : F 311 11 [some (.ref 30), some (.int x1), some (.int x2)] [.int s0] (81, pt_G, I, L) =
    bif decide (s0 &&& 1 = s0) then some (some (.int s0), (81, pt_G, I, L)) else none := pm_blk_to hF (pm_stp 311 [0, 11]) 15 rfl
-- TurnCabinet$Coalitions.isMinimal(I)Z 30
set_option maxRecDepth 20000 in
theorem e312_0 (hF : pm_fix pt_me pt_Sg (pt_R L0 xs) F) {x1 : Int32} : F 312 0 [some (.ref 30), some (.int x1), none] [] (81, pt_G, I, L) =
    pm_k (F 309 0 [some (.ref 30), some (.int x1)] [] (81, pt_G, I, L)) (fun v S => F 312 5 [some (.ref 30), some (.int x1), none] (v.toList ++ []) S) := pm_blk_to hF (pm_stp 312 [0, 5, 12, 28, 37]) 33 rfl
set_option maxRecDepth 20000 in
theorem e312_5 (hF : pm_fix pt_me pt_Sg (pt_R L0 xs) F) {x1 : Int32} {s0 : Int32} : F 312 5 [some (.ref 30), some (.int x1), none] [.int s0] (81, pt_G, I, L) =
    if s0 = 0 then
      some (some (.int 0), (81, pt_G, I, L))
    else
      F 312 12 [some (.ref 30), some (.int x1), some (.int 0)] [] (81, pt_G, I, L) := pm_blk_to hF (pm_stp 312 [0, 5, 12, 28, 37]) 33 rfl
set_option maxRecDepth 20000 in
theorem e312_12 (hF : pm_fix pt_me pt_Sg (pt_R L0 xs) F) {x1 : Int32} {x2 : Int32} : F 312 12 [some (.ref 30), some (.int x1), some (.int x2)] [] (81, pt_G, I, L) =
    if x2 < (I 3 0) then
      pm_k (F 151 0 [some (.int x2), some (.int x1)] [] (81, pt_G, I, L)) (fun v S => F 312 28 [some (.ref 30), some (.int x1), some (.int x2)] (v.toList ++ []) S)
    else
      some (some (.int 1), (81, pt_G, I, L)) := pm_blk_to hF (pm_stp 312 [0, 5, 12, 28, 37]) 33 rfl
set_option maxRecDepth 20000 in
theorem e312_28 (hF : pm_fix pt_me pt_Sg (pt_R L0 xs) F) {x1 : Int32} {x2 : Int32} {s0 : Int32} : F 312 28 [some (.ref 30), some (.int x1), some (.int x2)] [.int s0] (81, pt_G, I, L) =
    if s0 = 0 then
      F 312 12 [some (.ref 30), some (.int x1), some (.int (x2 + 1))] [] (81, pt_G, I, L)
    else
      pm_k (F 311 0 [some (.ref 30), some (.int x1), some (.int x2)] [] (81, pt_G, I, L)) (fun v S => F 312 37 [some (.ref 30), some (.int x1), some (.int x2)] (v.toList ++ []) S) := pm_blk_to hF (pm_stp 312 [0, 5, 12, 28, 37]) 33 rfl
set_option maxRecDepth 20000 in
theorem e312_37 (hF : pm_fix pt_me pt_Sg (pt_R L0 xs) F) {x1 : Int32} {x2 : Int32} {s0 : Int32} : F 312 37 [some (.ref 30), some (.int x1), some (.int x2)] [.int s0] (81, pt_G, I, L) =
    if s0 = 0 then
      F 312 12 [some (.ref 30), some (.int x1), some (.int (x2 + 1))] [] (81, pt_G, I, L)
    else
      some (some (.int 0), (81, pt_G, I, L)) := pm_blk_to hF (pm_stp 312 [0, 5, 12, 28, 37]) 33 rfl
-- TurnCabinet$Coalitions.kindOf(I)I 30
set_option maxRecDepth 20000 in
theorem e313_0 (hF : pm_fix pt_me pt_Sg (pt_R L0 xs) F) {x1 : Int32} : F 313 0 [some (.ref 30), some (.int x1), none] [] (81, pt_G, I, L) =
    pm_k (F 309 0 [some (.ref 30), some (.int x1)] [] (81, pt_G, I, L)) (fun v S => F 313 7 [some (.ref 30), some (.int x1), some (.int 0)] (v.toList ++ []) S) := pm_blk_to hF (pm_stp 313 [0, 7, 35, 50, 63, 71]) 57 rfl
set_option maxRecDepth 20000 in
theorem e313_7 (hF : pm_fix pt_me pt_Sg (pt_R L0 xs) F) {x1 : Int32} {x2 : Int32} {s0 : Int32} : F 313 7 [some (.ref 30), some (.int x1), some (.int x2)] [.int s0] (81, pt_G, I, L) =
    if s0 = 0 then
      bif pm_ib (x1 &&& 127) 128 then
        if (I 32 (Int32.toNatClampNeg (x1 &&& 127))) = 0 then
          pm_k (F 312 0 [some (.ref 30), some (.int x1), none] [] (81, pt_G, I, L)) (fun v S => F 313 35 [some (.ref 30), some (.int x1), some (.int x2)] (v.toList ++ []) S)
        else
          pm_k (F 312 0 [some (.ref 30), some (.int x1), none] [] (81, pt_G, I, L)) (fun v S => F 313 35 [some (.ref 30), some (.int x1), some (.int (x2 ||| 2))] (v.toList ++ []) S)
      else none
    else
      bif pm_ib (x1 &&& 127) 128 then
        if (I 32 (Int32.toNatClampNeg (x1 &&& 127))) = 0 then
          pm_k (F 312 0 [some (.ref 30), some (.int x1), none] [] (81, pt_G, I, L)) (fun v S => F 313 35 [some (.ref 30), some (.int x1), some (.int (x2 ||| 1))] (v.toList ++ []) S)
        else
          pm_k (F 312 0 [some (.ref 30), some (.int x1), none] [] (81, pt_G, I, L)) (fun v S => F 313 35 [some (.ref 30), some (.int x1), some (.int ((x2 ||| 1) ||| 2))] (v.toList ++ []) S)
      else none := pm_blk_to hF (pm_stp 313 [0, 7, 35, 50, 63, 71]) 57 rfl
set_option maxRecDepth 20000 in
theorem e313_35 (hF : pm_fix pt_me pt_Sg (pt_R L0 xs) F) {x1 : Int32} {x2 : Int32} {s0 : Int32} : F 313 35 [some (.ref 30), some (.int x1), some (.int x2)] [.int s0] (81, pt_G, I, L) =
    if s0 = 0 then
      pm_k (F 529 0 [some (.ref 3), some (.int x1), none, none, none] [] (81, pt_G, I, L)) (fun v S => F 313 50 [some (.ref 30), some (.int x1), some (.int x2)] (v.toList ++ []) S)
    else
      pm_k (F 529 0 [some (.ref 3), some (.int x1), none, none, none] [] (81, pt_G, I, L)) (fun v S => F 313 50 [some (.ref 30), some (.int x1), some (.int (x2 ||| 4))] (v.toList ++ []) S) := pm_blk_to hF (pm_stp 313 [0, 7, 35, 50, 63, 71]) 57 rfl
set_option maxRecDepth 20000 in
theorem e313_50 (hF : pm_fix pt_me pt_Sg (pt_R L0 xs) F) {x1 : Int32} {x2 : Int32} {s0 : Int32} : F 313 50 [some (.ref 30), some (.int x1), some (.int x2)] [.int s0] (81, pt_G, I, L) =
    if s0 = 0 then
      pm_k (F 310 0 [some (.ref 30), some (.int x1)] [] (81, pt_G, I, L)) (fun v S => F 313 63 [some (.ref 30), some (.int x1), some (.int x2)] (v.toList ++ []) S)
    else
      pm_k (F 310 0 [some (.ref 30), some (.int x1)] [] (81, pt_G, I, L)) (fun v S => F 313 63 [some (.ref 30), some (.int x1), some (.int (x2 ||| 8))] (v.toList ++ []) S) := pm_blk_to hF (pm_stp 313 [0, 7, 35, 50, 63, 71]) 57 rfl
set_option maxRecDepth 20000 in
theorem e313_63 (hF : pm_fix pt_me pt_Sg (pt_R L0 xs) F) {x1 : Int32} {x2 : Int32} {s0 : Int32} : F 313 63 [some (.ref 30), some (.int x1), some (.int x2)] [.int s0] (81, pt_G, I, L) =
    if s0 = 0 then
      some (some (.int x2), (81, pt_G, I, L))
    else
      pm_k (F 316 0 [some (.ref 30), some (.int x1), none] [] (81, pt_G, I, L)) (fun v S => F 313 71 [some (.ref 30), some (.int x1), some (.int x2)] (v.toList ++ []) S) := pm_blk_to hF (pm_stp 313 [0, 7, 35, 50, 63, 71]) 57 rfl
set_option maxRecDepth 20000 in
theorem e313_71 (hF : pm_fix pt_me pt_Sg (pt_R L0 xs) F) {x1 : Int32} {x2 : Int32} {s0 : Int32} : F 313 71 [some (.ref 30), some (.int x1), some (.int x2)] [.int s0] (81, pt_G, I, L) =
    if s0 = 0 then
      some (some (.int (x2 ||| 16)), (81, pt_G, I, L))
    else
      some (some (.int x2), (81, pt_G, I, L)) := pm_blk_to hF (pm_stp 313 [0, 7, 35, 50, 63, 71]) 57 rfl
-- TurnCabinet$Coalitions.countOf(I)I 30
set_option maxRecDepth 20000 in
theorem e314_0 (hF : pm_fix pt_me pt_Sg (pt_R L0 xs) F) {x1 : Int32} : F 314 0 [some (.ref 30), some (.int x1), none, none] [] (81, pt_G, I, L) =
    F 314 4 [some (.ref 30), some (.int x1), some (.int 0), some (.int 1)] [] (81, pt_G, I, L) := pm_blk_to hF (pm_stp 314 [0, 4, 12, 20]) 26 rfl
set_option maxRecDepth 20000 in
theorem e314_4 (hF : pm_fix pt_me pt_Sg (pt_R L0 xs) F) {x1 : Int32} {x2 : Int32} {x3 : Int32} : F 314 4 [some (.ref 30), some (.int x1), some (.int x2), some (.int x3)] [] (81, pt_G, I, L) =
    pm_k (F 507 0 [some (.ref 3)] [] (81, pt_G, I, L)) (fun v S => F 314 12 [some (.ref 30), some (.int x1), some (.int x2), some (.int x3)] (v.toList ++ [.int x3]) S) := pm_blk_to hF (pm_stp 314 [0, 4, 12, 20]) 26 rfl
set_option maxRecDepth 20000 in
theorem e314_12 (hF : pm_fix pt_me pt_Sg (pt_R L0 xs) F) {x1 : Int32} {x2 : Int32} {x3 : Int32} {s0 : Int32} {s1 : Int32} : F 314 12 [some (.ref 30), some (.int x1), some (.int x2), some (.int x3)] [.int s0, .int s1] (81, pt_G, I, L) =
    if s1 ≤ s0 then
      pm_k (F 313 0 [some (.ref 30), some (.int x3), none] [] (81, pt_G, I, L)) (fun v S => F 314 20 [some (.ref 30), some (.int x1), some (.int x2), some (.int x3)] (v.toList ++ []) S)
    else
      some (some (.int x2), (81, pt_G, I, L)) := pm_blk_to hF (pm_stp 314 [0, 4, 12, 20]) 26 rfl
set_option maxRecDepth 20000 in
theorem e314_20 (hF : pm_fix pt_me pt_Sg (pt_R L0 xs) F) {x1 : Int32} {x2 : Int32} {x3 : Int32} {s0 : Int32} : F 314 20 [some (.ref 30), some (.int x1), some (.int x2), some (.int x3)] [.int s0] (81, pt_G, I, L) =
    if (s0 &&& x1) = x1 then
      F 314 4 [some (.ref 30), some (.int x1), some (.int (x2 + 1)), some (.int (x3 + 1))] [] (81, pt_G, I, L)
    else
      F 314 4 [some (.ref 30), some (.int x1), some (.int x2), some (.int (x3 + 1))] [] (81, pt_G, I, L) := pm_blk_to hF (pm_stp 314 [0, 4, 12, 20]) 26 rfl
-- TurnCabinet$Coalitions.findOf(II)I 30
set_option maxRecDepth 20000 in
theorem e315_0 (hF : pm_fix pt_me pt_Sg (pt_R L0 xs) F) {x1 : Int32} {x2 : Int32} : F 315 0 [some (.ref 30), some (.int x1), some (.int x2), none, none] [] (81, pt_G, I, L) =
    F 315 5 [some (.ref 30), some (.int x1), some (.int x2), some (.int 0), some (.int 1)] [] (81, pt_G, I, L) := pm_blk_to hF (pm_stp 315 [0, 5, 14, 23]) 32 rfl
set_option maxRecDepth 20000 in
theorem e315_5 (hF : pm_fix pt_me pt_Sg (pt_R L0 xs) F) {x1 : Int32} {x2 : Int32} {x3 : Int32} {x4 : Int32} : F 315 5 [some (.ref 30), some (.int x1), some (.int x2), some (.int x3), some (.int x4)] [] (81, pt_G, I, L) =
    pm_k (F 507 0 [some (.ref 3)] [] (81, pt_G, I, L)) (fun v S => F 315 14 [some (.ref 30), some (.int x1), some (.int x2), some (.int x3), some (.int x4)] (v.toList ++ [.int x4]) S) := pm_blk_to hF (pm_stp 315 [0, 5, 14, 23]) 32 rfl
set_option maxRecDepth 20000 in
theorem e315_14 (hF : pm_fix pt_me pt_Sg (pt_R L0 xs) F) {x1 : Int32} {x2 : Int32} {x3 : Int32} {x4 : Int32} {s0 : Int32} {s1 : Int32} : F 315 14 [some (.ref 30), some (.int x1), some (.int x2), some (.int x3), some (.int x4)] [.int s0, .int s1] (81, pt_G, I, L) =
    if s1 ≤ s0 then
      pm_k (F 313 0 [some (.ref 30), some (.int x4), none] [] (81, pt_G, I, L)) (fun v S => F 315 23 [some (.ref 30), some (.int x1), some (.int x2), some (.int x3), some (.int x4)] (v.toList ++ []) S)
    else
      some (some (.int (-1)), (81, pt_G, I, L)) := pm_blk_to hF (pm_stp 315 [0, 5, 14, 23]) 32 rfl
set_option maxRecDepth 20000 in
theorem e315_23 (hF : pm_fix pt_me pt_Sg (pt_R L0 xs) F) {x1 : Int32} {x2 : Int32} {x3 : Int32} {x4 : Int32} {s0 : Int32} : F 315 23 [some (.ref 30), some (.int x1), some (.int x2), some (.int x3), some (.int x4)] [.int s0] (81, pt_G, I, L) =
    if (s0 &&& x1) = x1 then
      if x3 = x2 then
        some (some (.int x4), (81, pt_G, I, L))
      else
        F 315 5 [some (.ref 30), some (.int x1), some (.int x2), some (.int (x3 + 1)), some (.int (x4 + 1))] [] (81, pt_G, I, L)
    else
      F 315 5 [some (.ref 30), some (.int x1), some (.int x2), some (.int x3), some (.int (x4 + 1))] [] (81, pt_G, I, L) := pm_blk_to hF (pm_stp 315 [0, 5, 14, 23]) 32 rfl
-- TurnCabinet$Coalitions.rivalOf(I)I 30
set_option maxRecDepth 20000 in
theorem e316_0 (hF : pm_fix pt_me pt_Sg (pt_R L0 xs) F) {x1 : Int32} : F 316 0 [some (.ref 30), some (.int x1), none] [] (81, pt_G, I, L) =
    bif pm_ib (x1 &&& 127) 128 then
      if (I 38 (Int32.toNatClampNeg (x1 &&& 127))) = (-1) then
        pm_k (F 317 0 [some (.ref 30), some (.int (x1 &&& 127)), none] [] (81, pt_G, I, L)) (fun v S => F 316 25 [some (.ref 30), some (.int x1), some (.int (x1 &&& 127))] (v.toList ++ [.int (x1 &&& 127), .ref 38]) S)
      else
        bif pm_ib (x1 &&& 127) 128 then
          some (some (.int (I 38 (Int32.toNatClampNeg (x1 &&& 127)))), (81, pt_G, I, L))
        else none
    else none := pm_blk_to hF (pm_stp 316 [0, 25]) 27 rfl
set_option maxRecDepth 20000 in
theorem e316_25 (hF : pm_fix pt_me pt_Sg (pt_R L0 xs) F) {x1 : Int32} {x2 : Int32} {s0 : Int32} {s1 : Int32} : F 316 25 [some (.ref 30), some (.int x1), some (.int x2)] [.int s0, .int s1, .ref 38] (81, pt_G, I, L) =
    bif pm_ib s1 128 then
      bif pm_ib x2 128 then
        some (some (.int ((pm_ui I 38 (Int32.toNatClampNeg s1) s0) 38 (Int32.toNatClampNeg x2))), (81, pt_G, (pm_ui I 38 (Int32.toNatClampNeg s1) s0), L))
      else none
    else none := pm_blk_to hF (pm_stp 316 [0, 25]) 27 rfl
-- TurnCabinet$Coalitions.firstRival(I)I 30
set_option maxRecDepth 20000 in
theorem e317_0 (hF : pm_fix pt_me pt_Sg (pt_R L0 xs) F) {x1 : Int32} : F 317 0 [some (.ref 30), some (.int x1), none] [] (81, pt_G, I, L) =
    F 317 2 [some (.ref 30), some (.int x1), some (.int 1)] [] (81, pt_G, I, L) := pm_blk_to hF (pm_stp 317 [0, 2, 10, 23, 32]) 30 rfl
set_option maxRecDepth 20000 in
theorem e317_2 (hF : pm_fix pt_me pt_Sg (pt_R L0 xs) F) {x1 : Int32} {x2 : Int32} : F 317 2 [some (.ref 30), some (.int x1), some (.int x2)] [] (81, pt_G, I, L) =
    pm_k (F 507 0 [some (.ref 3)] [] (81, pt_G, I, L)) (fun v S => F 317 10 [some (.ref 30), some (.int x1), some (.int x2)] (v.toList ++ [.int x2]) S) := pm_blk_to hF (pm_stp 317 [0, 2, 10, 23, 32]) 30 rfl
set_option maxRecDepth 20000 in
theorem e317_10 (hF : pm_fix pt_me pt_Sg (pt_R L0 xs) F) {x1 : Int32} {x2 : Int32} {s0 : Int32} {s1 : Int32} : F 317 10 [some (.ref 30), some (.int x1), some (.int x2)] [.int s0, .int s1] (81, pt_G, I, L) =
    if s1 ≤ s0 then
      if x2 = x1 then
        F 317 2 [some (.ref 30), some (.int x1), some (.int (x2 + 1))] [] (81, pt_G, I, L)
      else
        pm_k (F 310 0 [some (.ref 30), some (.int x2)] [] (81, pt_G, I, L)) (fun v S => F 317 23 [some (.ref 30), some (.int x1), some (.int x2)] (v.toList ++ []) S)
    else
      some (some (.int 0), (81, pt_G, I, L)) := pm_blk_to hF (pm_stp 317 [0, 2, 10, 23, 32]) 30 rfl
set_option maxRecDepth 20000 in
theorem e317_23 (hF : pm_fix pt_me pt_Sg (pt_R L0 xs) F) {x1 : Int32} {x2 : Int32} {s0 : Int32} : F 317 23 [some (.ref 30), some (.int x1), some (.int x2)] [.int s0] (81, pt_G, I, L) =
    if s0 = 0 then
      F 317 2 [some (.ref 30), some (.int x1), some (.int (x2 + 1))] [] (81, pt_G, I, L)
    else
      pm_k (F 318 0 [some (.ref 30), some (.int x2), some (.int x1), none] [] (81, pt_G, I, L)) (fun v S => F 317 32 [some (.ref 30), some (.int x1), some (.int x2)] (v.toList ++ []) S) := pm_blk_to hF (pm_stp 317 [0, 2, 10, 23, 32]) 30 rfl
set_option maxRecDepth 20000 in
theorem e317_32 (hF : pm_fix pt_me pt_Sg (pt_R L0 xs) F) {x1 : Int32} {x2 : Int32} {s0 : Int32} : F 317 32 [some (.ref 30), some (.int x1), some (.int x2)] [.int s0] (81, pt_G, I, L) =
    if s0 = 0 then
      F 317 2 [some (.ref 30), some (.int x1), some (.int (x2 + 1))] [] (81, pt_G, I, L)
    else
      some (some (.int x2), (81, pt_G, I, L)) := pm_blk_to hF (pm_stp 317 [0, 2, 10, 23, 32]) 30 rfl
-- TurnCabinet$Coalitions.paysMore(II)Z 30
set_option maxRecDepth 20000 in
theorem e318_0 (hF : pm_fix pt_me pt_Sg (pt_R L0 xs) F) {x1 : Int32} {x2 : Int32} : F 318 0 [some (.ref 30), some (.int x1), some (.int x2), none] [] (81, pt_G, I, L) =
    F 318 2 [some (.ref 30), some (.int x1), some (.int x2), some (.int 0)] [] (81, pt_G, I, L) := pm_blk_to hF (pm_stp 318 [0, 2, 18, 27, 33]) 31 rfl
set_option maxRecDepth 20000 in
theorem e318_2 (hF : pm_fix pt_me pt_Sg (pt_R L0 xs) F) {x1 : Int32} {x2 : Int32} {x3 : Int32} : F 318 2 [some (.ref 30), some (.int x1), some (.int x2), some (.int x3)] [] (81, pt_G, I, L) =
    if x3 < (I 3 0) then
      pm_k (F 151 0 [some (.int x3), some (.int x1)] [] (81, pt_G, I, L)) (fun v S => F 318 18 [some (.ref 30), some (.int x1), some (.int x2), some (.int x3)] (v.toList ++ []) S)
    else
      some (some (.int 1), (81, pt_G, I, L)) := pm_blk_to hF (pm_stp 318 [0, 2, 18, 27, 33]) 31 rfl
set_option maxRecDepth 20000 in
theorem e318_18 (hF : pm_fix pt_me pt_Sg (pt_R L0 xs) F) {x1 : Int32} {x2 : Int32} {x3 : Int32} {s0 : Int32} : F 318 18 [some (.ref 30), some (.int x1), some (.int x2), some (.int x3)] [.int s0] (81, pt_G, I, L) =
    if s0 = 0 then
      F 318 2 [some (.ref 30), some (.int x1), some (.int x2), some (.int (x3 + 1))] [] (81, pt_G, I, L)
    else
      pm_k (F 308 0 [some (.ref 30), some (.int x1), some (.int x3)] [] (81, pt_G, I, L)) (fun v S => F 318 27 [some (.ref 30), some (.int x1), some (.int x2), some (.int x3)] (v.toList ++ []) S) := pm_blk_to hF (pm_stp 318 [0, 2, 18, 27, 33]) 31 rfl
set_option maxRecDepth 20000 in
theorem e318_27 (hF : pm_fix pt_me pt_Sg (pt_R L0 xs) F) {x1 : Int32} {x2 : Int32} {x3 : Int32} {s0 : Int32} : F 318 27 [some (.ref 30), some (.int x1), some (.int x2), some (.int x3)] [.int s0] (81, pt_G, I, L) =
    pm_k (F 308 0 [some (.ref 30), some (.int x2), some (.int x3)] [] (81, pt_G, I, L)) (fun v S => F 318 33 [some (.ref 30), some (.int x1), some (.int x2), some (.int x3)] (v.toList ++ [.int s0]) S) := pm_blk_to hF (pm_stp 318 [0, 2, 18, 27, 33]) 31 rfl
set_option maxRecDepth 20000 in
theorem e318_33 (hF : pm_fix pt_me pt_Sg (pt_R L0 xs) F) {x1 : Int32} {x2 : Int32} {x3 : Int32} {s0 : Int32} {s1 : Int32} : F 318 33 [some (.ref 30), some (.int x1), some (.int x2), some (.int x3)] [.int s0, .int s1] (81, pt_G, I, L) =
    if s1 ≤ s0 then
      some (some (.int 0), (81, pt_G, I, L))
    else
      F 318 2 [some (.ref 30), some (.int x1), some (.int x2), some (.int (x3 + 1))] [] (81, pt_G, I, L) := pm_blk_to hF (pm_stp 318 [0, 2, 18, 27, 33]) 31 rfl
-- TurnCabinet$Coalitions.driftFrom(IZ)I 30
set_option maxRecDepth 20000 in
theorem e319_0 (hF : pm_fix pt_me pt_Sg (pt_R L0 xs) F) {x1 : Int32} {x2 : Int32} : F 319 0 [some (.ref 30), some (.int x1), some (.int x2), none, none, none] [] (81, pt_G, I, L) =
    F 319 2 [some (.ref 30), some (.int x1), some (.int x2), some (.int 0), none, none] [] (81, pt_G, I, L) := pm_blk_to hF (pm_stp 319 [0, 2, 32, 44, 88]) 69 rfl
set_option maxRecDepth 20000 in
theorem e319_2 (hF : pm_fix pt_me pt_Sg (pt_R L0 xs) F) {x1 : Int32} {x2 : Int32} {x3 : Int32} : F 319 2 [some (.ref 30), some (.int x1), some (.int x2), some (.int x3), none, none] [] (81, pt_G, I, L) =
    if x3 < 128 then
      bif pm_ib x3 128 then
        F 319 2 [some (.ref 30), some (.int x1), some (.int x2), some (.int (x3 + 1)), none, none] [] (81, pt_G, (pm_ui I 40 (Int32.toNatClampNeg x3) (vp_nar .boolean 0)), L)
      else none
    else
      pm_k (F 316 0 [some (.ref 30), some (.int (x1 &&& 127)), none] [] (81, pt_G, I, L)) (fun v S => F 319 32 [some (.ref 30), some (.int x1), some (.int x2), some (.int (x1 &&& 127)), none, none] (v.toList ++ []) S) := pm_blk_to hF (pm_stp 319 [0, 2, 32, 44, 88]) 69 rfl
set_option maxRecDepth 20000 in
theorem e319_32 (hF : pm_fix pt_me pt_Sg (pt_R L0 xs) F) {x1 : Int32} {x2 : Int32} {x3 : Int32} {s0 : Int32} : F 319 32 [some (.ref 30), some (.int x1), some (.int x2), some (.int x3), none, none] [.int s0] (81, pt_G, I, L) =
    bif pm_ib x3 128 then
      F 319 44 [some (.ref 30), some (.int x1), some (.int x2), some (.int x3), some (.int s0), some (.int 0)] [] (81, pt_G, (pm_ui I 40 (Int32.toNatClampNeg x3) (vp_nar .boolean 1)), L)
    else none := pm_blk_to hF (pm_stp 319 [0, 2, 32, 44, 88]) 69 rfl
set_option maxRecDepth 20000 in
theorem e319_44 (hF : pm_fix pt_me pt_Sg (pt_R L0 xs) F) {x1 : Int32} {x2 : Int32} {x3 : Int32} {x4 : Int32} {x5 : Int32} : F 319 44 [some (.ref 30), some (.int x1), some (.int x2), some (.int x3), some (.int x4), some (.int x5)] [] (81, pt_G, I, L) =
    if x4 = 0 then
      if x2 = 0 then
        some (some (.int x5), (81, pt_G, I, L))
      else
        if x4 = 0 then
          some (some (.int x3), (81, pt_G, I, L))
        else
          some (some (.int 0), (81, pt_G, I, L))
    else
      bif pm_ib (x4 &&& 127) 128 then
        if (I 40 (Int32.toNatClampNeg (x4 &&& 127))) = 0 then
          if x5 < 128 then
            bif pm_ib (x4 &&& 127) 128 then
              pm_k (F 316 0 [some (.ref 30), some (.int (x4 &&& 127)), none] [] (81, pt_G, (pm_ui I 40 (Int32.toNatClampNeg (x4 &&& 127)) (vp_nar .boolean 1)), L)) (fun v S => F 319 88 [some (.ref 30), some (.int x1), some (.int x2), some (.int (x4 &&& 127)), some (.int x4), some (.int x5)] (v.toList ++ []) S)
            else none
          else
            if x2 = 0 then
              some (some (.int x5), (81, pt_G, I, L))
            else
              if x4 = 0 then
                some (some (.int x3), (81, pt_G, I, L))
              else
                some (some (.int 0), (81, pt_G, I, L))
        else
          if x2 = 0 then
            some (some (.int x5), (81, pt_G, I, L))
          else
            if x4 = 0 then
              some (some (.int x3), (81, pt_G, I, L))
            else
              some (some (.int 0), (81, pt_G, I, L))
      else none := pm_blk_to hF (pm_stp 319 [0, 2, 32, 44, 88]) 69 rfl
set_option maxRecDepth 20000 in
theorem e319_88 (hF : pm_fix pt_me pt_Sg (pt_R L0 xs) F) {x1 : Int32} {x2 : Int32} {x3 : Int32} {x4 : Int32} {x5 : Int32} {s0 : Int32} : F 319 88 [some (.ref 30), some (.int x1), some (.int x2), some (.int x3), some (.int x4), some (.int x5)] [.int s0] (81, pt_G, I, L) =
    F 319 44 [some (.ref 30), some (.int x1), some (.int x2), some (.int x3), some (.int s0), some (.int (x5 + 1))] [] (81, pt_G, I, L) := pm_blk_to hF (pm_stp 319 [0, 2, 32, 44, 88]) 69 rfl
-- TurnCabinet$Coalitions.bestPaying(I)I 30
set_option maxRecDepth 20000 in
theorem e320_0 (hF : pm_fix pt_me pt_Sg (pt_R L0 xs) F) {x1 : Int32} : F 320 0 [some (.ref 30), some (.int x1), none, none] [] (81, pt_G, I, L) =
    F 320 4 [some (.ref 30), some (.int x1), some (.int 0), some (.int 1)] [] (81, pt_G, I, L) := pm_blk_to hF (pm_stp 320 [0, 4, 12, 20, 33, 39]) 35 rfl
set_option maxRecDepth 20000 in
theorem e320_4 (hF : pm_fix pt_me pt_Sg (pt_R L0 xs) F) {x1 : Int32} {x2 : Int32} {x3 : Int32} : F 320 4 [some (.ref 30), some (.int x1), some (.int x2), some (.int x3)] [] (81, pt_G, I, L) =
    pm_k (F 507 0 [some (.ref 3)] [] (81, pt_G, I, L)) (fun v S => F 320 12 [some (.ref 30), some (.int x1), some (.int x2), some (.int x3)] (v.toList ++ [.int x3]) S) := pm_blk_to hF (pm_stp 320 [0, 4, 12, 20, 33, 39]) 35 rfl
set_option maxRecDepth 20000 in
theorem e320_12 (hF : pm_fix pt_me pt_Sg (pt_R L0 xs) F) {x1 : Int32} {x2 : Int32} {x3 : Int32} {s0 : Int32} {s1 : Int32} : F 320 12 [some (.ref 30), some (.int x1), some (.int x2), some (.int x3)] [.int s0, .int s1] (81, pt_G, I, L) =
    if s1 ≤ s0 then
      pm_k (F 310 0 [some (.ref 30), some (.int x3)] [] (81, pt_G, I, L)) (fun v S => F 320 20 [some (.ref 30), some (.int x1), some (.int x2), some (.int x3)] (v.toList ++ []) S)
    else
      some (some (.int x2), (81, pt_G, I, L)) := pm_blk_to hF (pm_stp 320 [0, 4, 12, 20, 33, 39]) 35 rfl
set_option maxRecDepth 20000 in
theorem e320_20 (hF : pm_fix pt_me pt_Sg (pt_R L0 xs) F) {x1 : Int32} {x2 : Int32} {x3 : Int32} {s0 : Int32} : F 320 20 [some (.ref 30), some (.int x1), some (.int x2), some (.int x3)] [.int s0] (81, pt_G, I, L) =
    if s0 = 0 then
      F 320 4 [some (.ref 30), some (.int x1), some (.int x2), some (.int (x3 + 1))] [] (81, pt_G, I, L)
    else
      if x2 = 0 then
        F 320 4 [some (.ref 30), some (.int x1), some (.int x3), some (.int (x3 + 1))] [] (81, pt_G, I, L)
      else
        pm_k (F 308 0 [some (.ref 30), some (.int x3), some (.int x1)] [] (81, pt_G, I, L)) (fun v S => F 320 33 [some (.ref 30), some (.int x1), some (.int x2), some (.int x3)] (v.toList ++ []) S) := pm_blk_to hF (pm_stp 320 [0, 4, 12, 20, 33, 39]) 35 rfl
set_option maxRecDepth 20000 in
theorem e320_33 (hF : pm_fix pt_me pt_Sg (pt_R L0 xs) F) {x1 : Int32} {x2 : Int32} {x3 : Int32} {s0 : Int32} : F 320 33 [some (.ref 30), some (.int x1), some (.int x2), some (.int x3)] [.int s0] (81, pt_G, I, L) =
    pm_k (F 308 0 [some (.ref 30), some (.int x2), some (.int x1)] [] (81, pt_G, I, L)) (fun v S => F 320 39 [some (.ref 30), some (.int x1), some (.int x2), some (.int x3)] (v.toList ++ [.int s0]) S) := pm_blk_to hF (pm_stp 320 [0, 4, 12, 20, 33, 39]) 35 rfl
set_option maxRecDepth 20000 in
theorem e320_39 (hF : pm_fix pt_me pt_Sg (pt_R L0 xs) F) {x1 : Int32} {x2 : Int32} {x3 : Int32} {s0 : Int32} {s1 : Int32} : F 320 39 [some (.ref 30), some (.int x1), some (.int x2), some (.int x3)] [.int s0, .int s1] (81, pt_G, I, L) =
    if s1 ≤ s0 then
      F 320 4 [some (.ref 30), some (.int x1), some (.int x2), some (.int (x3 + 1))] [] (81, pt_G, I, L)
    else
      F 320 4 [some (.ref 30), some (.int x1), some (.int x3), some (.int (x3 + 1))] [] (81, pt_G, I, L) := pm_blk_to hF (pm_stp 320 [0, 4, 12, 20, 33, 39]) 35 rfl
-- TurnCabinet$Coalitions.isBetter(II)Z 30
set_option maxRecDepth 20000 in
theorem e321_0 (hF : pm_fix pt_me pt_Sg (pt_R L0 xs) F) {x1 : Int32} {x2 : Int32} : F 321 0 [some (.ref 30), some (.int x1), some (.int x2), none, none] [] (81, pt_G, I, L) =
    F 321 5 [some (.ref 30), some (.int x1), some (.int x2), some (.int 0), some (.int 0)] [] (81, pt_G, I, L) := pm_blk_to hF (pm_stp 321 [0, 5, 67]) 55 rfl
set_option maxRecDepth 20000 in
theorem e321_5 (hF : pm_fix pt_me pt_Sg (pt_R L0 xs) F) {x1 : Int32} {x2 : Int32} {x3 : Int32} {x4 : Int32} : F 321 5 [some (.ref 30), some (.int x1), some (.int x2), some (.int x3), some (.int x4)] [] (81, pt_G, I, L) =
    if x4 < (I 3 0) then
      if x4 < 8 then
        bif pm_ib ((8 * (x1 &&& 127)) + x4) 1024 then
          bif pm_ib ((8 * (x2 &&& 127)) + x4) 1024 then
            if (I 37 (Int32.toNatClampNeg ((8 * (x1 &&& 127)) + x4))) < (I 37 (Int32.toNatClampNeg ((8 * (x2 &&& 127)) + x4))) then
              pm_k (F 508 0 [some (.ref 3), some (.int x4)] [] (81, pt_G, I, L)) (fun v S => F 321 67 [some (.ref 30), some (.int x1), some (.int x2), some (.int x3), some (.int x4)] (v.toList ++ [.int x3]) S)
            else
              F 321 5 [some (.ref 30), some (.int x1), some (.int x2), some (.int x3), some (.int (x4 + 1))] [] (81, pt_G, I, L)
          else none
        else none
      else
        if x3 < (I 30 12) then
          some (some (.int 0), (81, pt_G, I, L))
        else
          some (some (.int 1), (81, pt_G, I, L))
    else
      if x3 < (I 30 12) then
        some (some (.int 0), (81, pt_G, I, L))
      else
        some (some (.int 1), (81, pt_G, I, L)) := pm_blk_to hF (pm_stp 321 [0, 5, 67]) 55 rfl
set_option maxRecDepth 20000 in
theorem e321_67 (hF : pm_fix pt_me pt_Sg (pt_R L0 xs) F) {x1 : Int32} {x2 : Int32} {x3 : Int32} {x4 : Int32} {s0 : Int32} {s1 : Int32} : F 321 67 [some (.ref 30), some (.int x1), some (.int x2), some (.int x3), some (.int x4)] [.int s0, .int s1] (81, pt_G, I, L) =
    F 321 5 [some (.ref 30), some (.int x1), some (.int x2), some (.int (s1 + s0)), some (.int (x4 + 1))] [] (81, pt_G, I, L) := pm_blk_to hF (pm_stp 321 [0, 5, 67]) 55 rfl
-- TurnCabinet$Coalitions.isUnbeaten(I)Z 30
set_option maxRecDepth 20000 in
theorem e322_0 (hF : pm_fix pt_me pt_Sg (pt_R L0 xs) F) {x1 : Int32} : F 322 0 [some (.ref 30), some (.int x1), none] [] (81, pt_G, I, L) =
    bif pm_ib (x1 &&& 127) 128 then
      if (I 39 (Int32.toNatClampNeg (x1 &&& 127))) = 0 then
        pm_k (F 310 0 [some (.ref 30), some (.int (x1 &&& 127))] [] (81, pt_G, I, L)) (fun v S => F 322 24 [some (.ref 30), some (.int x1), some (.int (x1 &&& 127))] (v.toList ++ [.int (x1 &&& 127), .ref 39]) S)
      else
        bif pm_ib (x1 &&& 127) 128 then
          if (I 39 (Int32.toNatClampNeg (x1 &&& 127))) = 2 then
            some (some (.int 1), (81, pt_G, I, L))
          else
            some (some (.int 0), (81, pt_G, I, L))
        else none
    else none := pm_blk_to hF (pm_stp 322 [0, 24, 32]) 39 rfl
set_option maxRecDepth 20000 in
theorem e322_24 (hF : pm_fix pt_me pt_Sg (pt_R L0 xs) F) {x1 : Int32} {x2 : Int32} {s0 : Int32} {s1 : Int32} : F 322 24 [some (.ref 30), some (.int x1), some (.int x2)] [.int s0, .int s1, .ref 39] (81, pt_G, I, L) =
    if s0 = 0 then
      bif pm_ib s1 128 then
        bif pm_ib x2 128 then
          if ((pm_ui I 39 (Int32.toNatClampNeg s1) 1) 39 (Int32.toNatClampNeg x2)) = 2 then
            some (some (.int 1), (81, pt_G, (pm_ui I 39 (Int32.toNatClampNeg s1) 1), L))
          else
            some (some (.int 0), (81, pt_G, (pm_ui I 39 (Int32.toNatClampNeg s1) 1), L))
        else none
      else none
    else
      pm_k (F 323 0 [some (.ref 30), some (.int x2), none] [] (81, pt_G, I, L)) (fun v S => F 322 32 [some (.ref 30), some (.int x1), some (.int x2)] (v.toList ++ [.int s1, .ref 39]) S) := pm_blk_to hF (pm_stp 322 [0, 24, 32]) 39 rfl
set_option maxRecDepth 20000 in
theorem e322_32 (hF : pm_fix pt_me pt_Sg (pt_R L0 xs) F) {x1 : Int32} {x2 : Int32} {s0 : Int32} {s1 : Int32} : F 322 32 [some (.ref 30), some (.int x1), some (.int x2)] [.int s0, .int s1, .ref 39] (81, pt_G, I, L) =
    if s0 = 0 then
      bif pm_ib s1 128 then
        bif pm_ib x2 128 then
          if ((pm_ui I 39 (Int32.toNatClampNeg s1) 2) 39 (Int32.toNatClampNeg x2)) = 2 then
            some (some (.int 1), (81, pt_G, (pm_ui I 39 (Int32.toNatClampNeg s1) 2), L))
          else
            some (some (.int 0), (81, pt_G, (pm_ui I 39 (Int32.toNatClampNeg s1) 2), L))
        else none
      else none
    else
      bif pm_ib s1 128 then
        bif pm_ib x2 128 then
          if ((pm_ui I 39 (Int32.toNatClampNeg s1) 1) 39 (Int32.toNatClampNeg x2)) = 2 then
            some (some (.int 1), (81, pt_G, (pm_ui I 39 (Int32.toNatClampNeg s1) 1), L))
          else
            some (some (.int 0), (81, pt_G, (pm_ui I 39 (Int32.toNatClampNeg s1) 1), L))
        else none
      else none := pm_blk_to hF (pm_stp 322 [0, 24, 32]) 39 rfl
-- TurnCabinet$Coalitions.isBeaten(I)Z 30
set_option maxRecDepth 20000 in
theorem e323_0 (hF : pm_fix pt_me pt_Sg (pt_R L0 xs) F) {x1 : Int32} : F 323 0 [some (.ref 30), some (.int x1), none] [] (81, pt_G, I, L) =
    F 323 2 [some (.ref 30), some (.int x1), some (.int 1)] [] (81, pt_G, I, L) := pm_blk_to hF (pm_stp 323 [0, 2, 10, 18, 27]) 27 rfl
set_option maxRecDepth 20000 in
theorem e323_2 (hF : pm_fix pt_me pt_Sg (pt_R L0 xs) F) {x1 : Int32} {x2 : Int32} : F 323 2 [some (.ref 30), some (.int x1), some (.int x2)] [] (81, pt_G, I, L) =
    pm_k (F 507 0 [some (.ref 3)] [] (81, pt_G, I, L)) (fun v S => F 323 10 [some (.ref 30), some (.int x1), some (.int x2)] (v.toList ++ [.int x2]) S) := pm_blk_to hF (pm_stp 323 [0, 2, 10, 18, 27]) 27 rfl
set_option maxRecDepth 20000 in
theorem e323_10 (hF : pm_fix pt_me pt_Sg (pt_R L0 xs) F) {x1 : Int32} {x2 : Int32} {s0 : Int32} {s1 : Int32} : F 323 10 [some (.ref 30), some (.int x1), some (.int x2)] [.int s0, .int s1] (81, pt_G, I, L) =
    if s1 ≤ s0 then
      pm_k (F 310 0 [some (.ref 30), some (.int x2)] [] (81, pt_G, I, L)) (fun v S => F 323 18 [some (.ref 30), some (.int x1), some (.int x2)] (v.toList ++ []) S)
    else
      some (some (.int 0), (81, pt_G, I, L)) := pm_blk_to hF (pm_stp 323 [0, 2, 10, 18, 27]) 27 rfl
set_option maxRecDepth 20000 in
theorem e323_18 (hF : pm_fix pt_me pt_Sg (pt_R L0 xs) F) {x1 : Int32} {x2 : Int32} {s0 : Int32} : F 323 18 [some (.ref 30), some (.int x1), some (.int x2)] [.int s0] (81, pt_G, I, L) =
    if s0 = 0 then
      F 323 2 [some (.ref 30), some (.int x1), some (.int (x2 + 1))] [] (81, pt_G, I, L)
    else
      pm_k (F 321 0 [some (.ref 30), some (.int x2), some (.int x1), none, none] [] (81, pt_G, I, L)) (fun v S => F 323 27 [some (.ref 30), some (.int x1), some (.int x2)] (v.toList ++ []) S) := pm_blk_to hF (pm_stp 323 [0, 2, 10, 18, 27]) 27 rfl
set_option maxRecDepth 20000 in
theorem e323_27 (hF : pm_fix pt_me pt_Sg (pt_R L0 xs) F) {x1 : Int32} {x2 : Int32} {s0 : Int32} : F 323 27 [some (.ref 30), some (.int x1), some (.int x2)] [.int s0] (81, pt_G, I, L) =
    if s0 = 0 then
      F 323 2 [some (.ref 30), some (.int x1), some (.int (x2 + 1))] [] (81, pt_G, I, L)
    else
      some (some (.int 1), (81, pt_G, I, L)) := pm_blk_to hF (pm_stp 323 [0, 2, 10, 18, 27]) 27 rfl
-- TurnCabinet$Coalitions.countUnbeaten()I 30
set_option maxRecDepth 20000 in
theorem e324_0 (hF : pm_fix pt_me pt_Sg (pt_R L0 xs) F) : F 324 0 [some (.ref 30), none, none] [] (81, pt_G, I, L) =
    F 324 4 [some (.ref 30), some (.int 0), some (.int 1)] [] (81, pt_G, I, L) := pm_blk_to hF (pm_stp 324 [0, 4, 12, 20]) 23 rfl
set_option maxRecDepth 20000 in
theorem e324_4 (hF : pm_fix pt_me pt_Sg (pt_R L0 xs) F) {x1 : Int32} {x2 : Int32} : F 324 4 [some (.ref 30), some (.int x1), some (.int x2)] [] (81, pt_G, I, L) =
    pm_k (F 507 0 [some (.ref 3)] [] (81, pt_G, I, L)) (fun v S => F 324 12 [some (.ref 30), some (.int x1), some (.int x2)] (v.toList ++ [.int x2]) S) := pm_blk_to hF (pm_stp 324 [0, 4, 12, 20]) 23 rfl
set_option maxRecDepth 20000 in
theorem e324_12 (hF : pm_fix pt_me pt_Sg (pt_R L0 xs) F) {x1 : Int32} {x2 : Int32} {s0 : Int32} {s1 : Int32} : F 324 12 [some (.ref 30), some (.int x1), some (.int x2)] [.int s0, .int s1] (81, pt_G, I, L) =
    if s1 ≤ s0 then
      pm_k (F 322 0 [some (.ref 30), some (.int x2), none] [] (81, pt_G, I, L)) (fun v S => F 324 20 [some (.ref 30), some (.int x1), some (.int x2)] (v.toList ++ []) S)
    else
      some (some (.int x1), (81, pt_G, I, L)) := pm_blk_to hF (pm_stp 324 [0, 4, 12, 20]) 23 rfl
set_option maxRecDepth 20000 in
theorem e324_20 (hF : pm_fix pt_me pt_Sg (pt_R L0 xs) F) {x1 : Int32} {x2 : Int32} {s0 : Int32} : F 324 20 [some (.ref 30), some (.int x1), some (.int x2)] [.int s0] (81, pt_G, I, L) =
    if s0 = 0 then
      F 324 4 [some (.ref 30), some (.int x1), some (.int (x2 + 1))] [] (81, pt_G, I, L)
    else
      F 324 4 [some (.ref 30), some (.int (x1 + 1)), some (.int (x2 + 1))] [] (81, pt_G, I, L) := pm_blk_to hF (pm_stp 324 [0, 4, 12, 20]) 23 rfl
-- TurnCabinet$Coalitions.findUnbeaten(I)I 30
set_option maxRecDepth 20000 in
theorem e325_0 (hF : pm_fix pt_me pt_Sg (pt_R L0 xs) F) {x1 : Int32} : F 325 0 [some (.ref 30), some (.int x1), none, none] [] (81, pt_G, I, L) =
    F 325 4 [some (.ref 30), some (.int x1), some (.int 0), some (.int 1)] [] (81, pt_G, I, L) := pm_blk_to hF (pm_stp 325 [0, 4, 12, 20]) 29 rfl
set_option maxRecDepth 20000 in
theorem e325_4 (hF : pm_fix pt_me pt_Sg (pt_R L0 xs) F) {x1 : Int32} {x2 : Int32} {x3 : Int32} : F 325 4 [some (.ref 30), some (.int x1), some (.int x2), some (.int x3)] [] (81, pt_G, I, L) =
    pm_k (F 507 0 [some (.ref 3)] [] (81, pt_G, I, L)) (fun v S => F 325 12 [some (.ref 30), some (.int x1), some (.int x2), some (.int x3)] (v.toList ++ [.int x3]) S) := pm_blk_to hF (pm_stp 325 [0, 4, 12, 20]) 29 rfl
set_option maxRecDepth 20000 in
theorem e325_12 (hF : pm_fix pt_me pt_Sg (pt_R L0 xs) F) {x1 : Int32} {x2 : Int32} {x3 : Int32} {s0 : Int32} {s1 : Int32} : F 325 12 [some (.ref 30), some (.int x1), some (.int x2), some (.int x3)] [.int s0, .int s1] (81, pt_G, I, L) =
    if s1 ≤ s0 then
      pm_k (F 322 0 [some (.ref 30), some (.int x3), none] [] (81, pt_G, I, L)) (fun v S => F 325 20 [some (.ref 30), some (.int x1), some (.int x2), some (.int x3)] (v.toList ++ []) S)
    else
      some (some (.int (-1)), (81, pt_G, I, L)) := pm_blk_to hF (pm_stp 325 [0, 4, 12, 20]) 29 rfl
set_option maxRecDepth 20000 in
theorem e325_20 (hF : pm_fix pt_me pt_Sg (pt_R L0 xs) F) {x1 : Int32} {x2 : Int32} {x3 : Int32} {s0 : Int32} : F 325 20 [some (.ref 30), some (.int x1), some (.int x2), some (.int x3)] [.int s0] (81, pt_G, I, L) =
    if s0 = 0 then
      F 325 4 [some (.ref 30), some (.int x1), some (.int x2), some (.int (x3 + 1))] [] (81, pt_G, I, L)
    else
      if x2 = x1 then
        some (some (.int x3), (81, pt_G, I, L))
      else
        F 325 4 [some (.ref 30), some (.int x1), some (.int (x2 + 1)), some (.int (x3 + 1))] [] (81, pt_G, I, L) := pm_blk_to hF (pm_stp 325 [0, 4, 12, 20]) 29 rfl
-- TurnCabinet$Coalitions.countNeeding(I)I 30
set_option maxRecDepth 20000 in
theorem e326_0 (hF : pm_fix pt_me pt_Sg (pt_R L0 xs) F) {x1 : Int32} : F 326 0 [some (.ref 30), some (.int x1), none, none] [] (81, pt_G, I, L) =
    F 326 4 [some (.ref 30), some (.int x1), some (.int 0), some (.int 1)] [] (81, pt_G, I, L) := pm_blk_to hF (pm_stp 326 [0, 4, 12, 20, 28, 37]) 32 rfl
set_option maxRecDepth 20000 in
theorem e326_4 (hF : pm_fix pt_me pt_Sg (pt_R L0 xs) F) {x1 : Int32} {x2 : Int32} {x3 : Int32} : F 326 4 [some (.ref 30), some (.int x1), some (.int x2), some (.int x3)] [] (81, pt_G, I, L) =
    pm_k (F 507 0 [some (.ref 3)] [] (81, pt_G, I, L)) (fun v S => F 326 12 [some (.ref 30), some (.int x1), some (.int x2), some (.int x3)] (v.toList ++ [.int x3]) S) := pm_blk_to hF (pm_stp 326 [0, 4, 12, 20, 28, 37]) 32 rfl
set_option maxRecDepth 20000 in
theorem e326_12 (hF : pm_fix pt_me pt_Sg (pt_R L0 xs) F) {x1 : Int32} {x2 : Int32} {x3 : Int32} {s0 : Int32} {s1 : Int32} : F 326 12 [some (.ref 30), some (.int x1), some (.int x2), some (.int x3)] [.int s0, .int s1] (81, pt_G, I, L) =
    if s1 ≤ s0 then
      pm_k (F 151 0 [some (.int x1), some (.int x3)] [] (81, pt_G, I, L)) (fun v S => F 326 20 [some (.ref 30), some (.int x1), some (.int x2), some (.int x3)] (v.toList ++ []) S)
    else
      some (some (.int x2), (81, pt_G, I, L)) := pm_blk_to hF (pm_stp 326 [0, 4, 12, 20, 28, 37]) 32 rfl
set_option maxRecDepth 20000 in
theorem e326_20 (hF : pm_fix pt_me pt_Sg (pt_R L0 xs) F) {x1 : Int32} {x2 : Int32} {x3 : Int32} {s0 : Int32} : F 326 20 [some (.ref 30), some (.int x1), some (.int x2), some (.int x3)] [.int s0] (81, pt_G, I, L) =
    if s0 = 0 then
      F 326 4 [some (.ref 30), some (.int x1), some (.int x2), some (.int (x3 + 1))] [] (81, pt_G, I, L)
    else
      pm_k (F 309 0 [some (.ref 30), some (.int x3)] [] (81, pt_G, I, L)) (fun v S => F 326 28 [some (.ref 30), some (.int x1), some (.int x2), some (.int x3)] (v.toList ++ []) S) := pm_blk_to hF (pm_stp 326 [0, 4, 12, 20, 28, 37]) 32 rfl
set_option maxRecDepth 20000 in
theorem e326_28 (hF : pm_fix pt_me pt_Sg (pt_R L0 xs) F) {x1 : Int32} {x2 : Int32} {x3 : Int32} {s0 : Int32} : F 326 28 [some (.ref 30), some (.int x1), some (.int x2), some (.int x3)] [.int s0] (81, pt_G, I, L) =
    if s0 = 0 then
      F 326 4 [some (.ref 30), some (.int x1), some (.int x2), some (.int (x3 + 1))] [] (81, pt_G, I, L)
    else
      pm_k (F 311 0 [some (.ref 30), some (.int x3), some (.int x1)] [] (81, pt_G, I, L)) (fun v S => F 326 37 [some (.ref 30), some (.int x1), some (.int x2), some (.int x3)] (v.toList ++ []) S) := pm_blk_to hF (pm_stp 326 [0, 4, 12, 20, 28, 37]) 32 rfl
set_option maxRecDepth 20000 in
theorem e326_37 (hF : pm_fix pt_me pt_Sg (pt_R L0 xs) F) {x1 : Int32} {x2 : Int32} {x3 : Int32} {s0 : Int32} : F 326 37 [some (.ref 30), some (.int x1), some (.int x2), some (.int x3)] [.int s0] (81, pt_G, I, L) =
    if s0 = 0 then
      F 326 4 [some (.ref 30), some (.int x1), some (.int (x2 + 1)), some (.int (x3 + 1))] [] (81, pt_G, I, L)
    else
      F 326 4 [some (.ref 30), some (.int x1), some (.int x2), some (.int (x3 + 1))] [] (81, pt_G, I, L) := pm_blk_to hF (pm_stp 326 [0, 4, 12, 20, 28, 37]) 32 rfl
-- TurnCabinet$Coalitions.countPivots(I)I 30
set_option maxRecDepth 20000 in
theorem e327_0 (hF : pm_fix pt_me pt_Sg (pt_R L0 xs) F) {x1 : Int32} : F 327 0 [some (.ref 30), some (.int x1), none, none, none, none] [] (81, pt_G, I, L) =
    F 327 4 [some (.ref 30), some (.int x1), some (.int 0), some (.int 1), none, none] [] (81, pt_G, I, L) := pm_blk_to hF (pm_stp 327 [0, 4, 12, 20, 28, 37, 47]) 59 rfl
set_option maxRecDepth 20000 in
theorem e327_4 (hF : pm_fix pt_me pt_Sg (pt_R L0 xs) F) {x1 : Int32} {x2 : Int32} {x3 : Int32} : F 327 4 [some (.ref 30), some (.int x1), some (.int x2), some (.int x3), none, none] [] (81, pt_G, I, L) =
    pm_k (F 507 0 [some (.ref 3)] [] (81, pt_G, I, L)) (fun v S => F 327 12 [some (.ref 30), some (.int x1), some (.int x2), some (.int x3), none, none] (v.toList ++ [.int x3]) S) := pm_blk_to hF (pm_stp 327 [0, 4, 12, 20, 28, 37, 47]) 59 rfl
set_option maxRecDepth 20000 in
theorem e327_12 (hF : pm_fix pt_me pt_Sg (pt_R L0 xs) F) {x1 : Int32} {x2 : Int32} {x3 : Int32} {s0 : Int32} {s1 : Int32} : F 327 12 [some (.ref 30), some (.int x1), some (.int x2), some (.int x3), none, none] [.int s0, .int s1] (81, pt_G, I, L) =
    if s1 ≤ s0 then
      pm_k (F 151 0 [some (.int x1), some (.int x3)] [] (81, pt_G, I, L)) (fun v S => F 327 20 [some (.ref 30), some (.int x1), some (.int x2), some (.int x3), none, none] (v.toList ++ []) S)
    else
      some (some (.int x2), (81, pt_G, I, L)) := pm_blk_to hF (pm_stp 327 [0, 4, 12, 20, 28, 37, 47]) 59 rfl
set_option maxRecDepth 20000 in
theorem e327_20 (hF : pm_fix pt_me pt_Sg (pt_R L0 xs) F) {x1 : Int32} {x2 : Int32} {x3 : Int32} {s0 : Int32} : F 327 20 [some (.ref 30), some (.int x1), some (.int x2), some (.int x3), none, none] [.int s0] (81, pt_G, I, L) =
    if s0 = 0 then
      F 327 4 [some (.ref 30), some (.int x1), some (.int x2), some (.int (x3 + 1)), none, none] [] (81, pt_G, I, L)
    else
      pm_k (F 309 0 [some (.ref 30), some (.int x3)] [] (81, pt_G, I, L)) (fun v S => F 327 28 [some (.ref 30), some (.int x1), some (.int x2), some (.int x3), none, none] (v.toList ++ []) S) := pm_blk_to hF (pm_stp 327 [0, 4, 12, 20, 28, 37, 47]) 59 rfl
set_option maxRecDepth 20000 in
theorem e327_28 (hF : pm_fix pt_me pt_Sg (pt_R L0 xs) F) {x1 : Int32} {x2 : Int32} {x3 : Int32} {s0 : Int32} : F 327 28 [some (.ref 30), some (.int x1), some (.int x2), some (.int x3), none, none] [.int s0] (81, pt_G, I, L) =
    if s0 = 0 then
      F 327 4 [some (.ref 30), some (.int x1), some (.int x2), some (.int (x3 + 1)), none, none] [] (81, pt_G, I, L)
    else
      pm_k (F 311 0 [some (.ref 30), some (.int x3), some (.int x1)] [] (81, pt_G, I, L)) (fun v S => F 327 37 [some (.ref 30), some (.int x1), some (.int x2), some (.int x3), none, none] (v.toList ++ []) S) := pm_blk_to hF (pm_stp 327 [0, 4, 12, 20, 28, 37, 47]) 59 rfl
set_option maxRecDepth 20000 in
theorem e327_37 (hF : pm_fix pt_me pt_Sg (pt_R L0 xs) F) {x1 : Int32} {x2 : Int32} {x3 : Int32} {s0 : Int32} : F 327 37 [some (.ref 30), some (.int x1), some (.int x2), some (.int x3), none, none] [.int s0] (81, pt_G, I, L) =
    if s0 = 0 then
      pm_k (F 1508 0 [some (.int x3)] [] (81, pt_G, I, L)) (fun v S => F 327 47 [some (.ref 30), some (.int x1), some (.int x2), some (.int x3), none, none] (v.toList ++ []) S)
    else
      F 327 4 [some (.ref 30), some (.int x1), some (.int x2), some (.int (x3 + 1)), none, none] [] (81, pt_G, I, L) := pm_blk_to hF (pm_stp 327 [0, 4, 12, 20, 28, 37, 47]) 59 rfl
set_option maxRecDepth 20000 in
theorem e327_47 (hF : pm_fix pt_me pt_Sg (pt_R L0 xs) F) {x1 : Int32} {x2 : Int32} {x3 : Int32} {s0 : Int32} : F 327 47 [some (.ref 30), some (.int x1), some (.int x2), some (.int x3), none, none] [.int s0] (81, pt_G, I, L) =
    bif pm_ib ((s0 - 1) &&& 7) 8 then
      bif pm_ib ((((I 3 0) - 1) - (s0 - 1)) &&& 7) 8 then
        F 327 4 [some (.ref 30), some (.int x1), some (.int (x2 + ((pt_ord (Int32.toNatClampNeg ((s0 - 1) &&& 7))) * (pt_ord (Int32.toNatClampNeg ((((I 3 0) - 1) - (s0 - 1)) &&& 7)))))), some (.int (x3 + 1)), none, none] [] (81, pt_G, I, L)
      else none
    else none := pm_blk_to hF (pm_stp 327 [0, 4, 12, 20, 28, 37, 47]) 59 rfl
-- TurnCabinet$Coalitions.fewestToJoin(I)I 30
set_option maxRecDepth 20000 in
theorem e328_0 (hF : pm_fix pt_me pt_Sg (pt_R L0 xs) F) {x1 : Int32} : F 328 0 [some (.ref 30), some (.int x1), none, none] [] (81, pt_G, I, L) =
    pm_k (F 310 0 [some (.ref 30), some (.int x1)] [] (81, pt_G, I, L)) (fun v S => F 328 5 [some (.ref 30), some (.int x1), none, none] (v.toList ++ []) S) := pm_blk_to hF (pm_stp 328 [0, 5, 14, 22, 38, 53, 57]) 45 rfl
set_option maxRecDepth 20000 in
theorem e328_5 (hF : pm_fix pt_me pt_Sg (pt_R L0 xs) F) {x1 : Int32} {s0 : Int32} : F 328 5 [some (.ref 30), some (.int x1), none, none] [.int s0] (81, pt_G, I, L) =
    if s0 = 0 then
      F 328 14 [some (.ref 30), some (.int x1), some (.int (-1)), some (.int 1)] [] (81, pt_G, I, L)
    else
      some (some (.int 0), (81, pt_G, I, L)) := pm_blk_to hF (pm_stp 328 [0, 5, 14, 22, 38, 53, 57]) 45 rfl
set_option maxRecDepth 20000 in
theorem e328_14 (hF : pm_fix pt_me pt_Sg (pt_R L0 xs) F) {x1 : Int32} {x2 : Int32} {x3 : Int32} : F 328 14 [some (.ref 30), some (.int x1), some (.int x2), some (.int x3)] [] (81, pt_G, I, L) =
    pm_k (F 507 0 [some (.ref 3)] [] (81, pt_G, I, L)) (fun v S => F 328 22 [some (.ref 30), some (.int x1), some (.int x2), some (.int x3)] (v.toList ++ [.int x3]) S) := pm_blk_to hF (pm_stp 328 [0, 5, 14, 22, 38, 53, 57]) 45 rfl
set_option maxRecDepth 20000 in
theorem e328_22 (hF : pm_fix pt_me pt_Sg (pt_R L0 xs) F) {x1 : Int32} {x2 : Int32} {x3 : Int32} {s0 : Int32} {s1 : Int32} : F 328 22 [some (.ref 30), some (.int x1), some (.int x2), some (.int x3)] [.int s0, .int s1] (81, pt_G, I, L) =
    if s1 ≤ s0 then
      if (x3 &&& x1) = 0 then
        pm_k (F 310 0 [some (.ref 30), some (.int (x3 ||| x1))] [] (81, pt_G, I, L)) (fun v S => F 328 38 [some (.ref 30), some (.int x1), some (.int x2), some (.int x3)] (v.toList ++ []) S)
      else
        F 328 14 [some (.ref 30), some (.int x1), some (.int x2), some (.int (x3 + 1))] [] (81, pt_G, I, L)
    else
      some (some (.int x2), (81, pt_G, I, L)) := pm_blk_to hF (pm_stp 328 [0, 5, 14, 22, 38, 53, 57]) 45 rfl
set_option maxRecDepth 20000 in
theorem e328_38 (hF : pm_fix pt_me pt_Sg (pt_R L0 xs) F) {x1 : Int32} {x2 : Int32} {x3 : Int32} {s0 : Int32} : F 328 38 [some (.ref 30), some (.int x1), some (.int x2), some (.int x3)] [.int s0] (81, pt_G, I, L) =
    if s0 = 0 then
      F 328 14 [some (.ref 30), some (.int x1), some (.int x2), some (.int (x3 + 1))] [] (81, pt_G, I, L)
    else
      if x2 = (-1) then
        F 328 14 [some (.ref 30), some (.int x1), some (.int x3), some (.int (x3 + 1))] [] (81, pt_G, I, L)
      else
        pm_k (F 1508 0 [some (.int x3)] [] (81, pt_G, I, L)) (fun v S => F 328 53 [some (.ref 30), some (.int x1), some (.int x2), some (.int x3)] (v.toList ++ []) S) := pm_blk_to hF (pm_stp 328 [0, 5, 14, 22, 38, 53, 57]) 45 rfl
set_option maxRecDepth 20000 in
theorem e328_53 (hF : pm_fix pt_me pt_Sg (pt_R L0 xs) F) {x1 : Int32} {x2 : Int32} {x3 : Int32} {s0 : Int32} : F 328 53 [some (.ref 30), some (.int x1), some (.int x2), some (.int x3)] [.int s0] (81, pt_G, I, L) =
    pm_k (F 1508 0 [some (.int x2)] [] (81, pt_G, I, L)) (fun v S => F 328 57 [some (.ref 30), some (.int x1), some (.int x2), some (.int x3)] (v.toList ++ [.int s0]) S) := pm_blk_to hF (pm_stp 328 [0, 5, 14, 22, 38, 53, 57]) 45 rfl
set_option maxRecDepth 20000 in
theorem e328_57 (hF : pm_fix pt_me pt_Sg (pt_R L0 xs) F) {x1 : Int32} {x2 : Int32} {x3 : Int32} {s0 : Int32} {s1 : Int32} : F 328 57 [some (.ref 30), some (.int x1), some (.int x2), some (.int x3)] [.int s0, .int s1] (81, pt_G, I, L) =
    if s1 < s0 then
      F 328 14 [some (.ref 30), some (.int x1), some (.int x3), some (.int (x3 + 1))] [] (81, pt_G, I, L)
    else
      F 328 14 [some (.ref 30), some (.int x1), some (.int x2), some (.int (x3 + 1))] [] (81, pt_G, I, L) := pm_blk_to hF (pm_stp 328 [0, 5, 14, 22, 38, 53, 57]) 45 rfl
end
