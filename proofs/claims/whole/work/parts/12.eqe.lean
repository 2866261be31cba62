/-! ===== printed by gen/eqs.py: what the methods do between cuts ===== -/
section
variable {F : pm_F} {L0 : Nat} {xs : Nat → Int32} {I : Nat → Nat → Int32} {L : Nat → Nat → Int64}
-- TurnCabinetModel.policy(III)I 49
set_option maxRecDepth 20000 in
theorem e1270_0 (hF : pm_fix pt_me pt_Sg (pt_R L0 xs) F) {x1 : Int32} {x2 : Int32} {x3 : Int32} : F 1270 0 [some (.ref 49), some (.int x1), some (.int x2), some (.int x3)] [] (81, pt_G, I, L) =
    pm_k (F 1248 0 [some (.ref 49), some (.int x1)] [] (81, pt_G, I, L)) (fun v S => F 1270 5 [some (.ref 49), some (.int x1), some (.int x2), some (.int x3)] (v.toList ++ []) S) := pm_blk_to hF (pm_stp 1270 [0, 5, 17, 25, 36]) 37 rfl
set_option maxRecDepth 20000 in
theorem e1270_5 (hF : pm_fix pt_me pt_Sg (pt_R L0 xs) F) {x1 : Int32} {x2 : Int32} {x3 : Int32} {s0 : Int32} : F 1270 5 [some (.ref 49), some (.int x1), some (.int x2), some (.int x3)] [.int s0] (81, pt_G, I, L) =
    if s0 = 0 then
      some (some (.int (-1)), (81, pt_G, I, L))
    else
      pm_k (F 1202 0 [some (.long (Int32.toInt64 x2)), none, some (.long 0), none, some (.long 2), none] [] (81, pt_G, I, L)) (fun v S => F 1270 17 [some (.ref 49), some (.int x1), some (.int x2), some (.int x3)] (v.toList ++ []) S) := pm_blk_to hF (pm_stp 1270 [0, 5, 17, 25, 36]) 37 rfl
set_option maxRecDepth 20000 in
theorem e1270_17 (hF : pm_fix pt_me pt_Sg (pt_R L0 xs) F) {x1 : Int32} {x2 : Int32} {x3 : Int32} {s0 : Int32} : F 1270 17 [some (.ref 49), some (.int x1), some (.int x2), some (.int x3)] [.int s0] (81, pt_G, I, L) =
    if s0 = 0 then
      some (some (.int (-1)), (81, pt_G, I, L))
    else
      pm_k (F 1247 0 [some (.ref 49), some (.int x3)] [] (81, pt_G, I, L)) (fun v S => F 1270 25 [some (.ref 49), some (.int x1), some (.int x2), some (.int x3)] (v.toList ++ []) S) := pm_blk_to hF (pm_stp 1270 [0, 5, 17, 25, 36]) 37 rfl
set_option maxRecDepth 20000 in
theorem e1270_25 (hF : pm_fix pt_me pt_Sg (pt_R L0 xs) F) {x1 : Int32} {x2 : Int32} {x3 : Int32} {s0 : Int32} : F 1270 25 [some (.ref 49), some (.int x1), some (.int x2), some (.int x3)] [.int s0] (81, pt_G, I, L) =
    if s0 = 0 then
      some (some (.int (-1)), (81, pt_G, I, L))
    else
      pm_k (F 1266 0 [some (.ref 49), some (.int x1), some (.int x2), none, none, none] [] (81, pt_G, I, L)) (fun v S => F 1270 36 [some (.ref 49), some (.int x1), some (.int x2), some (.int x3)] (v.toList ++ []) S) := pm_blk_to hF (pm_stp 1270 [0, 5, 17, 25, 36]) 37 rfl
set_option maxRecDepth 20000 in
theorem e1270_36 (hF : pm_fix pt_me pt_Sg (pt_R L0 xs) F) {x1 : Int32} {x2 : Int32} {x3 : Int32} : F 1270 36 [some (.ref 49), some (.int x1), some (.int x2), some (.int x3)] [] (81, pt_G, I, L) =
    bif pm_ib x3 8 then
      bif pm_ib ((8 * (I 70 (Int32.toNatClampNeg x3))) + x3) 56 then
        some (some (.int (I 63 (Int32.toNatClampNeg ((8 * (I 70 (Int32.toNatClampNeg x3))) + x3)))), (81, pt_G, I, L))
      else none
    else none := pm_blk_to hF (pm_stp 1270 [0, 5, 17, 25, 36]) 37 rfl
-- TurnCabinetModel.griefOf(I)I 49
set_option maxRecDepth 20000 in
theorem e1271_0 (hF : pm_fix pt_me pt_Sg (pt_R L0 xs) F) {x1 : Int32} : F 1271 0 [some (.ref 49), some (.int x1), none, none, none] [] (81, pt_G, I, L) =
    F 1271 4 [some (.ref 49), some (.int x1), some (.int 0), some (.int 0), none] [] (81, pt_G, I, L) := pm_blk_to hF (pm_stp 1271 [0, 4, 62]) 52 rfl
set_option maxRecDepth 20000 in
theorem e1271_4 (hF : pm_fix pt_me pt_Sg (pt_R L0 xs) F) {x1 : Int32} {x2 : Int32} {x3 : Int32} : F 1271 4 [some (.ref 49), some (.int x1), some (.int x2), some (.int x3), none] [] (81, pt_G, I, L) =
    if x3 < (I 49 31) then
      bif pm_ib ((8 * x1) + x3) 56 then
        bif pm_ib x3 8 then
          bif pm_ib ((8 * (I 70 (Int32.toNatClampNeg x3))) + x3) 56 then
            if ((I 63 (Int32.toNatClampNeg ((8 * x1) + x3))) - (I 63 (Int32.toNatClampNeg ((8 * (I 70 (Int32.toNatClampNeg x3))) + x3)))) < 0 then
              pm_k (F 1249 0 [some (.ref 49), some (.int x1), some (.int x3)] [] (81, pt_G, I, L)) (fun v S => F 1271 62 [some (.ref 49), some (.int x1), some (.int x2), some (.int x3), some (.int ((I 63 (Int32.toNatClampNeg ((8 * x1) + x3))) - (I 63 (Int32.toNatClampNeg ((8 * (I 70 (Int32.toNatClampNeg x3))) + x3)))))] (v.toList ++ [.int (-((I 63 (Int32.toNatClampNeg ((8 * x1) + x3))) - (I 63 (Int32.toNatClampNeg ((8 * (I 70 (Int32.toNatClampNeg x3))) + x3))))), .int x2]) S)
            else
              pm_k (F 1249 0 [some (.ref 49), some (.int x1), some (.int x3)] [] (81, pt_G, I, L)) (fun v S => F 1271 62 [some (.ref 49), some (.int x1), some (.int x2), some (.int x3), some (.int ((I 63 (Int32.toNatClampNeg ((8 * x1) + x3))) - (I 63 (Int32.toNatClampNeg ((8 * (I 70 (Int32.toNatClampNeg x3))) + x3)))))] (v.toList ++ [.int ((I 63 (Int32.toNatClampNeg ((8 * x1) + x3))) - (I 63 (Int32.toNatClampNeg ((8 * (I 70 (Int32.toNatClampNeg x3))) + x3)))), .int x2]) S)
          else none
        else none
      else none
    else
      some (some (.int x2), (81, pt_G, I, L)) := pm_blk_to hF (pm_stp 1271 [0, 4, 62]) 52 rfl
set_option maxRecDepth 20000 in
theorem e1271_62 (hF : pm_fix pt_me pt_Sg (pt_R L0 xs) F) {x1 : Int32} {x2 : Int32} {x3 : Int32} {x4 : Int32} {s0 : Int32} {s1 : Int32} {s2 : Int32} : F 1271 62 [some (.ref 49), some (.int x1), some (.int x2), some (.int x3), some (.int x4)] [.int s0, .int s1, .int s2] (81, pt_G, I, L) =
    F 1271 4 [some (.ref 49), some (.int x1), some (.int (s2 + (s1 * s0))), some (.int (x3 + 1)), none] [] (81, pt_G, I, L) := pm_blk_to hF (pm_stp 1271 [0, 4, 62]) 52 rfl
-- TurnCabinetModel.grief(III)I 49
set_option maxRecDepth 20000 in
theorem e1272_0 (hF : pm_fix pt_me pt_Sg (pt_R L0 xs) F) {x1 : Int32} {x2 : Int32} {x3 : Int32} : F 1272 0 [some (.ref 49), some (.int x1), some (.int x2), some (.int x3)] [] (81, pt_G, I, L) =
    pm_k (F 1248 0 [some (.ref 49), some (.int x1)] [] (81, pt_G, I, L)) (fun v S => F 1272 5 [some (.ref 49), some (.int x1), some (.int x2), some (.int x3)] (v.toList ++ []) S) := pm_blk_to hF (pm_stp 1272 [0, 5, 17, 25, 36, 41]) 29 rfl
set_option maxRecDepth 20000 in
theorem e1272_5 (hF : pm_fix pt_me pt_Sg (pt_R L0 xs) F) {x1 : Int32} {x2 : Int32} {x3 : Int32} {s0 : Int32} : F 1272 5 [some (.ref 49), some (.int x1), some (.int x2), some (.int x3)] [.int s0] (81, pt_G, I, L) =
    if s0 = 0 then
      some (some (.int (-1)), (81, pt_G, I, L))
    else
      pm_k (F 1202 0 [some (.long (Int32.toInt64 x2)), none, some (.long 0), none, some (.long 2), none] [] (81, pt_G, I, L)) (fun v S => F 1272 17 [some (.ref 49), some (.int x1), some (.int x2), some (.int x3)] (v.toList ++ []) S) := pm_blk_to hF (pm_stp 1272 [0, 5, 17, 25, 36, 41]) 29 rfl
set_option maxRecDepth 20000 in
theorem e1272_17 (hF : pm_fix pt_me pt_Sg (pt_R L0 xs) F) {x1 : Int32} {x2 : Int32} {x3 : Int32} {s0 : Int32} : F 1272 17 [some (.ref 49), some (.int x1), some (.int x2), some (.int x3)] [.int s0] (81, pt_G, I, L) =
    if s0 = 0 then
      some (some (.int (-1)), (81, pt_G, I, L))
    else
      pm_k (F 1246 0 [some (.ref 49), some (.int x3)] [] (81, pt_G, I, L)) (fun v S => F 1272 25 [some (.ref 49), some (.int x1), some (.int x2), some (.int x3)] (v.toList ++ []) S) := pm_blk_to hF (pm_stp 1272 [0, 5, 17, 25, 36, 41]) 29 rfl
set_option maxRecDepth 20000 in
theorem e1272_25 (hF : pm_fix pt_me pt_Sg (pt_R L0 xs) F) {x1 : Int32} {x2 : Int32} {x3 : Int32} {s0 : Int32} : F 1272 25 [some (.ref 49), some (.int x1), some (.int x2), some (.int x3)] [.int s0] (81, pt_G, I, L) =
    if s0 = 0 then
      some (some (.int (-1)), (81, pt_G, I, L))
    else
      pm_k (F 1266 0 [some (.ref 49), some (.int x1), some (.int x2), none, none, none] [] (81, pt_G, I, L)) (fun v S => F 1272 36 [some (.ref 49), some (.int x1), some (.int x2), some (.int x3)] (v.toList ++ []) S) := pm_blk_to hF (pm_stp 1272 [0, 5, 17, 25, 36, 41]) 29 rfl
set_option maxRecDepth 20000 in
theorem e1272_36 (hF : pm_fix pt_me pt_Sg (pt_R L0 xs) F) {x1 : Int32} {x2 : Int32} {x3 : Int32} : F 1272 36 [some (.ref 49), some (.int x1), some (.int x2), some (.int x3)] [] (81, pt_G, I, L) =
    pm_k (F 1271 0 [some (.ref 49), some (.int x3), none, none, none] [] (81, pt_G, I, L)) (fun v S => F 1272 41 [some (.ref 49), some (.int x1), some (.int x2), some (.int x3)] (v.toList ++ []) S) := pm_blk_to hF (pm_stp 1272 [0, 5, 17, 25, 36, 41]) 29 rfl
set_option maxRecDepth 20000 in
theorem e1272_41 (hF : pm_fix pt_me pt_Sg (pt_R L0 xs) F) {x1 : Int32} {x2 : Int32} {x3 : Int32} {s0 : Int32} : F 1272 41 [some (.ref 49), some (.int x1), some (.int x2), some (.int x3)] [.int s0] (81, pt_G, I, L) =
    some (some (.int s0), (81, pt_G, I, L)) := pm_blk_to hF (pm_stp 1272 [0, 5, 17, 25, 36, 41]) 29 rfl
-- TurnCabinetModel.worthTo(II)I 49
set_option maxRecDepth 20000 in
theorem e1273_0 (hF : pm_fix pt_me pt_Sg (pt_R L0 xs) F) {x1 : Int32} {x2 : Int32} : F 1273 0 [some (.ref 49), some (.int x1), some (.int x2), none, none] [] (81, pt_G, I, L) =
    F 1273 5 [some (.ref 49), some (.int x1), some (.int x2), some (.int 0), some (.int 0)] [] (81, pt_G, I, L) := pm_blk_to hF (pm_stp 1273 [0, 5, 33]) 32 rfl
set_option maxRecDepth 20000 in
theorem e1273_5 (hF : pm_fix pt_me pt_Sg (pt_R L0 xs) F) {x1 : Int32} {x2 : Int32} {x3 : Int32} {x4 : Int32} : F 1273 5 [some (.ref 49), some (.int x1), some (.int x2), some (.int x3), some (.int x4)] [] (81, pt_G, I, L) =
    if x4 < (I 49 31) then
      bif pm_ib x4 8 then
        if (I 70 (Int32.toNatClampNeg x4)) = x2 then
          pm_k (F 1249 0 [some (.ref 49), some (.int x1), some (.int x4)] [] (81, pt_G, I, L)) (fun v S => F 1273 33 [some (.ref 49), some (.int x1), some (.int x2), some (.int x3), some (.int x4)] (v.toList ++ [.int x3]) S)
        else
          F 1273 5 [some (.ref 49), some (.int x1), some (.int x2), some (.int (x3 + 0)), some (.int (x4 + 1))] [] (81, pt_G, I, L)
      else none
    else
      some (some (.int x3), (81, pt_G, I, L)) := pm_blk_to hF (pm_stp 1273 [0, 5, 33]) 32 rfl
set_option maxRecDepth 20000 in
theorem e1273_33 (hF : pm_fix pt_me pt_Sg (pt_R L0 xs) F) {x1 : Int32} {x2 : Int32} {x3 : Int32} {x4 : Int32} {s0 : Int32} {s1 : Int32} : F 1273 33 [some (.ref 49), some (.int x1), some (.int x2), some (.int x3), some (.int x4)] [.int s0, .int s1] (81, pt_G, I, L) =
    F 1273 5 [some (.ref 49), some (.int x1), some (.int x2), some (.int (s1 + s0)), some (.int (x4 + 1))] [] (81, pt_G, I, L) := pm_blk_to hF (pm_stp 1273 [0, 5, 33]) 32 rfl
-- TurnCabinetModel.envy(II)I 49
set_option maxRecDepth 20000 in
theorem e1274_0 (hF : pm_fix pt_me pt_Sg (pt_R L0 xs) F) {x1 : Int32} {x2 : Int32} : F 1274 0 [some (.ref 49), some (.int x1), some (.int x2), none, none, none] [] (81, pt_G, I, L) =
    pm_k (F 1248 0 [some (.ref 49), some (.int x1)] [] (81, pt_G, I, L)) (fun v S => F 1274 5 [some (.ref 49), some (.int x1), some (.int x2), none, none, none] (v.toList ++ []) S) := pm_blk_to hF (pm_stp 1274 [0, 5, 17, 28, 33, 45, 68, 77, 88, 96, 107]) 68 rfl
set_option maxRecDepth 20000 in
theorem e1274_5 (hF : pm_fix pt_me pt_Sg (pt_R L0 xs) F) {x1 : Int32} {x2 : Int32} {s0 : Int32} : F 1274 5 [some (.ref 49), some (.int x1), some (.int x2), none, none, none] [.int s0] (81, pt_G, I, L) =
    if s0 = 0 then
      some (some (.int (-1)), (81, pt_G, I, L))
    else
      pm_k (F 1202 0 [some (.long (Int32.toInt64 x2)), none, some (.long 0), none, some (.long 2), none] [] (81, pt_G, I, L)) (fun v S => F 1274 17 [some (.ref 49), some (.int x1), some (.int x2), none, none, none] (v.toList ++ []) S) := pm_blk_to hF (pm_stp 1274 [0, 5, 17, 28, 33, 45, 68, 77, 88, 96, 107]) 68 rfl
set_option maxRecDepth 20000 in
theorem e1274_17 (hF : pm_fix pt_me pt_Sg (pt_R L0 xs) F) {x1 : Int32} {x2 : Int32} {s0 : Int32} : F 1274 17 [some (.ref 49), some (.int x1), some (.int x2), none, none, none] [.int s0] (81, pt_G, I, L) =
    if s0 = 0 then
      some (some (.int (-1)), (81, pt_G, I, L))
    else
      pm_k (F 1266 0 [some (.ref 49), some (.int x1), some (.int x2), none, none, none] [] (81, pt_G, I, L)) (fun v S => F 1274 28 [some (.ref 49), some (.int x1), some (.int x2), none, none, none] (v.toList ++ []) S) := pm_blk_to hF (pm_stp 1274 [0, 5, 17, 28, 33, 45, 68, 77, 88, 96, 107]) 68 rfl
set_option maxRecDepth 20000 in
theorem e1274_28 (hF : pm_fix pt_me pt_Sg (pt_R L0 xs) F) {x1 : Int32} {x2 : Int32} : F 1274 28 [some (.ref 49), some (.int x1), some (.int x2), none, none, none] [] (81, pt_G, I, L) =
    F 1274 33 [some (.ref 49), some (.int x1), some (.int x2), some (.int 0), some (.int 0), none] [] (81, pt_G, I, L) := pm_blk_to hF (pm_stp 1274 [0, 5, 17, 28, 33, 45, 68, 77, 88, 96, 107]) 68 rfl
set_option maxRecDepth 20000 in
theorem e1274_33 (hF : pm_fix pt_me pt_Sg (pt_R L0 xs) F) {x1 : Int32} {x2 : Int32} {x3 : Int32} {x4 : Int32} : F 1274 33 [some (.ref 49), some (.int x1), some (.int x2), some (.int x3), some (.int x4), none] [] (81, pt_G, I, L) =
    if x4 < (I 49 30) then
      F 1274 45 [some (.ref 49), some (.int x1), some (.int x2), some (.int x3), some (.int x4), some (.int 0)] [] (81, pt_G, I, L)
    else
      some (some (.int x3), (81, pt_G, I, L)) := pm_blk_to hF (pm_stp 1274 [0, 5, 17, 28, 33, 45, 68, 77, 88, 96, 107]) 68 rfl
set_option maxRecDepth 20000 in
theorem e1274_45 (hF : pm_fix pt_me pt_Sg (pt_R L0 xs) F) {x1 : Int32} {x2 : Int32} {x3 : Int32} {x4 : Int32} {x5 : Int32} : F 1274 45 [some (.ref 49), some (.int x1), some (.int x2), some (.int x3), some (.int x4), some (.int x5)] [] (81, pt_G, I, L) =
    if x5 < (I 49 30) then
      if x4 = x5 then
        pm_k (F 1203 0 [some (.int 0)] [] (81, pt_G, I, L)) (fun v S => F 1274 107 [some (.ref 49), some (.int x1), some (.int x2), some (.int x3), some (.int x4), some (.int x5)] (v.toList ++ [.int x3]) S)
      else
        pm_k (F 1205 0 [some (.int x1), some (.int x4)] [] (81, pt_G, I, L)) (fun v S => F 1274 68 [some (.ref 49), some (.int x1), some (.int x2), some (.int x3), some (.int x4), some (.int x5)] (v.toList ++ [.int x3]) S)
    else
      F 1274 33 [some (.ref 49), some (.int x1), some (.int x2), some (.int x3), some (.int (x4 + 1)), none] [] (81, pt_G, I, L) := pm_blk_to hF (pm_stp 1274 [0, 5, 17, 28, 33, 45, 68, 77, 88, 96, 107]) 68 rfl
set_option maxRecDepth 20000 in
theorem e1274_68 (hF : pm_fix pt_me pt_Sg (pt_R L0 xs) F) {x1 : Int32} {x2 : Int32} {x3 : Int32} {x4 : Int32} {x5 : Int32} {s0 : Int32} {s1 : Int32} : F 1274 68 [some (.ref 49), some (.int x1), some (.int x2), some (.int x3), some (.int x4), some (.int x5)] [.int s0, .int s1] (81, pt_G, I, L) =
    if s0 = 0 then
      pm_k (F 1203 0 [some (.int 0)] [] (81, pt_G, I, L)) (fun v S => F 1274 107 [some (.ref 49), some (.int x1), some (.int x2), some (.int x3), some (.int x4), some (.int x5)] (v.toList ++ [.int s1]) S)
    else
      pm_k (F 1205 0 [some (.int x1), some (.int x5)] [] (81, pt_G, I, L)) (fun v S => F 1274 77 [some (.ref 49), some (.int x1), some (.int x2), some (.int x3), some (.int x4), some (.int x5)] (v.toList ++ [.int s1]) S) := pm_blk_to hF (pm_stp 1274 [0, 5, 17, 28, 33, 45, 68, 77, 88, 96, 107]) 68 rfl
set_option maxRecDepth 20000 in
theorem e1274_77 (hF : pm_fix pt_me pt_Sg (pt_R L0 xs) F) {x1 : Int32} {x2 : Int32} {x3 : Int32} {x4 : Int32} {x5 : Int32} {s0 : Int32} {s1 : Int32} : F 1274 77 [some (.ref 49), some (.int x1), some (.int x2), some (.int x3), some (.int x4), some (.int x5)] [.int s0, .int s1] (81, pt_G, I, L) =
    if s0 = 0 then
      pm_k (F 1203 0 [some (.int 0)] [] (81, pt_G, I, L)) (fun v S => F 1274 107 [some (.ref 49), some (.int x1), some (.int x2), some (.int x3), some (.int x4), some (.int x5)] (v.toList ++ [.int s1]) S)
    else
      pm_k (F 1273 0 [some (.ref 49), some (.int x4), some (.int x5), none, none] [] (81, pt_G, I, L)) (fun v S => F 1274 88 [some (.ref 49), some (.int x1), some (.int x2), some (.int x3), some (.int x4), some (.int x5)] (v.toList ++ [.int s1]) S) := pm_blk_to hF (pm_stp 1274 [0, 5, 17, 28, 33, 45, 68, 77, 88, 96, 107]) 68 rfl
set_option maxRecDepth 20000 in
theorem e1274_88 (hF : pm_fix pt_me pt_Sg (pt_R L0 xs) F) {x1 : Int32} {x2 : Int32} {x3 : Int32} {x4 : Int32} {x5 : Int32} {s0 : Int32} {s1 : Int32} : F 1274 88 [some (.ref 49), some (.int x1), some (.int x2), some (.int x3), some (.int x4), some (.int x5)] [.int s0, .int s1] (81, pt_G, I, L) =
    pm_k (F 1273 0 [some (.ref 49), some (.int x4), some (.int x4), none, none] [] (81, pt_G, I, L)) (fun v S => F 1274 96 [some (.ref 49), some (.int x1), some (.int x2), some (.int x3), some (.int x4), some (.int x5)] (v.toList ++ [.int s0, .int s1]) S) := pm_blk_to hF (pm_stp 1274 [0, 5, 17, 28, 33, 45, 68, 77, 88, 96, 107]) 68 rfl
set_option maxRecDepth 20000 in
theorem e1274_96 (hF : pm_fix pt_me pt_Sg (pt_R L0 xs) F) {x1 : Int32} {x2 : Int32} {x3 : Int32} {x4 : Int32} {x5 : Int32} {s0 : Int32} {s1 : Int32} {s2 : Int32} : F 1274 96 [some (.ref 49), some (.int x1), some (.int x2), some (.int x3), some (.int x4), some (.int x5)] [.int s0, .int s1, .int s2] (81, pt_G, I, L) =
    if s1 ≤ s0 then
      pm_k (F 1203 0 [some (.int 0)] [] (81, pt_G, I, L)) (fun v S => F 1274 107 [some (.ref 49), some (.int x1), some (.int x2), some (.int x3), some (.int x4), some (.int x5)] (v.toList ++ [.int s2]) S)
    else
      pm_k (F 1203 0 [some (.int 1)] [] (81, pt_G, I, L)) (fun v S => F 1274 107 [some (.ref 49), some (.int x1), some (.int x2), some (.int x3), some (.int x4), some (.int x5)] (v.toList ++ [.int s2]) S) := pm_blk_to hF (pm_stp 1274 [0, 5, 17, 28, 33, 45, 68, 77, 88, 96, 107]) 68 rfl
set_option maxRecDepth 20000 in
theorem e1274_107 (hF : pm_fix pt_me pt_Sg (pt_R L0 xs) F) {x1 : Int32} {x2 : Int32} {x3 : Int32} {x4 : Int32} {x5 : Int32} {s0 : Int32} {s1 : Int32} : F 1274 107 [some (.ref 49), some (.int x1), some (.int x2), some (.int x3), some (.int x4), some (.int x5)] [.int s0, .int s1] (81, pt_G, I, L) =
    F 1274 45 [some (.ref 49), some (.int x1), some (.int x2), some (.int (s1 + s0)), some (.int x4), some (.int (x5 + 1))] [] (81, pt_G, I, L) := pm_blk_to hF (pm_stp 1274 [0, 5, 17, 28, 33, 45, 68, 77, 88, 96, 107]) 68 rfl
-- TurnCabinetModel.worthAll(II)I 49
set_option maxRecDepth 20000 in
theorem e1275_0 (hF : pm_fix pt_me pt_Sg (pt_R L0 xs) F) {x1 : Int32} {x2 : Int32} : F 1275 0 [some (.ref 49), some (.int x1), some (.int x2), none, none] [] (81, pt_G, I, L) =
    F 1275 5 [some (.ref 49), some (.int x1), some (.int x2), some (.int 0), some (.int 0)] [] (81, pt_G, I, L) := pm_blk_to hF (pm_stp 1275 [0, 5, 21, 31]) 30 rfl
set_option maxRecDepth 20000 in
theorem e1275_5 (hF : pm_fix pt_me pt_Sg (pt_R L0 xs) F) {x1 : Int32} {x2 : Int32} {x3 : Int32} {x4 : Int32} : F 1275 5 [some (.ref 49), some (.int x1), some (.int x2), some (.int x3), some (.int x4)] [] (81, pt_G, I, L) =
    if x4 < (I 49 31) then
      pm_k (F 1205 0 [some (.int x2), some (.int x4)] [] (81, pt_G, I, L)) (fun v S => F 1275 21 [some (.ref 49), some (.int x1), some (.int x2), some (.int x3), some (.int x4)] (v.toList ++ [.int x3]) S)
    else
      some (some (.int x3), (81, pt_G, I, L)) := pm_blk_to hF (pm_stp 1275 [0, 5, 21, 31]) 30 rfl
set_option maxRecDepth 20000 in
theorem e1275_21 (hF : pm_fix pt_me pt_Sg (pt_R L0 xs) F) {x1 : Int32} {x2 : Int32} {x3 : Int32} {x4 : Int32} {s0 : Int32} {s1 : Int32} : F 1275 21 [some (.ref 49), some (.int x1), some (.int x2), some (.int x3), some (.int x4)] [.int s0, .int s1] (81, pt_G, I, L) =
    if s0 = 0 then
      F 1275 5 [some (.ref 49), some (.int x1), some (.int x2), some (.int (s1 + 0)), some (.int (x4 + 1))] [] (81, pt_G, I, L)
    else
      pm_k (F 1249 0 [some (.ref 49), some (.int x1), some (.int x4)] [] (81, pt_G, I, L)) (fun v S => F 1275 31 [some (.ref 49), some (.int x1), some (.int x2), some (.int x3), some (.int x4)] (v.toList ++ [.int s1]) S) := pm_blk_to hF (pm_stp 1275 [0, 5, 21, 31]) 30 rfl
set_option maxRecDepth 20000 in
theorem e1275_31 (hF : pm_fix pt_me pt_Sg (pt_R L0 xs) F) {x1 : Int32} {x2 : Int32} {x3 : Int32} {x4 : Int32} {s0 : Int32} {s1 : Int32} : F 1275 31 [some (.ref 49), some (.int x1), some (.int x2), some (.int x3), some (.int x4)] [.int s0, .int s1] (81, pt_G, I, L) =
    F 1275 5 [some (.ref 49), some (.int x1), some (.int x2), some (.int (s1 + s0)), some (.int (x4 + 1))] [] (81, pt_G, I, L) := pm_blk_to hF (pm_stp 1275 [0, 5, 21, 31]) 30 rfl
-- TurnCabinetModel.gives(IZ)V 49
set_option maxRecDepth 20000 in
theorem e1276_0 (hF : pm_fix pt_me pt_Sg (pt_R L0 xs) F) {x1 : Int32} {x2 : Int32} : F 1276 0 [some (.ref 49), some (.int x1), some (.int x2), none, none, none, none] [] (81, pt_G, I, L) =
    F 1276 2 [some (.ref 49), some (.int x1), some (.int x2), some (.int 0), none, none, none] [] (81, pt_G, I, L) := pm_blk_to hF (pm_stp 1276 [0, 2, 27, 53, 76, 95, 159, 174]) 119 rfl
set_option maxRecDepth 20000 in
theorem e1276_2 (hF : pm_fix pt_me pt_Sg (pt_R L0 xs) F) {x1 : Int32} {x2 : Int32} {x3 : Int32} : F 1276 2 [some (.ref 49), some (.int x1), some (.int x2), some (.int x3), none, none, none] [] (81, pt_G, I, L) =
    if x3 < ((1 : Int32) <<< ((I 49 31) &&& 31)) then
      bif pm_ib x3 256 then
        F 1276 2 [some (.ref 49), some (.int x1), some (.int x2), some (.int (x3 + 1)), none, none, none] [] (81, pt_G, (pm_ui I 72 (Int32.toNatClampNeg x3) (-1)), L)
      else none
    else
      F 1276 27 [some (.ref 49), some (.int x1), some (.int x2), some (.int 0), none, none, none] [] (81, pt_G, I, L) := pm_blk_to hF (pm_stp 1276 [0, 2, 27, 53, 76, 95, 159, 174]) 119 rfl
set_option maxRecDepth 20000 in
theorem e1276_27 (hF : pm_fix pt_me pt_Sg (pt_R L0 xs) F) {x1 : Int32} {x2 : Int32} {x3 : Int32} : F 1276 27 [some (.ref 49), some (.int x1), some (.int x2), some (.int x3), none, none, none] [] (81, pt_G, I, L) =
    if x3 < ((1 : Int32) <<< ((I 49 31) &&& 31)) then
      bif pm_ib x3 256 then
        if (I 71 (Int32.toNatClampNeg x3)) = (-1) then
          F 1276 27 [some (.ref 49), some (.int x1), some (.int x2), some (.int (x3 + 1)), none, none, none] [] (81, pt_G, I, L)
        else
          F 1276 53 [some (.ref 49), some (.int x1), some (.int x2), some (.int x3), some (.int 0), none, none] [] (81, pt_G, I, L)
      else none
    else
      F 1276 174 [some (.ref 49), some (.int x1), some (.int x2), some (.int 0), none, none, none] [] (81, pt_G, I, L) := pm_blk_to hF (pm_stp 1276 [0, 2, 27, 53, 76, 95, 159, 174]) 119 rfl
set_option maxRecDepth 20000 in
theorem e1276_53 (hF : pm_fix pt_me pt_Sg (pt_R L0 xs) F) {x1 : Int32} {x2 : Int32} {x3 : Int32} {x4 : Int32} : F 1276 53 [some (.ref 49), some (.int x1), some (.int x2), some (.int x3), some (.int x4), none, none] [] (81, pt_G, I, L) =
    if x4 < ((1 : Int32) <<< ((I 49 31) &&& 31)) then
      if (x4 &&& x3) = 0 then
        pm_k (F 1206 0 [some (.int x4), none, none] [] (81, pt_G, I, L)) (fun v S => F 1276 76 [some (.ref 49), some (.int x1), some (.int x2), some (.int x3), some (.int x4), none, none] (v.toList ++ []) S)
      else
        F 1276 53 [some (.ref 49), some (.int x1), some (.int x2), some (.int x3), some (.int (x4 + 1)), none, none] [] (81, pt_G, I, L)
    else
      F 1276 27 [some (.ref 49), some (.int x1), some (.int x2), some (.int (x3 + 1)), none, none, none] [] (81, pt_G, I, L) := pm_blk_to hF (pm_stp 1276 [0, 2, 27, 53, 76, 95, 159, 174]) 119 rfl
set_option maxRecDepth 20000 in
theorem e1276_76 (hF : pm_fix pt_me pt_Sg (pt_R L0 xs) F) {x1 : Int32} {x2 : Int32} {x3 : Int32} {x4 : Int32} {s0 : Int32} : F 1276 76 [some (.ref 49), some (.int x1), some (.int x2), some (.int x3), some (.int x4), none, none] [.int s0] (81, pt_G, I, L) =
    bif pm_ib x1 7 then
      if s0 = (I 67 (Int32.toNatClampNeg x1)) then
        pm_k (F 1275 0 [some (.ref 49), some (.int x1), some (.int x4), none, none] [] (81, pt_G, I, L)) (fun v S => F 1276 95 [some (.ref 49), some (.int x1), some (.int x2), some (.int x3), some (.int x4), none, none] (v.toList ++ []) S)
      else
        F 1276 53 [some (.ref 49), some (.int x1), some (.int x2), some (.int x3), some (.int (x4 + 1)), none, none] [] (81, pt_G, I, L)
    else none := pm_blk_to hF (pm_stp 1276 [0, 2, 27, 53, 76, 95, 159, 174]) 119 rfl
set_option maxRecDepth 20000 in
theorem e1276_95 (hF : pm_fix pt_me pt_Sg (pt_R L0 xs) F) {x1 : Int32} {x2 : Int32} {x3 : Int32} {x4 : Int32} {s0 : Int32} : F 1276 95 [some (.ref 49), some (.int x1), some (.int x2), some (.int x3), some (.int x4), none, none] [.int s0] (81, pt_G, I, L) =
    if x2 = 0 then
      bif pm_ib x3 256 then
        bif pm_ib (x3 ||| x4) 256 then
          pm_k (F 1204 0 [some (.int (I 72 (Int32.toNatClampNeg (x3 ||| x4)))), some (.int ((I 71 (Int32.toNatClampNeg x3)) + s0))] [] (81, pt_G, I, L)) (fun v S => F 1276 159 [some (.ref 49), some (.int x1), some (.int x2), some (.int x3), some (.int x4), some (.int s0), some (.int ((I 71 (Int32.toNatClampNeg x3)) + s0))] (v.toList ++ [.int (x3 ||| x4), .ref 72]) S)
        else none
      else none
    else
      bif pm_ib x3 256 then
        if s0 < (I 71 (Int32.toNatClampNeg x3)) then
          bif pm_ib (x3 ||| x4) 256 then
            pm_k (F 1204 0 [some (.int (I 72 (Int32.toNatClampNeg (x3 ||| x4)))), some (.int s0)] [] (81, pt_G, I, L)) (fun v S => F 1276 159 [some (.ref 49), some (.int x1), some (.int x2), some (.int x3), some (.int x4), some (.int s0), some (.int s0)] (v.toList ++ [.int (x3 ||| x4), .ref 72]) S)
          else none
        else
          bif pm_ib x3 256 then
            bif pm_ib (x3 ||| x4) 256 then
              pm_k (F 1204 0 [some (.int (I 72 (Int32.toNatClampNeg (x3 ||| x4)))), some (.int (I 71 (Int32.toNatClampNeg x3)))] [] (81, pt_G, I, L)) (fun v S => F 1276 159 [some (.ref 49), some (.int x1), some (.int x2), some (.int x3), some (.int x4), some (.int s0), some (.int (I 71 (Int32.toNatClampNeg x3)))] (v.toList ++ [.int (x3 ||| x4), .ref 72]) S)
            else none
          else none
      else none := pm_blk_to hF (pm_stp 1276 [0, 2, 27, 53, 76, 95, 159, 174]) 119 rfl
set_option maxRecDepth 20000 in
theorem e1276_159 (hF : pm_fix pt_me pt_Sg (pt_R L0 xs) F) {x1 : Int32} {x2 : Int32} {x3 : Int32} {x4 : Int32} {x5 : Int32} {x6 : Int32} {s0 : Int32} {s1 : Int32} : F 1276 159 [some (.ref 49), some (.int x1), some (.int x2), some (.int x3), some (.int x4), some (.int x5), some (.int x6)] [.int s0, .int s1, .ref 72] (81, pt_G, I, L) =
    bif pm_ib s1 256 then
      F 1276 53 [some (.ref 49), some (.int x1), some (.int x2), some (.int x3), some (.int (x4 + 1)), none, none] [] (81, pt_G, (pm_ui I 72 (Int32.toNatClampNeg s1) s0), L)
    else none := pm_blk_to hF (pm_stp 1276 [0, 2, 27, 53, 76, 95, 159, 174]) 119 rfl
set_option maxRecDepth 20000 in
theorem e1276_174 (hF : pm_fix pt_me pt_Sg (pt_R L0 xs) F) {x1 : Int32} {x2 : Int32} {x3 : Int32} : F 1276 174 [some (.ref 49), some (.int x1), some (.int x2), some (.int x3), none, none, none] [] (81, pt_G, I, L) =
    if x3 < ((1 : Int32) <<< ((I 49 31) &&& 31)) then
      bif pm_ib x3 256 then
        bif pm_ib x3 256 then
          F 1276 174 [some (.ref 49), some (.int x1), some (.int x2), some (.int (x3 + 1)), none, none, none] [] (81, pt_G, (pm_ui I 71 (Int32.toNatClampNeg x3) (I 72 (Int32.toNatClampNeg x3))), L)
        else none
      else none
    else
      some (none, (81, pt_G, I, L)) := pm_blk_to hF (pm_stp 1276 [0, 2, 27, 53, 76, 95, 159, 174]) 119 rfl
-- TurnCabinetModel.kept(II)I 49
set_option maxRecDepth 20000 in
theorem e1277_0 (hF : pm_fix pt_me pt_Sg (pt_R L0 xs) F) {x1 : Int32} {x2 : Int32} : F 1277 0 [some (.ref 49), some (.int x1), some (.int x2), none] [] (81, pt_G, I, L) =
    pm_k (F 1248 0 [some (.ref 49), some (.int x1)] [] (81, pt_G, I, L)) (fun v S => F 1277 5 [some (.ref 49), some (.int x1), some (.int x2), none] (v.toList ++ []) S) := pm_blk_to hF (pm_stp 1277 [0, 5, 15, 34, 36, 78, 110, 124]) 77 rfl
set_option maxRecDepth 20000 in
theorem e1277_5 (hF : pm_fix pt_me pt_Sg (pt_R L0 xs) F) {x1 : Int32} {x2 : Int32} {s0 : Int32} : F 1277 5 [some (.ref 49), some (.int x1), some (.int x2), none] [.int s0] (81, pt_G, I, L) =
    if s0 = 0 then
      some (some (.int (-1)), (81, pt_G, I, L))
    else
      pm_k (F 1202 0 [some (.long (Int32.toInt64 x2)), none, some (.long 0), none, some (.long 1), none] [] (81, pt_G, I, L)) (fun v S => F 1277 15 [some (.ref 49), some (.int x1), some (.int x2), none] (v.toList ++ []) S) := pm_blk_to hF (pm_stp 1277 [0, 5, 15, 34, 36, 78, 110, 124]) 77 rfl
set_option maxRecDepth 20000 in
theorem e1277_15 (hF : pm_fix pt_me pt_Sg (pt_R L0 xs) F) {x1 : Int32} {x2 : Int32} {s0 : Int32} : F 1277 15 [some (.ref 49), some (.int x1), some (.int x2), none] [.int s0] (81, pt_G, I, L) =
    if s0 = 0 then
      some (some (.int (-1)), (81, pt_G, I, L))
    else
      if (I 49 31) = 0 then
        some (some (.int 0), (81, pt_G, I, L))
      else
        pm_k (F 1256 0 [some (.ref 49), some (.int x1), none] [] (81, pt_G, I, L)) (fun v S => F 1277 34 [some (.ref 49), some (.int x1), some (.int x2), none] (v.toList ++ []) S) := pm_blk_to hF (pm_stp 1277 [0, 5, 15, 34, 36, 78, 110, 124]) 77 rfl
set_option maxRecDepth 20000 in
theorem e1277_34 (hF : pm_fix pt_me pt_Sg (pt_R L0 xs) F) {x1 : Int32} {x2 : Int32} : F 1277 34 [some (.ref 49), some (.int x1), some (.int x2), none] [] (81, pt_G, I, L) =
    F 1277 36 [some (.ref 49), some (.int x1), some (.int x2), some (.int 0)] [] (81, pt_G, I, L) := pm_blk_to hF (pm_stp 1277 [0, 5, 15, 34, 36, 78, 110, 124]) 77 rfl
set_option maxRecDepth 20000 in
theorem e1277_36 (hF : pm_fix pt_me pt_Sg (pt_R L0 xs) F) {x1 : Int32} {x2 : Int32} {x3 : Int32} : F 1277 36 [some (.ref 49), some (.int x1), some (.int x2), some (.int x3)] [] (81, pt_G, I, L) =
    if x3 < ((1 : Int32) <<< ((I 49 31) &&& 31)) then
      bif pm_ib x3 256 then
        F 1277 36 [some (.ref 49), some (.int x1), some (.int x2), some (.int (x3 + 1))] [] (81, pt_G, (pm_ui I 71 (Int32.toNatClampNeg x3) (-1)), L)
      else none
    else
      if x2 = 0 then
        bif pm_ib 0 256 then
          F 1277 78 [some (.ref 49), some (.int x1), some (.int x2), some (.int 0)] [] (81, pt_G, (pm_ui I 71 (Int32.toNatClampNeg 0) 0), L)
        else none
      else
        bif pm_ib 0 256 then
          F 1277 78 [some (.ref 49), some (.int x1), some (.int x2), some (.int 0)] [] (81, pt_G, (pm_ui I 71 (Int32.toNatClampNeg 0) 999), L)
        else none := pm_blk_to hF (pm_stp 1277 [0, 5, 15, 34, 36, 78, 110, 124]) 77 rfl
set_option maxRecDepth 20000 in
theorem e1277_78 (hF : pm_fix pt_me pt_Sg (pt_R L0 xs) F) {x1 : Int32} {x2 : Int32} {x3 : Int32} : F 1277 78 [some (.ref 49), some (.int x1), some (.int x2), some (.int x3)] [] (81, pt_G, I, L) =
    if x3 < (I 49 30) then
      bif pm_ib x3 7 then
        if (I 67 (Int32.toNatClampNeg x3)) ≤ 0 then
          F 1277 110 [some (.ref 49), some (.int x1), some (.int x2), some (.int x3)] [] (81, pt_G, I, L)
        else
          if x2 = 1 then
            pm_k (F 1276 0 [some (.ref 49), some (.int x3), some (.int 1), none, none, none, none] [] (81, pt_G, I, L)) (fun v S => F 1277 110 [some (.ref 49), some (.int x1), some (.int x2), some (.int x3)] (v.toList ++ []) S)
          else
            pm_k (F 1276 0 [some (.ref 49), some (.int x3), some (.int 0), none, none, none, none] [] (81, pt_G, I, L)) (fun v S => F 1277 110 [some (.ref 49), some (.int x1), some (.int x2), some (.int x3)] (v.toList ++ []) S)
      else none
    else
      pm_k (F 1261 0 [some (.ref 49)] [] (81, pt_G, I, L)) (fun v S => F 1277 124 [some (.ref 49), some (.int x1), some (.int x2), some (.int x3)] (v.toList ++ [.ref 71]) S) := pm_blk_to hF (pm_stp 1277 [0, 5, 15, 34, 36, 78, 110, 124]) 77 rfl
set_option maxRecDepth 20000 in
theorem e1277_110 (hF : pm_fix pt_me pt_Sg (pt_R L0 xs) F) {x1 : Int32} {x2 : Int32} {x3 : Int32} : F 1277 110 [some (.ref 49), some (.int x1), some (.int x2), some (.int x3)] [] (81, pt_G, I, L) =
    F 1277 78 [some (.ref 49), some (.int x1), some (.int x2), some (.int (x3 + 1))] [] (81, pt_G, I, L) := pm_blk_to hF (pm_stp 1277 [0, 5, 15, 34, 36, 78, 110, 124]) 77 rfl
set_option maxRecDepth 20000 in
theorem e1277_124 (hF : pm_fix pt_me pt_Sg (pt_R L0 xs) F) {x1 : Int32} {x2 : Int32} {x3 : Int32} {s0 : Int32} : F 1277 124 [some (.ref 49), some (.int x1), some (.int x2), some (.int x3)] [.int s0, .ref 71] (81, pt_G, I, L) =
    bif pm_ib s0 256 then
      some (some (.int (I 71 (Int32.toNatClampNeg s0))), (81, pt_G, I, L))
    else none := pm_blk_to hF (pm_stp 1277 [0, 5, 15, 34, 36, 78, 110, 124]) 77 rfl
-- TurnCabinetModel.swaps(I)I 49
set_option maxRecDepth 20000 in
theorem e1278_0 (hF : pm_fix pt_me pt_Sg (pt_R L0 xs) F) {x1 : Int32} : F 1278 0 [some (.ref 49), some (.int x1)] [] (81, pt_G, I, L) =
    pm_k (F 1248 0 [some (.ref 49), some (.int x1)] [] (81, pt_G, I, L)) (fun v S => F 1278 5 [some (.ref 49), some (.int x1)] (v.toList ++ []) S) := pm_blk_to hF (pm_stp 1278 [0, 5, 16]) 18 rfl
set_option maxRecDepth 20000 in
theorem e1278_5 (hF : pm_fix pt_me pt_Sg (pt_R L0 xs) F) {x1 : Int32} {s0 : Int32} : F 1278 5 [some (.ref 49), some (.int x1)] [.int s0] (81, pt_G, I, L) =
    if s0 = 0 then
      some (some (.int (-1)), (81, pt_G, I, L))
    else
      pm_k (F 1266 0 [some (.ref 49), some (.int x1), some (.int 2), none, none, none] [] (81, pt_G, I, L)) (fun v S => F 1278 16 [some (.ref 49), some (.int x1)] (v.toList ++ []) S) := pm_blk_to hF (pm_stp 1278 [0, 5, 16]) 18 rfl
set_option maxRecDepth 20000 in
theorem e1278_16 (hF : pm_fix pt_me pt_Sg (pt_R L0 xs) F) {x1 : Int32} : F 1278 16 [some (.ref 49), some (.int x1)] [] (81, pt_G, I, L) =
    some (some (.int (I 49 51)), (81, pt_G, I, L)) := pm_blk_to hF (pm_stp 1278 [0, 5, 16]) 18 rfl
-- TurnCabinetModel.instead(III)I 49
set_option maxRecDepth 20000 in
theorem e1279_0 (hF : pm_fix pt_me pt_Sg (pt_R L0 xs) F) {x1 : Int32} {x2 : Int32} {x3 : Int32} : F 1279 0 [some (.ref 49), some (.int x1), some (.int x2), some (.int x3), none, none, none] [] (81, pt_G, I, L) =
    pm_k (F 1248 0 [some (.ref 49), some (.int x1)] [] (81, pt_G, I, L)) (fun v S => F 1279 5 [some (.ref 49), some (.int x1), some (.int x2), some (.int x3), none, none, none] (v.toList ++ []) S) := pm_blk_to hF (pm_stp 1279 [0, 5, 21, 29, 39, 43, 47, 55, 97, 128, 144]) 109 rfl
set_option maxRecDepth 20000 in
theorem e1279_5 (hF : pm_fix pt_me pt_Sg (pt_R L0 xs) F) {x1 : Int32} {x2 : Int32} {x3 : Int32} {s0 : Int32} : F 1279 5 [some (.ref 49), some (.int x1), some (.int x2), some (.int x3), none, none, none] [.int s0] (81, pt_G, I, L) =
    if s0 = 0 then
      some (some (.int (-1)), (81, pt_G, I, L))
    else
      pm_k (F 1202 0 [some (.long (Int32.toInt64 x2)), none, some (.long 0), none, some (.long (Int32.toInt64 ((I 49 31) - 1))), none] [] (81, pt_G, I, L)) (fun v S => F 1279 21 [some (.ref 49), some (.int x1), some (.int x2), some (.int x3), none, none, none] (v.toList ++ []) S) := pm_blk_to hF (pm_stp 1279 [0, 5, 21, 29, 39, 43, 47, 55, 97, 128, 144]) 109 rfl
set_option maxRecDepth 20000 in
theorem e1279_21 (hF : pm_fix pt_me pt_Sg (pt_R L0 xs) F) {x1 : Int32} {x2 : Int32} {x3 : Int32} {s0 : Int32} : F 1279 21 [some (.ref 49), some (.int x1), some (.int x2), some (.int x3), none, none, none] [.int s0] (81, pt_G, I, L) =
    if s0 = 0 then
      some (some (.int (-1)), (81, pt_G, I, L))
    else
      pm_k (F 1247 0 [some (.ref 49), some (.int x3)] [] (81, pt_G, I, L)) (fun v S => F 1279 29 [some (.ref 49), some (.int x1), some (.int x2), some (.int x3), none, none, none] (v.toList ++ []) S) := pm_blk_to hF (pm_stp 1279 [0, 5, 21, 29, 39, 43, 47, 55, 97, 128, 144]) 109 rfl
set_option maxRecDepth 20000 in
theorem e1279_29 (hF : pm_fix pt_me pt_Sg (pt_R L0 xs) F) {x1 : Int32} {x2 : Int32} {x3 : Int32} {s0 : Int32} : F 1279 29 [some (.ref 49), some (.int x1), some (.int x2), some (.int x3), none, none, none] [.int s0] (81, pt_G, I, L) =
    if s0 = 0 then
      some (some (.int (-1)), (81, pt_G, I, L))
    else
      pm_k (F 1256 0 [some (.ref 49), some (.int x1), none] [] (81, pt_G, I, L)) (fun v S => F 1279 39 [some (.ref 49), some (.int x1), some (.int x2), some (.int x3), none, none, none] (v.toList ++ []) S) := pm_blk_to hF (pm_stp 1279 [0, 5, 21, 29, 39, 43, 47, 55, 97, 128, 144]) 109 rfl
set_option maxRecDepth 20000 in
theorem e1279_39 (hF : pm_fix pt_me pt_Sg (pt_R L0 xs) F) {x1 : Int32} {x2 : Int32} {x3 : Int32} : F 1279 39 [some (.ref 49), some (.int x1), some (.int x2), some (.int x3), none, none, none] [] (81, pt_G, I, L) =
    pm_k (F 1260 0 [some (.ref 49), none, none, none, none, none, none] [] (81, pt_G, I, L)) (fun v S => F 1279 43 [some (.ref 49), some (.int x1), some (.int x2), some (.int x3), none, none, none] (v.toList ++ []) S) := pm_blk_to hF (pm_stp 1279 [0, 5, 21, 29, 39, 43, 47, 55, 97, 128, 144]) 109 rfl
set_option maxRecDepth 20000 in
theorem e1279_43 (hF : pm_fix pt_me pt_Sg (pt_R L0 xs) F) {x1 : Int32} {x2 : Int32} {x3 : Int32} : F 1279 43 [some (.ref 49), some (.int x1), some (.int x2), some (.int x3), none, none, none] [] (81, pt_G, I, L) =
    pm_k (F 1261 0 [some (.ref 49)] [] (81, pt_G, I, L)) (fun v S => F 1279 47 [some (.ref 49), some (.int x1), some (.int x2), some (.int x3), none, none, none] (v.toList ++ []) S) := pm_blk_to hF (pm_stp 1279 [0, 5, 21, 29, 39, 43, 47, 55, 97, 128, 144]) 109 rfl
set_option maxRecDepth 20000 in
theorem e1279_47 (hF : pm_fix pt_me pt_Sg (pt_R L0 xs) F) {x1 : Int32} {x2 : Int32} {x3 : Int32} {s0 : Int32} : F 1279 47 [some (.ref 49), some (.int x1), some (.int x2), some (.int x3), none, none, none] [.int s0] (81, pt_G, I, L) =
    F 1279 55 [some (.ref 49), some (.int x1), some (.int x2), some (.int x3), some (.int s0), some (.int 0), some (.int 0)] [] (81, pt_G, I, L) := pm_blk_to hF (pm_stp 1279 [0, 5, 21, 29, 39, 43, 47, 55, 97, 128, 144]) 109 rfl
set_option maxRecDepth 20000 in
theorem e1279_55 (hF : pm_fix pt_me pt_Sg (pt_R L0 xs) F) {x1 : Int32} {x2 : Int32} {x3 : Int32} {x4 : Int32} {x5 : Int32} {x6 : Int32} : F 1279 55 [some (.ref 49), some (.int x1), some (.int x2), some (.int x3), some (.int x4), some (.int x5), some (.int x6)] [] (81, pt_G, I, L) =
    if x6 < x2 then
      bif pm_ib x6 8 then
        bif pm_ib x2 8 then
          if (I 66 (Int32.toNatClampNeg x6)) = (I 66 (Int32.toNatClampNeg x2)) then
            bif pm_ib x6 8 then
              bif pm_ib x4 256 then
                pm_k (F 1249 0 [some (.ref 49), some (.int (I 66 (Int32.toNatClampNeg x6))), some (.int (I 69 (Int32.toNatClampNeg x4)))] [] (81, pt_G, I, L)) (fun v S => F 1279 97 [some (.ref 49), some (.int x1), some (.int x2), some (.int x3), some (.int x4), some (.int x5), some (.int x6)] (v.toList ++ [.int x5]) S)
              else none
            else none
          else
            bif pm_ib x4 256 then
              F 1279 55 [some (.ref 49), some (.int x1), some (.int x2), some (.int x3), some (.int (x4 &&& (((1 : Int32) <<< ((I 69 (Int32.toNatClampNeg x4)) &&& 31)) ^^^ (-1)))), some (.int x5), some (.int (x6 + 1))] [] (81, pt_G, I, L)
            else none
        else none
      else none
    else
      pm_k (F 1205 0 [some (.int x4), some (.int x3)] [] (81, pt_G, I, L)) (fun v S => F 1279 128 [some (.ref 49), some (.int x1), some (.int x2), some (.int x3), some (.int x4), some (.int x5), some (.int x6)] (v.toList ++ []) S) := pm_blk_to hF (pm_stp 1279 [0, 5, 21, 29, 39, 43, 47, 55, 97, 128, 144]) 109 rfl
set_option maxRecDepth 20000 in
theorem e1279_97 (hF : pm_fix pt_me pt_Sg (pt_R L0 xs) F) {x1 : Int32} {x2 : Int32} {x3 : Int32} {x4 : Int32} {x5 : Int32} {x6 : Int32} {s0 : Int32} {s1 : Int32} : F 1279 97 [some (.ref 49), some (.int x1), some (.int x2), some (.int x3), some (.int x4), some (.int x5), some (.int x6)] [.int s0, .int s1] (81, pt_G, I, L) =
    bif pm_ib x4 256 then
      F 1279 55 [some (.ref 49), some (.int x1), some (.int x2), some (.int x3), some (.int (x4 &&& (((1 : Int32) <<< ((I 69 (Int32.toNatClampNeg x4)) &&& 31)) ^^^ (-1)))), some (.int (s1 + s0)), some (.int (x6 + 1))] [] (81, pt_G, I, L)
    else none := pm_blk_to hF (pm_stp 1279 [0, 5, 21, 29, 39, 43, 47, 55, 97, 128, 144]) 109 rfl
set_option maxRecDepth 20000 in
theorem e1279_128 (hF : pm_fix pt_me pt_Sg (pt_R L0 xs) F) {x1 : Int32} {x2 : Int32} {x3 : Int32} {x4 : Int32} {x5 : Int32} {x6 : Int32} {s0 : Int32} : F 1279 128 [some (.ref 49), some (.int x1), some (.int x2), some (.int x3), some (.int x4), some (.int x5), some (.int x6)] [.int s0] (81, pt_G, I, L) =
    if s0 = 0 then
      some (some (.int (-1)), (81, pt_G, I, L))
    else
      bif pm_ib x2 8 then
        pm_k (F 1249 0 [some (.ref 49), some (.int (I 66 (Int32.toNatClampNeg x2))), some (.int x3)] [] (81, pt_G, I, L)) (fun v S => F 1279 144 [some (.ref 49), some (.int x1), some (.int x2), some (.int x3), some (.int x4), some (.int x5), some (.int x6)] (v.toList ++ [.int x5]) S)
      else none := pm_blk_to hF (pm_stp 1279 [0, 5, 21, 29, 39, 43, 47, 55, 97, 128, 144]) 109 rfl
set_option maxRecDepth 20000 in
theorem e1279_144 (hF : pm_fix pt_me pt_Sg (pt_R L0 xs) F) {x1 : Int32} {x2 : Int32} {x3 : Int32} {x4 : Int32} {x5 : Int32} {x6 : Int32} {s0 : Int32} {s1 : Int32} : F 1279 144 [some (.ref 49), some (.int x1), some (.int x2), some (.int x3), some (.int x4), some (.int x5), some (.int x6)] [.int s0, .int s1] (81, pt_G, I, L) =
    bif pm_ib x2 8 then
      bif pm_ib ((7 * (x4 &&& (((1 : Int32) <<< (x3 &&& 31)) ^^^ (-1)))) + (I 66 (Int32.toNatClampNeg x2))) 1792 then
        some (some (.int ((s1 + s0) + (I 68 (Int32.toNatClampNeg ((7 * (x4 &&& (((1 : Int32) <<< (x3 &&& 31)) ^^^ (-1)))) + (I 66 (Int32.toNatClampNeg x2))))))), (81, pt_G, I, L))
      else none
    else none := pm_blk_to hF (pm_stp 1279 [0, 5, 21, 29, 39, 43, 47, 55, 97, 128, 144]) 109 rfl
-- TurnCabinetModel.middleOf(I)I 49
set_option maxRecDepth 20000 in
theorem e1280_0 (hF : pm_fix pt_me pt_Sg (pt_R L0 xs) F) {x1 : Int32} : F 1280 0 [some (.ref 49), some (.int x1), none, none] [] (81, pt_G, I, L) =
    F 1280 4 [some (.ref 49), some (.int x1), some (.int 0), some (.int 0)] [] (81, pt_G, I, L) := pm_blk_to hF (pm_stp 1280 [0, 4, 18, 26, 51]) 38 rfl
set_option maxRecDepth 20000 in
theorem e1280_4 (hF : pm_fix pt_me pt_Sg (pt_R L0 xs) F) {x1 : Int32} {x2 : Int32} {x3 : Int32} : F 1280 4 [some (.ref 49), some (.int x1), some (.int x2), some (.int x3)] [] (81, pt_G, I, L) =
    if x3 < (I 49 30) then
      pm_k (F 1205 0 [some (.int x1), some (.int x3)] [] (81, pt_G, I, L)) (fun v S => F 1280 18 [some (.ref 49), some (.int x1), some (.int x2), some (.int x3)] (v.toList ++ [.int x2]) S)
    else
      pm_k (F 1243 0 [some (.ref 49), some (.int x1), none, none] [] (81, pt_G, I, L)) (fun v S => F 1280 51 [some (.ref 49), some (.int x1), some (.int x2), some (.int x3)] (v.toList ++ [.int x2]) S) := pm_blk_to hF (pm_stp 1280 [0, 4, 18, 26, 51]) 38 rfl
set_option maxRecDepth 20000 in
theorem e1280_18 (hF : pm_fix pt_me pt_Sg (pt_R L0 xs) F) {x1 : Int32} {x2 : Int32} {x3 : Int32} {s0 : Int32} {s1 : Int32} : F 1280 18 [some (.ref 49), some (.int x1), some (.int x2), some (.int x3)] [.int s0, .int s1] (81, pt_G, I, L) =
    if s0 = 0 then
      F 1280 4 [some (.ref 49), some (.int x1), some (.int (s1 + 0)), some (.int (x3 + 1))] [] (81, pt_G, I, L)
    else
      pm_k (F 1242 0 [some (.ref 49), some (.int x3)] [] (81, pt_G, I, L)) (fun v S => F 1280 26 [some (.ref 49), some (.int x1), some (.int x2), some (.int x3)] (v.toList ++ [.int s1]) S) := pm_blk_to hF (pm_stp 1280 [0, 4, 18, 26, 51]) 38 rfl
set_option maxRecDepth 20000 in
theorem e1280_26 (hF : pm_fix pt_me pt_Sg (pt_R L0 xs) F) {x1 : Int32} {x2 : Int32} {x3 : Int32} {s0 : Int32} {s1 : Int32} : F 1280 26 [some (.ref 49), some (.int x1), some (.int x2), some (.int x3)] [.int s0, .int s1] (81, pt_G, I, L) =
    bif pm_ib x3 7 then
      F 1280 4 [some (.ref 49), some (.int x1), some (.int (s1 + (s0 * (I 59 (Int32.toNatClampNeg x3))))), some (.int (x3 + 1))] [] (81, pt_G, I, L)
    else none := pm_blk_to hF (pm_stp 1280 [0, 4, 18, 26, 51]) 38 rfl
set_option maxRecDepth 20000 in
theorem e1280_51 (hF : pm_fix pt_me pt_Sg (pt_R L0 xs) F) {x1 : Int32} {x2 : Int32} {x3 : Int32} {s0 : Int32} {s1 : Int32} : F 1280 51 [some (.ref 49), some (.int x1), some (.int x2), some (.int x3)] [.int s0, .int s1] (81, pt_G, I, L) =
    bif !(decide (s0 = 0)) then
      some (some (.int (s1 / s0)), (81, pt_G, I, L))
    else none := pm_blk_to hF (pm_stp 1280 [0, 4, 18, 26, 51]) 38 rfl
-- TurnCabinetModel.middle(I)I 49
set_option maxRecDepth 20000 in
theorem e1281_0 (hF : pm_fix pt_me pt_Sg (pt_R L0 xs) F) {x1 : Int32} : F 1281 0 [some (.ref 49), some (.int x1)] [] (81, pt_G, I, L) =
    pm_k (F 1248 0 [some (.ref 49), some (.int x1)] [] (81, pt_G, I, L)) (fun v S => F 1281 5 [some (.ref 49), some (.int x1)] (v.toList ++ []) S) := pm_blk_to hF (pm_stp 1281 [0, 5, 13]) 15 rfl
set_option maxRecDepth 20000 in
theorem e1281_5 (hF : pm_fix pt_me pt_Sg (pt_R L0 xs) F) {x1 : Int32} {s0 : Int32} : F 1281 5 [some (.ref 49), some (.int x1)] [.int s0] (81, pt_G, I, L) =
    if s0 = 0 then
      some (some (.int (-1)), (81, pt_G, I, L))
    else
      pm_k (F 1280 0 [some (.ref 49), some (.int x1), none, none] [] (81, pt_G, I, L)) (fun v S => F 1281 13 [some (.ref 49), some (.int x1)] (v.toList ++ []) S) := pm_blk_to hF (pm_stp 1281 [0, 5, 13]) 15 rfl
set_option maxRecDepth 20000 in
theorem e1281_13 (hF : pm_fix pt_me pt_Sg (pt_R L0 xs) F) {x1 : Int32} {s0 : Int32} : F 1281 13 [some (.ref 49), some (.int x1)] [.int s0] (81, pt_G, I, L) =
    some (some (.int s0), (81, pt_G, I, L)) := pm_blk_to hF (pm_stp 1281 [0, 5, 13]) 15 rfl
-- TurnCabinetModel.far(II)I 49
set_option maxRecDepth 20000 in
theorem e1282_0 (hF : pm_fix pt_me pt_Sg (pt_R L0 xs) F) {x1 : Int32} {x2 : Int32} : F 1282 0 [some (.ref 49), some (.int x1), some (.int x2)] [] (81, pt_G, I, L) =
    bif pm_ib x1 7 then
      if (I 59 (Int32.toNatClampNeg x1)) ≤ x2 then
        bif pm_ib x1 7 then
          some (some (.int (x2 - (I 59 (Int32.toNatClampNeg x1)))), (81, pt_G, I, L))
        else none
      else
        bif pm_ib x1 7 then
          some (some (.int ((I 59 (Int32.toNatClampNeg x1)) - x2)), (81, pt_G, I, L))
        else none
    else none := pm_blk_to hF (pm_stp 1282 [0]) 25 rfl
-- TurnCabinetModel.laysAll()V 49
set_option maxRecDepth 20000 in
theorem e1283_0 (hF : pm_fix pt_me pt_Sg (pt_R L0 xs) F) : F 1283 0 [some (.ref 49), none, none, none] [] (81, pt_G, I, L) =
    if (I 49 57) = 0 then
      F 1283 15 [some (.ref 49), some (.int 1), none, none] [] (81, pt_G, (pm_ui I 49 57 1), L)
    else
      some (none, (81, pt_G, I, L)) := pm_blk_to hF (pm_stp 1283 [0, 15, 20, 29, 34, 37, 60, 70, 85, 103, 118, 123, 136]) 90 rfl
set_option maxRecDepth 20000 in
theorem e1283_15 (hF : pm_fix pt_me pt_Sg (pt_R L0 xs) F) {x1 : Int32} : F 1283 15 [some (.ref 49), some (.int x1), none, none] [] (81, pt_G, I, L) =
    pm_k (F 1244 0 [some (.ref 49)] [] (81, pt_G, I, L)) (fun v S => F 1283 20 [some (.ref 49), some (.int x1), none, none] (v.toList ++ [.int x1]) S) := pm_blk_to hF (pm_stp 1283 [0, 15, 20, 29, 34, 37, 60, 70, 85, 103, 118, 123, 136]) 90 rfl
set_option maxRecDepth 20000 in
theorem e1283_20 (hF : pm_fix pt_me pt_Sg (pt_R L0 xs) F) {x1 : Int32} {s0 : Int32} {s1 : Int32} : F 1283 20 [some (.ref 49), some (.int x1), none, none] [.int s0, .int s1] (81, pt_G, I, L) =
    if s1 ≤ s0 then
      pm_k (F 1266 0 [some (.ref 49), some (.int x1), some (.int 1), none, none, none] [] (81, pt_G, I, L)) (fun v S => F 1283 29 [some (.ref 49), some (.int x1), none, none] (v.toList ++ []) S)
    else
      F 1283 118 [some (.ref 49), some (.int 1), none, none] [] (81, pt_G, I, L) := pm_blk_to hF (pm_stp 1283 [0, 15, 20, 29, 34, 37, 60, 70, 85, 103, 118, 123, 136]) 90 rfl
set_option maxRecDepth 20000 in
theorem e1283_29 (hF : pm_fix pt_me pt_Sg (pt_R L0 xs) F) {x1 : Int32} : F 1283 29 [some (.ref 49), some (.int x1), none, none] [] (81, pt_G, I, L) =
    pm_k (F 1280 0 [some (.ref 49), some (.int x1), none, none] [] (81, pt_G, I, L)) (fun v S => F 1283 34 [some (.ref 49), some (.int x1), none, none] (v.toList ++ []) S) := pm_blk_to hF (pm_stp 1283 [0, 15, 20, 29, 34, 37, 60, 70, 85, 103, 118, 123, 136]) 90 rfl
set_option maxRecDepth 20000 in
theorem e1283_34 (hF : pm_fix pt_me pt_Sg (pt_R L0 xs) F) {x1 : Int32} {s0 : Int32} : F 1283 34 [some (.ref 49), some (.int x1), none, none] [.int s0] (81, pt_G, I, L) =
    F 1283 37 [some (.ref 49), some (.int x1), some (.int s0), some (.int 0)] [] (81, pt_G, I, L) := pm_blk_to hF (pm_stp 1283 [0, 15, 20, 29, 34, 37, 60, 70, 85, 103, 118, 123, 136]) 90 rfl
set_option maxRecDepth 20000 in
theorem e1283_37 (hF : pm_fix pt_me pt_Sg (pt_R L0 xs) F) {x1 : Int32} {x2 : Int32} {x3 : Int32} : F 1283 37 [some (.ref 49), some (.int x1), some (.int x2), some (.int x3)] [] (81, pt_G, I, L) =
    if x3 < (I 49 30) then
      pm_k (F 1205 0 [some (.int x1), some (.int x3)] [] (81, pt_G, I, L)) (fun v S => F 1283 60 [some (.ref 49), some (.int x1), some (.int x2), some (.int x3)] (v.toList ++ [.int ((7 * x1) + x3), .ref 73]) S)
    else
      F 1283 15 [some (.ref 49), some (.int (x1 + 1)), none, none] [] (81, pt_G, I, L) := pm_blk_to hF (pm_stp 1283 [0, 15, 20, 29, 34, 37, 60, 70, 85, 103, 118, 123, 136]) 90 rfl
set_option maxRecDepth 20000 in
theorem e1283_60 (hF : pm_fix pt_me pt_Sg (pt_R L0 xs) F) {x1 : Int32} {x2 : Int32} {x3 : Int32} {s0 : Int32} {s1 : Int32} : F 1283 60 [some (.ref 49), some (.int x1), some (.int x2), some (.int x3)] [.int s0, .int s1, .ref 73] (81, pt_G, I, L) =
    if s0 = 0 then
      pm_k (F 1282 0 [some (.ref 49), some (.int x3), some (.int x2)] [] (81, pt_G, I, L)) (fun v S => F 1283 85 [some (.ref 49), some (.int x1), some (.int x2), some (.int x3)] (v.toList ++ [.int (I 49 35), .int 0, .int s1, .ref 73]) S)
    else
      pm_k (F 1267 0 [some (.ref 49), some (.int x3), none, none] [] (81, pt_G, I, L)) (fun v S => F 1283 70 [some (.ref 49), some (.int x1), some (.int x2), some (.int x3)] (v.toList ++ [.int 10, .int s1, .ref 73]) S) := pm_blk_to hF (pm_stp 1283 [0, 15, 20, 29, 34, 37, 60, 70, 85, 103, 118, 123, 136]) 90 rfl
set_option maxRecDepth 20000 in
theorem e1283_70 (hF : pm_fix pt_me pt_Sg (pt_R L0 xs) F) {x1 : Int32} {x2 : Int32} {x3 : Int32} {s0 : Int32} {s1 : Int32} {s2 : Int32} : F 1283 70 [some (.ref 49), some (.int x1), some (.int x2), some (.int x3)] [.int s0, .int s1, .int s2, .ref 73] (81, pt_G, I, L) =
    pm_k (F 1282 0 [some (.ref 49), some (.int x3), some (.int x2)] [] (81, pt_G, I, L)) (fun v S => F 1283 85 [some (.ref 49), some (.int x1), some (.int x2), some (.int x3)] (v.toList ++ [.int (I 49 35), .int (s1 * s0), .int s2, .ref 73]) S) := pm_blk_to hF (pm_stp 1283 [0, 15, 20, 29, 34, 37, 60, 70, 85, 103, 118, 123, 136]) 90 rfl
set_option maxRecDepth 20000 in
theorem e1283_85 (hF : pm_fix pt_me pt_Sg (pt_R L0 xs) F) {x1 : Int32} {x2 : Int32} {x3 : Int32} {s0 : Int32} {s1 : Int32} {s2 : Int32} {s3 : Int32} : F 1283 85 [some (.ref 49), some (.int x1), some (.int x2), some (.int x3)] [.int s0, .int s1, .int s2, .int s3, .ref 73] (81, pt_G, I, L) =
    bif pm_ib s3 896 then
      pm_k (F 1271 0 [some (.ref 49), some (.int x3), none, none, none] [] (81, pt_G, (pm_ui I 73 (Int32.toNatClampNeg s3) (s2 - (s1 * s0))), L)) (fun v S => F 1283 103 [some (.ref 49), some (.int x1), some (.int x2), some (.int x3)] (v.toList ++ [.int ((7 * x1) + x3), .ref 74]) S)
    else none := pm_blk_to hF (pm_stp 1283 [0, 15, 20, 29, 34, 37, 60, 70, 85, 103, 118, 123, 136]) 90 rfl
set_option maxRecDepth 20000 in
theorem e1283_103 (hF : pm_fix pt_me pt_Sg (pt_R L0 xs) F) {x1 : Int32} {x2 : Int32} {x3 : Int32} {s0 : Int32} {s1 : Int32} : F 1283 103 [some (.ref 49), some (.int x1), some (.int x2), some (.int x3)] [.int s0, .int s1, .ref 74] (81, pt_G, I, L) =
    bif pm_ib s1 896 then
      F 1283 37 [some (.ref 49), some (.int x1), some (.int x2), some (.int (x3 + 1))] [] (81, pt_G, (pm_ui I 74 (Int32.toNatClampNeg s1) s0), L)
    else none := pm_blk_to hF (pm_stp 1283 [0, 15, 20, 29, 34, 37, 60, 70, 85, 103, 118, 123, 136]) 90 rfl
set_option maxRecDepth 20000 in
theorem e1283_118 (hF : pm_fix pt_me pt_Sg (pt_R L0 xs) F) {x1 : Int32} : F 1283 118 [some (.ref 49), some (.int x1), none, none] [] (81, pt_G, I, L) =
    pm_k (F 1244 0 [some (.ref 49)] [] (81, pt_G, I, L)) (fun v S => F 1283 123 [some (.ref 49), some (.int x1), none, none] (v.toList ++ [.int x1]) S) := pm_blk_to hF (pm_stp 1283 [0, 15, 20, 29, 34, 37, 60, 70, 85, 103, 118, 123, 136]) 90 rfl
set_option maxRecDepth 20000 in
theorem e1283_123 (hF : pm_fix pt_me pt_Sg (pt_R L0 xs) F) {x1 : Int32} {s0 : Int32} {s1 : Int32} : F 1283 123 [some (.ref 49), some (.int x1), none, none] [.int s0, .int s1] (81, pt_G, I, L) =
    if s1 ≤ s0 then
      pm_k (F 1288 0 [some (.ref 49), some (.int x1), none] [] (81, pt_G, I, L)) (fun v S => F 1283 136 [some (.ref 49), some (.int x1), none, none] (v.toList ++ [.int x1, .ref 75]) S)
    else
      some (none, (81, pt_G, I, L)) := pm_blk_to hF (pm_stp 1283 [0, 15, 20, 29, 34, 37, 60, 70, 85, 103, 118, 123, 136]) 90 rfl
set_option maxRecDepth 20000 in
theorem e1283_136 (hF : pm_fix pt_me pt_Sg (pt_R L0 xs) F) {x1 : Int32} {s0 : Int32} {s1 : Int32} : F 1283 136 [some (.ref 49), some (.int x1), none, none] [.int s0, .int s1, .ref 75] (81, pt_G, I, L) =
    bif pm_ib s1 128 then
      F 1283 118 [some (.ref 49), some (.int (x1 + 1)), none, none] [] (81, pt_G, (pm_ui I 75 (Int32.toNatClampNeg s1) s0), L)
    else none := pm_blk_to hF (pm_stp 1283 [0, 15, 20, 29, 34, 37, 60, 70, 85, 103, 118, 123, 136]) 90 rfl
-- TurnCabinetModel.isMajority(I)Z 49
set_option maxRecDepth 20000 in
theorem e1284_0 (hF : pm_fix pt_me pt_Sg (pt_R L0 xs) F) {x1 : Int32} : F 1284 0 [some (.ref 49), some (.int x1)] [] (81, pt_G, I, L) =
    pm_k (F 1243 0 [some (.ref 49), some (.int x1), none, none] [] (81, pt_G, I, L)) (fun v S => F 1284 5 [some (.ref 49), some (.int x1)] (v.toList ++ []) S) := pm_blk_to hF (pm_stp 1284 [0, 5, 9]) 15 rfl
set_option maxRecDepth 20000 in
theorem e1284_5 (hF : pm_fix pt_me pt_Sg (pt_R L0 xs) F) {x1 : Int32} {s0 : Int32} : F 1284 5 [some (.ref 49), some (.int x1)] [.int s0] (81, pt_G, I, L) =
    pm_k (F 1245 0 [some (.ref 49)] [] (81, pt_G, I, L)) (fun v S => F 1284 9 [some (.ref 49), some (.int x1)] (v.toList ++ [.int s0]) S) := pm_blk_to hF (pm_stp 1284 [0, 5, 9]) 15 rfl
set_option maxRecDepth 20000 in
theorem e1284_9 (hF : pm_fix pt_me pt_Sg (pt_R L0 xs) F) {x1 : Int32} {s0 : Int32} {s1 : Int32} : F 1284 9 [some (.ref 49), some (.int x1)] [.int s0, .int s1] (81, pt_G, I, L) =
    if s1 < s0 then
      some (some (.int 0), (81, pt_G, I, L))
    else
      some (some (.int 1), (81, pt_G, I, L)) := pm_blk_to hF (pm_stp 1284 [0, 5, 9]) 15 rfl
-- TurnCabinetModel.isFree(I)Z 49
set_option maxRecDepth 20000 in
theorem e1285_0 (hF : pm_fix pt_me pt_Sg (pt_R L0 xs) F) {x1 : Int32} : F 1285 0 [some (.ref 49), some (.int x1), none] [] (81, pt_G, I, L) =
    F 1285 2 [some (.ref 49), some (.int x1), some (.int 0)] [] (81, pt_G, I, L) := pm_blk_to hF (pm_stp 1285 [0, 2, 15]) 28 rfl
set_option maxRecDepth 20000 in
theorem e1285_2 (hF : pm_fix pt_me pt_Sg (pt_R L0 xs) F) {x1 : Int32} {x2 : Int32} : F 1285 2 [some (.ref 49), some (.int x1), some (.int x2)] [] (81, pt_G, I, L) =
    if x2 < (I 49 30) then
      pm_k (F 1205 0 [some (.int x1), some (.int x2)] [] (81, pt_G, I, L)) (fun v S => F 1285 15 [some (.ref 49), some (.int x1), some (.int x2)] (v.toList ++ []) S)
    else
      some (some (.int 1), (81, pt_G, I, L)) := pm_blk_to hF (pm_stp 1285 [0, 2, 15]) 28 rfl
set_option maxRecDepth 20000 in
theorem e1285_15 (hF : pm_fix pt_me pt_Sg (pt_R L0 xs) F) {x1 : Int32} {x2 : Int32} {s0 : Int32} : F 1285 15 [some (.ref 49), some (.int x1), some (.int x2)] [.int s0] (81, pt_G, I, L) =
    if s0 = 0 then
      F 1285 2 [some (.ref 49), some (.int x1), some (.int (x2 + 1))] [] (81, pt_G, I, L)
    else
      bif pm_ib x2 7 then
        if ((I 61 (Int32.toNatClampNeg x2)) &&& x1) = 0 then
          F 1285 2 [some (.ref 49), some (.int x1), some (.int (x2 + 1))] [] (81, pt_G, I, L)
        else
          some (some (.int 0), (81, pt_G, I, L))
      else none := pm_blk_to hF (pm_stp 1285 [0, 2, 15]) 28 rfl
-- TurnCabinetModel.can(I)Z 49
set_option maxRecDepth 20000 in
theorem e1286_0 (hF : pm_fix pt_me pt_Sg (pt_R L0 xs) F) {x1 : Int32} : F 1286 0 [some (.ref 49), some (.int x1)] [] (81, pt_G, I, L) =
    if x1 ≤ 0 then
      some (some (.int 0), (81, pt_G, I, L))
    else
      pm_k (F 1284 0 [some (.ref 49), some (.int x1)] [] (81, pt_G, I, L)) (fun v S => F 1286 9 [some (.ref 49), some (.int x1)] (v.toList ++ []) S) := pm_blk_to hF (pm_stp 1286 [0, 9, 17]) 19 rfl
set_option maxRecDepth 20000 in
theorem e1286_9 (hF : pm_fix pt_me pt_Sg (pt_R L0 xs) F) {x1 : Int32} {s0 : Int32} : F 1286 9 [some (.ref 49), some (.int x1)] [.int s0] (81, pt_G, I, L) =
    if s0 = 0 then
      some (some (.int 0), (81, pt_G, I, L))
    else
      pm_k (F 1285 0 [some (.ref 49), some (.int x1), none] [] (81, pt_G, I, L)) (fun v S => F 1286 17 [some (.ref 49), some (.int x1)] (v.toList ++ []) S) := pm_blk_to hF (pm_stp 1286 [0, 9, 17]) 19 rfl
set_option maxRecDepth 20000 in
theorem e1286_17 (hF : pm_fix pt_me pt_Sg (pt_R L0 xs) F) {x1 : Int32} {s0 : Int32} : F 1286 17 [some (.ref 49), some (.int x1)] [.int s0] (81, pt_G, I, L) =
    if s0 = 0 then
      some (some (.int 0), (81, pt_G, I, L))
    else
      some (some (.int 1), (81, pt_G, I, L)) := pm_blk_to hF (pm_stp 1286 [0, 9, 17]) 19 rfl
-- TurnCabinetModel.isRival(II)Z 49
set_option maxRecDepth 20000 in
theorem e1287_0 (hF : pm_fix pt_me pt_Sg (pt_R L0 xs) F) {x1 : Int32} {x2 : Int32} : F 1287 0 [some (.ref 49), some (.int x1), some (.int x2), none] [] (81, pt_G, I, L) =
    if x1 = x2 then
      some (some (.int 0), (81, pt_G, I, L))
    else
      pm_k (F 1286 0 [some (.ref 49), some (.int x1)] [] (81, pt_G, I, L)) (fun v S => F 1287 10 [some (.ref 49), some (.int x1), some (.int x2), none] (v.toList ++ []) S) := pm_blk_to hF (pm_stp 1287 [0, 10, 17, 30]) 47 rfl
set_option maxRecDepth 20000 in
theorem e1287_10 (hF : pm_fix pt_me pt_Sg (pt_R L0 xs) F) {x1 : Int32} {x2 : Int32} {s0 : Int32} : F 1287 10 [some (.ref 49), some (.int x1), some (.int x2), none] [.int s0] (81, pt_G, I, L) =
    if s0 = 0 then
      some (some (.int 0), (81, pt_G, I, L))
    else
      F 1287 17 [some (.ref 49), some (.int x1), some (.int x2), some (.int 0)] [] (81, pt_G, I, L) := pm_blk_to hF (pm_stp 1287 [0, 10, 17, 30]) 47 rfl
set_option maxRecDepth 20000 in
theorem e1287_17 (hF : pm_fix pt_me pt_Sg (pt_R L0 xs) F) {x1 : Int32} {x2 : Int32} {x3 : Int32} : F 1287 17 [some (.ref 49), some (.int x1), some (.int x2), some (.int x3)] [] (81, pt_G, I, L) =
    if x3 < (I 49 30) then
      pm_k (F 1205 0 [some (.int x1), some (.int x3)] [] (81, pt_G, I, L)) (fun v S => F 1287 30 [some (.ref 49), some (.int x1), some (.int x2), some (.int x3)] (v.toList ++ []) S)
    else
      some (some (.int 1), (81, pt_G, I, L)) := pm_blk_to hF (pm_stp 1287 [0, 10, 17, 30]) 47 rfl
set_option maxRecDepth 20000 in
theorem e1287_30 (hF : pm_fix pt_me pt_Sg (pt_R L0 xs) F) {x1 : Int32} {x2 : Int32} {x3 : Int32} {s0 : Int32} : F 1287 30 [some (.ref 49), some (.int x1), some (.int x2), some (.int x3)] [.int s0] (81, pt_G, I, L) =
    if s0 = 0 then
      F 1287 17 [some (.ref 49), some (.int x1), some (.int x2), some (.int (x3 + 1))] [] (81, pt_G, I, L)
    else
      bif pm_ib ((7 * x1) + x3) 896 then
        bif pm_ib ((7 * x2) + x3) 896 then
          if (I 73 (Int32.toNatClampNeg ((7 * x1) + x3))) ≤ (I 73 (Int32.toNatClampNeg ((7 * x2) + x3))) then
            some (some (.int 0), (81, pt_G, I, L))
          else
            F 1287 17 [some (.ref 49), some (.int x1), some (.int x2), some (.int (x3 + 1))] [] (81, pt_G, I, L)
        else none
      else none := pm_blk_to hF (pm_stp 1287 [0, 10, 17, 30]) 47 rfl
-- TurnCabinetModel.rivalOf(I)I 49
set_option maxRecDepth 20000 in
theorem e1288_0 (hF : pm_fix pt_me pt_Sg (pt_R L0 xs) F) {x1 : Int32} : F 1288 0 [some (.ref 49), some (.int x1), none] [] (81, pt_G, I, L) =
    F 1288 2 [some (.ref 49), some (.int x1), some (.int 1)] [] (81, pt_G, I, L) := pm_blk_to hF (pm_stp 1288 [0, 2, 7, 16]) 22 rfl
set_option maxRecDepth 20000 in
theorem e1288_2 (hF : pm_fix pt_me pt_Sg (pt_R L0 xs) F) {x1 : Int32} {x2 : Int32} : F 1288 2 [some (.ref 49), some (.int x1), some (.int x2)] [] (81, pt_G, I, L) =
    pm_k (F 1244 0 [some (.ref 49)] [] (81, pt_G, I, L)) (fun v S => F 1288 7 [some (.ref 49), some (.int x1), some (.int x2)] (v.toList ++ [.int x2]) S) := pm_blk_to hF (pm_stp 1288 [0, 2, 7, 16]) 22 rfl
set_option maxRecDepth 20000 in
theorem e1288_7 (hF : pm_fix pt_me pt_Sg (pt_R L0 xs) F) {x1 : Int32} {x2 : Int32} {s0 : Int32} {s1 : Int32} : F 1288 7 [some (.ref 49), some (.int x1), some (.int x2)] [.int s0, .int s1] (81, pt_G, I, L) =
    if s1 ≤ s0 then
      pm_k (F 1287 0 [some (.ref 49), some (.int x2), some (.int x1), none] [] (81, pt_G, I, L)) (fun v S => F 1288 16 [some (.ref 49), some (.int x1), some (.int x2)] (v.toList ++ []) S)
    else
      some (some (.int 0), (81, pt_G, I, L)) := pm_blk_to hF (pm_stp 1288 [0, 2, 7, 16]) 22 rfl
set_option maxRecDepth 20000 in
theorem e1288_16 (hF : pm_fix pt_me pt_Sg (pt_R L0 xs) F) {x1 : Int32} {x2 : Int32} {s0 : Int32} : F 1288 16 [some (.ref 49), some (.int x1), some (.int x2)] [.int s0] (81, pt_G, I, L) =
    if s0 = 0 then
      F 1288 2 [some (.ref 49), some (.int x1), some (.int (x2 + 1))] [] (81, pt_G, I, L)
    else
      some (some (.int x2), (81, pt_G, I, L)) := pm_blk_to hF (pm_stp 1288 [0, 2, 7, 16]) 22 rfl
-- TurnCabinetModel.isMinimal(I)Z 49
set_option maxRecDepth 20000 in
theorem e1289_0 (hF : pm_fix pt_me pt_Sg (pt_R L0 xs) F) {x1 : Int32} : F 1289 0 [some (.ref 49), some (.int x1), none] [] (81, pt_G, I, L) =
    pm_k (F 1284 0 [some (.ref 49), some (.int x1)] [] (81, pt_G, I, L)) (fun v S => F 1289 5 [some (.ref 49), some (.int x1), none] (v.toList ++ []) S) := pm_blk_to hF (pm_stp 1289 [0, 5, 12, 25, 39]) 37 rfl
set_option maxRecDepth 20000 in
theorem e1289_5 (hF : pm_fix pt_me pt_Sg (pt_R L0 xs) F) {x1 : Int32} {s0 : Int32} : F 1289 5 [some (.ref 49), some (.int x1), none] [.int s0] (81, pt_G, I, L) =
    if s0 = 0 then
      some (some (.int 0), (81, pt_G, I, L))
    else
      F 1289 12 [some (.ref 49), some (.int x1), some (.int 0)] [] (81, pt_G, I, L) := pm_blk_to hF (pm_stp 1289 [0, 5, 12, 25, 39]) 37 rfl
set_option maxRecDepth 20000 in
theorem e1289_12 (hF : pm_fix pt_me pt_Sg (pt_R L0 xs) F) {x1 : Int32} {x2 : Int32} : F 1289 12 [some (.ref 49), some (.int x1), some (.int x2)] [] (81, pt_G, I, L) =
    if x2 < (I 49 30) then
      pm_k (F 1205 0 [some (.int x1), some (.int x2)] [] (81, pt_G, I, L)) (fun v S => F 1289 25 [some (.ref 49), some (.int x1), some (.int x2)] (v.toList ++ []) S)
    else
      some (some (.int 1), (81, pt_G, I, L)) := pm_blk_to hF (pm_stp 1289 [0, 5, 12, 25, 39]) 37 rfl
set_option maxRecDepth 20000 in
theorem e1289_25 (hF : pm_fix pt_me pt_Sg (pt_R L0 xs) F) {x1 : Int32} {x2 : Int32} {s0 : Int32} : F 1289 25 [some (.ref 49), some (.int x1), some (.int x2)] [.int s0] (81, pt_G, I, L) =
    if s0 = 0 then
      F 1289 12 [some (.ref 49), some (.int x1), some (.int (x2 + 1))] [] (81, pt_G, I, L)
    else
      pm_k (F 1284 0 [some (.ref 49), some (.int (x1 &&& (((1 : Int32) <<< (x2 &&& 31)) ^^^ (-1))))] [] (81, pt_G, I, L)) (fun v S => F 1289 39 [some (.ref 49), some (.int x1), some (.int x2)] (v.toList ++ []) S) := pm_blk_to hF (pm_stp 1289 [0, 5, 12, 25, 39]) 37 rfl
set_option maxRecDepth 20000 in
theorem e1289_39 (hF : pm_fix pt_me pt_Sg (pt_R L0 xs) F) {x1 : Int32} {x2 : Int32} {s0 : Int32} : F 1289 39 [some (.ref 49), some (.int x1), some (.int x2)] [.int s0] (81, pt_G, I, L) =
    if s0 = 0 then
      F 1289 12 [some (.ref 49), some (.int x1), some (.int (x2 + 1))] [] (81, pt_G, I, L)
    else
      some (some (.int 0), (81, pt_G, I, L)) := pm_blk_to hF (pm_stp 1289 [0, 5, 12, 25, 39]) 37 rfl
-- TurnCabinetModel.isConnected(I)Z 49
set_option maxRecDepth 20000 in
theorem e1290_0 (hF : pm_fix pt_me pt_Sg (pt_R L0 xs) F) {x1 : Int32} : F 1290 0 [some (.ref 49), some (.int x1), none, none, none] [] (81, pt_G, I, L) =
    F 1290 8 [some (.ref 49), some (.int x1), some (.int 100), some (.int (-1)), some (.int 0)] [] (81, pt_G, I, L) := pm_blk_to hF (pm_stp 1290 [0, 8, 23, 63, 73, 88]) 70 rfl
set_option maxRecDepth 20000 in
theorem e1290_8 (hF : pm_fix pt_me pt_Sg (pt_R L0 xs) F) {x1 : Int32} {x2 : Int32} {x3 : Int32} {x4 : Int32} : F 1290 8 [some (.ref 49), some (.int x1), some (.int x2), some (.int x3), some (.int x4)] [] (81, pt_G, I, L) =
    if x4 < (I 49 30) then
      pm_k (F 1205 0 [some (.int x1), some (.int x4)] [] (81, pt_G, I, L)) (fun v S => F 1290 23 [some (.ref 49), some (.int x1), some (.int x2), some (.int x3), some (.int x4)] (v.toList ++ []) S)
    else
      F 1290 73 [some (.ref 49), some (.int x1), some (.int x2), some (.int x3), some (.int 0)] [] (81, pt_G, I, L) := pm_blk_to hF (pm_stp 1290 [0, 8, 23, 63, 73, 88]) 70 rfl
set_option maxRecDepth 20000 in
theorem e1290_23 (hF : pm_fix pt_me pt_Sg (pt_R L0 xs) F) {x1 : Int32} {x2 : Int32} {x3 : Int32} {x4 : Int32} {s0 : Int32} : F 1290 23 [some (.ref 49), some (.int x1), some (.int x2), some (.int x3), some (.int x4)] [.int s0] (81, pt_G, I, L) =
    if s0 = 0 then
      F 1290 8 [some (.ref 49), some (.int x1), some (.int x2), some (.int x3), some (.int (x4 + 1))] [] (81, pt_G, I, L)
    else
      bif pm_ib x4 7 then
        if (I 59 (Int32.toNatClampNeg x4)) < x2 then
          bif pm_ib x4 7 then
            bif pm_ib x4 7 then
              pm_k (F 1204 0 [some (.int x3), some (.int (I 59 (Int32.toNatClampNeg x4)))] [] (81, pt_G, I, L)) (fun v S => F 1290 63 [some (.ref 49), some (.int x1), some (.int (I 59 (Int32.toNatClampNeg x4))), some (.int x3), some (.int x4)] (v.toList ++ []) S)
            else none
          else none
        else
          bif pm_ib x4 7 then
            pm_k (F 1204 0 [some (.int x3), some (.int (I 59 (Int32.toNatClampNeg x4)))] [] (81, pt_G, I, L)) (fun v S => F 1290 63 [some (.ref 49), some (.int x1), some (.int x2), some (.int x3), some (.int x4)] (v.toList ++ []) S)
          else none
      else none := pm_blk_to hF (pm_stp 1290 [0, 8, 23, 63, 73, 88]) 70 rfl
set_option maxRecDepth 20000 in
theorem e1290_63 (hF : pm_fix pt_me pt_Sg (pt_R L0 xs) F) {x1 : Int32} {x2 : Int32} {x3 : Int32} {x4 : Int32} {s0 : Int32} : F 1290 63 [some (.ref 49), some (.int x1), some (.int x2), some (.int x3), some (.int x4)] [.int s0] (81, pt_G, I, L) =
    F 1290 8 [some (.ref 49), some (.int x1), some (.int x2), some (.int s0), some (.int (x4 + 1))] [] (81, pt_G, I, L) := pm_blk_to hF (pm_stp 1290 [0, 8, 23, 63, 73, 88]) 70 rfl
set_option maxRecDepth 20000 in
theorem e1290_73 (hF : pm_fix pt_me pt_Sg (pt_R L0 xs) F) {x1 : Int32} {x2 : Int32} {x3 : Int32} {x4 : Int32} : F 1290 73 [some (.ref 49), some (.int x1), some (.int x2), some (.int x3), some (.int x4)] [] (81, pt_G, I, L) =
    if x4 < (I 49 30) then
      pm_k (F 1205 0 [some (.int x1), some (.int x4)] [] (81, pt_G, I, L)) (fun v S => F 1290 88 [some (.ref 49), some (.int x1), some (.int x2), some (.int x3), some (.int x4)] (v.toList ++ []) S)
    else
      some (some (.int 1), (81, pt_G, I, L)) := pm_blk_to hF (pm_stp 1290 [0, 8, 23, 63, 73, 88]) 70 rfl
set_option maxRecDepth 20000 in
theorem e1290_88 (hF : pm_fix pt_me pt_Sg (pt_R L0 xs) F) {x1 : Int32} {x2 : Int32} {x3 : Int32} {x4 : Int32} {s0 : Int32} : F 1290 88 [some (.ref 49), some (.int x1), some (.int x2), some (.int x3), some (.int x4)] [.int s0] (81, pt_G, I, L) =
    if s0 = 0 then
      bif pm_ib x4 7 then
        if (I 59 (Int32.toNatClampNeg x4)) ≤ x2 then
          F 1290 73 [some (.ref 49), some (.int x1), some (.int x2), some (.int x3), some (.int (x4 + 1))] [] (81, pt_G, I, L)
        else
          bif pm_ib x4 7 then
            if (I 59 (Int32.toNatClampNeg x4)) < x3 then
              some (some (.int 0), (81, pt_G, I, L))
            else
              F 1290 73 [some (.ref 49), some (.int x1), some (.int x2), some (.int x3), some (.int (x4 + 1))] [] (81, pt_G, I, L)
          else none
      else none
    else
      F 1290 73 [some (.ref 49), some (.int x1), some (.int x2), some (.int x3), some (.int (x4 + 1))] [] (81, pt_G, I, L) := pm_blk_to hF (pm_stp 1290 [0, 8, 23, 63, 73, 88]) 70 rfl
-- TurnCabinetModel.kindOf(I)I 49
set_option maxRecDepth 20000 in
theorem e1291_0 (hF : pm_fix pt_me pt_Sg (pt_R L0 xs) F) {x1 : Int32} : F 1291 0 [some (.ref 49), some (.int x1)] [] (81, pt_G, I, L) =
    pm_k (F 1284 0 [some (.ref 49), some (.int x1)] [] (81, pt_G, I, L)) (fun v S => F 1291 6 [some (.ref 49), some (.int x1)] (v.toList ++ [.int 1]) S) := pm_blk_to hF (pm_stp 1291 [0, 6, 9, 16, 19, 27, 30, 39, 42, 51, 71]) 49 rfl
set_option maxRecDepth 20000 in
theorem e1291_6 (hF : pm_fix pt_me pt_Sg (pt_R L0 xs) F) {x1 : Int32} {s0 : Int32} {s1 : Int32} : F 1291 6 [some (.ref 49), some (.int x1)] [.int s0, .int s1] (81, pt_G, I, L) =
    pm_k (F 1203 0 [some (.int s0)] [] (81, pt_G, I, L)) (fun v S => F 1291 9 [some (.ref 49), some (.int x1)] (v.toList ++ [.int s1]) S) := pm_blk_to hF (pm_stp 1291 [0, 6, 9, 16, 19, 27, 30, 39, 42, 51, 71]) 49 rfl
set_option maxRecDepth 20000 in
theorem e1291_9 (hF : pm_fix pt_me pt_Sg (pt_R L0 xs) F) {x1 : Int32} {s0 : Int32} {s1 : Int32} : F 1291 9 [some (.ref 49), some (.int x1)] [.int s0, .int s1] (81, pt_G, I, L) =
    pm_k (F 1285 0 [some (.ref 49), some (.int x1), none] [] (81, pt_G, I, L)) (fun v S => F 1291 16 [some (.ref 49), some (.int x1)] (v.toList ++ [.int 2, .int (s1 * s0)]) S) := pm_blk_to hF (pm_stp 1291 [0, 6, 9, 16, 19, 27, 30, 39, 42, 51, 71]) 49 rfl
set_option maxRecDepth 20000 in
theorem e1291_16 (hF : pm_fix pt_me pt_Sg (pt_R L0 xs) F) {x1 : Int32} {s0 : Int32} {s1 : Int32} {s2 : Int32} : F 1291 16 [some (.ref 49), some (.int x1)] [.int s0, .int s1, .int s2] (81, pt_G, I, L) =
    pm_k (F 1203 0 [some (.int s0)] [] (81, pt_G, I, L)) (fun v S => F 1291 19 [some (.ref 49), some (.int x1)] (v.toList ++ [.int s1, .int s2]) S) := pm_blk_to hF (pm_stp 1291 [0, 6, 9, 16, 19, 27, 30, 39, 42, 51, 71]) 49 rfl
set_option maxRecDepth 20000 in
theorem e1291_19 (hF : pm_fix pt_me pt_Sg (pt_R L0 xs) F) {x1 : Int32} {s0 : Int32} {s1 : Int32} {s2 : Int32} : F 1291 19 [some (.ref 49), some (.int x1)] [.int s0, .int s1, .int s2] (81, pt_G, I, L) =
    pm_k (F 1289 0 [some (.ref 49), some (.int x1), none] [] (81, pt_G, I, L)) (fun v S => F 1291 27 [some (.ref 49), some (.int x1)] (v.toList ++ [.int 4, .int (s2 + (s1 * s0))]) S) := pm_blk_to hF (pm_stp 1291 [0, 6, 9, 16, 19, 27, 30, 39, 42, 51, 71]) 49 rfl
set_option maxRecDepth 20000 in
theorem e1291_27 (hF : pm_fix pt_me pt_Sg (pt_R L0 xs) F) {x1 : Int32} {s0 : Int32} {s1 : Int32} {s2 : Int32} : F 1291 27 [some (.ref 49), some (.int x1)] [.int s0, .int s1, .int s2] (81, pt_G, I, L) =
    pm_k (F 1203 0 [some (.int s0)] [] (81, pt_G, I, L)) (fun v S => F 1291 30 [some (.ref 49), some (.int x1)] (v.toList ++ [.int s1, .int s2]) S) := pm_blk_to hF (pm_stp 1291 [0, 6, 9, 16, 19, 27, 30, 39, 42, 51, 71]) 49 rfl
set_option maxRecDepth 20000 in
theorem e1291_30 (hF : pm_fix pt_me pt_Sg (pt_R L0 xs) F) {x1 : Int32} {s0 : Int32} {s1 : Int32} {s2 : Int32} : F 1291 30 [some (.ref 49), some (.int x1)] [.int s0, .int s1, .int s2] (81, pt_G, I, L) =
    pm_k (F 1290 0 [some (.ref 49), some (.int x1), none, none, none] [] (81, pt_G, I, L)) (fun v S => F 1291 39 [some (.ref 49), some (.int x1)] (v.toList ++ [.int 8, .int (s2 + (s1 * s0))]) S) := pm_blk_to hF (pm_stp 1291 [0, 6, 9, 16, 19, 27, 30, 39, 42, 51, 71]) 49 rfl
set_option maxRecDepth 20000 in
theorem e1291_39 (hF : pm_fix pt_me pt_Sg (pt_R L0 xs) F) {x1 : Int32} {s0 : Int32} {s1 : Int32} {s2 : Int32} : F 1291 39 [some (.ref 49), some (.int x1)] [.int s0, .int s1, .int s2] (81, pt_G, I, L) =
    pm_k (F 1203 0 [some (.int s0)] [] (81, pt_G, I, L)) (fun v S => F 1291 42 [some (.ref 49), some (.int x1)] (v.toList ++ [.int s1, .int s2]) S) := pm_blk_to hF (pm_stp 1291 [0, 6, 9, 16, 19, 27, 30, 39, 42, 51, 71]) 49 rfl
set_option maxRecDepth 20000 in
theorem e1291_42 (hF : pm_fix pt_me pt_Sg (pt_R L0 xs) F) {x1 : Int32} {s0 : Int32} {s1 : Int32} {s2 : Int32} : F 1291 42 [some (.ref 49), some (.int x1)] [.int s0, .int s1, .int s2] (81, pt_G, I, L) =
    pm_k (F 1286 0 [some (.ref 49), some (.int x1)] [] (81, pt_G, I, L)) (fun v S => F 1291 51 [some (.ref 49), some (.int x1)] (v.toList ++ [.int 16, .int (s2 + (s1 * s0))]) S) := pm_blk_to hF (pm_stp 1291 [0, 6, 9, 16, 19, 27, 30, 39, 42, 51, 71]) 49 rfl
set_option maxRecDepth 20000 in
theorem e1291_51 (hF : pm_fix pt_me pt_Sg (pt_R L0 xs) F) {x1 : Int32} {s0 : Int32} {s1 : Int32} {s2 : Int32} : F 1291 51 [some (.ref 49), some (.int x1)] [.int s0, .int s1, .int s2] (81, pt_G, I, L) =
    if s0 = 0 then
      pm_k (F 1203 0 [some (.int 0)] [] (81, pt_G, I, L)) (fun v S => F 1291 71 [some (.ref 49), some (.int x1)] (v.toList ++ [.int s1, .int s2]) S)
    else
      bif pm_ib x1 128 then
        if (I 75 (Int32.toNatClampNeg x1)) = 0 then
          pm_k (F 1203 0 [some (.int 1)] [] (81, pt_G, I, L)) (fun v S => F 1291 71 [some (.ref 49), some (.int x1)] (v.toList ++ [.int s1, .int s2]) S)
        else
          pm_k (F 1203 0 [some (.int 0)] [] (81, pt_G, I, L)) (fun v S => F 1291 71 [some (.ref 49), some (.int x1)] (v.toList ++ [.int s1, .int s2]) S)
      else none := pm_blk_to hF (pm_stp 1291 [0, 6, 9, 16, 19, 27, 30, 39, 42, 51, 71]) 49 rfl
set_option maxRecDepth 20000 in
theorem e1291_71 (hF : pm_fix pt_me pt_Sg (pt_R L0 xs) F) {x1 : Int32} {s0 : Int32} {s1 : Int32} {s2 : Int32} : F 1291 71 [some (.ref 49), some (.int x1)] [.int s0, .int s1, .int s2] (81, pt_G, I, L) =
    some (some (.int (s2 + (s1 * s0))), (81, pt_G, I, L)) := pm_blk_to hF (pm_stp 1291 [0, 6, 9, 16, 19, 27, 30, 39, 42, 51, 71]) 49 rfl
-- TurnCabinetModel.pay(II)I 49
set_option maxRecDepth 20000 in
theorem e1292_0 (hF : pm_fix pt_me pt_Sg (pt_R L0 xs) F) {x1 : Int32} {x2 : Int32} : F 1292 0 [some (.ref 49), some (.int x1), some (.int x2)] [] (81, pt_G, I, L) =
    pm_k (F 1248 0 [some (.ref 49), some (.int x1)] [] (81, pt_G, I, L)) (fun v S => F 1292 5 [some (.ref 49), some (.int x1), some (.int x2)] (v.toList ++ []) S) := pm_blk_to hF (pm_stp 1292 [0, 5, 13, 24]) 26 rfl
set_option maxRecDepth 20000 in
theorem e1292_5 (hF : pm_fix pt_me pt_Sg (pt_R L0 xs) F) {x1 : Int32} {x2 : Int32} {s0 : Int32} : F 1292 5 [some (.ref 49), some (.int x1), some (.int x2)] [.int s0] (81, pt_G, I, L) =
    if s0 = 0 then
      some (some (.int (-1000000)), (81, pt_G, I, L))
    else
      pm_k (F 1246 0 [some (.ref 49), some (.int x2)] [] (81, pt_G, I, L)) (fun v S => F 1292 13 [some (.ref 49), some (.int x1), some (.int x2)] (v.toList ++ []) S) := pm_blk_to hF (pm_stp 1292 [0, 5, 13, 24]) 26 rfl
set_option maxRecDepth 20000 in
theorem e1292_13 (hF : pm_fix pt_me pt_Sg (pt_R L0 xs) F) {x1 : Int32} {x2 : Int32} {s0 : Int32} : F 1292 13 [some (.ref 49), some (.int x1), some (.int x2)] [.int s0] (81, pt_G, I, L) =
    if s0 = 0 then
      some (some (.int (-1000000)), (81, pt_G, I, L))
    else
      pm_k (F 1283 0 [some (.ref 49), none, none, none] [] (81, pt_G, I, L)) (fun v S => F 1292 24 [some (.ref 49), some (.int x1), some (.int x2)] (v.toList ++ []) S) := pm_blk_to hF (pm_stp 1292 [0, 5, 13, 24]) 26 rfl
set_option maxRecDepth 20000 in
theorem e1292_24 (hF : pm_fix pt_me pt_Sg (pt_R L0 xs) F) {x1 : Int32} {x2 : Int32} : F 1292 24 [some (.ref 49), some (.int x1), some (.int x2)] [] (81, pt_G, I, L) =
    bif pm_ib ((7 * x1) + x2) 896 then
      some (some (.int (I 73 (Int32.toNatClampNeg ((7 * x1) + x2)))), (81, pt_G, I, L))
    else none := pm_blk_to hF (pm_stp 1292 [0, 5, 13, 24]) 26 rfl
-- TurnCabinetModel.kind(I)I 49
set_option maxRecDepth 20000 in
theorem e1293_0 (hF : pm_fix pt_me pt_Sg (pt_R L0 xs) F) {x1 : Int32} : F 1293 0 [some (.ref 49), some (.int x1)] [] (81, pt_G, I, L) =
    pm_k (F 1248 0 [some (.ref 49), some (.int x1)] [] (81, pt_G, I, L)) (fun v S => F 1293 5 [some (.ref 49), some (.int x1)] (v.toList ++ []) S) := pm_blk_to hF (pm_stp 1293 [0, 5, 14, 19]) 17 rfl
set_option maxRecDepth 20000 in
theorem e1293_5 (hF : pm_fix pt_me pt_Sg (pt_R L0 xs) F) {x1 : Int32} {s0 : Int32} : F 1293 5 [some (.ref 49), some (.int x1)] [.int s0] (81, pt_G, I, L) =
    if s0 = 0 then
      some (some (.int (-1)), (81, pt_G, I, L))
    else
      pm_k (F 1283 0 [some (.ref 49), none, none, none] [] (81, pt_G, I, L)) (fun v S => F 1293 14 [some (.ref 49), some (.int x1)] (v.toList ++ []) S) := pm_blk_to hF (pm_stp 1293 [0, 5, 14, 19]) 17 rfl
set_option maxRecDepth 20000 in
theorem e1293_14 (hF : pm_fix pt_me pt_Sg (pt_R L0 xs) F) {x1 : Int32} : F 1293 14 [some (.ref 49), some (.int x1)] [] (81, pt_G, I, L) =
    pm_k (F 1291 0 [some (.ref 49), some (.int x1)] [] (81, pt_G, I, L)) (fun v S => F 1293 19 [some (.ref 49), some (.int x1)] (v.toList ++ []) S) := pm_blk_to hF (pm_stp 1293 [0, 5, 14, 19]) 17 rfl
set_option maxRecDepth 20000 in
theorem e1293_19 (hF : pm_fix pt_me pt_Sg (pt_R L0 xs) F) {x1 : Int32} {s0 : Int32} : F 1293 19 [some (.ref 49), some (.int x1)] [.int s0] (81, pt_G, I, L) =
    some (some (.int s0), (81, pt_G, I, L)) := pm_blk_to hF (pm_stp 1293 [0, 5, 14, 19]) 17 rfl
-- TurnCabinetModel.many(I)I 49
set_option maxRecDepth 20000 in
theorem e1294_0 (hF : pm_fix pt_me pt_Sg (pt_R L0 xs) F) {x1 : Int32} : F 1294 0 [some (.ref 49), some (.int x1), none, none] [] (81, pt_G, I, L) =
    pm_k (F 1202 0 [some (.long (Int32.toInt64 x1)), none, some (.long 0), none, some (.long 31), none] [] (81, pt_G, I, L)) (fun v S => F 1294 9 [some (.ref 49), some (.int x1), none, none] (v.toList ++ []) S) := pm_blk_to hF (pm_stp 1294 [0, 9, 18, 22, 27, 36, 50]) 41 rfl
set_option maxRecDepth 20000 in
theorem e1294_9 (hF : pm_fix pt_me pt_Sg (pt_R L0 xs) F) {x1 : Int32} {s0 : Int32} : F 1294 9 [some (.ref 49), some (.int x1), none, none] [.int s0] (81, pt_G, I, L) =
    if s0 = 0 then
      some (some (.int (-1)), (81, pt_G, I, L))
    else
      pm_k (F 1283 0 [some (.ref 49), none, none, none] [] (81, pt_G, I, L)) (fun v S => F 1294 18 [some (.ref 49), some (.int x1), none, none] (v.toList ++ []) S) := pm_blk_to hF (pm_stp 1294 [0, 9, 18, 22, 27, 36, 50]) 41 rfl
set_option maxRecDepth 20000 in
theorem e1294_18 (hF : pm_fix pt_me pt_Sg (pt_R L0 xs) F) {x1 : Int32} : F 1294 18 [some (.ref 49), some (.int x1), none, none] [] (81, pt_G, I, L) =
    F 1294 22 [some (.ref 49), some (.int x1), some (.int 0), some (.int 1)] [] (81, pt_G, I, L) := pm_blk_to hF (pm_stp 1294 [0, 9, 18, 22, 27, 36, 50]) 41 rfl
set_option maxRecDepth 20000 in
theorem e1294_22 (hF : pm_fix pt_me pt_Sg (pt_R L0 xs) F) {x1 : Int32} {x2 : Int32} {x3 : Int32} : F 1294 22 [some (.ref 49), some (.int x1), some (.int x2), some (.int x3)] [] (81, pt_G, I, L) =
    pm_k (F 1244 0 [some (.ref 49)] [] (81, pt_G, I, L)) (fun v S => F 1294 27 [some (.ref 49), some (.int x1), some (.int x2), some (.int x3)] (v.toList ++ [.int x3]) S) := pm_blk_to hF (pm_stp 1294 [0, 9, 18, 22, 27, 36, 50]) 41 rfl
set_option maxRecDepth 20000 in
theorem e1294_27 (hF : pm_fix pt_me pt_Sg (pt_R L0 xs) F) {x1 : Int32} {x2 : Int32} {x3 : Int32} {s0 : Int32} {s1 : Int32} : F 1294 27 [some (.ref 49), some (.int x1), some (.int x2), some (.int x3)] [.int s0, .int s1] (81, pt_G, I, L) =
    if s1 ≤ s0 then
      pm_k (F 1291 0 [some (.ref 49), some (.int x3)] [] (81, pt_G, I, L)) (fun v S => F 1294 36 [some (.ref 49), some (.int x1), some (.int x2), some (.int x3)] (v.toList ++ [.int x2]) S)
    else
      some (some (.int x2), (81, pt_G, I, L)) := pm_blk_to hF (pm_stp 1294 [0, 9, 18, 22, 27, 36, 50]) 41 rfl
set_option maxRecDepth 20000 in
theorem e1294_36 (hF : pm_fix pt_me pt_Sg (pt_R L0 xs) F) {x1 : Int32} {x2 : Int32} {x3 : Int32} {s0 : Int32} {s1 : Int32} : F 1294 36 [some (.ref 49), some (.int x1), some (.int x2), some (.int x3)] [.int s0, .int s1] (81, pt_G, I, L) =
    if (s0 &&& x1) = x1 then
      pm_k (F 1203 0 [some (.int 1)] [] (81, pt_G, I, L)) (fun v S => F 1294 50 [some (.ref 49), some (.int x1), some (.int x2), some (.int x3)] (v.toList ++ [.int s1]) S)
    else
      pm_k (F 1203 0 [some (.int 0)] [] (81, pt_G, I, L)) (fun v S => F 1294 50 [some (.ref 49), some (.int x1), some (.int x2), some (.int x3)] (v.toList ++ [.int s1]) S) := pm_blk_to hF (pm_stp 1294 [0, 9, 18, 22, 27, 36, 50]) 41 rfl
set_option maxRecDepth 20000 in
theorem e1294_50 (hF : pm_fix pt_me pt_Sg (pt_R L0 xs) F) {x1 : Int32} {x2 : Int32} {x3 : Int32} {s0 : Int32} {s1 : Int32} : F 1294 50 [some (.ref 49), some (.int x1), some (.int x2), some (.int x3)] [.int s0, .int s1] (81, pt_G, I, L) =
    F 1294 22 [some (.ref 49), some (.int x1), some (.int (s1 + s0)), some (.int (x3 + 1))] [] (81, pt_G, I, L) := pm_blk_to hF (pm_stp 1294 [0, 9, 18, 22, 27, 36, 50]) 41 rfl
-- TurnCabinetModel.nth(II)I 49
set_option maxRecDepth 20000 in
theorem e1295_0 (hF : pm_fix pt_me pt_Sg (pt_R L0 xs) F) {x1 : Int32} {x2 : Int32} : F 1295 0 [some (.ref 49), some (.int x1), some (.int x2), none, none] [] (81, pt_G, I, L) =
    pm_k (F 1202 0 [some (.long (Int32.toInt64 x1)), none, some (.long 0), none, some (.long 31), none] [] (81, pt_G, I, L)) (fun v S => F 1295 9 [some (.ref 49), some (.int x1), some (.int x2), none, none] (v.toList ++ []) S) := pm_blk_to hF (pm_stp 1295 [0, 9, 22, 27, 33, 42]) 42 rfl
set_option maxRecDepth 20000 in
theorem e1295_9 (hF : pm_fix pt_me pt_Sg (pt_R L0 xs) F) {x1 : Int32} {x2 : Int32} {s0 : Int32} : F 1295 9 [some (.ref 49), some (.int x1), some (.int x2), none, none] [.int s0] (81, pt_G, I, L) =
    if s0 = 0 then
      some (some (.int (-1)), (81, pt_G, I, L))
    else
      if x2 < 0 then
        some (some (.int (-1)), (81, pt_G, I, L))
      else
        pm_k (F 1283 0 [some (.ref 49), none, none, none] [] (81, pt_G, I, L)) (fun v S => F 1295 22 [some (.ref 49), some (.int x1), some (.int x2), none, none] (v.toList ++ []) S) := pm_blk_to hF (pm_stp 1295 [0, 9, 22, 27, 33, 42]) 42 rfl
set_option maxRecDepth 20000 in
theorem e1295_22 (hF : pm_fix pt_me pt_Sg (pt_R L0 xs) F) {x1 : Int32} {x2 : Int32} : F 1295 22 [some (.ref 49), some (.int x1), some (.int x2), none, none] [] (81, pt_G, I, L) =
    F 1295 27 [some (.ref 49), some (.int x1), some (.int x2), some (.int x2), some (.int 1)] [] (81, pt_G, I, L) := pm_blk_to hF (pm_stp 1295 [0, 9, 22, 27, 33, 42]) 42 rfl
set_option maxRecDepth 20000 in
theorem e1295_27 (hF : pm_fix pt_me pt_Sg (pt_R L0 xs) F) {x1 : Int32} {x2 : Int32} {x3 : Int32} {x4 : Int32} : F 1295 27 [some (.ref 49), some (.int x1), some (.int x2), some (.int x3), some (.int x4)] [] (81, pt_G, I, L) =
    pm_k (F 1244 0 [some (.ref 49)] [] (81, pt_G, I, L)) (fun v S => F 1295 33 [some (.ref 49), some (.int x1), some (.int x2), some (.int x3), some (.int x4)] (v.toList ++ [.int x4]) S) := pm_blk_to hF (pm_stp 1295 [0, 9, 22, 27, 33, 42]) 42 rfl
set_option maxRecDepth 20000 in
theorem e1295_33 (hF : pm_fix pt_me pt_Sg (pt_R L0 xs) F) {x1 : Int32} {x2 : Int32} {x3 : Int32} {x4 : Int32} {s0 : Int32} {s1 : Int32} : F 1295 33 [some (.ref 49), some (.int x1), some (.int x2), some (.int x3), some (.int x4)] [.int s0, .int s1] (81, pt_G, I, L) =
    if s1 ≤ s0 then
      pm_k (F 1291 0 [some (.ref 49), some (.int x4)] [] (81, pt_G, I, L)) (fun v S => F 1295 42 [some (.ref 49), some (.int x1), some (.int x2), some (.int x3), some (.int x4)] (v.toList ++ []) S)
    else
      some (some (.int (-1)), (81, pt_G, I, L)) := pm_blk_to hF (pm_stp 1295 [0, 9, 22, 27, 33, 42]) 42 rfl
set_option maxRecDepth 20000 in
theorem e1295_42 (hF : pm_fix pt_me pt_Sg (pt_R L0 xs) F) {x1 : Int32} {x2 : Int32} {x3 : Int32} {x4 : Int32} {s0 : Int32} : F 1295 42 [some (.ref 49), some (.int x1), some (.int x2), some (.int x3), some (.int x4)] [.int s0] (81, pt_G, I, L) =
    if (s0 &&& x1) = x1 then
      if x3 = 0 then
        some (some (.int x4), (81, pt_G, I, L))
      else
        F 1295 27 [some (.ref 49), some (.int x1), some (.int x2), some (.int (x3 + (-1))), some (.int (x4 + 1))] [] (81, pt_G, I, L)
    else
      F 1295 27 [some (.ref 49), some (.int x1), some (.int x2), some (.int x3), some (.int (x4 + 1))] [] (81, pt_G, I, L) := pm_blk_to hF (pm_stp 1295 [0, 9, 22, 27, 33, 42]) 42 rfl
-- TurnCabinetModel.rival(I)I 49
set_option maxRecDepth 20000 in
theorem e1296_0 (hF : pm_fix pt_me pt_Sg (pt_R L0 xs) F) {x1 : Int32} : F 1296 0 [some (.ref 49), some (.int x1)] [] (81, pt_G, I, L) =
    pm_k (F 1248 0 [some (.ref 49), some (.int x1)] [] (81, pt_G, I, L)) (fun v S => F 1296 5 [some (.ref 49), some (.int x1)] (v.toList ++ []) S) := pm_blk_to hF (pm_stp 1296 [0, 5, 14]) 18 rfl
set_option maxRecDepth 20000 in
theorem e1296_5 (hF : pm_fix pt_me pt_Sg (pt_R L0 xs) F) {x1 : Int32} {s0 : Int32} : F 1296 5 [some (.ref 49), some (.int x1)] [.int s0] (81, pt_G, I, L) =
    if s0 = 0 then
      some (some (.int (-1)), (81, pt_G, I, L))
    else
      pm_k (F 1283 0 [some (.ref 49), none, none, none] [] (81, pt_G, I, L)) (fun v S => F 1296 14 [some (.ref 49), some (.int x1)] (v.toList ++ []) S) := pm_blk_to hF (pm_stp 1296 [0, 5, 14]) 18 rfl
set_option maxRecDepth 20000 in
theorem e1296_14 (hF : pm_fix pt_me pt_Sg (pt_R L0 xs) F) {x1 : Int32} : F 1296 14 [some (.ref 49), some (.int x1)] [] (81, pt_G, I, L) =
    bif pm_ib x1 128 then
      some (some (.int (I 75 (Int32.toNatClampNeg x1))), (81, pt_G, I, L))
    else none := pm_blk_to hF (pm_stp 1296 [0, 5, 14]) 18 rfl
-- TurnCabinetModel.beatsIt(II)Z 49
set_option maxRecDepth 20000 in
theorem e1297_0 (hF : pm_fix pt_me pt_Sg (pt_R L0 xs) F) {x1 : Int32} {x2 : Int32} : F 1297 0 [some (.ref 49), some (.int x1), some (.int x2), none, none] [] (81, pt_G, I, L) =
    F 1297 5 [some (.ref 49), some (.int x1), some (.int x2), some (.int 0), some (.int 0)] [] (81, pt_G, I, L) := pm_blk_to hF (pm_stp 1297 [0, 5, 48, 65]) 48 rfl
set_option maxRecDepth 20000 in
theorem e1297_5 (hF : pm_fix pt_me pt_Sg (pt_R L0 xs) F) {x1 : Int32} {x2 : Int32} {x3 : Int32} {x4 : Int32} : F 1297 5 [some (.ref 49), some (.int x1), some (.int x2), some (.int x3), some (.int x4)] [] (81, pt_G, I, L) =
    if x4 < (I 49 30) then
      bif pm_ib ((7 * x1) + x4) 896 then
        bif pm_ib ((7 * x2) + x4) 896 then
          if (I 74 (Int32.toNatClampNeg ((7 * x1) + x4))) < (I 74 (Int32.toNatClampNeg ((7 * x2) + x4))) then
            pm_k (F 1242 0 [some (.ref 49), some (.int x4)] [] (81, pt_G, I, L)) (fun v S => F 1297 48 [some (.ref 49), some (.int x1), some (.int x2), some (.int x3), some (.int x4)] (v.toList ++ [.int x3]) S)
          else
            F 1297 5 [some (.ref 49), some (.int x1), some (.int x2), some (.int (x3 + 0)), some (.int (x4 + 1))] [] (81, pt_G, I, L)
        else none
      else none
    else
      pm_k (F 1245 0 [some (.ref 49)] [] (81, pt_G, I, L)) (fun v S => F 1297 65 [some (.ref 49), some (.int x1), some (.int x2), some (.int x3), some (.int x4)] (v.toList ++ [.int x3]) S) := pm_blk_to hF (pm_stp 1297 [0, 5, 48, 65]) 48 rfl
set_option maxRecDepth 20000 in
theorem e1297_48 (hF : pm_fix pt_me pt_Sg (pt_R L0 xs) F) {x1 : Int32} {x2 : Int32} {x3 : Int32} {x4 : Int32} {s0 : Int32} {s1 : Int32} : F 1297 48 [some (.ref 49), some (.int x1), some (.int x2), some (.int x3), some (.int x4)] [.int s0, .int s1] (81, pt_G, I, L) =
    F 1297 5 [some (.ref 49), some (.int x1), some (.int x2), some (.int (s1 + s0)), some (.int (x4 + 1))] [] (81, pt_G, I, L) := pm_blk_to hF (pm_stp 1297 [0, 5, 48, 65]) 48 rfl
set_option maxRecDepth 20000 in
theorem e1297_65 (hF : pm_fix pt_me pt_Sg (pt_R L0 xs) F) {x1 : Int32} {x2 : Int32} {x3 : Int32} {x4 : Int32} {s0 : Int32} {s1 : Int32} : F 1297 65 [some (.ref 49), some (.int x1), some (.int x2), some (.int x3), some (.int x4)] [.int s0, .int s1] (81, pt_G, I, L) =
    if s1 < s0 then
      some (some (.int 0), (81, pt_G, I, L))
    else
      some (some (.int 1), (81, pt_G, I, L)) := pm_blk_to hF (pm_stp 1297 [0, 5, 48, 65]) 48 rfl
-- TurnCabinetModel.beats(II)I 49
set_option maxRecDepth 20000 in
theorem e1298_0 (hF : pm_fix pt_me pt_Sg (pt_R L0 xs) F) {x1 : Int32} {x2 : Int32} : F 1298 0 [some (.ref 49), some (.int x1), some (.int x2)] [] (81, pt_G, I, L) =
    pm_k (F 1248 0 [some (.ref 49), some (.int x1)] [] (81, pt_G, I, L)) (fun v S => F 1298 5 [some (.ref 49), some (.int x1), some (.int x2)] (v.toList ++ []) S) := pm_blk_to hF (pm_stp 1298 [0, 5, 13, 22, 28, 31]) 23 rfl
set_option maxRecDepth 20000 in
theorem e1298_5 (hF : pm_fix pt_me pt_Sg (pt_R L0 xs) F) {x1 : Int32} {x2 : Int32} {s0 : Int32} : F 1298 5 [some (.ref 49), some (.int x1), some (.int x2)] [.int s0] (81, pt_G, I, L) =
    if s0 = 0 then
      some (some (.int (-1)), (81, pt_G, I, L))
    else
      pm_k (F 1248 0 [some (.ref 49), some (.int x2)] [] (81, pt_G, I, L)) (fun v S => F 1298 13 [some (.ref 49), some (.int x1), some (.int x2)] (v.toList ++ []) S) := pm_blk_to hF (pm_stp 1298 [0, 5, 13, 22, 28, 31]) 23 rfl
set_option maxRecDepth 20000 in
theorem e1298_13 (hF : pm_fix pt_me pt_Sg (pt_R L0 xs) F) {x1 : Int32} {x2 : Int32} {s0 : Int32} : F 1298 13 [some (.ref 49), some (.int x1), some (.int x2)] [.int s0] (81, pt_G, I, L) =
    if s0 = 0 then
      some (some (.int (-1)), (81, pt_G, I, L))
    else
      pm_k (F 1283 0 [some (.ref 49), none, none, none] [] (81, pt_G, I, L)) (fun v S => F 1298 22 [some (.ref 49), some (.int x1), some (.int x2)] (v.toList ++ []) S) := pm_blk_to hF (pm_stp 1298 [0, 5, 13, 22, 28, 31]) 23 rfl
set_option maxRecDepth 20000 in
theorem e1298_22 (hF : pm_fix pt_me pt_Sg (pt_R L0 xs) F) {x1 : Int32} {x2 : Int32} : F 1298 22 [some (.ref 49), some (.int x1), some (.int x2)] [] (81, pt_G, I, L) =
    pm_k (F 1297 0 [some (.ref 49), some (.int x1), some (.int x2), none, none] [] (81, pt_G, I, L)) (fun v S => F 1298 28 [some (.ref 49), some (.int x1), some (.int x2)] (v.toList ++ []) S) := pm_blk_to hF (pm_stp 1298 [0, 5, 13, 22, 28, 31]) 23 rfl
set_option maxRecDepth 20000 in
theorem e1298_28 (hF : pm_fix pt_me pt_Sg (pt_R L0 xs) F) {x1 : Int32} {x2 : Int32} {s0 : Int32} : F 1298 28 [some (.ref 49), some (.int x1), some (.int x2)] [.int s0] (81, pt_G, I, L) =
    pm_k (F 1203 0 [some (.int s0)] [] (81, pt_G, I, L)) (fun v S => F 1298 31 [some (.ref 49), some (.int x1), some (.int x2)] (v.toList ++ []) S) := pm_blk_to hF (pm_stp 1298 [0, 5, 13, 22, 28, 31]) 23 rfl
set_option maxRecDepth 20000 in
theorem e1298_31 (hF : pm_fix pt_me pt_Sg (pt_R L0 xs) F) {x1 : Int32} {x2 : Int32} {s0 : Int32} : F 1298 31 [some (.ref 49), some (.int x1), some (.int x2)] [.int s0] (81, pt_G, I, L) =
    some (some (.int s0), (81, pt_G, I, L)) := pm_blk_to hF (pm_stp 1298 [0, 5, 13, 22, 28, 31]) 23 rfl
-- TurnCabinetModel.isUnbeaten(I)Z 49
set_option maxRecDepth 20000 in
theorem e1299_0 (hF : pm_fix pt_me pt_Sg (pt_R L0 xs) F) {x1 : Int32} : F 1299 0 [some (.ref 49), some (.int x1), none] [] (81, pt_G, I, L) =
    pm_k (F 1286 0 [some (.ref 49), some (.int x1)] [] (81, pt_G, I, L)) (fun v S => F 1299 5 [some (.ref 49), some (.int x1), none] (v.toList ++ []) S) := pm_blk_to hF (pm_stp 1299 [0, 5, 12, 17, 25, 34]) 32 rfl
set_option maxRecDepth 20000 in
theorem e1299_5 (hF : pm_fix pt_me pt_Sg (pt_R L0 xs) F) {x1 : Int32} {s0 : Int32} : F 1299 5 [some (.ref 49), some (.int x1), none] [.int s0] (81, pt_G, I, L) =
    if s0 = 0 then
      some (some (.int 0), (81, pt_G, I, L))
    else
      F 1299 12 [some (.ref 49), some (.int x1), some (.int 1)] [] (81, pt_G, I, L) := pm_blk_to hF (pm_stp 1299 [0, 5, 12, 17, 25, 34]) 32 rfl
set_option maxRecDepth 20000 in
theorem e1299_12 (hF : pm_fix pt_me pt_Sg (pt_R L0 xs) F) {x1 : Int32} {x2 : Int32} : F 1299 12 [some (.ref 49), some (.int x1), some (.int x2)] [] (81, pt_G, I, L) =
    pm_k (F 1244 0 [some (.ref 49)] [] (81, pt_G, I, L)) (fun v S => F 1299 17 [some (.ref 49), some (.int x1), some (.int x2)] (v.toList ++ [.int x2]) S) := pm_blk_to hF (pm_stp 1299 [0, 5, 12, 17, 25, 34]) 32 rfl
set_option maxRecDepth 20000 in
theorem e1299_17 (hF : pm_fix pt_me pt_Sg (pt_R L0 xs) F) {x1 : Int32} {x2 : Int32} {s0 : Int32} {s1 : Int32} : F 1299 17 [some (.ref 49), some (.int x1), some (.int x2)] [.int s0, .int s1] (81, pt_G, I, L) =
    if s1 ≤ s0 then
      pm_k (F 1286 0 [some (.ref 49), some (.int x2)] [] (81, pt_G, I, L)) (fun v S => F 1299 25 [some (.ref 49), some (.int x1), some (.int x2)] (v.toList ++ []) S)
    else
      some (some (.int 1), (81, pt_G, I, L)) := pm_blk_to hF (pm_stp 1299 [0, 5, 12, 17, 25, 34]) 32 rfl
set_option maxRecDepth 20000 in
theorem e1299_25 (hF : pm_fix pt_me pt_Sg (pt_R L0 xs) F) {x1 : Int32} {x2 : Int32} {s0 : Int32} : F 1299 25 [some (.ref 49), some (.int x1), some (.int x2)] [.int s0] (81, pt_G, I, L) =
    if s0 = 0 then
      F 1299 12 [some (.ref 49), some (.int x1), some (.int (x2 + 1))] [] (81, pt_G, I, L)
    else
      pm_k (F 1297 0 [some (.ref 49), some (.int x2), some (.int x1), none, none] [] (81, pt_G, I, L)) (fun v S => F 1299 34 [some (.ref 49), some (.int x1), some (.int x2)] (v.toList ++ []) S) := pm_blk_to hF (pm_stp 1299 [0, 5, 12, 17, 25, 34]) 32 rfl
set_option maxRecDepth 20000 in
theorem e1299_34 (hF : pm_fix pt_me pt_Sg (pt_R L0 xs) F) {x1 : Int32} {x2 : Int32} {s0 : Int32} : F 1299 34 [some (.ref 49), some (.int x1), some (.int x2)] [.int s0] (81, pt_G, I, L) =
    if s0 = 0 then
      F 1299 12 [some (.ref 49), some (.int x1), some (.int (x2 + 1))] [] (81, pt_G, I, L)
    else
      some (some (.int 0), (81, pt_G, I, L)) := pm_blk_to hF (pm_stp 1299 [0, 5, 12, 17, 25, 34]) 32 rfl
-- TurnCabinetModel.unbeaten(I)I 49
set_option maxRecDepth 20000 in
theorem e1300_0 (hF : pm_fix pt_me pt_Sg (pt_R L0 xs) F) {x1 : Int32} : F 1300 0 [some (.ref 49), some (.int x1), none, none] [] (81, pt_G, I, L) =
    pm_k (F 1283 0 [some (.ref 49), none, none, none] [] (81, pt_G, I, L)) (fun v S => F 1300 4 [some (.ref 49), some (.int x1), none, none] (v.toList ++ []) S) := pm_blk_to hF (pm_stp 1300 [0, 4, 8, 13, 21]) 35 rfl
set_option maxRecDepth 20000 in
theorem e1300_4 (hF : pm_fix pt_me pt_Sg (pt_R L0 xs) F) {x1 : Int32} : F 1300 4 [some (.ref 49), some (.int x1), none, none] [] (81, pt_G, I, L) =
    F 1300 8 [some (.ref 49), some (.int x1), some (.int 0), some (.int 1)] [] (81, pt_G, I, L) := pm_blk_to hF (pm_stp 1300 [0, 4, 8, 13, 21]) 35 rfl
set_option maxRecDepth 20000 in
theorem e1300_8 (hF : pm_fix pt_me pt_Sg (pt_R L0 xs) F) {x1 : Int32} {x2 : Int32} {x3 : Int32} : F 1300 8 [some (.ref 49), some (.int x1), some (.int x2), some (.int x3)] [] (81, pt_G, I, L) =
    pm_k (F 1244 0 [some (.ref 49)] [] (81, pt_G, I, L)) (fun v S => F 1300 13 [some (.ref 49), some (.int x1), some (.int x2), some (.int x3)] (v.toList ++ [.int x3]) S) := pm_blk_to hF (pm_stp 1300 [0, 4, 8, 13, 21]) 35 rfl
set_option maxRecDepth 20000 in
theorem e1300_13 (hF : pm_fix pt_me pt_Sg (pt_R L0 xs) F) {x1 : Int32} {x2 : Int32} {x3 : Int32} {s0 : Int32} {s1 : Int32} : F 1300 13 [some (.ref 49), some (.int x1), some (.int x2), some (.int x3)] [.int s0, .int s1] (81, pt_G, I, L) =
    if s1 ≤ s0 then
      pm_k (F 1299 0 [some (.ref 49), some (.int x3), none] [] (81, pt_G, I, L)) (fun v S => F 1300 21 [some (.ref 49), some (.int x1), some (.int x2), some (.int x3)] (v.toList ++ []) S)
    else
      if x1 = (-1) then
        some (some (.int x2), (81, pt_G, I, L))
      else
        some (some (.int (-1)), (81, pt_G, I, L)) := pm_blk_to hF (pm_stp 1300 [0, 4, 8, 13, 21]) 35 rfl
set_option maxRecDepth 20000 in
theorem e1300_21 (hF : pm_fix pt_me pt_Sg (pt_R L0 xs) F) {x1 : Int32} {x2 : Int32} {x3 : Int32} {s0 : Int32} : F 1300 21 [some (.ref 49), some (.int x1), some (.int x2), some (.int x3)] [.int s0] (81, pt_G, I, L) =
    if s0 = 0 then
      F 1300 8 [some (.ref 49), some (.int x1), some (.int x2), some (.int (x3 + 1))] [] (81, pt_G, I, L)
    else
      if x2 = x1 then
        some (some (.int x3), (81, pt_G, I, L))
      else
        F 1300 8 [some (.ref 49), some (.int x1), some (.int (x2 + 1)), some (.int (x3 + 1))] [] (81, pt_G, I, L) := pm_blk_to hF (pm_stp 1300 [0, 4, 8, 13, 21]) 35 rfl
-- TurnCabinetModel.enough(II)I 49
set_option maxRecDepth 20000 in
theorem e1301_0 (hF : pm_fix pt_me pt_Sg (pt_R L0 xs) F) {x1 : Int32} {x2 : Int32} : F 1301 0 [some (.ref 49), some (.int x1), some (.int x2), none, none, none] [] (81, pt_G, I, L) =
    pm_k (F 1248 0 [some (.ref 49), some (.int x1)] [] (81, pt_G, I, L)) (fun v S => F 1301 5 [some (.ref 49), some (.int x1), some (.int x2), none, none, none] (v.toList ++ []) S) := pm_blk_to hF (pm_stp 1301 [0, 5, 13, 21, 31, 36, 43, 46, 51, 57]) 65 rfl
set_option maxRecDepth 20000 in
theorem e1301_5 (hF : pm_fix pt_me pt_Sg (pt_R L0 xs) F) {x1 : Int32} {x2 : Int32} {s0 : Int32} : F 1301 5 [some (.ref 49), some (.int x1), some (.int x2), none, none, none] [.int s0] (81, pt_G, I, L) =
    if s0 = 0 then
      some (some (.int (-1)), (81, pt_G, I, L))
    else
      pm_k (F 1246 0 [some (.ref 49), some (.int x2)] [] (81, pt_G, I, L)) (fun v S => F 1301 13 [some (.ref 49), some (.int x1), some (.int x2), none, none, none] (v.toList ++ []) S) := pm_blk_to hF (pm_stp 1301 [0, 5, 13, 21, 31, 36, 43, 46, 51, 57]) 65 rfl
set_option maxRecDepth 20000 in
theorem e1301_13 (hF : pm_fix pt_me pt_Sg (pt_R L0 xs) F) {x1 : Int32} {x2 : Int32} {s0 : Int32} : F 1301 13 [some (.ref 49), some (.int x1), some (.int x2), none, none, none] [.int s0] (81, pt_G, I, L) =
    if s0 = 0 then
      some (some (.int (-1)), (81, pt_G, I, L))
    else
      pm_k (F 1205 0 [some (.int x1), some (.int x2)] [] (81, pt_G, I, L)) (fun v S => F 1301 21 [some (.ref 49), some (.int x1), some (.int x2), none, none, none] (v.toList ++ []) S) := pm_blk_to hF (pm_stp 1301 [0, 5, 13, 21, 31, 36, 43, 46, 51, 57]) 65 rfl
set_option maxRecDepth 20000 in
theorem e1301_21 (hF : pm_fix pt_me pt_Sg (pt_R L0 xs) F) {x1 : Int32} {x2 : Int32} {s0 : Int32} : F 1301 21 [some (.ref 49), some (.int x1), some (.int x2), none, none, none] [.int s0] (81, pt_G, I, L) =
    if s0 = 0 then
      some (some (.int (-1)), (81, pt_G, I, L))
    else
      pm_k (F 1243 0 [some (.ref 49), some (.int x1), none, none] [] (81, pt_G, I, L)) (fun v S => F 1301 31 [some (.ref 49), some (.int x1), some (.int x2), none, none, none] (v.toList ++ []) S) := pm_blk_to hF (pm_stp 1301 [0, 5, 13, 21, 31, 36, 43, 46, 51, 57]) 65 rfl
set_option maxRecDepth 20000 in
theorem e1301_31 (hF : pm_fix pt_me pt_Sg (pt_R L0 xs) F) {x1 : Int32} {x2 : Int32} {s0 : Int32} : F 1301 31 [some (.ref 49), some (.int x1), some (.int x2), none, none, none] [.int s0] (81, pt_G, I, L) =
    pm_k (F 1242 0 [some (.ref 49), some (.int x2)] [] (81, pt_G, I, L)) (fun v S => F 1301 36 [some (.ref 49), some (.int x1), some (.int x2), none, none, none] (v.toList ++ [.int s0]) S) := pm_blk_to hF (pm_stp 1301 [0, 5, 13, 21, 31, 36, 43, 46, 51, 57]) 65 rfl
set_option maxRecDepth 20000 in
theorem e1301_36 (hF : pm_fix pt_me pt_Sg (pt_R L0 xs) F) {x1 : Int32} {x2 : Int32} {s0 : Int32} {s1 : Int32} : F 1301 36 [some (.ref 49), some (.int x1), some (.int x2), none, none, none] [.int s0, .int s1] (81, pt_G, I, L) =
    pm_k (F 1244 0 [some (.ref 49)] [] (81, pt_G, I, L)) (fun v S => F 1301 43 [some (.ref 49), some (.int x1), some (.int x2), some (.int (s1 - s0)), none, none] (v.toList ++ [.ref 49]) S) := pm_blk_to hF (pm_stp 1301 [0, 5, 13, 21, 31, 36, 43, 46, 51, 57]) 65 rfl
set_option maxRecDepth 20000 in
theorem e1301_43 (hF : pm_fix pt_me pt_Sg (pt_R L0 xs) F) {x1 : Int32} {x2 : Int32} {x3 : Int32} {s0 : Int32} : F 1301 43 [some (.ref 49), some (.int x1), some (.int x2), some (.int x3), none, none] [.int s0, .ref 49] (81, pt_G, I, L) =
    pm_k (F 1243 0 [some (.ref 49), some (.int s0), none, none] [] (81, pt_G, I, L)) (fun v S => F 1301 46 [some (.ref 49), some (.int x1), some (.int x2), some (.int x3), none, none] (v.toList ++ []) S) := pm_blk_to hF (pm_stp 1301 [0, 5, 13, 21, 31, 36, 43, 46, 51, 57]) 65 rfl
set_option maxRecDepth 20000 in
theorem e1301_46 (hF : pm_fix pt_me pt_Sg (pt_R L0 xs) F) {x1 : Int32} {x2 : Int32} {x3 : Int32} {s0 : Int32} : F 1301 46 [some (.ref 49), some (.int x1), some (.int x2), some (.int x3), none, none] [.int s0] (81, pt_G, I, L) =
    pm_k (F 1242 0 [some (.ref 49), some (.int x2)] [] (81, pt_G, I, L)) (fun v S => F 1301 51 [some (.ref 49), some (.int x1), some (.int x2), some (.int x3), none, none] (v.toList ++ [.int s0]) S) := pm_blk_to hF (pm_stp 1301 [0, 5, 13, 21, 31, 36, 43, 46, 51, 57]) 65 rfl
set_option maxRecDepth 20000 in
theorem e1301_51 (hF : pm_fix pt_me pt_Sg (pt_R L0 xs) F) {x1 : Int32} {x2 : Int32} {x3 : Int32} {s0 : Int32} {s1 : Int32} : F 1301 51 [some (.ref 49), some (.int x1), some (.int x2), some (.int x3), none, none] [.int s0, .int s1] (81, pt_G, I, L) =
    F 1301 57 [some (.ref 49), some (.int x1), some (.int x2), some (.int x3), some (.int (s1 - s0)), some (.int 1)] [] (81, pt_G, I, L) := pm_blk_to hF (pm_stp 1301 [0, 5, 13, 21, 31, 36, 43, 46, 51, 57]) 65 rfl
set_option maxRecDepth 20000 in
theorem e1301_57 (hF : pm_fix pt_me pt_Sg (pt_R L0 xs) F) {x1 : Int32} {x2 : Int32} {x3 : Int32} {x4 : Int32} {x5 : Int32} : F 1301 57 [some (.ref 49), some (.int x1), some (.int x2), some (.int x3), some (.int x4), some (.int x5)] [] (81, pt_G, I, L) =
    if x5 ≤ 999 then
      if (I 49 34) = (-1) then
        bif !(decide (2 = 0)) then
          if (x3 + x5) < (((x4 + x5) / 2) + 1) then
            F 1301 57 [some (.ref 49), some (.int x1), some (.int x2), some (.int x3), some (.int x4), some (.int (x5 + 1))] [] (81, pt_G, I, L)
          else
            some (some (.int x5), (81, pt_G, I, L))
        else none
      else
        if (x3 + x5) < (I 49 34) then
          F 1301 57 [some (.ref 49), some (.int x1), some (.int x2), some (.int x3), some (.int x4), some (.int (x5 + 1))] [] (81, pt_G, I, L)
        else
          some (some (.int x5), (81, pt_G, I, L))
    else
      some (some (.int (-1)), (81, pt_G, I, L)) := pm_blk_to hF (pm_stp 1301 [0, 5, 13, 21, 31, 36, 43, 46, 51, 57]) 65 rfl
-- TurnCabinetModel.span(I)I 49
set_option maxRecDepth 20000 in
theorem e1302_0 (hF : pm_fix pt_me pt_Sg (pt_R L0 xs) F) {x1 : Int32} : F 1302 0 [some (.ref 49), some (.int x1), none, none, none] [] (81, pt_G, I, L) =
    pm_k (F 1248 0 [some (.ref 49), some (.int x1)] [] (81, pt_G, I, L)) (fun v S => F 1302 5 [some (.ref 49), some (.int x1), none, none, none] (v.toList ++ []) S) := pm_blk_to hF (pm_stp 1302 [0, 5, 18, 33, 73]) 52 rfl
set_option maxRecDepth 20000 in
theorem e1302_5 (hF : pm_fix pt_me pt_Sg (pt_R L0 xs) F) {x1 : Int32} {s0 : Int32} : F 1302 5 [some (.ref 49), some (.int x1), none, none, none] [.int s0] (81, pt_G, I, L) =
    if s0 = 0 then
      some (some (.int (-1)), (81, pt_G, I, L))
    else
      F 1302 18 [some (.ref 49), some (.int x1), some (.int 99), some (.int 0), some (.int 0)] [] (81, pt_G, I, L) := pm_blk_to hF (pm_stp 1302 [0, 5, 18, 33, 73]) 52 rfl
set_option maxRecDepth 20000 in
theorem e1302_18 (hF : pm_fix pt_me pt_Sg (pt_R L0 xs) F) {x1 : Int32} {x2 : Int32} {x3 : Int32} {x4 : Int32} : F 1302 18 [some (.ref 49), some (.int x1), some (.int x2), some (.int x3), some (.int x4)] [] (81, pt_G, I, L) =
    if x4 < (I 49 30) then
      pm_k (F 1205 0 [some (.int x1), some (.int x4)] [] (81, pt_G, I, L)) (fun v S => F 1302 33 [some (.ref 49), some (.int x1), some (.int x2), some (.int x3), some (.int x4)] (v.toList ++ []) S)
    else
      some (some (.int (x3 - x2)), (81, pt_G, I, L)) := pm_blk_to hF (pm_stp 1302 [0, 5, 18, 33, 73]) 52 rfl
set_option maxRecDepth 20000 in
theorem e1302_33 (hF : pm_fix pt_me pt_Sg (pt_R L0 xs) F) {x1 : Int32} {x2 : Int32} {x3 : Int32} {x4 : Int32} {s0 : Int32} : F 1302 33 [some (.ref 49), some (.int x1), some (.int x2), some (.int x3), some (.int x4)] [.int s0] (81, pt_G, I, L) =
    if s0 = 0 then
      F 1302 18 [some (.ref 49), some (.int x1), some (.int x2), some (.int x3), some (.int (x4 + 1))] [] (81, pt_G, I, L)
    else
      bif pm_ib x4 7 then
        if (I 59 (Int32.toNatClampNeg x4)) < x2 then
          bif pm_ib x4 7 then
            bif pm_ib x4 7 then
              pm_k (F 1204 0 [some (.int x3), some (.int (I 59 (Int32.toNatClampNeg x4)))] [] (81, pt_G, I, L)) (fun v S => F 1302 73 [some (.ref 49), some (.int x1), some (.int (I 59 (Int32.toNatClampNeg x4))), some (.int x3), some (.int x4)] (v.toList ++ []) S)
            else none
          else none
        else
          bif pm_ib x4 7 then
            pm_k (F 1204 0 [some (.int x3), some (.int (I 59 (Int32.toNatClampNeg x4)))] [] (81, pt_G, I, L)) (fun v S => F 1302 73 [some (.ref 49), some (.int x1), some (.int x2), some (.int x3), some (.int x4)] (v.toList ++ []) S)
          else none
      else none := pm_blk_to hF (pm_stp 1302 [0, 5, 18, 33, 73]) 52 rfl
set_option maxRecDepth 20000 in
theorem e1302_73 (hF : pm_fix pt_me pt_Sg (pt_R L0 xs) F) {x1 : Int32} {x2 : Int32} {x3 : Int32} {x4 : Int32} {s0 : Int32} : F 1302 73 [some (.ref 49), some (.int x1), some (.int x2), some (.int x3), some (.int x4)] [.int s0] (81, pt_G, I, L) =
    F 1302 18 [some (.ref 49), some (.int x1), some (.int x2), some (.int s0), some (.int (x4 + 1))] [] (81, pt_G, I, L) := pm_blk_to hF (pm_stp 1302 [0, 5, 18, 33, 73]) 52 rfl
-- TurnCabinetModel.median()I 49
set_option maxRecDepth 20000 in
theorem e1303_0 (hF : pm_fix pt_me pt_Sg (pt_R L0 xs) F) : F 1303 0 [some (.ref 49), none, none, none, none] [] (81, pt_G, I, L) =
    pm_k (F 1244 0 [some (.ref 49)] [] (81, pt_G, I, L)) (fun v S => F 1303 7 [some (.ref 49), some (.int 0), none, none, none] (v.toList ++ [.ref 49]) S) := pm_blk_to hF (pm_stp 1303 [0, 7, 10, 13, 22, 52]) 49 rfl
set_option maxRecDepth 20000 in
theorem e1303_7 (hF : pm_fix pt_me pt_Sg (pt_R L0 xs) F) {x1 : Int32} {s0 : Int32} : F 1303 7 [some (.ref 49), some (.int x1), none, none, none] [.int s0, .ref 49] (81, pt_G, I, L) =
    pm_k (F 1243 0 [some (.ref 49), some (.int s0), none, none] [] (81, pt_G, I, L)) (fun v S => F 1303 10 [some (.ref 49), some (.int x1), none, none, none] (v.toList ++ []) S) := pm_blk_to hF (pm_stp 1303 [0, 7, 10, 13, 22, 52]) 49 rfl
set_option maxRecDepth 20000 in
theorem e1303_10 (hF : pm_fix pt_me pt_Sg (pt_R L0 xs) F) {x1 : Int32} {s0 : Int32} : F 1303 10 [some (.ref 49), some (.int x1), none, none, none] [.int s0] (81, pt_G, I, L) =
    F 1303 13 [some (.ref 49), some (.int x1), some (.int s0), some (.int 0), none] [] (81, pt_G, I, L) := pm_blk_to hF (pm_stp 1303 [0, 7, 10, 13, 22, 52]) 49 rfl
set_option maxRecDepth 20000 in
theorem e1303_13 (hF : pm_fix pt_me pt_Sg (pt_R L0 xs) F) {x1 : Int32} {x2 : Int32} {x3 : Int32} : F 1303 13 [some (.ref 49), some (.int x1), some (.int x2), some (.int x3), none] [] (81, pt_G, I, L) =
    if x3 ≤ 99 then
      F 1303 22 [some (.ref 49), some (.int x1), some (.int x2), some (.int x3), some (.int 0)] [] (81, pt_G, I, L)
    else
      some (some (.int (-1)), (81, pt_G, I, L)) := pm_blk_to hF (pm_stp 1303 [0, 7, 10, 13, 22, 52]) 49 rfl
set_option maxRecDepth 20000 in
theorem e1303_22 (hF : pm_fix pt_me pt_Sg (pt_R L0 xs) F) {x1 : Int32} {x2 : Int32} {x3 : Int32} {x4 : Int32} : F 1303 22 [some (.ref 49), some (.int x1), some (.int x2), some (.int x3), some (.int x4)] [] (81, pt_G, I, L) =
    if x4 < (I 49 30) then
      bif pm_ib x4 7 then
        if (I 59 (Int32.toNatClampNeg x4)) = x3 then
          pm_k (F 1242 0 [some (.ref 49), some (.int x4)] [] (81, pt_G, I, L)) (fun v S => F 1303 52 [some (.ref 49), some (.int x1), some (.int x2), some (.int x3), some (.int x4)] (v.toList ++ [.int x1]) S)
        else
          F 1303 22 [some (.ref 49), some (.int x1), some (.int x2), some (.int x3), some (.int (x4 + 1))] [] (81, pt_G, I, L)
      else none
    else
      F 1303 13 [some (.ref 49), some (.int x1), some (.int x2), some (.int (x3 + 1)), none] [] (81, pt_G, I, L) := pm_blk_to hF (pm_stp 1303 [0, 7, 10, 13, 22, 52]) 49 rfl
set_option maxRecDepth 20000 in
theorem e1303_52 (hF : pm_fix pt_me pt_Sg (pt_R L0 xs) F) {x1 : Int32} {x2 : Int32} {x3 : Int32} {x4 : Int32} {s0 : Int32} {s1 : Int32} : F 1303 52 [some (.ref 49), some (.int x1), some (.int x2), some (.int x3), some (.int x4)] [.int s0, .int s1] (81, pt_G, I, L) =
    if (2 * (s1 + s0)) < x2 then
      F 1303 22 [some (.ref 49), some (.int (s1 + s0)), some (.int x2), some (.int x3), some (.int (x4 + 1))] [] (81, pt_G, I, L)
    else
      some (some (.int x4), (81, pt_G, I, L)) := pm_blk_to hF (pm_stp 1303 [0, 7, 10, 13, 22, 52]) 49 rfl
-- TurnCabinetModel.needed(I)I 49
set_option maxRecDepth 20000 in
theorem e1304_0 (hF : pm_fix pt_me pt_Sg (pt_R L0 xs) F) {x1 : Int32} : F 1304 0 [some (.ref 49), some (.int x1), none, none] [] (81, pt_G, I, L) =
    pm_k (F 1246 0 [some (.ref 49), some (.int x1)] [] (81, pt_G, I, L)) (fun v S => F 1304 5 [some (.ref 49), some (.int x1), none, none] (v.toList ++ []) S) := pm_blk_to hF (pm_stp 1304 [0, 5, 14, 19, 28, 36, 50, 61]) 48 rfl
set_option maxRecDepth 20000 in
theorem e1304_5 (hF : pm_fix pt_me pt_Sg (pt_R L0 xs) F) {x1 : Int32} {s0 : Int32} : F 1304 5 [some (.ref 49), some (.int x1), none, none] [.int s0] (81, pt_G, I, L) =
    if s0 = 0 then
      some (some (.int (-1)), (81, pt_G, I, L))
    else
      F 1304 14 [some (.ref 49), some (.int x1), some (.int 0), some (.int 1)] [] (81, pt_G, I, L) := pm_blk_to hF (pm_stp 1304 [0, 5, 14, 19, 28, 36, 50, 61]) 48 rfl
set_option maxRecDepth 20000 in
theorem e1304_14 (hF : pm_fix pt_me pt_Sg (pt_R L0 xs) F) {x1 : Int32} {x2 : Int32} {x3 : Int32} : F 1304 14 [some (.ref 49), some (.int x1), some (.int x2), some (.int x3)] [] (81, pt_G, I, L) =
    pm_k (F 1244 0 [some (.ref 49)] [] (81, pt_G, I, L)) (fun v S => F 1304 19 [some (.ref 49), some (.int x1), some (.int x2), some (.int x3)] (v.toList ++ [.int x3]) S) := pm_blk_to hF (pm_stp 1304 [0, 5, 14, 19, 28, 36, 50, 61]) 48 rfl
set_option maxRecDepth 20000 in
theorem e1304_19 (hF : pm_fix pt_me pt_Sg (pt_R L0 xs) F) {x1 : Int32} {x2 : Int32} {x3 : Int32} {s0 : Int32} {s1 : Int32} : F 1304 19 [some (.ref 49), some (.int x1), some (.int x2), some (.int x3)] [.int s0, .int s1] (81, pt_G, I, L) =
    if s1 ≤ s0 then
      pm_k (F 1205 0 [some (.int x3), some (.int x1)] [] (81, pt_G, I, L)) (fun v S => F 1304 28 [some (.ref 49), some (.int x1), some (.int x2), some (.int x3)] (v.toList ++ [.int x2]) S)
    else
      some (some (.int x2), (81, pt_G, I, L)) := pm_blk_to hF (pm_stp 1304 [0, 5, 14, 19, 28, 36, 50, 61]) 48 rfl
set_option maxRecDepth 20000 in
theorem e1304_28 (hF : pm_fix pt_me pt_Sg (pt_R L0 xs) F) {x1 : Int32} {x2 : Int32} {x3 : Int32} {s0 : Int32} {s1 : Int32} : F 1304 28 [some (.ref 49), some (.int x1), some (.int x2), some (.int x3)] [.int s0, .int s1] (81, pt_G, I, L) =
    if s0 = 0 then
      pm_k (F 1203 0 [some (.int 0)] [] (81, pt_G, I, L)) (fun v S => F 1304 61 [some (.ref 49), some (.int x1), some (.int x2), some (.int x3)] (v.toList ++ [.int s1]) S)
    else
      pm_k (F 1284 0 [some (.ref 49), some (.int x3)] [] (81, pt_G, I, L)) (fun v S => F 1304 36 [some (.ref 49), some (.int x1), some (.int x2), some (.int x3)] (v.toList ++ [.int s1]) S) := pm_blk_to hF (pm_stp 1304 [0, 5, 14, 19, 28, 36, 50, 61]) 48 rfl
set_option maxRecDepth 20000 in
theorem e1304_36 (hF : pm_fix pt_me pt_Sg (pt_R L0 xs) F) {x1 : Int32} {x2 : Int32} {x3 : Int32} {s0 : Int32} {s1 : Int32} : F 1304 36 [some (.ref 49), some (.int x1), some (.int x2), some (.int x3)] [.int s0, .int s1] (81, pt_G, I, L) =
    if s0 = 0 then
      pm_k (F 1203 0 [some (.int 0)] [] (81, pt_G, I, L)) (fun v S => F 1304 61 [some (.ref 49), some (.int x1), some (.int x2), some (.int x3)] (v.toList ++ [.int s1]) S)
    else
      pm_k (F 1284 0 [some (.ref 49), some (.int (x3 &&& (((1 : Int32) <<< (x1 &&& 31)) ^^^ (-1))))] [] (81, pt_G, I, L)) (fun v S => F 1304 50 [some (.ref 49), some (.int x1), some (.int x2), some (.int x3)] (v.toList ++ [.int s1]) S) := pm_blk_to hF (pm_stp 1304 [0, 5, 14, 19, 28, 36, 50, 61]) 48 rfl
set_option maxRecDepth 20000 in
theorem e1304_50 (hF : pm_fix pt_me pt_Sg (pt_R L0 xs) F) {x1 : Int32} {x2 : Int32} {x3 : Int32} {s0 : Int32} {s1 : Int32} : F 1304 50 [some (.ref 49), some (.int x1), some (.int x2), some (.int x3)] [.int s0, .int s1] (81, pt_G, I, L) =
    if s0 = 0 then
      pm_k (F 1203 0 [some (.int 1)] [] (81, pt_G, I, L)) (fun v S => F 1304 61 [some (.ref 49), some (.int x1), some (.int x2), some (.int x3)] (v.toList ++ [.int s1]) S)
    else
      pm_k (F 1203 0 [some (.int 0)] [] (81, pt_G, I, L)) (fun v S => F 1304 61 [some (.ref 49), some (.int x1), some (.int x2), some (.int x3)] (v.toList ++ [.int s1]) S) := pm_blk_to hF (pm_stp 1304 [0, 5, 14, 19, 28, 36, 50, 61]) 48 rfl
set_option maxRecDepth 20000 in
theorem e1304_61 (hF : pm_fix pt_me pt_Sg (pt_R L0 xs) F) {x1 : Int32} {x2 : Int32} {x3 : Int32} {s0 : Int32} {s1 : Int32} : F 1304 61 [some (.ref 49), some (.int x1), some (.int x2), some (.int x3)] [.int s0, .int s1] (81, pt_G, I, L) =
    F 1304 14 [some (.ref 49), some (.int x1), some (.int (s1 + s0)), some (.int (x3 + 1))] [] (81, pt_G, I, L) := pm_blk_to hF (pm_stp 1304 [0, 5, 14, 19, 28, 36, 50, 61]) 48 rfl
-- TurnCabinetModel.orders(I)I 
set_option maxRecDepth 20000 in
theorem e1305_0 (hF : pm_fix pt_me pt_Sg (pt_R L0 xs) F) {x0 : Int32} : F 1305 0 [some (.int x0), none, none] [] (81, pt_G, I, L) =
    F 1305 4 [some (.int x0), some (.int 1), some (.int 2)] [] (81, pt_G, I, L) := pm_blk_to hF (pm_stp 1305 [0, 4]) 20 rfl
set_option maxRecDepth 20000 in
theorem e1305_4 (hF : pm_fix pt_me pt_Sg (pt_R L0 xs) F) {x0 : Int32} {x1 : Int32} {x2 : Int32} : F 1305 4 [some (.int x0), some (.int x1), some (.int x2)] [] (81, pt_G, I, L) =
    if x2 ≤ x0 then
      F 1305 4 [some (.int x0), some (.int (x1 * x2)), some (.int (x2 + 1))] [] (81, pt_G, I, L)
    else
      some (some (.int x1), (81, pt_G, I, L)) := pm_blk_to hF (pm_stp 1305 [0, 4]) 20 rfl
-- TurnCabinetModel.pivot(I)I 49
set_option maxRecDepth 20000 in
theorem e1306_0 (hF : pm_fix pt_me pt_Sg (pt_R L0 xs) F) {x1 : Int32} : F 1306 0 [some (.ref 49), some (.int x1), none, none] [] (81, pt_G, I, L) =
    pm_k (F 1246 0 [some (.ref 49), some (.int x1)] [] (81, pt_G, I, L)) (fun v S => F 1306 5 [some (.ref 49), some (.int x1), none, none] (v.toList ++ []) S) := pm_blk_to hF (pm_stp 1306 [0, 5, 14, 19, 27, 35, 47, 55, 58, 68, 72]) 54 rfl
set_option maxRecDepth 20000 in
theorem e1306_5 (hF : pm_fix pt_me pt_Sg (pt_R L0 xs) F) {x1 : Int32} {s0 : Int32} : F 1306 5 [some (.ref 49), some (.int x1), none, none] [.int s0] (81, pt_G, I, L) =
    if s0 = 0 then
      some (some (.int (-1)), (81, pt_G, I, L))
    else
      F 1306 14 [some (.ref 49), some (.int x1), some (.int 0), some (.int 0)] [] (81, pt_G, I, L) := pm_blk_to hF (pm_stp 1306 [0, 5, 14, 19, 27, 35, 47, 55, 58, 68, 72]) 54 rfl
set_option maxRecDepth 20000 in
theorem e1306_14 (hF : pm_fix pt_me pt_Sg (pt_R L0 xs) F) {x1 : Int32} {x2 : Int32} {x3 : Int32} : F 1306 14 [some (.ref 49), some (.int x1), some (.int x2), some (.int x3)] [] (81, pt_G, I, L) =
    pm_k (F 1244 0 [some (.ref 49)] [] (81, pt_G, I, L)) (fun v S => F 1306 19 [some (.ref 49), some (.int x1), some (.int x2), some (.int x3)] (v.toList ++ [.int x3]) S) := pm_blk_to hF (pm_stp 1306 [0, 5, 14, 19, 27, 35, 47, 55, 58, 68, 72]) 54 rfl
set_option maxRecDepth 20000 in
theorem e1306_19 (hF : pm_fix pt_me pt_Sg (pt_R L0 xs) F) {x1 : Int32} {x2 : Int32} {x3 : Int32} {s0 : Int32} {s1 : Int32} : F 1306 19 [some (.ref 49), some (.int x1), some (.int x2), some (.int x3)] [.int s0, .int s1] (81, pt_G, I, L) =
    if s1 ≤ s0 then
      pm_k (F 1205 0 [some (.int x3), some (.int x1)] [] (81, pt_G, I, L)) (fun v S => F 1306 27 [some (.ref 49), some (.int x1), some (.int x2), some (.int x3)] (v.toList ++ []) S)
    else
      some (some (.int x2), (81, pt_G, I, L)) := pm_blk_to hF (pm_stp 1306 [0, 5, 14, 19, 27, 35, 47, 55, 58, 68, 72]) 54 rfl
set_option maxRecDepth 20000 in
theorem e1306_27 (hF : pm_fix pt_me pt_Sg (pt_R L0 xs) F) {x1 : Int32} {x2 : Int32} {x3 : Int32} {s0 : Int32} : F 1306 27 [some (.ref 49), some (.int x1), some (.int x2), some (.int x3)] [.int s0] (81, pt_G, I, L) =
    if s0 = 0 then
      pm_k (F 1284 0 [some (.ref 49), some (.int x3)] [] (81, pt_G, I, L)) (fun v S => F 1306 35 [some (.ref 49), some (.int x1), some (.int x2), some (.int x3)] (v.toList ++ []) S)
    else
      F 1306 14 [some (.ref 49), some (.int x1), some (.int x2), some (.int (x3 + 1))] [] (81, pt_G, I, L) := pm_blk_to hF (pm_stp 1306 [0, 5, 14, 19, 27, 35, 47, 55, 58, 68, 72]) 54 rfl
set_option maxRecDepth 20000 in
theorem e1306_35 (hF : pm_fix pt_me pt_Sg (pt_R L0 xs) F) {x1 : Int32} {x2 : Int32} {x3 : Int32} {s0 : Int32} : F 1306 35 [some (.ref 49), some (.int x1), some (.int x2), some (.int x3)] [.int s0] (81, pt_G, I, L) =
    if s0 = 0 then
      pm_k (F 1284 0 [some (.ref 49), some (.int (x3 ||| ((1 : Int32) <<< (x1 &&& 31))))] [] (81, pt_G, I, L)) (fun v S => F 1306 47 [some (.ref 49), some (.int x1), some (.int x2), some (.int x3)] (v.toList ++ []) S)
    else
      F 1306 14 [some (.ref 49), some (.int x1), some (.int x2), some (.int (x3 + 1))] [] (81, pt_G, I, L) := pm_blk_to hF (pm_stp 1306 [0, 5, 14, 19, 27, 35, 47, 55, 58, 68, 72]) 54 rfl
set_option maxRecDepth 20000 in
theorem e1306_47 (hF : pm_fix pt_me pt_Sg (pt_R L0 xs) F) {x1 : Int32} {x2 : Int32} {x3 : Int32} {s0 : Int32} : F 1306 47 [some (.ref 49), some (.int x1), some (.int x2), some (.int x3)] [.int s0] (81, pt_G, I, L) =
    if s0 = 0 then
      F 1306 14 [some (.ref 49), some (.int x1), some (.int x2), some (.int (x3 + 1))] [] (81, pt_G, I, L)
    else
      pm_k (F 1206 0 [some (.int x3), none, none] [] (81, pt_G, I, L)) (fun v S => F 1306 55 [some (.ref 49), some (.int x1), some (.int x2), some (.int x3)] (v.toList ++ [.int x2]) S) := pm_blk_to hF (pm_stp 1306 [0, 5, 14, 19, 27, 35, 47, 55, 58, 68, 72]) 54 rfl
set_option maxRecDepth 20000 in
theorem e1306_55 (hF : pm_fix pt_me pt_Sg (pt_R L0 xs) F) {x1 : Int32} {x2 : Int32} {x3 : Int32} {s0 : Int32} {s1 : Int32} : F 1306 55 [some (.ref 49), some (.int x1), some (.int x2), some (.int x3)] [.int s0, .int s1] (81, pt_G, I, L) =
    pm_k (F 1305 0 [some (.int s0), none, none] [] (81, pt_G, I, L)) (fun v S => F 1306 58 [some (.ref 49), some (.int x1), some (.int x2), some (.int x3)] (v.toList ++ [.int s1]) S) := pm_blk_to hF (pm_stp 1306 [0, 5, 14, 19, 27, 35, 47, 55, 58, 68, 72]) 54 rfl
set_option maxRecDepth 20000 in
theorem e1306_58 (hF : pm_fix pt_me pt_Sg (pt_R L0 xs) F) {x1 : Int32} {x2 : Int32} {x3 : Int32} {s0 : Int32} {s1 : Int32} : F 1306 58 [some (.ref 49), some (.int x1), some (.int x2), some (.int x3)] [.int s0, .int s1] (81, pt_G, I, L) =
    pm_k (F 1206 0 [some (.int x3), none, none] [] (81, pt_G, I, L)) (fun v S => F 1306 68 [some (.ref 49), some (.int x1), some (.int x2), some (.int x3)] (v.toList ++ [.int ((I 49 30) - 1), .int s0, .int s1]) S) := pm_blk_to hF (pm_stp 1306 [0, 5, 14, 19, 27, 35, 47, 55, 58, 68, 72]) 54 rfl
set_option maxRecDepth 20000 in
theorem e1306_68 (hF : pm_fix pt_me pt_Sg (pt_R L0 xs) F) {x1 : Int32} {x2 : Int32} {x3 : Int32} {s0 : Int32} {s1 : Int32} {s2 : Int32} {s3 : Int32} : F 1306 68 [some (.ref 49), some (.int x1), some (.int x2), some (.int x3)] [.int s0, .int s1, .int s2, .int s3] (81, pt_G, I, L) =
    pm_k (F 1305 0 [some (.int (s1 - s0)), none, none] [] (81, pt_G, I, L)) (fun v S => F 1306 72 [some (.ref 49), some (.int x1), some (.int x2), some (.int x3)] (v.toList ++ [.int s2, .int s3]) S) := pm_blk_to hF (pm_stp 1306 [0, 5, 14, 19, 27, 35, 47, 55, 58, 68, 72]) 54 rfl
set_option maxRecDepth 20000 in
theorem e1306_72 (hF : pm_fix pt_me pt_Sg (pt_R L0 xs) F) {x1 : Int32} {x2 : Int32} {x3 : Int32} {s0 : Int32} {s1 : Int32} {s2 : Int32} : F 1306 72 [some (.ref 49), some (.int x1), some (.int x2), some (.int x3)] [.int s0, .int s1, .int s2] (81, pt_G, I, L) =
    F 1306 14 [some (.ref 49), some (.int x1), some (.int (s2 + (s1 * s0))), some (.int (x3 + 1))] [] (81, pt_G, I, L) := pm_blk_to hF (pm_stp 1306 [0, 5, 14, 19, 27, 35, 47, 55, 58, 68, 72]) 54 rfl
-- TurnCabinetModel.joins(I)I 49
set_option maxRecDepth 20000 in
theorem e1307_0 (hF : pm_fix pt_me pt_Sg (pt_R L0 xs) F) {x1 : Int32} : F 1307 0 [some (.ref 49), some (.int x1), none, none] [] (81, pt_G, I, L) =
    pm_k (F 1248 0 [some (.ref 49), some (.int x1)] [] (81, pt_G, I, L)) (fun v S => F 1307 5 [some (.ref 49), some (.int x1), none, none] (v.toList ++ []) S) := pm_blk_to hF (pm_stp 1307 [0, 5, 14, 19, 35, 47, 51]) 43 rfl
set_option maxRecDepth 20000 in
theorem e1307_5 (hF : pm_fix pt_me pt_Sg (pt_R L0 xs) F) {x1 : Int32} {s0 : Int32} : F 1307 5 [some (.ref 49), some (.int x1), none, none] [.int s0] (81, pt_G, I, L) =
    if s0 = 0 then
      some (some (.int (-1)), (81, pt_G, I, L))
    else
      F 1307 14 [some (.ref 49), some (.int x1), some (.int (-1)), some (.int 0)] [] (81, pt_G, I, L) := pm_blk_to hF (pm_stp 1307 [0, 5, 14, 19, 35, 47, 51]) 43 rfl
set_option maxRecDepth 20000 in
theorem e1307_14 (hF : pm_fix pt_me pt_Sg (pt_R L0 xs) F) {x1 : Int32} {x2 : Int32} {x3 : Int32} : F 1307 14 [some (.ref 49), some (.int x1), some (.int x2), some (.int x3)] [] (81, pt_G, I, L) =
    pm_k (F 1244 0 [some (.ref 49)] [] (81, pt_G, I, L)) (fun v S => F 1307 19 [some (.ref 49), some (.int x1), some (.int x2), some (.int x3)] (v.toList ++ [.int x3]) S) := pm_blk_to hF (pm_stp 1307 [0, 5, 14, 19, 35, 47, 51]) 43 rfl
set_option maxRecDepth 20000 in
theorem e1307_19 (hF : pm_fix pt_me pt_Sg (pt_R L0 xs) F) {x1 : Int32} {x2 : Int32} {x3 : Int32} {s0 : Int32} {s1 : Int32} : F 1307 19 [some (.ref 49), some (.int x1), some (.int x2), some (.int x3)] [.int s0, .int s1] (81, pt_G, I, L) =
    if s1 ≤ s0 then
      if (x3 &&& x1) = 0 then
        pm_k (F 1286 0 [some (.ref 49), some (.int (x1 ||| x3))] [] (81, pt_G, I, L)) (fun v S => F 1307 35 [some (.ref 49), some (.int x1), some (.int x2), some (.int x3)] (v.toList ++ []) S)
      else
        F 1307 14 [some (.ref 49), some (.int x1), some (.int x2), some (.int (x3 + 1))] [] (81, pt_G, I, L)
    else
      some (some (.int x2), (81, pt_G, I, L)) := pm_blk_to hF (pm_stp 1307 [0, 5, 14, 19, 35, 47, 51]) 43 rfl
set_option maxRecDepth 20000 in
theorem e1307_35 (hF : pm_fix pt_me pt_Sg (pt_R L0 xs) F) {x1 : Int32} {x2 : Int32} {x3 : Int32} {s0 : Int32} : F 1307 35 [some (.ref 49), some (.int x1), some (.int x2), some (.int x3)] [.int s0] (81, pt_G, I, L) =
    if s0 = 0 then
      F 1307 14 [some (.ref 49), some (.int x1), some (.int x2), some (.int (x3 + 1))] [] (81, pt_G, I, L)
    else
      if x2 = (-1) then
        F 1307 14 [some (.ref 49), some (.int x1), some (.int x3), some (.int (x3 + 1))] [] (81, pt_G, I, L)
      else
        pm_k (F 1206 0 [some (.int x3), none, none] [] (81, pt_G, I, L)) (fun v S => F 1307 47 [some (.ref 49), some (.int x1), some (.int x2), some (.int x3)] (v.toList ++ []) S) := pm_blk_to hF (pm_stp 1307 [0, 5, 14, 19, 35, 47, 51]) 43 rfl
set_option maxRecDepth 20000 in
theorem e1307_47 (hF : pm_fix pt_me pt_Sg (pt_R L0 xs) F) {x1 : Int32} {x2 : Int32} {x3 : Int32} {s0 : Int32} : F 1307 47 [some (.ref 49), some (.int x1), some (.int x2), some (.int x3)] [.int s0] (81, pt_G, I, L) =
    pm_k (F 1206 0 [some (.int x2), none, none] [] (81, pt_G, I, L)) (fun v S => F 1307 51 [some (.ref 49), some (.int x1), some (.int x2), some (.int x3)] (v.toList ++ [.int s0]) S) := pm_blk_to hF (pm_stp 1307 [0, 5, 14, 19, 35, 47, 51]) 43 rfl
set_option maxRecDepth 20000 in
theorem e1307_51 (hF : pm_fix pt_me pt_Sg (pt_R L0 xs) F) {x1 : Int32} {x2 : Int32} {x3 : Int32} {s0 : Int32} {s1 : Int32} : F 1307 51 [some (.ref 49), some (.int x1), some (.int x2), some (.int x3)] [.int s0, .int s1] (81, pt_G, I, L) =
    if s1 < s0 then
      F 1307 14 [some (.ref 49), some (.int x1), some (.int x3), some (.int (x3 + 1))] [] (81, pt_G, I, L)
    else
      F 1307 14 [some (.ref 49), some (.int x1), some (.int x2), some (.int (x3 + 1))] [] (81, pt_G, I, L) := pm_blk_to hF (pm_stp 1307 [0, 5, 14, 19, 35, 47, 51]) 43 rfl
-- TurnCabinetModel.dream(I)I 49
set_option maxRecDepth 20000 in
theorem e1308_0 (hF : pm_fix pt_me pt_Sg (pt_R L0 xs) F) {x1 : Int32} : F 1308 0 [some (.ref 49), some (.int x1), none, none] [] (81, pt_G, I, L) =
    pm_k (F 1246 0 [some (.ref 49), some (.int x1)] [] (81, pt_G, I, L)) (fun v S => F 1308 5 [some (.ref 49), some (.int x1), none, none] (v.toList ++ []) S) := pm_blk_to hF (pm_stp 1308 [0, 5, 14, 18, 23, 31]) 50 rfl
set_option maxRecDepth 20000 in
theorem e1308_5 (hF : pm_fix pt_me pt_Sg (pt_R L0 xs) F) {x1 : Int32} {s0 : Int32} : F 1308 5 [some (.ref 49), some (.int x1), none, none] [.int s0] (81, pt_G, I, L) =
    if s0 = 0 then
      some (some (.int (-1)), (81, pt_G, I, L))
    else
      pm_k (F 1283 0 [some (.ref 49), none, none, none] [] (81, pt_G, I, L)) (fun v S => F 1308 14 [some (.ref 49), some (.int x1), none, none] (v.toList ++ []) S) := pm_blk_to hF (pm_stp 1308 [0, 5, 14, 18, 23, 31]) 50 rfl
set_option maxRecDepth 20000 in
theorem e1308_14 (hF : pm_fix pt_me pt_Sg (pt_R L0 xs) F) {x1 : Int32} : F 1308 14 [some (.ref 49), some (.int x1), none, none] [] (81, pt_G, I, L) =
    F 1308 18 [some (.ref 49), some (.int x1), some (.int 0), some (.int 1)] [] (81, pt_G, I, L) := pm_blk_to hF (pm_stp 1308 [0, 5, 14, 18, 23, 31]) 50 rfl
set_option maxRecDepth 20000 in
theorem e1308_18 (hF : pm_fix pt_me pt_Sg (pt_R L0 xs) F) {x1 : Int32} {x2 : Int32} {x3 : Int32} : F 1308 18 [some (.ref 49), some (.int x1), some (.int x2), some (.int x3)] [] (81, pt_G, I, L) =
    pm_k (F 1244 0 [some (.ref 49)] [] (81, pt_G, I, L)) (fun v S => F 1308 23 [some (.ref 49), some (.int x1), some (.int x2), some (.int x3)] (v.toList ++ [.int x3]) S) := pm_blk_to hF (pm_stp 1308 [0, 5, 14, 18, 23, 31]) 50 rfl
set_option maxRecDepth 20000 in
theorem e1308_23 (hF : pm_fix pt_me pt_Sg (pt_R L0 xs) F) {x1 : Int32} {x2 : Int32} {x3 : Int32} {s0 : Int32} {s1 : Int32} : F 1308 23 [some (.ref 49), some (.int x1), some (.int x2), some (.int x3)] [.int s0, .int s1] (81, pt_G, I, L) =
    if s1 ≤ s0 then
      pm_k (F 1286 0 [some (.ref 49), some (.int x3)] [] (81, pt_G, I, L)) (fun v S => F 1308 31 [some (.ref 49), some (.int x1), some (.int x2), some (.int x3)] (v.toList ++ []) S)
    else
      some (some (.int x2), (81, pt_G, I, L)) := pm_blk_to hF (pm_stp 1308 [0, 5, 14, 18, 23, 31]) 50 rfl
set_option maxRecDepth 20000 in
theorem e1308_31 (hF : pm_fix pt_me pt_Sg (pt_R L0 xs) F) {x1 : Int32} {x2 : Int32} {x3 : Int32} {s0 : Int32} : F 1308 31 [some (.ref 49), some (.int x1), some (.int x2), some (.int x3)] [.int s0] (81, pt_G, I, L) =
    if s0 = 0 then
      F 1308 18 [some (.ref 49), some (.int x1), some (.int x2), some (.int (x3 + 1))] [] (81, pt_G, I, L)
    else
      if x2 = 0 then
        F 1308 18 [some (.ref 49), some (.int x1), some (.int x3), some (.int (x3 + 1))] [] (81, pt_G, I, L)
      else
        bif pm_ib ((7 * x3) + x1) 896 then
          bif pm_ib ((7 * x2) + x1) 896 then
            if (I 73 (Int32.toNatClampNeg ((7 * x3) + x1))) ≤ (I 73 (Int32.toNatClampNeg ((7 * x2) + x1))) then
              F 1308 18 [some (.ref 49), some (.int x1), some (.int x2), some (.int (x3 + 1))] [] (81, pt_G, I, L)
            else
              F 1308 18 [some (.ref 49), some (.int x1), some (.int x3), some (.int (x3 + 1))] [] (81, pt_G, I, L)
          else none
        else none := pm_blk_to hF (pm_stp 1308 [0, 5, 14, 18, 23, 31]) 50 rfl
-- TurnCabinetModel.drift(II)I 49
set_option maxRecDepth 20000 in
theorem e1309_0 (hF : pm_fix pt_me pt_Sg (pt_R L0 xs) F) {x1 : Int32} {x2 : Int32} : F 1309 0 [some (.ref 49), some (.int x1), some (.int x2), none, none] [] (81, pt_G, I, L) =
    pm_k (F 1248 0 [some (.ref 49), some (.int x1)] [] (81, pt_G, I, L)) (fun v S => F 1309 5 [some (.ref 49), some (.int x1), some (.int x2), none, none] (v.toList ++ []) S) := pm_blk_to hF (pm_stp 1309 [0, 5, 15, 24, 26, 58]) 78 rfl
set_option maxRecDepth 20000 in
theorem e1309_5 (hF : pm_fix pt_me pt_Sg (pt_R L0 xs) F) {x1 : Int32} {x2 : Int32} {s0 : Int32} : F 1309 5 [some (.ref 49), some (.int x1), some (.int x2), none, none] [.int s0] (81, pt_G, I, L) =
    if s0 = 0 then
      some (some (.int (-1)), (81, pt_G, I, L))
    else
      pm_k (F 1202 0 [some (.long (Int32.toInt64 x2)), none, some (.long 0), none, some (.long 1), none] [] (81, pt_G, I, L)) (fun v S => F 1309 15 [some (.ref 49), some (.int x1), some (.int x2), none, none] (v.toList ++ []) S) := pm_blk_to hF (pm_stp 1309 [0, 5, 15, 24, 26, 58]) 78 rfl
set_option maxRecDepth 20000 in
theorem e1309_15 (hF : pm_fix pt_me pt_Sg (pt_R L0 xs) F) {x1 : Int32} {x2 : Int32} {s0 : Int32} : F 1309 15 [some (.ref 49), some (.int x1), some (.int x2), none, none] [.int s0] (81, pt_G, I, L) =
    if s0 = 0 then
      some (some (.int (-1)), (81, pt_G, I, L))
    else
      pm_k (F 1283 0 [some (.ref 49), none, none, none] [] (81, pt_G, I, L)) (fun v S => F 1309 24 [some (.ref 49), some (.int x1), some (.int x2), none, none] (v.toList ++ []) S) := pm_blk_to hF (pm_stp 1309 [0, 5, 15, 24, 26, 58]) 78 rfl
set_option maxRecDepth 20000 in
theorem e1309_24 (hF : pm_fix pt_me pt_Sg (pt_R L0 xs) F) {x1 : Int32} {x2 : Int32} : F 1309 24 [some (.ref 49), some (.int x1), some (.int x2), none, none] [] (81, pt_G, I, L) =
    F 1309 26 [some (.ref 49), some (.int x1), some (.int x2), some (.int 0), none] [] (81, pt_G, I, L) := pm_blk_to hF (pm_stp 1309 [0, 5, 15, 24, 26, 58]) 78 rfl
set_option maxRecDepth 20000 in
theorem e1309_26 (hF : pm_fix pt_me pt_Sg (pt_R L0 xs) F) {x1 : Int32} {x2 : Int32} {x3 : Int32} : F 1309 26 [some (.ref 49), some (.int x1), some (.int x2), some (.int x3), none] [] (81, pt_G, I, L) =
    if x3 < 128 then
      bif pm_ib x3 128 then
        F 1309 26 [some (.ref 49), some (.int x1), some (.int x2), some (.int (x3 + 1)), none] [] (81, pt_G, (pm_ui I 76 (Int32.toNatClampNeg x3) (vp_nar .boolean 0)), L)
      else none
    else
      bif pm_ib x1 128 then
        F 1309 58 [some (.ref 49), some (.int x1), some (.int x2), some (.int x1), some (.int 0)] [] (81, pt_G, (pm_ui I 76 (Int32.toNatClampNeg x1) (vp_nar .boolean 1)), L)
      else none := pm_blk_to hF (pm_stp 1309 [0, 5, 15, 24, 26, 58]) 78 rfl
set_option maxRecDepth 20000 in
theorem e1309_58 (hF : pm_fix pt_me pt_Sg (pt_R L0 xs) F) {x1 : Int32} {x2 : Int32} {x3 : Int32} {x4 : Int32} : F 1309 58 [some (.ref 49), some (.int x1), some (.int x2), some (.int x3), some (.int x4)] [] (81, pt_G, I, L) =
    bif pm_ib x3 128 then
      if (I 75 (Int32.toNatClampNeg x3)) ≤ 0 then
        if x2 = 0 then
          some (some (.int x4), (81, pt_G, I, L))
        else
          bif pm_ib x3 128 then
            if (I 75 (Int32.toNatClampNeg x3)) = 0 then
              some (some (.int x3), (81, pt_G, I, L))
            else
              some (some (.int 0), (81, pt_G, I, L))
          else none
      else
        bif pm_ib x3 128 then
          bif pm_ib (I 75 (Int32.toNatClampNeg x3)) 128 then
            if (I 76 (Int32.toNatClampNeg (I 75 (Int32.toNatClampNeg x3)))) = 0 then
              bif pm_ib x3 128 then
                bif pm_ib (I 75 (Int32.toNatClampNeg x3)) 128 then
                  F 1309 58 [some (.ref 49), some (.int x1), some (.int x2), some (.int (I 75 (Int32.toNatClampNeg x3))), some (.int (x4 + 1))] [] (81, pt_G, (pm_ui I 76 (Int32.toNatClampNeg (I 75 (Int32.toNatClampNeg x3))) (vp_nar .boolean 1)), L)
                else none
              else none
            else
              if x2 = 0 then
                some (some (.int x4), (81, pt_G, I, L))
              else
                bif pm_ib x3 128 then
                  if (I 75 (Int32.toNatClampNeg x3)) = 0 then
                    some (some (.int x3), (81, pt_G, I, L))
                  else
                    some (some (.int 0), (81, pt_G, I, L))
                else none
          else none
        else none
    else none := pm_blk_to hF (pm_stp 1309 [0, 5, 15, 24, 26, 58]) 78 rfl
-- TurnCabinetModel.ordersFormers()V 49
set_option maxRecDepth 20000 in
theorem e1310_0 (hF : pm_fix pt_me pt_Sg (pt_R L0 xs) F) : F 1310 0 [some (.ref 49), none, none] [] (81, pt_G, I, L) =
    F 1310 2 [some (.ref 49), some (.int 0), none] [] (81, pt_G, I, L) := pm_blk_to hF (pm_stp 1310 [0, 2, 12, 28, 33]) 47 rfl
set_option maxRecDepth 20000 in
theorem e1310_2 (hF : pm_fix pt_me pt_Sg (pt_R L0 xs) F) {x1 : Int32} : F 1310 2 [some (.ref 49), some (.int x1), none] [] (81, pt_G, I, L) =
    if x1 < (I 49 30) then
      F 1310 12 [some (.ref 49), some (.int x1), some (.int x1)] [] (81, pt_G, I, L)
    else
      some (none, (81, pt_G, I, L)) := pm_blk_to hF (pm_stp 1310 [0, 2, 12, 28, 33]) 47 rfl
set_option maxRecDepth 20000 in
theorem e1310_12 (hF : pm_fix pt_me pt_Sg (pt_R L0 xs) F) {x1 : Int32} {x2 : Int32} : F 1310 12 [some (.ref 49), some (.int x1), some (.int x2)] [] (81, pt_G, I, L) =
    if x2 ≤ 0 then
      bif pm_ib x2 7 then
        F 1310 2 [some (.ref 49), some (.int (x1 + 1)), none] [] (81, pt_G, (pm_ui I 80 (Int32.toNatClampNeg x2) x1), L)
      else none
    else
      bif pm_ib (x2 - 1) 7 then
        pm_k (F 1242 0 [some (.ref 49), some (.int (I 80 (Int32.toNatClampNeg (x2 - 1))))] [] (81, pt_G, I, L)) (fun v S => F 1310 28 [some (.ref 49), some (.int x1), some (.int x2)] (v.toList ++ []) S)
      else none := pm_blk_to hF (pm_stp 1310 [0, 2, 12, 28, 33]) 47 rfl
set_option maxRecDepth 20000 in
theorem e1310_28 (hF : pm_fix pt_me pt_Sg (pt_R L0 xs) F) {x1 : Int32} {x2 : Int32} {s0 : Int32} : F 1310 28 [some (.ref 49), some (.int x1), some (.int x2)] [.int s0] (81, pt_G, I, L) =
    pm_k (F 1242 0 [some (.ref 49), some (.int x1)] [] (81, pt_G, I, L)) (fun v S => F 1310 33 [some (.ref 49), some (.int x1), some (.int x2)] (v.toList ++ [.int s0]) S) := pm_blk_to hF (pm_stp 1310 [0, 2, 12, 28, 33]) 47 rfl
set_option maxRecDepth 20000 in
theorem e1310_33 (hF : pm_fix pt_me pt_Sg (pt_R L0 xs) F) {x1 : Int32} {x2 : Int32} {s0 : Int32} {s1 : Int32} : F 1310 33 [some (.ref 49), some (.int x1), some (.int x2)] [.int s0, .int s1] (81, pt_G, I, L) =
    if s1 < s0 then
      bif pm_ib (x2 - 1) 7 then
        bif pm_ib x2 7 then
          F 1310 12 [some (.ref 49), some (.int x1), some (.int (x2 + (-1)))] [] (81, pt_G, (pm_ui I 80 (Int32.toNatClampNeg x2) (I 80 (Int32.toNatClampNeg (x2 - 1)))), L)
        else none
      else none
    else
      bif pm_ib x2 7 then
        F 1310 2 [some (.ref 49), some (.int (x1 + 1)), none] [] (81, pt_G, (pm_ui I 80 (Int32.toNatClampNeg x2) x1), L)
      else none := pm_blk_to hF (pm_stp 1310 [0, 2, 12, 28, 33]) 47 rfl
-- TurnCabinetModel.bestFor(I)I 49
set_option maxRecDepth 20000 in
theorem e1311_0 (hF : pm_fix pt_me pt_Sg (pt_R L0 xs) F) {x1 : Int32} : F 1311 0 [some (.ref 49), some (.int x1), none, none, none] [] (81, pt_G, I, L) =
    F 1311 4 [some (.ref 49), some (.int x1), some (.int 0), some (.int 1), none] [] (81, pt_G, I, L) := pm_blk_to hF (pm_stp 1311 [0, 4, 9, 17, 34, 87, 91]) 64 rfl
set_option maxRecDepth 20000 in
theorem e1311_4 (hF : pm_fix pt_me pt_Sg (pt_R L0 xs) F) {x1 : Int32} {x2 : Int32} {x3 : Int32} : F 1311 4 [some (.ref 49), some (.int x1), some (.int x2), some (.int x3), none] [] (81, pt_G, I, L) =
    pm_k (F 1244 0 [some (.ref 49)] [] (81, pt_G, I, L)) (fun v S => F 1311 9 [some (.ref 49), some (.int x1), some (.int x2), some (.int x3), none] (v.toList ++ [.int x3]) S) := pm_blk_to hF (pm_stp 1311 [0, 4, 9, 17, 34, 87, 91]) 64 rfl
set_option maxRecDepth 20000 in
theorem e1311_9 (hF : pm_fix pt_me pt_Sg (pt_R L0 xs) F) {x1 : Int32} {x2 : Int32} {x3 : Int32} {s0 : Int32} {s1 : Int32} : F 1311 9 [some (.ref 49), some (.int x1), some (.int x2), some (.int x3), none] [.int s0, .int s1] (81, pt_G, I, L) =
    if s1 ≤ s0 then
      pm_k (F 1205 0 [some (.int x3), some (.int x1)] [] (81, pt_G, I, L)) (fun v S => F 1311 17 [some (.ref 49), some (.int x1), some (.int x2), some (.int x3), none] (v.toList ++ []) S)
    else
      some (some (.int x2), (81, pt_G, I, L)) := pm_blk_to hF (pm_stp 1311 [0, 4, 9, 17, 34, 87, 91]) 64 rfl
set_option maxRecDepth 20000 in
theorem e1311_17 (hF : pm_fix pt_me pt_Sg (pt_R L0 xs) F) {x1 : Int32} {x2 : Int32} {x3 : Int32} {s0 : Int32} : F 1311 17 [some (.ref 49), some (.int x1), some (.int x2), some (.int x3), none] [.int s0] (81, pt_G, I, L) =
    if s0 = 0 then
      F 1311 4 [some (.ref 49), some (.int x1), some (.int x2), some (.int (x3 + 1)), none] [] (81, pt_G, I, L)
    else
      bif pm_ib x3 128 then
        if (I 76 (Int32.toNatClampNeg x3)) = 0 then
          pm_k (F 1286 0 [some (.ref 49), some (.int x3)] [] (81, pt_G, I, L)) (fun v S => F 1311 34 [some (.ref 49), some (.int x1), some (.int x2), some (.int x3), none] (v.toList ++ []) S)
        else
          F 1311 4 [some (.ref 49), some (.int x1), some (.int x2), some (.int (x3 + 1)), none] [] (81, pt_G, I, L)
      else none := pm_blk_to hF (pm_stp 1311 [0, 4, 9, 17, 34, 87, 91]) 64 rfl
set_option maxRecDepth 20000 in
theorem e1311_34 (hF : pm_fix pt_me pt_Sg (pt_R L0 xs) F) {x1 : Int32} {x2 : Int32} {x3 : Int32} {s0 : Int32} : F 1311 34 [some (.ref 49), some (.int x1), some (.int x2), some (.int x3), none] [.int s0] (81, pt_G, I, L) =
    if s0 = 0 then
      F 1311 4 [some (.ref 49), some (.int x1), some (.int x2), some (.int (x3 + 1)), none] [] (81, pt_G, I, L)
    else
      if x2 = 0 then
        if (1 : Int32) ≤ 0 then
          if (1 : Int32) = 0 then
            pm_k (F 1206 0 [some (.int x3), none, none] [] (81, pt_G, I, L)) (fun v S => F 1311 87 [some (.ref 49), some (.int x1), some (.int x2), some (.int x3), some (.int 1)] (v.toList ++ []) S)
          else
            F 1311 4 [some (.ref 49), some (.int x1), some (.int x2), some (.int (x3 + 1)), none] [] (81, pt_G, I, L)
        else
          F 1311 4 [some (.ref 49), some (.int x1), some (.int x3), some (.int (x3 + 1)), none] [] (81, pt_G, I, L)
      else
        bif pm_ib ((7 * x3) + x1) 896 then
          bif pm_ib ((7 * x2) + x1) 896 then
            if ((I 73 (Int32.toNatClampNeg ((7 * x3) + x1))) - (I 73 (Int32.toNatClampNeg ((7 * x2) + x1)))) ≤ 0 then
              if ((I 73 (Int32.toNatClampNeg ((7 * x3) + x1))) - (I 73 (Int32.toNatClampNeg ((7 * x2) + x1)))) = 0 then
                pm_k (F 1206 0 [some (.int x3), none, none] [] (81, pt_G, I, L)) (fun v S => F 1311 87 [some (.ref 49), some (.int x1), some (.int x2), some (.int x3), some (.int ((I 73 (Int32.toNatClampNeg ((7 * x3) + x1))) - (I 73 (Int32.toNatClampNeg ((7 * x2) + x1)))))] (v.toList ++ []) S)
              else
                F 1311 4 [some (.ref 49), some (.int x1), some (.int x2), some (.int (x3 + 1)), none] [] (81, pt_G, I, L)
            else
              F 1311 4 [some (.ref 49), some (.int x1), some (.int x3), some (.int (x3 + 1)), none] [] (81, pt_G, I, L)
          else none
        else none := pm_blk_to hF (pm_stp 1311 [0, 4, 9, 17, 34, 87, 91]) 64 rfl
set_option maxRecDepth 20000 in
theorem e1311_87 (hF : pm_fix pt_me pt_Sg (pt_R L0 xs) F) {x1 : Int32} {x2 : Int32} {x3 : Int32} {x4 : Int32} {s0 : Int32} : F 1311 87 [some (.ref 49), some (.int x1), some (.int x2), some (.int x3), some (.int x4)] [.int s0] (81, pt_G, I, L) =
    pm_k (F 1206 0 [some (.int x2), none, none] [] (81, pt_G, I, L)) (fun v S => F 1311 91 [some (.ref 49), some (.int x1), some (.int x2), some (.int x3), some (.int x4)] (v.toList ++ [.int s0]) S) := pm_blk_to hF (pm_stp 1311 [0, 4, 9, 17, 34, 87, 91]) 64 rfl
set_option maxRecDepth 20000 in
theorem e1311_91 (hF : pm_fix pt_me pt_Sg (pt_R L0 xs) F) {x1 : Int32} {x2 : Int32} {x3 : Int32} {x4 : Int32} {s0 : Int32} {s1 : Int32} : F 1311 91 [some (.ref 49), some (.int x1), some (.int x2), some (.int x3), some (.int x4)] [.int s0, .int s1] (81, pt_G, I, L) =
    if s1 < s0 then
      F 1311 4 [some (.ref 49), some (.int x1), some (.int x3), some (.int (x3 + 1)), none] [] (81, pt_G, I, L)
    else
      F 1311 4 [some (.ref 49), some (.int x1), some (.int x2), some (.int (x3 + 1)), none] [] (81, pt_G, I, L) := pm_blk_to hF (pm_stp 1311 [0, 4, 9, 17, 34, 87, 91]) 64 rfl
-- TurnCabinetModel.walkOut(II)I 49
set_option maxRecDepth 20000 in
theorem e1312_0 (hF : pm_fix pt_me pt_Sg (pt_R L0 xs) F) {x1 : Int32} {x2 : Int32} : F 1312 0 [some (.ref 49), some (.int x1), some (.int x2), none, none] [] (81, pt_G, I, L) =
    F 1312 5 [some (.ref 49), some (.int x1), some (.int x2), some (.int 0), some (.int 0)] [] (81, pt_G, I, L) := pm_blk_to hF (pm_stp 1312 [0, 5, 20]) 45 rfl
set_option maxRecDepth 20000 in
theorem e1312_5 (hF : pm_fix pt_me pt_Sg (pt_R L0 xs) F) {x1 : Int32} {x2 : Int32} {x3 : Int32} {x4 : Int32} : F 1312 5 [some (.ref 49), some (.int x1), some (.int x2), some (.int x3), some (.int x4)] [] (81, pt_G, I, L) =
    if x4 < (I 49 30) then
      pm_k (F 1205 0 [some (.int x1), some (.int x4)] [] (81, pt_G, I, L)) (fun v S => F 1312 20 [some (.ref 49), some (.int x1), some (.int x2), some (.int x3), some (.int x4)] (v.toList ++ []) S)
    else
      some (some (.int x3), (81, pt_G, I, L)) := pm_blk_to hF (pm_stp 1312 [0, 5, 20]) 45 rfl
set_option maxRecDepth 20000 in
theorem e1312_20 (hF : pm_fix pt_me pt_Sg (pt_R L0 xs) F) {x1 : Int32} {x2 : Int32} {x3 : Int32} {x4 : Int32} {s0 : Int32} : F 1312 20 [some (.ref 49), some (.int x1), some (.int x2), some (.int x3), some (.int x4)] [.int s0] (81, pt_G, I, L) =
    if s0 = 0 then
      F 1312 5 [some (.ref 49), some (.int x1), some (.int x2), some (.int x3), some (.int (x4 + 1))] [] (81, pt_G, I, L)
    else
      bif pm_ib ((7 * x1) + x4) 896 then
        bif pm_ib x4 7 then
          if (I 73 (Int32.toNatClampNeg ((7 * x1) + x4))) < ((I 60 (Int32.toNatClampNeg x4)) - ((I 49 37) * x2)) then
            F 1312 5 [some (.ref 49), some (.int x1), some (.int x2), some (.int (x3 ||| ((1 : Int32) <<< (x4 &&& 31)))), some (.int (x4 + 1))] [] (81, pt_G, I, L)
          else
            F 1312 5 [some (.ref 49), some (.int x1), some (.int x2), some (.int x3), some (.int (x4 + 1))] [] (81, pt_G, I, L)
        else none
      else none := pm_blk_to hF (pm_stp 1312 [0, 5, 20]) 45 rfl
-- TurnCabinetModel.goesBy(II)Z 49
set_option maxRecDepth 20000 in
theorem e1313_0 (hF : pm_fix pt_me pt_Sg (pt_R L0 xs) F) {x1 : Int32} {x2 : Int32} : F 1313 0 [some (.ref 49), some (.int x1), some (.int x2)] [] (81, pt_G, I, L) =
    bif pm_ib (I 49 63) 567 then
      bif pm_ib (I 49 63) 567 then
        pm_k (F 1312 0 [some (.ref 49), some (.int x2), some (.int ((I 49 64) - 1)), none, none] [] (81, pt_G, (pm_ui (pm_ui I 77 (Int32.toNatClampNeg (I 49 63)) x1) 78 (Int32.toNatClampNeg (I 49 63)) x2), L)) (fun v S => F 1313 39 [some (.ref 49), some (.int x1), some (.int x2)] (v.toList ++ [.int (I 49 63), .ref 79]) S)
      else none
    else none := pm_blk_to hF (pm_stp 1313 [0, 39]) 58 rfl
set_option maxRecDepth 20000 in
theorem e1313_39 (hF : pm_fix pt_me pt_Sg (pt_R L0 xs) F) {x1 : Int32} {x2 : Int32} {s0 : Int32} {s1 : Int32} : F 1313 39 [some (.ref 49), some (.int x1), some (.int x2)] [.int s0, .int s1, .ref 79] (81, pt_G, I, L) =
    bif pm_ib s1 567 then
      bif pm_ib x2 128 then
        bif pm_ib (((I 49 63) + 1) - 1) 567 then
          if ((pm_ui I 79 (Int32.toNatClampNeg s1) s0) 79 (Int32.toNatClampNeg (((I 49 63) + 1) - 1))) = 0 then
            if x2 ≤ 0 then
              some (some (.int 0), (81, pt_G, (pm_ui (pm_ui (pm_ui (pm_ui I 79 (Int32.toNatClampNeg s1) s0) 76 (Int32.toNatClampNeg x2) (vp_nar .boolean 1)) 49 63 ((I 49 63) + 1)) 49 65 x2), L))
            else
              some (some (.int 1), (81, pt_G, (pm_ui (pm_ui (pm_ui (pm_ui I 79 (Int32.toNatClampNeg s1) s0) 76 (Int32.toNatClampNeg x2) (vp_nar .boolean 1)) 49 63 ((I 49 63) + 1)) 49 65 x2), L))
          else
            if (I 49 65) ≤ 0 then
              some (some (.int 0), (81, pt_G, (pm_ui (pm_ui (pm_ui I 79 (Int32.toNatClampNeg s1) s0) 76 (Int32.toNatClampNeg x2) (vp_nar .boolean 1)) 49 63 ((I 49 63) + 1)), L))
            else
              some (some (.int 1), (81, pt_G, (pm_ui (pm_ui (pm_ui I 79 (Int32.toNatClampNeg s1) s0) 76 (Int32.toNatClampNeg x2) (vp_nar .boolean 1)) 49 63 ((I 49 63) + 1)), L))
        else none
      else none
    else none := pm_blk_to hF (pm_stp 1313 [0, 39]) 58 rfl
-- TurnCabinetModel.round()V 49
set_option maxRecDepth 20000 in
theorem e1314_0 (hF : pm_fix pt_me pt_Sg (pt_R L0 xs) F) : F 1314 0 [some (.ref 49), none, none, none] [] (81, pt_G, I, L) =
    F 1314 12 [some (.ref 49), some (.int 0), none, none] [] (81, pt_G, (pm_ui I 49 64 ((I 49 64) + 1)), L) := pm_blk_to hF (pm_stp 1314 [0, 12, 34, 44, 62, 78]) 58 rfl
set_option maxRecDepth 20000 in
theorem e1314_12 (hF : pm_fix pt_me pt_Sg (pt_R L0 xs) F) {x1 : Int32} : F 1314 12 [some (.ref 49), some (.int x1), none, none] [] (81, pt_G, I, L) =
    if x1 < 128 then
      bif pm_ib x1 128 then
        F 1314 12 [some (.ref 49), some (.int (x1 + 1)), none, none] [] (81, pt_G, (pm_ui I 76 (Int32.toNatClampNeg x1) (vp_nar .boolean 0)), L)
      else none
    else
      F 1314 34 [some (.ref 49), some (.int 0), none, none] [] (81, pt_G, I, L) := pm_blk_to hF (pm_stp 1314 [0, 12, 34, 44, 62, 78]) 58 rfl
set_option maxRecDepth 20000 in
theorem e1314_34 (hF : pm_fix pt_me pt_Sg (pt_R L0 xs) F) {x1 : Int32} : F 1314 34 [some (.ref 49), some (.int x1), none, none] [] (81, pt_G, I, L) =
    if x1 < (I 49 30) then
      F 1314 44 [some (.ref 49), some (.int x1), some (.int 0), none] [] (81, pt_G, I, L)
    else
      some (none, (81, pt_G, I, L)) := pm_blk_to hF (pm_stp 1314 [0, 12, 34, 44, 62, 78]) 58 rfl
set_option maxRecDepth 20000 in
theorem e1314_44 (hF : pm_fix pt_me pt_Sg (pt_R L0 xs) F) {x1 : Int32} {x2 : Int32} : F 1314 44 [some (.ref 49), some (.int x1), some (.int x2), none] [] (81, pt_G, I, L) =
    if x2 < (I 49 36) then
      bif pm_ib x1 7 then
        pm_k (F 1311 0 [some (.ref 49), some (.int (I 80 (Int32.toNatClampNeg x1))), none, none, none] [] (81, pt_G, I, L)) (fun v S => F 1314 62 [some (.ref 49), some (.int x1), some (.int x2), none] (v.toList ++ []) S)
      else none
    else
      F 1314 34 [some (.ref 49), some (.int (x1 + 1)), none, none] [] (81, pt_G, I, L) := pm_blk_to hF (pm_stp 1314 [0, 12, 34, 44, 62, 78]) 58 rfl
set_option maxRecDepth 20000 in
theorem e1314_62 (hF : pm_fix pt_me pt_Sg (pt_R L0 xs) F) {x1 : Int32} {x2 : Int32} {s0 : Int32} : F 1314 62 [some (.ref 49), some (.int x1), some (.int x2), none] [.int s0] (81, pt_G, I, L) =
    if s0 ≤ 0 then
      F 1314 44 [some (.ref 49), some (.int x1), some (.int (x2 + 1)), none] [] (81, pt_G, I, L)
    else
      bif pm_ib x1 7 then
        pm_k (F 1313 0 [some (.ref 49), some (.int (I 80 (Int32.toNatClampNeg x1))), some (.int s0)] [] (81, pt_G, I, L)) (fun v S => F 1314 78 [some (.ref 49), some (.int x1), some (.int x2), some (.int s0)] (v.toList ++ []) S)
      else none := pm_blk_to hF (pm_stp 1314 [0, 12, 34, 44, 62, 78]) 58 rfl
set_option maxRecDepth 20000 in
theorem e1314_78 (hF : pm_fix pt_me pt_Sg (pt_R L0 xs) F) {x1 : Int32} {x2 : Int32} {x3 : Int32} {s0 : Int32} : F 1314 78 [some (.ref 49), some (.int x1), some (.int x2), some (.int x3)] [.int s0] (81, pt_G, I, L) =
    if s0 = 0 then
      F 1314 44 [some (.ref 49), some (.int x1), some (.int (x2 + 1)), none] [] (81, pt_G, I, L)
    else
      some (none, (81, pt_G, I, L)) := pm_blk_to hF (pm_stp 1314 [0, 12, 34, 44, 62, 78]) 58 rfl
-- TurnCabinetModel.forms()V 49
set_option maxRecDepth 20000 in
theorem e1315_0 (hF : pm_fix pt_me pt_Sg (pt_R L0 xs) F) : F 1315 0 [some (.ref 49)] [] (81, pt_G, I, L) =
    pm_k (F 1283 0 [some (.ref 49), none, none, none] [] (81, pt_G, I, L)) (fun v S => F 1315 4 [some (.ref 49)] (v.toList ++ []) S) := pm_blk_to hF (pm_stp 1315 [0, 4, 8, 23, 43]) 29 rfl
set_option maxRecDepth 20000 in
theorem e1315_4 (hF : pm_fix pt_me pt_Sg (pt_R L0 xs) F) : F 1315 4 [some (.ref 49)] [] (81, pt_G, I, L) =
    pm_k (F 1310 0 [some (.ref 49), none, none] [] (81, pt_G, I, L)) (fun v S => F 1315 8 [some (.ref 49)] (v.toList ++ []) S) := pm_blk_to hF (pm_stp 1315 [0, 4, 8, 23, 43]) 29 rfl
set_option maxRecDepth 20000 in
theorem e1315_8 (hF : pm_fix pt_me pt_Sg (pt_R L0 xs) F) : F 1315 8 [some (.ref 49)] [] (81, pt_G, I, L) =
    F 1315 23 [some (.ref 49)] [] (81, pt_G, (pm_ui (pm_ui (pm_ui I 49 63 0) 49 64 0) 49 65 0), L) := pm_blk_to hF (pm_stp 1315 [0, 4, 8, 23, 43]) 29 rfl
set_option maxRecDepth 20000 in
theorem e1315_23 (hF : pm_fix pt_me pt_Sg (pt_R L0 xs) F) : F 1315 23 [some (.ref 49)] [] (81, pt_G, I, L) =
    if (I 49 64) < 9 then
      if (I 49 65) = 0 then
        pm_k (F 1314 0 [some (.ref 49), none, none, none] [] (81, pt_G, I, L)) (fun v S => F 1315 43 [some (.ref 49)] (v.toList ++ []) S)
      else
        some (none, (81, pt_G, I, L))
    else
      some (none, (81, pt_G, I, L)) := pm_blk_to hF (pm_stp 1315 [0, 4, 8, 23, 43]) 29 rfl
set_option maxRecDepth 20000 in
theorem e1315_43 (hF : pm_fix pt_me pt_Sg (pt_R L0 xs) F) : F 1315 43 [some (.ref 49)] [] (81, pt_G, I, L) =
    F 1315 23 [some (.ref 49)] [] (81, pt_G, I, L) := pm_blk_to hF (pm_stp 1315 [0, 4, 8, 23, 43]) 29 rfl
-- TurnCabinetModel.formed(I)I 49
set_option maxRecDepth 20000 in
theorem e1316_0 (hF : pm_fix pt_me pt_Sg (pt_R L0 xs) F) {x1 : Int32} : F 1316 0 [some (.ref 49), some (.int x1)] [] (81, pt_G, I, L) =
    if (I 49 30) = 0 then
      some (some (.int (-1)), (81, pt_G, I, L))
    else
      pm_k (F 1202 0 [some (.long (Int32.toInt64 x1)), none, some (.long 0), none, some (.long 3), none] [] (81, pt_G, I, L)) (fun v S => F 1316 16 [some (.ref 49), some (.int x1)] (v.toList ++ []) S) := pm_blk_to hF (pm_stp 1316 [0, 16, 25]) 42 rfl
set_option maxRecDepth 20000 in
theorem e1316_16 (hF : pm_fix pt_me pt_Sg (pt_R L0 xs) F) {x1 : Int32} {s0 : Int32} : F 1316 16 [some (.ref 49), some (.int x1)] [.int s0] (81, pt_G, I, L) =
    if s0 = 0 then
      some (some (.int (-1)), (81, pt_G, I, L))
    else
      pm_k (F 1315 0 [some (.ref 49)] [] (81, pt_G, I, L)) (fun v S => F 1316 25 [some (.ref 49), some (.int x1)] (v.toList ++ []) S) := pm_blk_to hF (pm_stp 1316 [0, 16, 25]) 42 rfl
set_option maxRecDepth 20000 in
theorem e1316_25 (hF : pm_fix pt_me pt_Sg (pt_R L0 xs) F) {x1 : Int32} : F 1316 25 [some (.ref 49), some (.int x1)] [] (81, pt_G, I, L) =
    if x1 = nI 0 then
      some (some (.int (I 49 65)), (81, pt_G, I, L))
    else
    if x1 = nI 1 then
      some (some (.int (I 49 63)), (81, pt_G, I, L))
    else
    if x1 = nI 2 then
      some (some (.int (I 49 64)), (81, pt_G, I, L))
    else
    if (I 49 63) = 0 then
      some (some (.int (-1)), (81, pt_G, I, L))
    else
      bif pm_ib ((I 49 63) - 1) 567 then
        some (some (.int (I 77 (Int32.toNatClampNeg ((I 49 63) - 1)))), (81, pt_G, I, L))
      else none := pm_blk_to hF (pm_stp 1316 [0, 16, 25]) 42 rfl
-- TurnCabinetModel.tried(II)I 49
set_option maxRecDepth 20000 in
theorem e1317_0 (hF : pm_fix pt_me pt_Sg (pt_R L0 xs) F) {x1 : Int32} {x2 : Int32} : F 1317 0 [some (.ref 49), some (.int x1), some (.int x2)] [] (81, pt_G, I, L) =
    if (I 49 30) = 0 then
      some (some (.int (-1)), (81, pt_G, I, L))
    else
      pm_k (F 1202 0 [some (.long (Int32.toInt64 x2)), none, some (.long 0), none, some (.long 2), none] [] (81, pt_G, I, L)) (fun v S => F 1317 16 [some (.ref 49), some (.int x1), some (.int x2)] (v.toList ++ []) S) := pm_blk_to hF (pm_stp 1317 [0, 16, 25, 38]) 50 rfl
set_option maxRecDepth 20000 in
theorem e1317_16 (hF : pm_fix pt_me pt_Sg (pt_R L0 xs) F) {x1 : Int32} {x2 : Int32} {s0 : Int32} : F 1317 16 [some (.ref 49), some (.int x1), some (.int x2)] [.int s0] (81, pt_G, I, L) =
    if s0 = 0 then
      some (some (.int (-1)), (81, pt_G, I, L))
    else
      pm_k (F 1315 0 [some (.ref 49)] [] (81, pt_G, I, L)) (fun v S => F 1317 25 [some (.ref 49), some (.int x1), some (.int x2)] (v.toList ++ []) S) := pm_blk_to hF (pm_stp 1317 [0, 16, 25, 38]) 50 rfl
set_option maxRecDepth 20000 in
theorem e1317_25 (hF : pm_fix pt_me pt_Sg (pt_R L0 xs) F) {x1 : Int32} {x2 : Int32} : F 1317 25 [some (.ref 49), some (.int x1), some (.int x2)] [] (81, pt_G, I, L) =
    pm_k (F 1202 0 [some (.long (Int32.toInt64 x1)), none, some (.long 0), none, some (.long (Int32.toInt64 ((I 49 63) - 1))), none] [] (81, pt_G, I, L)) (fun v S => F 1317 38 [some (.ref 49), some (.int x1), some (.int x2)] (v.toList ++ []) S) := pm_blk_to hF (pm_stp 1317 [0, 16, 25, 38]) 50 rfl
set_option maxRecDepth 20000 in
theorem e1317_38 (hF : pm_fix pt_me pt_Sg (pt_R L0 xs) F) {x1 : Int32} {x2 : Int32} {s0 : Int32} : F 1317 38 [some (.ref 49), some (.int x1), some (.int x2)] [.int s0] (81, pt_G, I, L) =
    if s0 = 0 then
      some (some (.int (-1)), (81, pt_G, I, L))
    else
      if x2 = 0 then
        bif pm_ib x1 567 then
          some (some (.int (I 77 (Int32.toNatClampNeg x1))), (81, pt_G, I, L))
        else none
      else
        if x2 = 1 then
          bif pm_ib x1 567 then
            some (some (.int (I 78 (Int32.toNatClampNeg x1))), (81, pt_G, I, L))
          else none
        else
          bif pm_ib x1 567 then
            some (some (.int (I 79 (Int32.toNatClampNeg x1))), (81, pt_G, I, L))
          else none := pm_blk_to hF (pm_stp 1317 [0, 16, 25, 38]) 50 rfl
-- TurnCabinetModel.hold(II)I 49
set_option maxRecDepth 20000 in
theorem e1318_0 (hF : pm_fix pt_me pt_Sg (pt_R L0 xs) F) {x1 : Int32} {x2 : Int32} : F 1318 0 [some (.ref 49), some (.int x1), some (.int x2), none, none] [] (81, pt_G, I, L) =
    pm_k (F 1248 0 [some (.ref 49), some (.int x1)] [] (81, pt_G, I, L)) (fun v S => F 1318 5 [some (.ref 49), some (.int x1), some (.int x2), none, none] (v.toList ++ []) S) := pm_blk_to hF (pm_stp 1318 [0, 5, 17, 26, 32, 44, 91]) 60 rfl
set_option maxRecDepth 20000 in
theorem e1318_5 (hF : pm_fix pt_me pt_Sg (pt_R L0 xs) F) {x1 : Int32} {x2 : Int32} {s0 : Int32} : F 1318 5 [some (.ref 49), some (.int x1), some (.int x2), none, none] [.int s0] (81, pt_G, I, L) =
    if s0 = 0 then
      some (some (.int (-1)), (81, pt_G, I, L))
    else
      pm_k (F 1202 0 [some (.long (Int32.toInt64 x2)), none, some (.long 0), none, some (.long 2), none] [] (81, pt_G, I, L)) (fun v S => F 1318 17 [some (.ref 49), some (.int x1), some (.int x2), none, none] (v.toList ++ []) S) := pm_blk_to hF (pm_stp 1318 [0, 5, 17, 26, 32, 44, 91]) 60 rfl
set_option maxRecDepth 20000 in
theorem e1318_17 (hF : pm_fix pt_me pt_Sg (pt_R L0 xs) F) {x1 : Int32} {x2 : Int32} {s0 : Int32} : F 1318 17 [some (.ref 49), some (.int x1), some (.int x2), none, none] [.int s0] (81, pt_G, I, L) =
    if s0 = 0 then
      some (some (.int (-1)), (81, pt_G, I, L))
    else
      pm_k (F 1240 0 [some (.ref 49), none] [] (81, pt_G, I, L)) (fun v S => F 1318 26 [some (.ref 49), some (.int x1), some (.int x2), none, none] (v.toList ++ []) S) := pm_blk_to hF (pm_stp 1318 [0, 5, 17, 26, 32, 44, 91]) 60 rfl
set_option maxRecDepth 20000 in
theorem e1318_26 (hF : pm_fix pt_me pt_Sg (pt_R L0 xs) F) {x1 : Int32} {x2 : Int32} : F 1318 26 [some (.ref 49), some (.int x1), some (.int x2), none, none] [] (81, pt_G, I, L) =
    pm_k (F 1266 0 [some (.ref 49), some (.int x1), some (.int x2), none, none, none] [] (81, pt_G, I, L)) (fun v S => F 1318 32 [some (.ref 49), some (.int x1), some (.int x2), none, none] (v.toList ++ []) S) := pm_blk_to hF (pm_stp 1318 [0, 5, 17, 26, 32, 44, 91]) 60 rfl
set_option maxRecDepth 20000 in
theorem e1318_32 (hF : pm_fix pt_me pt_Sg (pt_R L0 xs) F) {x1 : Int32} {x2 : Int32} : F 1318 32 [some (.ref 49), some (.int x1), some (.int x2), none, none] [] (81, pt_G, I, L) =
    bif pm_ib 0 16 then
      F 1318 44 [some (.ref 49), some (.int x1), some (.int x2), some (.int 0), some (.int 0)] [] (81, pt_G, (pm_ui I 64 (Int32.toNatClampNeg 0) x1), L)
    else none := pm_blk_to hF (pm_stp 1318 [0, 5, 17, 26, 32, 44, 91]) 60 rfl
set_option maxRecDepth 20000 in
theorem e1318_44 (hF : pm_fix pt_me pt_Sg (pt_R L0 xs) F) {x1 : Int32} {x2 : Int32} {x3 : Int32} {x4 : Int32} : F 1318 44 [some (.ref 49), some (.int x1), some (.int x2), some (.int x3), some (.int x4)] [] (81, pt_G, I, L) =
    if x4 < (I 49 31) then
      bif pm_ib x4 8 then
        bif pm_ib (1 + x4) 16 then
          bif pm_ib x4 8 then
            F 1318 44 [some (.ref 49), some (.int x1), some (.int x2), some (.int (x3 ||| ((1 : Int32) <<< ((I 70 (Int32.toNatClampNeg x4)) &&& 31)))), some (.int (x4 + 1))] [] (81, pt_G, (pm_ui I 64 (Int32.toNatClampNeg (1 + x4)) (I 70 (Int32.toNatClampNeg x4))), L)
          else none
        else none
      else none
    else
      pm_k (F 1206 0 [some (.int x3), none, none] [] (81, pt_G, I, L)) (fun v S => F 1318 91 [some (.ref 49), some (.int x1), some (.int x2), some (.int x3), some (.int x4)] (v.toList ++ []) S) := pm_blk_to hF (pm_stp 1318 [0, 5, 17, 26, 32, 44, 91]) 60 rfl
set_option maxRecDepth 20000 in
theorem e1318_91 (hF : pm_fix pt_me pt_Sg (pt_R L0 xs) F) {x1 : Int32} {x2 : Int32} {x3 : Int32} {x4 : Int32} {s0 : Int32} : F 1318 91 [some (.ref 49), some (.int x1), some (.int x2), some (.int x3), some (.int x4)] [.int s0] (81, pt_G, I, L) =
    some (some (.int s0), (81, pt_G, I, L)) := pm_blk_to hF (pm_stp 1318 [0, 5, 17, 26, 32, 44, 91]) 60 rfl
-- TurnCabinetModel.now(I)I 49
set_option maxRecDepth 20000 in
theorem e1319_0 (hF : pm_fix pt_me pt_Sg (pt_R L0 xs) F) {x1 : Int32} : F 1319 0 [some (.ref 49), some (.int x1)] [] (81, pt_G, I, L) =
    if x1 = (-1) then
      bif pm_ib 0 16 then
        some (some (.int (I 64 (Int32.toNatClampNeg 0))), (81, pt_G, I, L))
      else none
    else
      pm_k (F 1247 0 [some (.ref 49), some (.int x1)] [] (81, pt_G, I, L)) (fun v S => F 1319 19 [some (.ref 49), some (.int x1)] (v.toList ++ []) S) := pm_blk_to hF (pm_stp 1319 [0, 19]) 26 rfl
set_option maxRecDepth 20000 in
theorem e1319_19 (hF : pm_fix pt_me pt_Sg (pt_R L0 xs) F) {x1 : Int32} {s0 : Int32} : F 1319 19 [some (.ref 49), some (.int x1)] [.int s0] (81, pt_G, I, L) =
    if s0 = 0 then
      some (some (.int (-1)), (81, pt_G, I, L))
    else
      bif pm_ib (1 + x1) 16 then
        some (some (.int (I 64 (Int32.toNatClampNeg (1 + x1)))), (81, pt_G, I, L))
      else none := pm_blk_to hF (pm_stp 1319 [0, 19]) 26 rfl
-- TurnCabinetModel.goesOut(I)I 49
set_option maxRecDepth 20000 in
theorem e1320_0 (hF : pm_fix pt_me pt_Sg (pt_R L0 xs) F) {x1 : Int32} : F 1320 0 [some (.ref 49), some (.int x1), none, none, none, none] [] (81, pt_G, I, L) =
    bif pm_ib 0 16 then
      bif pm_ib 0 16 then
        F 1320 18 [some (.ref 49), some (.int x1), some (.int 0), some (.int 0), none, none] [] (81, pt_G, (pm_ui I 64 (Int32.toNatClampNeg 0) ((I 64 (Int32.toNatClampNeg 0)) &&& (((1 : Int32) <<< (x1 &&& 31)) ^^^ (-1)))), L)
      else none
    else none := pm_blk_to hF (pm_stp 1320 [0, 18, 66, 67, 83, 104, 121, 130]) 104 rfl
set_option maxRecDepth 20000 in
theorem e1320_18 (hF : pm_fix pt_me pt_Sg (pt_R L0 xs) F) {x1 : Int32} {x2 : Int32} {x3 : Int32} : F 1320 18 [some (.ref 49), some (.int x1), some (.int x2), some (.int x3), none, none] [] (81, pt_G, I, L) =
    if x3 < (I 49 31) then
      bif pm_ib (1 + x3) 16 then
        if (I 64 (Int32.toNatClampNeg (1 + x3))) = x1 then
          bif pm_ib (1 + x3) 16 then
            F 1320 18 [some (.ref 49), some (.int x1), some (.int (x2 ||| ((1 : Int32) <<< (x3 &&& 31)))), some (.int (x3 + 1)), none, none] [] (81, pt_G, (pm_ui I 64 (Int32.toNatClampNeg (1 + x3)) (-1)), L)
          else none
        else
          F 1320 18 [some (.ref 49), some (.int x1), some (.int x2), some (.int (x3 + 1)), none, none] [] (81, pt_G, I, L)
      else none
    else
      pm_k (F 1206 0 [some (.int x2), none, none] [] (81, pt_G, I, L)) (fun v S => F 1320 66 [some (.ref 49), some (.int x1), some (.int x2), some (.int x3), none, none] (v.toList ++ []) S) := pm_blk_to hF (pm_stp 1320 [0, 18, 66, 67, 83, 104, 121, 130]) 104 rfl
set_option maxRecDepth 20000 in
theorem e1320_66 (hF : pm_fix pt_me pt_Sg (pt_R L0 xs) F) {x1 : Int32} {x2 : Int32} {x3 : Int32} {s0 : Int32} : F 1320 66 [some (.ref 49), some (.int x1), some (.int x2), some (.int x3), none, none] [.int s0] (81, pt_G, I, L) =
    F 1320 67 [some (.ref 49), some (.int x1), some (.int x2), some (.int s0), none, none] [] (81, pt_G, I, L) := pm_blk_to hF (pm_stp 1320 [0, 18, 66, 67, 83, 104, 121, 130]) 104 rfl
set_option maxRecDepth 20000 in
theorem e1320_67 (hF : pm_fix pt_me pt_Sg (pt_R L0 xs) F) {x1 : Int32} {x2 : Int32} {x3 : Int32} : F 1320 67 [some (.ref 49), some (.int x1), some (.int x2), some (.int x3), none, none] [] (81, pt_G, I, L) =
    if x2 ≤ 0 then
      some (some (.int x3), (81, pt_G, I, L))
    else
      bif pm_ib 0 16 then
        if (I 64 (Int32.toNatClampNeg 0)) ≤ 0 then
          some (some (.int x3), (81, pt_G, I, L))
        else
          F 1320 83 [some (.ref 49), some (.int x1), some (.int x2), some (.int x3), some (.int 0), none] [] (81, pt_G, I, L)
      else none := pm_blk_to hF (pm_stp 1320 [0, 18, 66, 67, 83, 104, 121, 130]) 104 rfl
set_option maxRecDepth 20000 in
theorem e1320_83 (hF : pm_fix pt_me pt_Sg (pt_R L0 xs) F) {x1 : Int32} {x2 : Int32} {x3 : Int32} {x4 : Int32} : F 1320 83 [some (.ref 49), some (.int x1), some (.int x2), some (.int x3), some (.int x4), none] [] (81, pt_G, I, L) =
    if x4 < (I 49 30) then
      pm_k (F 1250 0 [some (.ref 49), some (.int x4), none, none] [] (81, pt_G, I, L)) (fun v S => F 1320 104 [some (.ref 49), some (.int x1), some (.int x2), some (.int x3), some (.int x4), none] (v.toList ++ [.int x4, .ref 67]) S)
    else
      bif pm_ib 0 16 then
        pm_k (F 1255 0 [some (.ref 49), some (.int (I 64 (Int32.toNatClampNeg 0))), none, none] [] (81, pt_G, I, L)) (fun v S => F 1320 121 [some (.ref 49), some (.int x1), some (.int x2), some (.int x3), some (.int x4), none] (v.toList ++ []) S)
      else none := pm_blk_to hF (pm_stp 1320 [0, 18, 66, 67, 83, 104, 121, 130]) 104 rfl
set_option maxRecDepth 20000 in
theorem e1320_104 (hF : pm_fix pt_me pt_Sg (pt_R L0 xs) F) {x1 : Int32} {x2 : Int32} {x3 : Int32} {x4 : Int32} {s0 : Int32} {s1 : Int32} : F 1320 104 [some (.ref 49), some (.int x1), some (.int x2), some (.int x3), some (.int x4), none] [.int s0, .int s1, .ref 67] (81, pt_G, I, L) =
    bif pm_ib s1 7 then
      F 1320 83 [some (.ref 49), some (.int x1), some (.int x2), some (.int x3), some (.int (x4 + 1)), none] [] (81, pt_G, (pm_ui I 67 (Int32.toNatClampNeg s1) s0), L)
    else none := pm_blk_to hF (pm_stp 1320 [0, 18, 66, 67, 83, 104, 121, 130]) 104 rfl
set_option maxRecDepth 20000 in
theorem e1320_121 (hF : pm_fix pt_me pt_Sg (pt_R L0 xs) F) {x1 : Int32} {x2 : Int32} {x3 : Int32} {x4 : Int32} {s0 : Int32} : F 1320 121 [some (.ref 49), some (.int x1), some (.int x2), some (.int x3), some (.int x4), none] [.int s0] (81, pt_G, I, L) =
    pm_k (F 1262 0 [some (.ref 49), some (.int s0), some (.int x2), none, none] [] (81, pt_G, I, L)) (fun v S => F 1320 130 [some (.ref 49), some (.int x1), some (.int x2), some (.int x3), some (.int s0), none] (v.toList ++ []) S) := pm_blk_to hF (pm_stp 1320 [0, 18, 66, 67, 83, 104, 121, 130]) 104 rfl
set_option maxRecDepth 20000 in
theorem e1320_130 (hF : pm_fix pt_me pt_Sg (pt_R L0 xs) F) {x1 : Int32} {x2 : Int32} {x3 : Int32} {x4 : Int32} {s0 : Int32} : F 1320 130 [some (.ref 49), some (.int x1), some (.int x2), some (.int x3), some (.int x4), none] [.int s0] (81, pt_G, I, L) =
    bif pm_ib (1 + s0) 16 then
      F 1320 67 [some (.ref 49), some (.int x1), some (.int (x2 &&& (((1 : Int32) <<< (s0 &&& 31)) ^^^ (-1)))), some (.int x3), none, none] [] (81, pt_G, (pm_ui I 64 (Int32.toNatClampNeg (1 + s0)) x4), L)
    else none := pm_blk_to hF (pm_stp 1320 [0, 18, 66, 67, 83, 104, 121, 130]) 104 rfl
-- TurnCabinetModel.leave(I)I 49
set_option maxRecDepth 20000 in
theorem e1321_0 (hF : pm_fix pt_me pt_Sg (pt_R L0 xs) F) {x1 : Int32} : F 1321 0 [some (.ref 49), some (.int x1)] [] (81, pt_G, I, L) =
    pm_k (F 1246 0 [some (.ref 49), some (.int x1)] [] (81, pt_G, I, L)) (fun v S => F 1321 5 [some (.ref 49), some (.int x1)] (v.toList ++ []) S) := pm_blk_to hF (pm_stp 1321 [0, 5, 18, 27, 32]) 24 rfl
set_option maxRecDepth 20000 in
theorem e1321_5 (hF : pm_fix pt_me pt_Sg (pt_R L0 xs) F) {x1 : Int32} {s0 : Int32} : F 1321 5 [some (.ref 49), some (.int x1)] [.int s0] (81, pt_G, I, L) =
    if s0 = 0 then
      some (some (.int (-1)), (81, pt_G, I, L))
    else
      bif pm_ib 0 16 then
        pm_k (F 1205 0 [some (.int (I 64 (Int32.toNatClampNeg 0))), some (.int x1)] [] (81, pt_G, I, L)) (fun v S => F 1321 18 [some (.ref 49), some (.int x1)] (v.toList ++ []) S)
      else none := pm_blk_to hF (pm_stp 1321 [0, 5, 18, 27, 32]) 24 rfl
set_option maxRecDepth 20000 in
theorem e1321_18 (hF : pm_fix pt_me pt_Sg (pt_R L0 xs) F) {x1 : Int32} {s0 : Int32} : F 1321 18 [some (.ref 49), some (.int x1)] [.int s0] (81, pt_G, I, L) =
    if s0 = 0 then
      some (some (.int (-1)), (81, pt_G, I, L))
    else
      pm_k (F 1240 0 [some (.ref 49), none] [] (81, pt_G, I, L)) (fun v S => F 1321 27 [some (.ref 49), some (.int x1)] (v.toList ++ []) S) := pm_blk_to hF (pm_stp 1321 [0, 5, 18, 27, 32]) 24 rfl
set_option maxRecDepth 20000 in
theorem e1321_27 (hF : pm_fix pt_me pt_Sg (pt_R L0 xs) F) {x1 : Int32} : F 1321 27 [some (.ref 49), some (.int x1)] [] (81, pt_G, I, L) =
    pm_k (F 1320 0 [some (.ref 49), some (.int x1), none, none, none, none] [] (81, pt_G, I, L)) (fun v S => F 1321 32 [some (.ref 49), some (.int x1)] (v.toList ++ []) S) := pm_blk_to hF (pm_stp 1321 [0, 5, 18, 27, 32]) 24 rfl
set_option maxRecDepth 20000 in
theorem e1321_32 (hF : pm_fix pt_me pt_Sg (pt_R L0 xs) F) {x1 : Int32} {s0 : Int32} : F 1321 32 [some (.ref 49), some (.int x1)] [.int s0] (81, pt_G, I, L) =
    some (some (.int s0), (81, pt_G, I, L)) := pm_blk_to hF (pm_stp 1321 [0, 5, 18, 27, 32]) 24 rfl
-- TurnCabinetModel.paysNow(I)I 49
set_option maxRecDepth 20000 in
theorem e1322_0 (hF : pm_fix pt_me pt_Sg (pt_R L0 xs) F) {x1 : Int32} : F 1322 0 [some (.ref 49), some (.int x1), none, none] [] (81, pt_G, I, L) =
    F 1322 4 [some (.ref 49), some (.int x1), some (.int 0), some (.int 0)] [] (81, pt_G, I, L) := pm_blk_to hF (pm_stp 1322 [0, 4, 31, 63, 66]) 49 rfl
set_option maxRecDepth 20000 in
theorem e1322_4 (hF : pm_fix pt_me pt_Sg (pt_R L0 xs) F) {x1 : Int32} {x2 : Int32} {x3 : Int32} : F 1322 4 [some (.ref 49), some (.int x1), some (.int x2), some (.int x3)] [] (81, pt_G, I, L) =
    if x3 < (I 49 31) then
      bif pm_ib (1 + x3) 16 then
        if (I 64 (Int32.toNatClampNeg (1 + x3))) = x1 then
          pm_k (F 1249 0 [some (.ref 49), some (.int x1), some (.int x3)] [] (81, pt_G, I, L)) (fun v S => F 1322 31 [some (.ref 49), some (.int x1), some (.int x2), some (.int x3)] (v.toList ++ [.int x2]) S)
        else
          F 1322 4 [some (.ref 49), some (.int x1), some (.int (x2 + 0)), some (.int (x3 + 1))] [] (81, pt_G, I, L)
      else none
    else
      bif pm_ib 0 16 then
        pm_k (F 1280 0 [some (.ref 49), some (.int (I 64 (Int32.toNatClampNeg 0))), none, none] [] (81, pt_G, I, L)) (fun v S => F 1322 63 [some (.ref 49), some (.int x1), some (.int x2), some (.int x3)] (v.toList ++ [.int x1, .ref 49, .int (I 49 35), .int (10 * x2)]) S)
      else none := pm_blk_to hF (pm_stp 1322 [0, 4, 31, 63, 66]) 49 rfl
set_option maxRecDepth 20000 in
theorem e1322_31 (hF : pm_fix pt_me pt_Sg (pt_R L0 xs) F) {x1 : Int32} {x2 : Int32} {x3 : Int32} {s0 : Int32} {s1 : Int32} : F 1322 31 [some (.ref 49), some (.int x1), some (.int x2), some (.int x3)] [.int s0, .int s1] (81, pt_G, I, L) =
    F 1322 4 [some (.ref 49), some (.int x1), some (.int (s1 + s0)), some (.int (x3 + 1))] [] (81, pt_G, I, L) := pm_blk_to hF (pm_stp 1322 [0, 4, 31, 63, 66]) 49 rfl
set_option maxRecDepth 20000 in
theorem e1322_63 (hF : pm_fix pt_me pt_Sg (pt_R L0 xs) F) {x1 : Int32} {x2 : Int32} {x3 : Int32} {s0 : Int32} {s1 : Int32} {s3 : Int32} {s4 : Int32} : F 1322 63 [some (.ref 49), some (.int x1), some (.int x2), some (.int x3)] [.int s0, .int s1, .ref 49, .int s3, .int s4] (81, pt_G, I, L) =
    pm_k (F 1282 0 [some (.ref 49), some (.int s1), some (.int s0)] [] (81, pt_G, I, L)) (fun v S => F 1322 66 [some (.ref 49), some (.int x1), some (.int x2), some (.int x3)] (v.toList ++ [.int s3, .int s4]) S) := pm_blk_to hF (pm_stp 1322 [0, 4, 31, 63, 66]) 49 rfl
set_option maxRecDepth 20000 in
theorem e1322_66 (hF : pm_fix pt_me pt_Sg (pt_R L0 xs) F) {x1 : Int32} {x2 : Int32} {x3 : Int32} {s0 : Int32} {s1 : Int32} {s2 : Int32} : F 1322 66 [some (.ref 49), some (.int x1), some (.int x2), some (.int x3)] [.int s0, .int s1, .int s2] (81, pt_G, I, L) =
    some (some (.int (s2 - (s1 * s0))), (81, pt_G, I, L)) := pm_blk_to hF (pm_stp 1322 [0, 4, 31, 63, 66]) 49 rfl
-- TurnCabinetModel.payNow(I)I 49
set_option maxRecDepth 20000 in
theorem e1323_0 (hF : pm_fix pt_me pt_Sg (pt_R L0 xs) F) {x1 : Int32} : F 1323 0 [some (.ref 49), some (.int x1)] [] (81, pt_G, I, L) =
    pm_k (F 1246 0 [some (.ref 49), some (.int x1)] [] (81, pt_G, I, L)) (fun v S => F 1323 5 [some (.ref 49), some (.int x1)] (v.toList ++ []) S) := pm_blk_to hF (pm_stp 1323 [0, 5, 22]) 20 rfl
set_option maxRecDepth 20000 in
theorem e1323_5 (hF : pm_fix pt_me pt_Sg (pt_R L0 xs) F) {x1 : Int32} {s0 : Int32} : F 1323 5 [some (.ref 49), some (.int x1)] [.int s0] (81, pt_G, I, L) =
    if s0 = 0 then
      some (some (.int (-1000000)), (81, pt_G, I, L))
    else
      bif pm_ib 0 16 then
        if (I 64 (Int32.toNatClampNeg 0)) ≤ 0 then
          some (some (.int (-1000000)), (81, pt_G, I, L))
        else
          pm_k (F 1322 0 [some (.ref 49), some (.int x1), none, none] [] (81, pt_G, I, L)) (fun v S => F 1323 22 [some (.ref 49), some (.int x1)] (v.toList ++ []) S)
      else none := pm_blk_to hF (pm_stp 1323 [0, 5, 22]) 20 rfl
set_option maxRecDepth 20000 in
theorem e1323_22 (hF : pm_fix pt_me pt_Sg (pt_R L0 xs) F) {x1 : Int32} {s0 : Int32} : F 1323 22 [some (.ref 49), some (.int x1)] [.int s0] (81, pt_G, I, L) =
    some (some (.int s0), (81, pt_G, I, L)) := pm_blk_to hF (pm_stp 1323 [0, 5, 22]) 20 rfl
-- TurnCabinetModel.goer()I 49
set_option maxRecDepth 20000 in
theorem e1324_0 (hF : pm_fix pt_me pt_Sg (pt_R L0 xs) F) : F 1324 0 [some (.ref 49), none] [] (81, pt_G, I, L) =
    F 1324 2 [some (.ref 49), some (.int 0)] [] (81, pt_G, I, L) := pm_blk_to hF (pm_stp 1324 [0, 2, 20, 28]) 32 rfl
set_option maxRecDepth 20000 in
theorem e1324_2 (hF : pm_fix pt_me pt_Sg (pt_R L0 xs) F) {x1 : Int32} : F 1324 2 [some (.ref 49), some (.int x1)] [] (81, pt_G, I, L) =
    if x1 < (I 49 30) then
      bif pm_ib 0 16 then
        pm_k (F 1205 0 [some (.int (I 64 (Int32.toNatClampNeg 0))), some (.int x1)] [] (81, pt_G, I, L)) (fun v S => F 1324 20 [some (.ref 49), some (.int x1)] (v.toList ++ []) S)
      else none
    else
      some (some (.int (-1)), (81, pt_G, I, L)) := pm_blk_to hF (pm_stp 1324 [0, 2, 20, 28]) 32 rfl
set_option maxRecDepth 20000 in
theorem e1324_20 (hF : pm_fix pt_me pt_Sg (pt_R L0 xs) F) {x1 : Int32} {s0 : Int32} : F 1324 20 [some (.ref 49), some (.int x1)] [.int s0] (81, pt_G, I, L) =
    if s0 = 0 then
      F 1324 2 [some (.ref 49), some (.int (x1 + 1))] [] (81, pt_G, I, L)
    else
      pm_k (F 1322 0 [some (.ref 49), some (.int x1), none, none] [] (81, pt_G, I, L)) (fun v S => F 1324 28 [some (.ref 49), some (.int x1)] (v.toList ++ []) S) := pm_blk_to hF (pm_stp 1324 [0, 2, 20, 28]) 32 rfl
set_option maxRecDepth 20000 in
theorem e1324_28 (hF : pm_fix pt_me pt_Sg (pt_R L0 xs) F) {x1 : Int32} {s0 : Int32} : F 1324 28 [some (.ref 49), some (.int x1)] [.int s0] (81, pt_G, I, L) =
    bif pm_ib x1 7 then
      if s0 < (I 60 (Int32.toNatClampNeg x1)) then
        some (some (.int x1), (81, pt_G, I, L))
      else
        F 1324 2 [some (.ref 49), some (.int (x1 + 1))] [] (81, pt_G, I, L)
    else none := pm_blk_to hF (pm_stp 1324 [0, 2, 20, 28]) 32 rfl
-- TurnCabinetModel.crisis()I 49
set_option maxRecDepth 20000 in
theorem e1325_0 (hF : pm_fix pt_me pt_Sg (pt_R L0 xs) F) : F 1325 0 [some (.ref 49), none, none] [] (81, pt_G, I, L) =
    pm_k (F 1324 0 [some (.ref 49), none] [] (81, pt_G, I, L)) (fun v S => F 1325 6 [some (.ref 49), some (.int 0), none] (v.toList ++ []) S) := pm_blk_to hF (pm_stp 1325 [0, 6, 7, 20, 25, 33]) 28 rfl
set_option maxRecDepth 20000 in
theorem e1325_6 (hF : pm_fix pt_me pt_Sg (pt_R L0 xs) F) {x1 : Int32} {s0 : Int32} : F 1325 6 [some (.ref 49), some (.int x1), none] [.int s0] (81, pt_G, I, L) =
    F 1325 7 [some (.ref 49), some (.int x1), some (.int s0)] [] (81, pt_G, I, L) := pm_blk_to hF (pm_stp 1325 [0, 6, 7, 20, 25, 33]) 28 rfl
set_option maxRecDepth 20000 in
theorem e1325_7 (hF : pm_fix pt_me pt_Sg (pt_R L0 xs) F) {x1 : Int32} {x2 : Int32} : F 1325 7 [some (.ref 49), some (.int x1), some (.int x2)] [] (81, pt_G, I, L) =
    if x2 = (-1) then
      some (some (.int x1), (81, pt_G, I, L))
    else
      if x1 = 0 then
        pm_k (F 1240 0 [some (.ref 49), none] [] (81, pt_G, I, L)) (fun v S => F 1325 20 [some (.ref 49), some (.int x1), some (.int x2)] (v.toList ++ []) S)
      else
        F 1325 20 [some (.ref 49), some (.int x1), some (.int x2)] [] (81, pt_G, I, L) := pm_blk_to hF (pm_stp 1325 [0, 6, 7, 20, 25, 33]) 28 rfl
set_option maxRecDepth 20000 in
theorem e1325_20 (hF : pm_fix pt_me pt_Sg (pt_R L0 xs) F) {x1 : Int32} {x2 : Int32} : F 1325 20 [some (.ref 49), some (.int x1), some (.int x2)] [] (81, pt_G, I, L) =
    pm_k (F 1320 0 [some (.ref 49), some (.int x2), none, none, none, none] [] (81, pt_G, I, L)) (fun v S => F 1325 25 [some (.ref 49), some (.int x1), some (.int x2)] (v.toList ++ []) S) := pm_blk_to hF (pm_stp 1325 [0, 6, 7, 20, 25, 33]) 28 rfl
set_option maxRecDepth 20000 in
theorem e1325_25 (hF : pm_fix pt_me pt_Sg (pt_R L0 xs) F) {x1 : Int32} {x2 : Int32} {s0 : Int32} : F 1325 25 [some (.ref 49), some (.int x1), some (.int x2)] [.int s0] (81, pt_G, I, L) =
    pm_k (F 1324 0 [some (.ref 49), none] [] (81, pt_G, I, L)) (fun v S => F 1325 33 [some (.ref 49), some (.int (x1 + 1)), some (.int x2)] (v.toList ++ []) S) := pm_blk_to hF (pm_stp 1325 [0, 6, 7, 20, 25, 33]) 28 rfl
set_option maxRecDepth 20000 in
theorem e1325_33 (hF : pm_fix pt_me pt_Sg (pt_R L0 xs) F) {x1 : Int32} {x2 : Int32} {s0 : Int32} : F 1325 33 [some (.ref 49), some (.int x1), some (.int x2)] [.int s0] (81, pt_G, I, L) =
    F 1325 7 [some (.ref 49), some (.int x1), some (.int s0)] [] (81, pt_G, I, L) := pm_blk_to hF (pm_stp 1325 [0, 6, 7, 20, 25, 33]) 28 rfl
-- TurnCabinetModel.trade(II)I 49
set_option maxRecDepth 20000 in
theorem e1326_0 (hF : pm_fix pt_me pt_Sg (pt_R L0 xs) F) {x1 : Int32} {x2 : Int32} : F 1326 0 [some (.ref 49), some (.int x1), some (.int x2), none, none] [] (81, pt_G, I, L) =
    pm_k (F 1247 0 [some (.ref 49), some (.int x1)] [] (81, pt_G, I, L)) (fun v S => F 1326 5 [some (.ref 49), some (.int x1), some (.int x2), none, none] (v.toList ++ []) S) := pm_blk_to hF (pm_stp 1326 [0, 5, 13, 86, 111, 118, 125, 133]) 94 rfl
set_option maxRecDepth 20000 in
theorem e1326_5 (hF : pm_fix pt_me pt_Sg (pt_R L0 xs) F) {x1 : Int32} {x2 : Int32} {s0 : Int32} : F 1326 5 [some (.ref 49), some (.int x1), some (.int x2), none, none] [.int s0] (81, pt_G, I, L) =
    if s0 = 0 then
      some (some (.int (-1000000)), (81, pt_G, I, L))
    else
      pm_k (F 1247 0 [some (.ref 49), some (.int x2)] [] (81, pt_G, I, L)) (fun v S => F 1326 13 [some (.ref 49), some (.int x1), some (.int x2), none, none] (v.toList ++ []) S) := pm_blk_to hF (pm_stp 1326 [0, 5, 13, 86, 111, 118, 125, 133]) 94 rfl
set_option maxRecDepth 20000 in
theorem e1326_13 (hF : pm_fix pt_me pt_Sg (pt_R L0 xs) F) {x1 : Int32} {x2 : Int32} {s0 : Int32} : F 1326 13 [some (.ref 49), some (.int x1), some (.int x2), none, none] [.int s0] (81, pt_G, I, L) =
    if s0 = 0 then
      some (some (.int (-1000000)), (81, pt_G, I, L))
    else
      bif pm_ib (1 + x1) 16 then
        if (I 64 (Int32.toNatClampNeg (1 + x1))) = (-1) then
          some (some (.int (-1000000)), (81, pt_G, I, L))
        else
          bif pm_ib (1 + x2) 16 then
            if (I 64 (Int32.toNatClampNeg (1 + x2))) = (-1) then
              some (some (.int (-1000000)), (81, pt_G, I, L))
            else
              bif pm_ib (1 + x1) 16 then
                bif pm_ib (1 + x2) 16 then
                  if (I 64 (Int32.toNatClampNeg (1 + x1))) = (I 64 (Int32.toNatClampNeg (1 + x2))) then
                    some (some (.int (-1000000)), (81, pt_G, I, L))
                  else
                    bif pm_ib (1 + x1) 16 then
                      bif pm_ib (1 + x2) 16 then
                        pm_k (F 1240 0 [some (.ref 49), none] [] (81, pt_G, I, L)) (fun v S => F 1326 86 [some (.ref 49), some (.int x1), some (.int x2), some (.int (I 64 (Int32.toNatClampNeg (1 + x1)))), some (.int (I 64 (Int32.toNatClampNeg (1 + x2))))] (v.toList ++ []) S)
                      else none
                    else none
                else none
              else none
          else none
      else none := pm_blk_to hF (pm_stp 1326 [0, 5, 13, 86, 111, 118, 125, 133]) 94 rfl
set_option maxRecDepth 20000 in
theorem e1326_86 (hF : pm_fix pt_me pt_Sg (pt_R L0 xs) F) {x1 : Int32} {x2 : Int32} {x3 : Int32} {x4 : Int32} : F 1326 86 [some (.ref 49), some (.int x1), some (.int x2), some (.int x3), some (.int x4)] [] (81, pt_G, I, L) =
    bif pm_ib (1 + x1) 16 then
      bif pm_ib (1 + x2) 16 then
        pm_k (F 1249 0 [some (.ref 49), some (.int x3), some (.int x2)] [] (81, pt_G, (pm_ui (pm_ui I 64 (Int32.toNatClampNeg (1 + x1)) x4) 64 (Int32.toNatClampNeg (1 + x2)) x3), L)) (fun v S => F 1326 111 [some (.ref 49), some (.int x1), some (.int x2), some (.int x3), some (.int x4)] (v.toList ++ []) S)
      else none
    else none := pm_blk_to hF (pm_stp 1326 [0, 5, 13, 86, 111, 118, 125, 133]) 94 rfl
set_option maxRecDepth 20000 in
theorem e1326_111 (hF : pm_fix pt_me pt_Sg (pt_R L0 xs) F) {x1 : Int32} {x2 : Int32} {x3 : Int32} {x4 : Int32} {s0 : Int32} : F 1326 111 [some (.ref 49), some (.int x1), some (.int x2), some (.int x3), some (.int x4)] [.int s0] (81, pt_G, I, L) =
    pm_k (F 1249 0 [some (.ref 49), some (.int x4), some (.int x1)] [] (81, pt_G, I, L)) (fun v S => F 1326 118 [some (.ref 49), some (.int x1), some (.int x2), some (.int x3), some (.int x4)] (v.toList ++ [.int s0]) S) := pm_blk_to hF (pm_stp 1326 [0, 5, 13, 86, 111, 118, 125, 133]) 94 rfl
set_option maxRecDepth 20000 in
theorem e1326_118 (hF : pm_fix pt_me pt_Sg (pt_R L0 xs) F) {x1 : Int32} {x2 : Int32} {x3 : Int32} {x4 : Int32} {s0 : Int32} {s1 : Int32} : F 1326 118 [some (.ref 49), some (.int x1), some (.int x2), some (.int x3), some (.int x4)] [.int s0, .int s1] (81, pt_G, I, L) =
    pm_k (F 1249 0 [some (.ref 49), some (.int x3), some (.int x1)] [] (81, pt_G, I, L)) (fun v S => F 1326 125 [some (.ref 49), some (.int x1), some (.int x2), some (.int x3), some (.int x4)] (v.toList ++ [.int (s1 + s0)]) S) := pm_blk_to hF (pm_stp 1326 [0, 5, 13, 86, 111, 118, 125, 133]) 94 rfl
set_option maxRecDepth 20000 in
theorem e1326_125 (hF : pm_fix pt_me pt_Sg (pt_R L0 xs) F) {x1 : Int32} {x2 : Int32} {x3 : Int32} {x4 : Int32} {s0 : Int32} {s1 : Int32} : F 1326 125 [some (.ref 49), some (.int x1), some (.int x2), some (.int x3), some (.int x4)] [.int s0, .int s1] (81, pt_G, I, L) =
    pm_k (F 1249 0 [some (.ref 49), some (.int x4), some (.int x2)] [] (81, pt_G, I, L)) (fun v S => F 1326 133 [some (.ref 49), some (.int x1), some (.int x2), some (.int x3), some (.int x4)] (v.toList ++ [.int (s1 - s0)]) S) := pm_blk_to hF (pm_stp 1326 [0, 5, 13, 86, 111, 118, 125, 133]) 94 rfl
set_option maxRecDepth 20000 in
theorem e1326_133 (hF : pm_fix pt_me pt_Sg (pt_R L0 xs) F) {x1 : Int32} {x2 : Int32} {x3 : Int32} {x4 : Int32} {s0 : Int32} {s1 : Int32} : F 1326 133 [some (.ref 49), some (.int x1), some (.int x2), some (.int x3), some (.int x4)] [.int s0, .int s1] (81, pt_G, I, L) =
    some (some (.int (s1 - s0)), (81, pt_G, I, L)) := pm_blk_to hF (pm_stp 1326 [0, 5, 13, 86, 111, 118, 125, 133]) 94 rfl
-- TurnCabinetModel.seats(II)I 49
set_option maxRecDepth 20000 in
theorem e1327_0 (hF : pm_fix pt_me pt_Sg (pt_R L0 xs) F) {x1 : Int32} {x2 : Int32} : F 1327 0 [some (.ref 49), some (.int x1), some (.int x2), none] [] (81, pt_G, I, L) =
    pm_k (F 1246 0 [some (.ref 49), some (.int x1)] [] (81, pt_G, I, L)) (fun v S => F 1327 5 [some (.ref 49), some (.int x1), some (.int x2), none] (v.toList ++ []) S) := pm_blk_to hF (pm_stp 1327 [0, 5, 17, 25, 36, 41]) 40 rfl
set_option maxRecDepth 20000 in
theorem e1327_5 (hF : pm_fix pt_me pt_Sg (pt_R L0 xs) F) {x1 : Int32} {x2 : Int32} {s0 : Int32} : F 1327 5 [some (.ref 49), some (.int x1), some (.int x2), none] [.int s0] (81, pt_G, I, L) =
    if s0 = 0 then
      some (some (.int (-1)), (81, pt_G, I, L))
    else
      pm_k (F 1202 0 [some (.long (Int32.toInt64 x2)), none, some (.long 1), none, some (.long 999), none] [] (81, pt_G, I, L)) (fun v S => F 1327 17 [some (.ref 49), some (.int x1), some (.int x2), none] (v.toList ++ []) S) := pm_blk_to hF (pm_stp 1327 [0, 5, 17, 25, 36, 41]) 40 rfl
set_option maxRecDepth 20000 in
theorem e1327_17 (hF : pm_fix pt_me pt_Sg (pt_R L0 xs) F) {x1 : Int32} {x2 : Int32} {s0 : Int32} : F 1327 17 [some (.ref 49), some (.int x1), some (.int x2), none] [.int s0] (81, pt_G, I, L) =
    if s0 = 0 then
      some (some (.int (-1)), (81, pt_G, I, L))
    else
      pm_k (F 1242 0 [some (.ref 49), some (.int x1)] [] (81, pt_G, I, L)) (fun v S => F 1327 25 [some (.ref 49), some (.int x1), some (.int x2), none] (v.toList ++ []) S) := pm_blk_to hF (pm_stp 1327 [0, 5, 17, 25, 36, 41]) 40 rfl
set_option maxRecDepth 20000 in
theorem e1327_25 (hF : pm_fix pt_me pt_Sg (pt_R L0 xs) F) {x1 : Int32} {x2 : Int32} {s0 : Int32} : F 1327 25 [some (.ref 49), some (.int x1), some (.int x2), none] [.int s0] (81, pt_G, I, L) =
    if s0 = x2 then
      some (some (.int (-1)), (81, pt_G, I, L))
    else
      pm_k (F 1242 0 [some (.ref 49), some (.int x1)] [] (81, pt_G, I, L)) (fun v S => F 1327 36 [some (.ref 49), some (.int x1), some (.int x2), none] (v.toList ++ []) S) := pm_blk_to hF (pm_stp 1327 [0, 5, 17, 25, 36, 41]) 40 rfl
set_option maxRecDepth 20000 in
theorem e1327_36 (hF : pm_fix pt_me pt_Sg (pt_R L0 xs) F) {x1 : Int32} {x2 : Int32} {s0 : Int32} : F 1327 36 [some (.ref 49), some (.int x1), some (.int x2), none] [.int s0] (81, pt_G, I, L) =
    pm_k (F 1240 0 [some (.ref 49), none] [] (81, pt_G, I, L)) (fun v S => F 1327 41 [some (.ref 49), some (.int x1), some (.int x2), some (.int s0)] (v.toList ++ []) S) := pm_blk_to hF (pm_stp 1327 [0, 5, 17, 25, 36, 41]) 40 rfl
set_option maxRecDepth 20000 in
theorem e1327_41 (hF : pm_fix pt_me pt_Sg (pt_R L0 xs) F) {x1 : Int32} {x2 : Int32} {x3 : Int32} : F 1327 41 [some (.ref 49), some (.int x1), some (.int x2), some (.int x3)] [] (81, pt_G, I, L) =
    bif pm_ib (9 + x1) 16 then
      some (some (.int x3), (81, pt_G, (pm_ui (pm_ui I 64 (Int32.toNatClampNeg (9 + x1)) x2) 49 57 0), L))
    else none := pm_blk_to hF (pm_stp 1327 [0, 5, 17, 25, 36, 41]) 40 rfl
-- TurnCabinetModel.above()I 49
set_option maxRecDepth 20000 in
theorem e1328_0 (hF : pm_fix pt_me pt_Sg (pt_R L0 xs) F) : F 1328 0 [some (.ref 49)] [] (81, pt_G, I, L) =
    bif pm_ib 0 16 then
      if (I 64 (Int32.toNatClampNeg 0)) = 0 then
        some (some (.int (-1000000)), (81, pt_G, I, L))
      else
        bif pm_ib 0 16 then
          pm_k (F 1243 0 [some (.ref 49), some (.int (I 64 (Int32.toNatClampNeg 0))), none, none] [] (81, pt_G, I, L)) (fun v S => F 1328 25 [some (.ref 49)] (v.toList ++ []) S)
        else none
    else none := pm_blk_to hF (pm_stp 1328 [0, 25, 29]) 22 rfl
set_option maxRecDepth 20000 in
theorem e1328_25 (hF : pm_fix pt_me pt_Sg (pt_R L0 xs) F) {s0 : Int32} : F 1328 25 [some (.ref 49)] [.int s0] (81, pt_G, I, L) =
    pm_k (F 1245 0 [some (.ref 49)] [] (81, pt_G, I, L)) (fun v S => F 1328 29 [some (.ref 49)] (v.toList ++ [.int s0]) S) := pm_blk_to hF (pm_stp 1328 [0, 25, 29]) 22 rfl
set_option maxRecDepth 20000 in
theorem e1328_29 (hF : pm_fix pt_me pt_Sg (pt_R L0 xs) F) {s0 : Int32} {s1 : Int32} : F 1328 29 [some (.ref 49)] [.int s0, .int s1] (81, pt_G, I, L) =
    some (some (.int (s1 - s0)), (81, pt_G, I, L)) := pm_blk_to hF (pm_stp 1328 [0, 25, 29]) 22 rfl
-- TurnCabinetModel.judge(II)I 49
set_option maxRecDepth 20000 in
theorem e1329_0 (hF : pm_fix pt_me pt_Sg (pt_R L0 xs) F) {x1 : Int32} {x2 : Int32} : F 1329 0 [some (.ref 49), some (.int x1), some (.int x2), none, none, none, none, none, none, none, none] [] (81, pt_G, I, L) =
    pm_k (F 1248 0 [some (.ref 49), some (.int x1)] [] (81, pt_G, I, L)) (fun v S => F 1329 5 [some (.ref 49), some (.int x1), some (.int x2), none, none, none, none, none, none, none, none] (v.toList ++ []) S) := pm_blk_to hF (pm_stp 1329 [0, 5, 17, 46, 80, 118, 142, 151, 166, 179, 182, 203, 222, 225, 275, 281, 296, 327, 344, 367]) 199 rfl
set_option maxRecDepth 20000 in
theorem e1329_5 (hF : pm_fix pt_me pt_Sg (pt_R L0 xs) F) {x1 : Int32} {x2 : Int32} {s0 : Int32} : F 1329 5 [some (.ref 49), some (.int x1), some (.int x2), none, none, none, none, none, none, none, none] [.int s0] (81, pt_G, I, L) =
    if s0 = 0 then
      some (some (.int (-1)), (81, pt_G, I, L))
    else
      pm_k (F 1202 0 [some (.long (Int32.toInt64 x2)), none, some (.long 0), none, some (.long 3), none] [] (81, pt_G, I, L)) (fun v S => F 1329 17 [some (.ref 49), some (.int x1), some (.int x2), none, none, none, none, none, none, none, none] (v.toList ++ []) S) := pm_blk_to hF (pm_stp 1329 [0, 5, 17, 46, 80, 118, 142, 151, 166, 179, 182, 203, 222, 225, 275, 281, 296, 327, 344, 367]) 199 rfl
set_option maxRecDepth 20000 in
theorem e1329_17 (hF : pm_fix pt_me pt_Sg (pt_R L0 xs) F) {x1 : Int32} {x2 : Int32} {s0 : Int32} : F 1329 17 [some (.ref 49), some (.int x1), some (.int x2), none, none, none, none, none, none, none, none] [.int s0] (81, pt_G, I, L) =
    if s0 = 0 then
      some (some (.int (-1)), (81, pt_G, I, L))
    else
      if (I 49 1) = (I 49 31) then
        F 1329 46 [some (.ref 49), some (.int x1), some (.int x2), some (.int (I 49 1)), some (.int 0), none, none, none, none, none, none] [] (81, pt_G, (pm_ui I 49 1 0), L)
      else
        some (some (.int (-2)), (81, pt_G, (pm_ui I 49 1 0), L)) := pm_blk_to hF (pm_stp 1329 [0, 5, 17, 46, 80, 118, 142, 151, 166, 179, 182, 203, 222, 225, 275, 281, 296, 327, 344, 367]) 199 rfl
set_option maxRecDepth 20000 in
theorem e1329_46 (hF : pm_fix pt_me pt_Sg (pt_R L0 xs) F) {x1 : Int32} {x2 : Int32} {x3 : Int32} {x4 : Int32} : F 1329 46 [some (.ref 49), some (.int x1), some (.int x2), some (.int x3), some (.int x4), none, none, none, none, none, none] [] (81, pt_G, I, L) =
    if x4 < (I 49 31) then
      bif pm_ib x4 900 then
        if (I 50 (Int32.toNatClampNeg x4)) < (I 49 30) then
          bif pm_ib x4 900 then
            pm_k (F 1205 0 [some (.int x1), some (.int (I 50 (Int32.toNatClampNeg x4)))] [] (81, pt_G, I, L)) (fun v S => F 1329 80 [some (.ref 49), some (.int x1), some (.int x2), some (.int x3), some (.int x4), none, none, none, none, none, none] (v.toList ++ []) S)
          else none
        else
          some (some (.int (-2)), (81, pt_G, I, L))
      else none
    else
      F 1329 118 [some (.ref 49), some (.int x1), some (.int x2), some (.int x3), some (.int 0), some (.int 0), some (.int 0), some (.int 0), none, none, none] [] (81, pt_G, I, L) := pm_blk_to hF (pm_stp 1329 [0, 5, 17, 46, 80, 118, 142, 151, 166, 179, 182, 203, 222, 225, 275, 281, 296, 327, 344, 367]) 199 rfl
set_option maxRecDepth 20000 in
theorem e1329_80 (hF : pm_fix pt_me pt_Sg (pt_R L0 xs) F) {x1 : Int32} {x2 : Int32} {x3 : Int32} {x4 : Int32} {s0 : Int32} : F 1329 80 [some (.ref 49), some (.int x1), some (.int x2), some (.int x3), some (.int x4), none, none, none, none, none, none] [.int s0] (81, pt_G, I, L) =
    if s0 = 0 then
      some (some (.int (-2)), (81, pt_G, I, L))
    else
      bif pm_ib x4 900 then
        bif pm_ib x4 8 then
          F 1329 46 [some (.ref 49), some (.int x1), some (.int x2), some (.int x3), some (.int (x4 + 1)), none, none, none, none, none, none] [] (81, pt_G, (pm_ui I 70 (Int32.toNatClampNeg x4) (I 50 (Int32.toNatClampNeg x4))), L)
        else none
      else none := pm_blk_to hF (pm_stp 1329 [0, 5, 17, 46, 80, 118, 142, 151, 166, 179, 182, 203, 222, 225, 275, 281, 296, 327, 344, 367]) 199 rfl
set_option maxRecDepth 20000 in
theorem e1329_118 (hF : pm_fix pt_me pt_Sg (pt_R L0 xs) F) {x1 : Int32} {x2 : Int32} {x3 : Int32} {x4 : Int32} {x5 : Int32} {x6 : Int32} {x7 : Int32} : F 1329 118 [some (.ref 49), some (.int x1), some (.int x2), some (.int x3), some (.int x4), some (.int x5), some (.int x6), some (.int x7), none, none, none] [] (81, pt_G, I, L) =
    if x7 < (I 49 31) then
      bif pm_ib x7 8 then
        pm_k (F 1249 0 [some (.ref 49), some (.int (I 70 (Int32.toNatClampNeg x7))), some (.int x7)] [] (81, pt_G, I, L)) (fun v S => F 1329 142 [some (.ref 49), some (.int x1), some (.int x2), some (.int x3), some (.int x4), some (.int x5), some (.int x6), some (.int x7), none, none, none] (v.toList ++ [.int x4]) S)
      else none
    else
      if x2 < 3 then
        if x2 = 0 then
          some (some (.int x6), (81, pt_G, I, L))
        else
          if x2 = 1 then
            some (some (.int x4), (81, pt_G, I, L))
          else
            some (some (.int (x5 - x4)), (81, pt_G, I, L))
      else
        pm_k (F 1256 0 [some (.ref 49), some (.int x1), none] [] (81, pt_G, I, L)) (fun v S => F 1329 275 [some (.ref 49), some (.int x1), some (.int x2), some (.int x3), some (.int x4), some (.int x5), some (.int x6), some (.int x7), none, none, none] (v.toList ++ []) S) := pm_blk_to hF (pm_stp 1329 [0, 5, 17, 46, 80, 118, 142, 151, 166, 179, 182, 203, 222, 225, 275, 281, 296, 327, 344, 367]) 199 rfl
set_option maxRecDepth 20000 in
theorem e1329_142 (hF : pm_fix pt_me pt_Sg (pt_R L0 xs) F) {x1 : Int32} {x2 : Int32} {x3 : Int32} {x4 : Int32} {x5 : Int32} {x6 : Int32} {x7 : Int32} {s0 : Int32} {s1 : Int32} : F 1329 142 [some (.ref 49), some (.int x1), some (.int x2), some (.int x3), some (.int x4), some (.int x5), some (.int x6), some (.int x7), none, none, none] [.int s0, .int s1] (81, pt_G, I, L) =
    F 1329 151 [some (.ref 49), some (.int x1), some (.int x2), some (.int x3), some (.int (s1 + s0)), some (.int x5), some (.int x6), some (.int x7), some (.int 0), some (.int 0), none] [] (81, pt_G, I, L) := pm_blk_to hF (pm_stp 1329 [0, 5, 17, 46, 80, 118, 142, 151, 166, 179, 182, 203, 222, 225, 275, 281, 296, 327, 344, 367]) 199 rfl
set_option maxRecDepth 20000 in
theorem e1329_151 (hF : pm_fix pt_me pt_Sg (pt_R L0 xs) F) {x1 : Int32} {x2 : Int32} {x3 : Int32} {x4 : Int32} {x5 : Int32} {x6 : Int32} {x7 : Int32} {x8 : Int32} {x9 : Int32} : F 1329 151 [some (.ref 49), some (.int x1), some (.int x2), some (.int x3), some (.int x4), some (.int x5), some (.int x6), some (.int x7), some (.int x8), some (.int x9), none] [] (81, pt_G, I, L) =
    if x9 < (I 49 30) then
      pm_k (F 1205 0 [some (.int x1), some (.int x9)] [] (81, pt_G, I, L)) (fun v S => F 1329 166 [some (.ref 49), some (.int x1), some (.int x2), some (.int x3), some (.int x4), some (.int x5), some (.int x6), some (.int x7), some (.int x8), some (.int x9), none] (v.toList ++ []) S)
    else
      F 1329 203 [some (.ref 49), some (.int x1), some (.int x2), some (.int x3), some (.int x4), some (.int (x5 + x8)), some (.int x6), some (.int x7), some (.int x8), some (.int (x7 + 1)), none] [] (81, pt_G, I, L) := pm_blk_to hF (pm_stp 1329 [0, 5, 17, 46, 80, 118, 142, 151, 166, 179, 182, 203, 222, 225, 275, 281, 296, 327, 344, 367]) 199 rfl
set_option maxRecDepth 20000 in
theorem e1329_166 (hF : pm_fix pt_me pt_Sg (pt_R L0 xs) F) {x1 : Int32} {x2 : Int32} {x3 : Int32} {x4 : Int32} {x5 : Int32} {x6 : Int32} {x7 : Int32} {x8 : Int32} {x9 : Int32} {s0 : Int32} : F 1329 166 [some (.ref 49), some (.int x1), some (.int x2), some (.int x3), some (.int x4), some (.int x5), some (.int x6), some (.int x7), some (.int x8), some (.int x9), none] [.int s0] (81, pt_G, I, L) =
    if s0 = 0 then
      F 1329 151 [some (.ref 49), some (.int x1), some (.int x2), some (.int x3), some (.int x4), some (.int x5), some (.int x6), some (.int x7), some (.int x8), some (.int (x9 + 1)), none] [] (81, pt_G, I, L)
    else
      pm_k (F 1249 0 [some (.ref 49), some (.int x9), some (.int x7)] [] (81, pt_G, I, L)) (fun v S => F 1329 179 [some (.ref 49), some (.int x1), some (.int x2), some (.int x3), some (.int x4), some (.int x5), some (.int x6), some (.int x7), some (.int x8), some (.int x9), none] (v.toList ++ [.int x8]) S) := pm_blk_to hF (pm_stp 1329 [0, 5, 17, 46, 80, 118, 142, 151, 166, 179, 182, 203, 222, 225, 275, 281, 296, 327, 344, 367]) 199 rfl
set_option maxRecDepth 20000 in
theorem e1329_179 (hF : pm_fix pt_me pt_Sg (pt_R L0 xs) F) {x1 : Int32} {x2 : Int32} {x3 : Int32} {x4 : Int32} {x5 : Int32} {x6 : Int32} {x7 : Int32} {x8 : Int32} {x9 : Int32} {s0 : Int32} {s1 : Int32} : F 1329 179 [some (.ref 49), some (.int x1), some (.int x2), some (.int x3), some (.int x4), some (.int x5), some (.int x6), some (.int x7), some (.int x8), some (.int x9), none] [.int s0, .int s1] (81, pt_G, I, L) =
    pm_k (F 1204 0 [some (.int s1), some (.int s0)] [] (81, pt_G, I, L)) (fun v S => F 1329 182 [some (.ref 49), some (.int x1), some (.int x2), some (.int x3), some (.int x4), some (.int x5), some (.int x6), some (.int x7), some (.int x8), some (.int x9), none] (v.toList ++ []) S) := pm_blk_to hF (pm_stp 1329 [0, 5, 17, 46, 80, 118, 142, 151, 166, 179, 182, 203, 222, 225, 275, 281, 296, 327, 344, 367]) 199 rfl
set_option maxRecDepth 20000 in
theorem e1329_182 (hF : pm_fix pt_me pt_Sg (pt_R L0 xs) F) {x1 : Int32} {x2 : Int32} {x3 : Int32} {x4 : Int32} {x5 : Int32} {x6 : Int32} {x7 : Int32} {x8 : Int32} {x9 : Int32} {s0 : Int32} : F 1329 182 [some (.ref 49), some (.int x1), some (.int x2), some (.int x3), some (.int x4), some (.int x5), some (.int x6), some (.int x7), some (.int x8), some (.int x9), none] [.int s0] (81, pt_G, I, L) =
    F 1329 151 [some (.ref 49), some (.int x1), some (.int x2), some (.int x3), some (.int x4), some (.int x5), some (.int x6), some (.int x7), some (.int s0), some (.int (x9 + 1)), none] [] (81, pt_G, I, L) := pm_blk_to hF (pm_stp 1329 [0, 5, 17, 46, 80, 118, 142, 151, 166, 179, 182, 203, 222, 225, 275, 281, 296, 327, 344, 367]) 199 rfl
set_option maxRecDepth 20000 in
theorem e1329_203 (hF : pm_fix pt_me pt_Sg (pt_R L0 xs) F) {x1 : Int32} {x2 : Int32} {x3 : Int32} {x4 : Int32} {x5 : Int32} {x6 : Int32} {x7 : Int32} {x8 : Int32} {x9 : Int32} : F 1329 203 [some (.ref 49), some (.int x1), some (.int x2), some (.int x3), some (.int x4), some (.int x5), some (.int x6), some (.int x7), some (.int x8), some (.int x9), none] [] (81, pt_G, I, L) =
    if x9 < (I 49 31) then
      pm_k (F 1263 0 [some (.ref 49), some (.int x7), some (.int x9), none, none] [] (81, pt_G, I, L)) (fun v S => F 1329 222 [some (.ref 49), some (.int x1), some (.int x2), some (.int x3), some (.int x4), some (.int x5), some (.int x6), some (.int x7), some (.int x8), some (.int x9), none] (v.toList ++ [.int x6]) S)
    else
      F 1329 118 [some (.ref 49), some (.int x1), some (.int x2), some (.int x3), some (.int x4), some (.int x5), some (.int x6), some (.int (x7 + 1)), none, none, none] [] (81, pt_G, I, L) := pm_blk_to hF (pm_stp 1329 [0, 5, 17, 46, 80, 118, 142, 151, 166, 179, 182, 203, 222, 225, 275, 281, 296, 327, 344, 367]) 199 rfl
set_option maxRecDepth 20000 in
theorem e1329_222 (hF : pm_fix pt_me pt_Sg (pt_R L0 xs) F) {x1 : Int32} {x2 : Int32} {x3 : Int32} {x4 : Int32} {x5 : Int32} {x6 : Int32} {x7 : Int32} {x8 : Int32} {x9 : Int32} {s0 : Int32} {s1 : Int32} : F 1329 222 [some (.ref 49), some (.int x1), some (.int x2), some (.int x3), some (.int x4), some (.int x5), some (.int x6), some (.int x7), some (.int x8), some (.int x9), none] [.int s0, .int s1] (81, pt_G, I, L) =
    pm_k (F 1203 0 [some (.int s0)] [] (81, pt_G, I, L)) (fun v S => F 1329 225 [some (.ref 49), some (.int x1), some (.int x2), some (.int x3), some (.int x4), some (.int x5), some (.int x6), some (.int x7), some (.int x8), some (.int x9), none] (v.toList ++ [.int s1]) S) := pm_blk_to hF (pm_stp 1329 [0, 5, 17, 46, 80, 118, 142, 151, 166, 179, 182, 203, 222, 225, 275, 281, 296, 327, 344, 367]) 199 rfl
set_option maxRecDepth 20000 in
theorem e1329_225 (hF : pm_fix pt_me pt_Sg (pt_R L0 xs) F) {x1 : Int32} {x2 : Int32} {x3 : Int32} {x4 : Int32} {x5 : Int32} {x6 : Int32} {x7 : Int32} {x8 : Int32} {x9 : Int32} {s0 : Int32} {s1 : Int32} : F 1329 225 [some (.ref 49), some (.int x1), some (.int x2), some (.int x3), some (.int x4), some (.int x5), some (.int x6), some (.int x7), some (.int x8), some (.int x9), none] [.int s0, .int s1] (81, pt_G, I, L) =
    F 1329 203 [some (.ref 49), some (.int x1), some (.int x2), some (.int x3), some (.int x4), some (.int x5), some (.int (s1 + s0)), some (.int x7), some (.int x8), some (.int (x9 + 1)), none] [] (81, pt_G, I, L) := pm_blk_to hF (pm_stp 1329 [0, 5, 17, 46, 80, 118, 142, 151, 166, 179, 182, 203, 222, 225, 275, 281, 296, 327, 344, 367]) 199 rfl
set_option maxRecDepth 20000 in
theorem e1329_275 (hF : pm_fix pt_me pt_Sg (pt_R L0 xs) F) {x1 : Int32} {x2 : Int32} {x3 : Int32} {x4 : Int32} {x5 : Int32} {x6 : Int32} {x7 : Int32} : F 1329 275 [some (.ref 49), some (.int x1), some (.int x2), some (.int x3), some (.int x4), some (.int x5), some (.int x6), some (.int x7), none, none, none] [] (81, pt_G, I, L) =
    F 1329 281 [some (.ref 49), some (.int x1), some (.int x2), some (.int x3), some (.int x4), some (.int x5), some (.int x6), some (.int 0), some (.int 0), none, none] [] (81, pt_G, I, L) := pm_blk_to hF (pm_stp 1329 [0, 5, 17, 46, 80, 118, 142, 151, 166, 179, 182, 203, 222, 225, 275, 281, 296, 327, 344, 367]) 199 rfl
set_option maxRecDepth 20000 in
theorem e1329_281 (hF : pm_fix pt_me pt_Sg (pt_R L0 xs) F) {x1 : Int32} {x2 : Int32} {x3 : Int32} {x4 : Int32} {x5 : Int32} {x6 : Int32} {x7 : Int32} {x8 : Int32} : F 1329 281 [some (.ref 49), some (.int x1), some (.int x2), some (.int x3), some (.int x4), some (.int x5), some (.int x6), some (.int x7), some (.int x8), none, none] [] (81, pt_G, I, L) =
    if x8 < (I 49 30) then
      F 1329 296 [some (.ref 49), some (.int x1), some (.int x2), some (.int x3), some (.int x4), some (.int x5), some (.int x6), some (.int x7), some (.int x8), some (.int 0), some (.int 0)] [] (81, pt_G, I, L)
    else
      some (some (.int x7), (81, pt_G, I, L)) := pm_blk_to hF (pm_stp 1329 [0, 5, 17, 46, 80, 118, 142, 151, 166, 179, 182, 203, 222, 225, 275, 281, 296, 327, 344, 367]) 199 rfl
set_option maxRecDepth 20000 in
theorem e1329_296 (hF : pm_fix pt_me pt_Sg (pt_R L0 xs) F) {x1 : Int32} {x2 : Int32} {x3 : Int32} {x4 : Int32} {x5 : Int32} {x6 : Int32} {x7 : Int32} {x8 : Int32} {x9 : Int32} {x10 : Int32} : F 1329 296 [some (.ref 49), some (.int x1), some (.int x2), some (.int x3), some (.int x4), some (.int x5), some (.int x6), some (.int x7), some (.int x8), some (.int x9), some (.int x10)] [] (81, pt_G, I, L) =
    if x10 < (I 49 31) then
      bif pm_ib x10 8 then
        if (I 70 (Int32.toNatClampNeg x10)) = x8 then
          pm_k (F 1203 0 [some (.int 1)] [] (81, pt_G, I, L)) (fun v S => F 1329 327 [some (.ref 49), some (.int x1), some (.int x2), some (.int x3), some (.int x4), some (.int x5), some (.int x6), some (.int x7), some (.int x8), some (.int x9), some (.int x10)] (v.toList ++ [.int x9]) S)
        else
          pm_k (F 1203 0 [some (.int 0)] [] (81, pt_G, I, L)) (fun v S => F 1329 327 [some (.ref 49), some (.int x1), some (.int x2), some (.int x3), some (.int x4), some (.int x5), some (.int x6), some (.int x7), some (.int x8), some (.int x9), some (.int x10)] (v.toList ++ [.int x9]) S)
      else none
    else
      pm_k (F 1205 0 [some (.int x1), some (.int x8)] [] (81, pt_G, I, L)) (fun v S => F 1329 344 [some (.ref 49), some (.int x1), some (.int x2), some (.int x3), some (.int x4), some (.int x5), some (.int x6), some (.int x7), some (.int x8), some (.int x9), some (.int x10)] (v.toList ++ [.int x7]) S) := pm_blk_to hF (pm_stp 1329 [0, 5, 17, 46, 80, 118, 142, 151, 166, 179, 182, 203, 222, 225, 275, 281, 296, 327, 344, 367]) 199 rfl
set_option maxRecDepth 20000 in
theorem e1329_327 (hF : pm_fix pt_me pt_Sg (pt_R L0 xs) F) {x1 : Int32} {x2 : Int32} {x3 : Int32} {x4 : Int32} {x5 : Int32} {x6 : Int32} {x7 : Int32} {x8 : Int32} {x9 : Int32} {x10 : Int32} {s0 : Int32} {s1 : Int32} : F 1329 327 [some (.ref 49), some (.int x1), some (.int x2), some (.int x3), some (.int x4), some (.int x5), some (.int x6), some (.int x7), some (.int x8), some (.int x9), some (.int x10)] [.int s0, .int s1] (81, pt_G, I, L) =
    F 1329 296 [some (.ref 49), some (.int x1), some (.int x2), some (.int x3), some (.int x4), some (.int x5), some (.int x6), some (.int x7), some (.int x8), some (.int (s1 + s0)), some (.int (x10 + 1))] [] (81, pt_G, I, L) := pm_blk_to hF (pm_stp 1329 [0, 5, 17, 46, 80, 118, 142, 151, 166, 179, 182, 203, 222, 225, 275, 281, 296, 327, 344, 367]) 199 rfl
set_option maxRecDepth 20000 in
theorem e1329_344 (hF : pm_fix pt_me pt_Sg (pt_R L0 xs) F) {x1 : Int32} {x2 : Int32} {x3 : Int32} {x4 : Int32} {x5 : Int32} {x6 : Int32} {x7 : Int32} {x8 : Int32} {x9 : Int32} {x10 : Int32} {s0 : Int32} {s1 : Int32} : F 1329 344 [some (.ref 49), some (.int x1), some (.int x2), some (.int x3), some (.int x4), some (.int x5), some (.int x6), some (.int x7), some (.int x8), some (.int x9), some (.int x10)] [.int s0, .int s1] (81, pt_G, I, L) =
    if s0 = 0 then
      pm_k (F 1203 0 [some (.int 0)] [] (81, pt_G, I, L)) (fun v S => F 1329 367 [some (.ref 49), some (.int x1), some (.int x2), some (.int x3), some (.int x4), some (.int x5), some (.int x6), some (.int x7), some (.int x8), some (.int x9), some (.int x10)] (v.toList ++ [.int s1]) S)
    else
      bif pm_ib x8 7 then
        if x9 = (I 67 (Int32.toNatClampNeg x8)) then
          pm_k (F 1203 0 [some (.int 0)] [] (81, pt_G, I, L)) (fun v S => F 1329 367 [some (.ref 49), some (.int x1), some (.int x2), some (.int x3), some (.int x4), some (.int x5), some (.int x6), some (.int x7), some (.int x8), some (.int x9), some (.int x10)] (v.toList ++ [.int s1]) S)
        else
          pm_k (F 1203 0 [some (.int 1)] [] (81, pt_G, I, L)) (fun v S => F 1329 367 [some (.ref 49), some (.int x1), some (.int x2), some (.int x3), some (.int x4), some (.int x5), some (.int x6), some (.int x7), some (.int x8), some (.int x9), some (.int x10)] (v.toList ++ [.int s1]) S)
      else none := pm_blk_to hF (pm_stp 1329 [0, 5, 17, 46, 80, 118, 142, 151, 166, 179, 182, 203, 222, 225, 275, 281, 296, 327, 344, 367]) 199 rfl
set_option maxRecDepth 20000 in
theorem e1329_367 (hF : pm_fix pt_me pt_Sg (pt_R L0 xs) F) {x1 : Int32} {x2 : Int32} {x3 : Int32} {x4 : Int32} {x5 : Int32} {x6 : Int32} {x7 : Int32} {x8 : Int32} {x9 : Int32} {x10 : Int32} {s0 : Int32} {s1 : Int32} : F 1329 367 [some (.ref 49), some (.int x1), some (.int x2), some (.int x3), some (.int x4), some (.int x5), some (.int x6), some (.int x7), some (.int x8), some (.int x9), some (.int x10)] [.int s0, .int s1] (81, pt_G, I, L) =
    F 1329 281 [some (.ref 49), some (.int x1), some (.int x2), some (.int x3), some (.int x4), some (.int x5), some (.int x6), some (.int (s1 + s0)), some (.int (x8 + 1)), none, none] [] (81, pt_G, I, L) := pm_blk_to hF (pm_stp 1329 [0, 5, 17, 46, 80, 118, 142, 151, 166, 179, 182, 203, 222, 225, 275, 281, 296, 327, 344, 367]) 199 rfl
-- java/lang/Integer.bitCount(I)I 
set_option maxRecDepth 20000 in
theorem e1508_0 (hF : pm_fix pt_me pt_Sg (pt_R L0 xs) F) {x0 : Int32} : F 1508 0 [some (.int x0)] [] (81, pt_G, I, L) =
    some (some (.int ((((((((x0 - ((pm_us x0 1) &&& 1431655765)) &&& 858993459) + ((pm_us (x0 - ((pm_us x0 1) &&& 1431655765)) 2) &&& 858993459)) + (pm_us (((x0 - ((pm_us x0 1) &&& 1431655765)) &&& 858993459) + ((pm_us (x0 - ((pm_us x0 1) &&& 1431655765)) 2) &&& 858993459)) 4)) &&& 252645135) + (pm_us (((((x0 - ((pm_us x0 1) &&& 1431655765)) &&& 858993459) + ((pm_us (x0 - ((pm_us x0 1) &&& 1431655765)) 2) &&& 858993459)) + (pm_us (((x0 - ((pm_us x0 1) &&& 1431655765)) &&& 858993459) + ((pm_us (x0 - ((pm_us x0 1) &&& 1431655765)) 2) &&& 858993459)) 4)) &&& 252645135) 8)) + (pm_us ((((((x0 - ((pm_us x0 1) &&& 1431655765)) &&& 858993459) + ((pm_us (x0 - ((pm_us x0 1) &&& 1431655765)) 2) &&& 858993459)) + (pm_us (((x0 - ((pm_us x0 1) &&& 1431655765)) &&& 858993459) + ((pm_us (x0 - ((pm_us x0 1) &&& 1431655765)) 2) &&& 858993459)) 4)) &&& 252645135) + (pm_us (((((x0 - ((pm_us x0 1) &&& 1431655765)) &&& 858993459) + ((pm_us (x0 - ((pm_us x0 1) &&& 1431655765)) 2) &&& 858993459)) + (pm_us (((x0 - ((pm_us x0 1) &&& 1431655765)) &&& 858993459) + ((pm_us (x0 - ((pm_us x0 1) &&& 1431655765)) 2) &&& 858993459)) 4)) &&& 252645135) 8)) 16)) &&& 63)), (81, pt_G, I, L)) := pm_blk_to hF (pm_stp 1508 [0]) 47 rfl
-- java/lang/Integer.numberOfTrailingZeros(I)I 
set_option maxRecDepth 20000 in
theorem e1509_0 (hF : pm_fix pt_me pt_Sg (pt_R L0 xs) F) {x0 : Int32} : F 1509 0 [some (.int x0), none] [] (81, pt_G, I, L) =
    if ((x0 ^^^ (-1)) &&& (x0 - 1)) ≤ 0 then
      some (some (.int (((x0 ^^^ (-1)) &&& (x0 - 1)) &&& 32)), (81, pt_G, I, L))
    else
      if ((x0 ^^^ (-1)) &&& (x0 - 1)) ≤ 65536 then
        if ((x0 ^^^ (-1)) &&& (x0 - 1)) ≤ 256 then
          if ((x0 ^^^ (-1)) &&& (x0 - 1)) ≤ 16 then
            if ((x0 ^^^ (-1)) &&& (x0 - 1)) ≤ 4 then
              some (some (.int (1 + (pm_us ((x0 ^^^ (-1)) &&& (x0 - 1)) 1))), (81, pt_G, I, L))
            else
              some (some (.int ((1 + 2) + (pm_us (pm_us ((x0 ^^^ (-1)) &&& (x0 - 1)) 2) 1))), (81, pt_G, I, L))
          else
            if (pm_us ((x0 ^^^ (-1)) &&& (x0 - 1)) 4) ≤ 4 then
              some (some (.int ((1 + 4) + (pm_us (pm_us ((x0 ^^^ (-1)) &&& (x0 - 1)) 4) 1))), (81, pt_G, I, L))
            else
              some (some (.int (((1 + 4) + 2) + (pm_us (pm_us (pm_us ((x0 ^^^ (-1)) &&& (x0 - 1)) 4) 2) 1))), (81, pt_G, I, L))
        else
          if (pm_us ((x0 ^^^ (-1)) &&& (x0 - 1)) 8) ≤ 16 then
            if (pm_us ((x0 ^^^ (-1)) &&& (x0 - 1)) 8) ≤ 4 then
              some (some (.int ((1 + 8) + (pm_us (pm_us ((x0 ^^^ (-1)) &&& (x0 - 1)) 8) 1))), (81, pt_G, I, L))
            else
              some (some (.int (((1 + 8) + 2) + (pm_us (pm_us (pm_us ((x0 ^^^ (-1)) &&& (x0 - 1)) 8) 2) 1))), (81, pt_G, I, L))
          else
            if (pm_us (pm_us ((x0 ^^^ (-1)) &&& (x0 - 1)) 8) 4) ≤ 4 then
              some (some (.int (((1 + 8) + 4) + (pm_us (pm_us (pm_us ((x0 ^^^ (-1)) &&& (x0 - 1)) 8) 4) 1))), (81, pt_G, I, L))
            else
              some (some (.int ((((1 + 8) + 4) + 2) + (pm_us (pm_us (pm_us (pm_us ((x0 ^^^ (-1)) &&& (x0 - 1)) 8) 4) 2) 1))), (81, pt_G, I, L))
      else
        if (pm_us ((x0 ^^^ (-1)) &&& (x0 - 1)) 16) ≤ 256 then
          if (pm_us ((x0 ^^^ (-1)) &&& (x0 - 1)) 16) ≤ 16 then
            if (pm_us ((x0 ^^^ (-1)) &&& (x0 - 1)) 16) ≤ 4 then
              some (some (.int ((1 + 16) + (pm_us (pm_us ((x0 ^^^ (-1)) &&& (x0 - 1)) 16) 1))), (81, pt_G, I, L))
            else
              some (some (.int (((1 + 16) + 2) + (pm_us (pm_us (pm_us ((x0 ^^^ (-1)) &&& (x0 - 1)) 16) 2) 1))), (81, pt_G, I, L))
          else
            if (pm_us (pm_us ((x0 ^^^ (-1)) &&& (x0 - 1)) 16) 4) ≤ 4 then
              some (some (.int (((1 + 16) + 4) + (pm_us (pm_us (pm_us ((x0 ^^^ (-1)) &&& (x0 - 1)) 16) 4) 1))), (81, pt_G, I, L))
            else
              some (some (.int ((((1 + 16) + 4) + 2) + (pm_us (pm_us (pm_us (pm_us ((x0 ^^^ (-1)) &&& (x0 - 1)) 16) 4) 2) 1))), (81, pt_G, I, L))
        else
          if (pm_us (pm_us ((x0 ^^^ (-1)) &&& (x0 - 1)) 16) 8) ≤ 16 then
            if (pm_us (pm_us ((x0 ^^^ (-1)) &&& (x0 - 1)) 16) 8) ≤ 4 then
              some (some (.int (((1 + 16) + 8) + (pm_us (pm_us (pm_us ((x0 ^^^ (-1)) &&& (x0 - 1)) 16) 8) 1))), (81, pt_G, I, L))
            else
              some (some (.int ((((1 + 16) + 8) + 2) + (pm_us (pm_us (pm_us (pm_us ((x0 ^^^ (-1)) &&& (x0 - 1)) 16) 8) 2) 1))), (81, pt_G, I, L))
          else
            if (pm_us (pm_us (pm_us ((x0 ^^^ (-1)) &&& (x0 - 1)) 16) 8) 4) ≤ 4 then
              some (some (.int ((((1 + 16) + 8) + 4) + (pm_us (pm_us (pm_us (pm_us ((x0 ^^^ (-1)) &&& (x0 - 1)) 16) 8) 4) 1))), (81, pt_G, I, L))
            else
              some (some (.int (((((1 + 16) + 8) + 4) + 2) + (pm_us (pm_us (pm_us (pm_us (pm_us ((x0 ^^^ (-1)) &&& (x0 - 1)) 16) 8) 4) 2) 1))), (81, pt_G, I, L)) := pm_blk_to hF (pm_stp 1509 [0]) 59 rfl
-- java/lang/Math.abs(I)I 
set_option maxRecDepth 20000 in
theorem e1510_0 (hF : pm_fix pt_me pt_Sg (pt_R L0 xs) F) {x0 : Int32} : F 1510 0 [some (.int x0)] [] (81, pt_G, I, L) =
    if x0 < 0 then
      some (some (.int (-x0)), (81, pt_G, I, L))
    else
      some (some (.int x0), (81, pt_G, I, L)) := pm_blk_to hF (pm_stp 1510 [0]) 12 rfl
-- java/lang/Math.min(II)I 
set_option maxRecDepth 20000 in
theorem e1511_0 (hF : pm_fix pt_me pt_Sg (pt_R L0 xs) F) {x0 : Int32} {x1 : Int32} : F 1511 0 [some (.int x0), some (.int x1)] [] (81, pt_G, I, L) =
    if x0 ≤ x1 then
      some (some (.int x0), (81, pt_G, I, L))
    else
      some (some (.int x1), (81, pt_G, I, L)) := pm_blk_to hF (pm_stp 1511 [0]) 12 rfl
-- java/lang/Math.max(II)I 
set_option maxRecDepth 20000 in
theorem e1512_0 (hF : pm_fix pt_me pt_Sg (pt_R L0 xs) F) {x0 : Int32} {x1 : Int32} : F 1512 0 [some (.int x0), some (.int x1)] [] (81, pt_G, I, L) =
    if x0 < x1 then
      some (some (.int x1), (81, pt_G, I, L))
    else
      some (some (.int x0), (81, pt_G, I, L)) := pm_blk_to hF (pm_stp 1512 [0]) 12 rfl
end
