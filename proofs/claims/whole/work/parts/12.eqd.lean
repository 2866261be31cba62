/-! ===== printed by gen/eqs.py: what the methods do between cuts ===== -/
section
variable {F : pm_F} {L0 : Nat} {xs : Nat → Int32} {I : Nat → Nat → Int32} {L : Nat → Nat → Int64}
-- TurnCabinetModel.isIn(JJJ)Z 
set_option maxRecDepth 20000 in
theorem e1202_0 (hF : pm_fix pt_me pt_Sg (pt_R L0 xs) F) {y0 : Int64} {y2 : Int64} {y4 : Int64} : F 1202 0 [some (.long y0), none, some (.long y2), none, some (.long y4), none] [] (81, pt_G, I, L) =
    if (lg_cmp y0 y2) < 0 then
      some (some (.int 0), (81, pt_G, I, L))
    else
      if (lg_cmp y0 y4) ≤ 0 then
        some (some (.int 1), (81, pt_G, I, L))
      else
        some (some (.int 0), (81, pt_G, I, L)) := pm_blk_to hF (pm_stp 1202 [0]) 17 rfl
-- TurnCabinetModel.truth(Z)I 
set_option maxRecDepth 20000 in
theorem e1203_0 (hF : pm_fix pt_me pt_Sg (pt_R L0 xs) F) {x0 : Int32} : F 1203 0 [some (.int x0)] [] (81, pt_G, I, L) =
    if x0 = 0 then
      some (some (.int 0), (81, pt_G, I, L))
    else
      some (some (.int 1), (81, pt_G, I, L)) := pm_blk_to hF (pm_stp 1203 [0]) 11 rfl
-- TurnCabinetModel.greater(II)I 
set_option maxRecDepth 20000 in
theorem e1204_0 (hF : pm_fix pt_me pt_Sg (pt_R L0 xs) F) {x0 : Int32} {x1 : Int32} : F 1204 0 [some (.int x0), some (.int x1)] [] (81, pt_G, I, L) =
    if x0 ≤ x1 then
      some (some (.int x1), (81, pt_G, I, L))
    else
      some (some (.int x0), (81, pt_G, I, L)) := pm_blk_to hF (pm_stp 1204 [0]) 12 rfl
-- TurnCabinetModel.holds(II)Z 
set_option maxRecDepth 20000 in
theorem e1205_0 (hF : pm_fix pt_me pt_Sg (pt_R L0 xs) F) {x0 : Int32} {x1 : Int32} : F 1205 0 [some (.int x0), some (.int x1)] [] (81, pt_G, I, L) =
    if (((x0 : Int32) >>> (x1 &&& 31)) &&& 1) = 1 then
      some (some (.int 1), (81, pt_G, I, L))
    else
      some (some (.int 0), (81, pt_G, I, L)) := pm_blk_to hF (pm_stp 1205 [0]) 16 rfl
-- TurnCabinetModel.ones(I)I 
set_option maxRecDepth 20000 in
theorem e1206_0 (hF : pm_fix pt_me pt_Sg (pt_R L0 xs) F) {x0 : Int32} : F 1206 0 [some (.int x0), none, none] [] (81, pt_G, I, L) =
    F 1206 4 [some (.int x0), some (.int 0), some (.int 0)] [] (81, pt_G, I, L) := pm_blk_to hF (pm_stp 1206 [0, 4]) 24 rfl
set_option maxRecDepth 20000 in
theorem e1206_4 (hF : pm_fix pt_me pt_Sg (pt_R L0 xs) F) {x0 : Int32} {x1 : Int32} {x2 : Int32} : F 1206 4 [some (.int x0), some (.int x1), some (.int x2)] [] (81, pt_G, I, L) =
    if x2 < 16 then
      F 1206 4 [some (.int x0), some (.int (x1 + (((x0 : Int32) >>> (x2 &&& 31)) &&& 1))), some (.int (x2 + 1))] [] (81, pt_G, I, L)
    else
      some (some (.int x1), (81, pt_G, I, L)) := pm_blk_to hF (pm_stp 1206 [0, 4]) 24 rfl
-- TurnCabinetModel.feed(IIIII)I 49
set_option maxRecDepth 20000 in
theorem e1207_0 (hF : pm_fix pt_me pt_Sg (pt_R L0 xs) F) {x1 : Int32} {x2 : Int32} {x3 : Int32} {x4 : Int32} {x5 : Int32} : F 1207 0 [some (.ref 49), some (.int x1), some (.int x2), some (.int x3), some (.int x4), some (.int x5)] [] (81, pt_G, I, L) =
    if ((I 49 1) + 20) ≤ 900 then
      pm_k (F 1208 0 [some (.ref 49), some (.int x1), none] [] (81, pt_G, I, L)) (fun v S => F 1207 20 [some (.ref 49), some (.int x1), some (.int x2), some (.int x3), some (.int x4), some (.int x5)] (v.toList ++ []) S)
    else
      some (some (.int (-1)), (81, pt_G, I, L)) := pm_blk_to hF (pm_stp 1207 [0, 20, 25, 30, 36, 42]) 31 rfl
set_option maxRecDepth 20000 in
theorem e1207_20 (hF : pm_fix pt_me pt_Sg (pt_R L0 xs) F) {x1 : Int32} {x2 : Int32} {x3 : Int32} {x4 : Int32} {x5 : Int32} : F 1207 20 [some (.ref 49), some (.int x1), some (.int x2), some (.int x3), some (.int x4), some (.int x5)] [] (81, pt_G, I, L) =
    pm_k (F 1208 0 [some (.ref 49), some (.int x2), none] [] (81, pt_G, I, L)) (fun v S => F 1207 25 [some (.ref 49), some (.int x1), some (.int x2), some (.int x3), some (.int x4), some (.int x5)] (v.toList ++ []) S) := pm_blk_to hF (pm_stp 1207 [0, 20, 25, 30, 36, 42]) 31 rfl
set_option maxRecDepth 20000 in
theorem e1207_25 (hF : pm_fix pt_me pt_Sg (pt_R L0 xs) F) {x1 : Int32} {x2 : Int32} {x3 : Int32} {x4 : Int32} {x5 : Int32} : F 1207 25 [some (.ref 49), some (.int x1), some (.int x2), some (.int x3), some (.int x4), some (.int x5)] [] (81, pt_G, I, L) =
    pm_k (F 1208 0 [some (.ref 49), some (.int x3), none] [] (81, pt_G, I, L)) (fun v S => F 1207 30 [some (.ref 49), some (.int x1), some (.int x2), some (.int x3), some (.int x4), some (.int x5)] (v.toList ++ []) S) := pm_blk_to hF (pm_stp 1207 [0, 20, 25, 30, 36, 42]) 31 rfl
set_option maxRecDepth 20000 in
theorem e1207_30 (hF : pm_fix pt_me pt_Sg (pt_R L0 xs) F) {x1 : Int32} {x2 : Int32} {x3 : Int32} {x4 : Int32} {x5 : Int32} : F 1207 30 [some (.ref 49), some (.int x1), some (.int x2), some (.int x3), some (.int x4), some (.int x5)] [] (81, pt_G, I, L) =
    pm_k (F 1208 0 [some (.ref 49), some (.int x4), none] [] (81, pt_G, I, L)) (fun v S => F 1207 36 [some (.ref 49), some (.int x1), some (.int x2), some (.int x3), some (.int x4), some (.int x5)] (v.toList ++ []) S) := pm_blk_to hF (pm_stp 1207 [0, 20, 25, 30, 36, 42]) 31 rfl
set_option maxRecDepth 20000 in
theorem e1207_36 (hF : pm_fix pt_me pt_Sg (pt_R L0 xs) F) {x1 : Int32} {x2 : Int32} {x3 : Int32} {x4 : Int32} {x5 : Int32} : F 1207 36 [some (.ref 49), some (.int x1), some (.int x2), some (.int x3), some (.int x4), some (.int x5)] [] (81, pt_G, I, L) =
    pm_k (F 1208 0 [some (.ref 49), some (.int x5), none] [] (81, pt_G, I, L)) (fun v S => F 1207 42 [some (.ref 49), some (.int x1), some (.int x2), some (.int x3), some (.int x4), some (.int x5)] (v.toList ++ []) S) := pm_blk_to hF (pm_stp 1207 [0, 20, 25, 30, 36, 42]) 31 rfl
set_option maxRecDepth 20000 in
theorem e1207_42 (hF : pm_fix pt_me pt_Sg (pt_R L0 xs) F) {x1 : Int32} {x2 : Int32} {x3 : Int32} {x4 : Int32} {x5 : Int32} : F 1207 42 [some (.ref 49), some (.int x1), some (.int x2), some (.int x3), some (.int x4), some (.int x5)] [] (81, pt_G, I, L) =
    some (some (.int (I 49 1)), (81, pt_G, I, L)) := pm_blk_to hF (pm_stp 1207 [0, 20, 25, 30, 36, 42]) 31 rfl
-- TurnCabinetModel.four(I)V 49
set_option maxRecDepth 20000 in
theorem e1208_0 (hF : pm_fix pt_me pt_Sg (pt_R L0 xs) F) {x1 : Int32} : F 1208 0 [some (.ref 49), some (.int x1), none] [] (81, pt_G, I, L) =
    F 1208 3 [some (.ref 49), some (.int x1), some (.int 24)] [] (81, pt_G, I, L) := pm_blk_to hF (pm_stp 1208 [0, 3]) 28 rfl
set_option maxRecDepth 20000 in
theorem e1208_3 (hF : pm_fix pt_me pt_Sg (pt_R L0 xs) F) {x1 : Int32} {x2 : Int32} : F 1208 3 [some (.ref 49), some (.int x1), some (.int x2)] [] (81, pt_G, I, L) =
    if x2 < 0 then
      some (none, (81, pt_G, I, L))
    else
      bif pm_ib (I 49 1) 900 then
        F 1208 3 [some (.ref 49), some (.int x1), some (.int (x2 + (-8)))] [] (81, pt_G, (pm_ui (pm_ui I 50 (Int32.toNatClampNeg (I 49 1)) (((x1 : Int32) >>> (x2 &&& 31)) &&& 255)) 49 1 ((I 49 1) + 1)), L)
      else none := pm_blk_to hF (pm_stp 1208 [0, 3]) 28 rfl
-- TurnCabinetModel.end(I)I 49
set_option maxRecDepth 20000 in
theorem e1209_0 (hF : pm_fix pt_me pt_Sg (pt_R L0 xs) F) {x1 : Int32} : F 1209 0 [some (.ref 49), some (.int x1)] [] (81, pt_G, I, L) =
    pm_k (F 1202 0 [some (.long (Int32.toInt64 x1)), none, some (.long 0), none, some (.long (Int32.toInt64 (I 49 1))), none] [] (81, pt_G, I, L)) (fun v S => F 1209 11 [some (.ref 49), some (.int x1)] (v.toList ++ []) S) := pm_blk_to hF (pm_stp 1209 [0, 11]) 20 rfl
set_option maxRecDepth 20000 in
theorem e1209_11 (hF : pm_fix pt_me pt_Sg (pt_R L0 xs) F) {x1 : Int32} {s0 : Int32} : F 1209 11 [some (.ref 49), some (.int x1)] [.int s0] (81, pt_G, I, L) =
    if s0 = 0 then
      some (some (.int (-1)), (81, pt_G, I, L))
    else
      some (some (.int x1), (81, pt_G, (pm_ui I 49 1 x1), L)) := pm_blk_to hF (pm_stp 1209 [0, 11]) 20 rfl
-- TurnCabinetModel.here(I)I 49
set_option maxRecDepth 20000 in
theorem e1210_0 (hF : pm_fix pt_me pt_Sg (pt_R L0 xs) F) {x1 : Int32} : F 1210 0 [some (.ref 49), some (.int x1)] [] (81, pt_G, I, L) =
    if ((I 49 3) + x1) < (I 49 2) then
      bif pm_ib ((I 49 3) + x1) 900 then
        some (some (.int (I 50 (Int32.toNatClampNeg ((I 49 3) + x1)))), (81, pt_G, I, L))
      else none
    else
      some (some (.int (-1)), (81, pt_G, I, L)) := pm_blk_to hF (pm_stp 1210 [0]) 22 rfl
-- TurnCabinetModel.isLetter(I)Z 
set_option maxRecDepth 20000 in
theorem e1211_0 (hF : pm_fix pt_me pt_Sg (pt_R L0 xs) F) {x0 : Int32} : F 1211 0 [some (.int x0)] [] (81, pt_G, I, L) =
    if x0 < 97 then
      some (some (.int 0), (81, pt_G, I, L))
    else
      if x0 ≤ 122 then
        some (some (.int 1), (81, pt_G, I, L))
      else
        some (some (.int 0), (81, pt_G, I, L)) := pm_blk_to hF (pm_stp 1211 [0]) 15 rfl
-- TurnCabinetModel.isDigit(I)Z 
set_option maxRecDepth 20000 in
theorem e1212_0 (hF : pm_fix pt_me pt_Sg (pt_R L0 xs) F) {x0 : Int32} : F 1212 0 [some (.int x0)] [] (81, pt_G, I, L) =
    if x0 < 48 then
      some (some (.int 0), (81, pt_G, I, L))
    else
      if x0 ≤ 57 then
        some (some (.int 1), (81, pt_G, I, L))
      else
        some (some (.int 0), (81, pt_G, I, L)) := pm_blk_to hF (pm_stp 1212 [0]) 15 rfl
-- TurnCabinetModel.goOn()V 49
set_option maxRecDepth 20000 in
theorem e1213_0 (hF : pm_fix pt_me pt_Sg (pt_R L0 xs) F) : F 1213 0 [some (.ref 49), none, none] [] (81, pt_G, I, L) =
    pm_k (F 1210 0 [some (.ref 49), some (.int 0)] [] (81, pt_G, I, L)) (fun v S => F 1213 5 [some (.ref 49), none, none] (v.toList ++ []) S) := pm_blk_to hF (pm_stp 1213 [0, 5, 15, 61, 78, 81, 86, 89, 111, 149, 152, 157, 160, 181, 205, 208]) 139 rfl
set_option maxRecDepth 20000 in
theorem e1213_5 (hF : pm_fix pt_me pt_Sg (pt_R L0 xs) F) {s0 : Int32} : F 1213 5 [some (.ref 49), none, none] [.int s0] (81, pt_G, I, L) =
    if s0 = 32 then
      F 1213 0 [some (.ref 49), none, none] [] (81, pt_G, (pm_ui I 49 3 ((I 49 3) + 1)), L)
    else
      pm_k (F 1210 0 [some (.ref 49), some (.int 0)] [] (81, pt_G, I, L)) (fun v S => F 1213 15 [some (.ref 49), none, none] (v.toList ++ []) S) := pm_blk_to hF (pm_stp 1213 [0, 5, 15, 61, 78, 81, 86, 89, 111, 149, 152, 157, 160, 181, 205, 208]) 139 rfl
set_option maxRecDepth 20000 in
theorem e1213_15 (hF : pm_fix pt_me pt_Sg (pt_R L0 xs) F) {s0 : Int32} : F 1213 15 [some (.ref 49), none, none] [.int s0] (81, pt_G, I, L) =
    if s0 = 10 then
      F 1213 0 [some (.ref 49), none, none] [] (81, pt_G, (pm_ui I 49 3 ((I 49 3) + 1)), L)
    else
      pm_k (F 1210 0 [some (.ref 49), some (.int 0)] [] (81, pt_G, (pm_ui (pm_ui (pm_ui I 49 4 (I 49 3)) 49 6 0) 49 7 0), (pm_ul L 49 12 0))) (fun v S => F 1213 61 [some (.ref 49), none, none] (v.toList ++ []) S) := pm_blk_to hF (pm_stp 1213 [0, 5, 15, 61, 78, 81, 86, 89, 111, 149, 152, 157, 160, 181, 205, 208]) 139 rfl
set_option maxRecDepth 20000 in
theorem e1213_61 (hF : pm_fix pt_me pt_Sg (pt_R L0 xs) F) {s0 : Int32} : F 1213 61 [some (.ref 49), none, none] [.int s0] (81, pt_G, I, L) =
    if s0 < 0 then
      some (none, (81, pt_G, (pm_ui I 49 5 0), L))
    else
      pm_k (F 1211 0 [some (.int s0)] [] (81, pt_G, I, L)) (fun v S => F 1213 78 [some (.ref 49), some (.int s0), some (.int 0)] (v.toList ++ []) S) := pm_blk_to hF (pm_stp 1213 [0, 5, 15, 61, 78, 81, 86, 89, 111, 149, 152, 157, 160, 181, 205, 208]) 139 rfl
set_option maxRecDepth 20000 in
theorem e1213_78 (hF : pm_fix pt_me pt_Sg (pt_R L0 xs) F) {x1 : Int32} {x2 : Int32} {s0 : Int32} : F 1213 78 [some (.ref 49), some (.int x1), some (.int x2)] [.int s0] (81, pt_G, I, L) =
    if s0 = 0 then
      pm_k (F 1212 0 [some (.int x1)] [] (81, pt_G, I, L)) (fun v S => F 1213 149 [some (.ref 49), some (.int x1), some (.int x2)] (v.toList ++ []) S)
    else
      F 1213 81 [some (.ref 49), some (.int x1), some (.int x2)] [] (81, pt_G, I, L) := pm_blk_to hF (pm_stp 1213 [0, 5, 15, 61, 78, 81, 86, 89, 111, 149, 152, 157, 160, 181, 205, 208]) 139 rfl
set_option maxRecDepth 20000 in
theorem e1213_81 (hF : pm_fix pt_me pt_Sg (pt_R L0 xs) F) {x1 : Int32} {x2 : Int32} : F 1213 81 [some (.ref 49), some (.int x1), some (.int x2)] [] (81, pt_G, I, L) =
    pm_k (F 1210 0 [some (.ref 49), some (.int x2)] [] (81, pt_G, I, L)) (fun v S => F 1213 86 [some (.ref 49), some (.int x1), some (.int x2)] (v.toList ++ []) S) := pm_blk_to hF (pm_stp 1213 [0, 5, 15, 61, 78, 81, 86, 89, 111, 149, 152, 157, 160, 181, 205, 208]) 139 rfl
set_option maxRecDepth 20000 in
theorem e1213_86 (hF : pm_fix pt_me pt_Sg (pt_R L0 xs) F) {x1 : Int32} {x2 : Int32} {s0 : Int32} : F 1213 86 [some (.ref 49), some (.int x1), some (.int x2)] [.int s0] (81, pt_G, I, L) =
    pm_k (F 1211 0 [some (.int s0)] [] (81, pt_G, I, L)) (fun v S => F 1213 89 [some (.ref 49), some (.int x1), some (.int x2)] (v.toList ++ []) S) := pm_blk_to hF (pm_stp 1213 [0, 5, 15, 61, 78, 81, 86, 89, 111, 149, 152, 157, 160, 181, 205, 208]) 139 rfl
set_option maxRecDepth 20000 in
theorem e1213_89 (hF : pm_fix pt_me pt_Sg (pt_R L0 xs) F) {x1 : Int32} {x2 : Int32} {s0 : Int32} : F 1213 89 [some (.ref 49), some (.int x1), some (.int x2)] [.int s0] (81, pt_G, I, L) =
    if s0 = 0 then
      if x2 ≤ 8 then
        some (none, (81, pt_G, (pm_ui (pm_ui (pm_ui I 49 7 x2) 49 5 1) 49 3 ((I 49 3) + x2)), L))
      else
        some (none, (81, pt_G, (pm_ui (pm_ui (pm_ui I 49 7 x2) 49 5 4) 49 3 ((I 49 3) + x2)), L))
    else
      if x2 < 8 then
        pm_k (F 1210 0 [some (.ref 49), some (.int x2)] [] (81, pt_G, I, L)) (fun v S => F 1213 111 [some (.ref 49), some (.int x1), some (.int x2)] (v.toList ++ [.long ((L 49 12) <<< ((8 : Int32).toInt64 &&& 63)), .ref 49]) S)
      else
        F 1213 81 [some (.ref 49), some (.int x1), some (.int (x2 + 1))] [] (81, pt_G, I, L) := pm_blk_to hF (pm_stp 1213 [0, 5, 15, 61, 78, 81, 86, 89, 111, 149, 152, 157, 160, 181, 205, 208]) 139 rfl
set_option maxRecDepth 20000 in
theorem e1213_111 (hF : pm_fix pt_me pt_Sg (pt_R L0 xs) F) {x1 : Int32} {x2 : Int32} {s0 : Int32} {s1 : Int64} : F 1213 111 [some (.ref 49), some (.int x1), some (.int x2)] [.int s0, .long s1, .ref 49] (81, pt_G, I, L) =
    F 1213 81 [some (.ref 49), some (.int x1), some (.int (x2 + 1))] [] (81, pt_G, I, (pm_ul L 49 12 (s1 ||| (Int32.toInt64 s0)))) := pm_blk_to hF (pm_stp 1213 [0, 5, 15, 61, 78, 81, 86, 89, 111, 149, 152, 157, 160, 181, 205, 208]) 139 rfl
set_option maxRecDepth 20000 in
theorem e1213_149 (hF : pm_fix pt_me pt_Sg (pt_R L0 xs) F) {x1 : Int32} {x2 : Int32} {s0 : Int32} : F 1213 149 [some (.ref 49), some (.int x1), some (.int x2)] [.int s0] (81, pt_G, I, L) =
    if s0 = 0 then
      if x1 = 59 then
        some (none, (81, pt_G, (pm_ui (pm_ui I 49 5 3) 49 3 ((I 49 3) + 1)), L))
      else
        some (none, (81, pt_G, (pm_ui (pm_ui I 49 5 4) 49 3 ((I 49 3) + 1)), L))
    else
      F 1213 152 [some (.ref 49), some (.int x1), some (.int x2)] [] (81, pt_G, I, L) := pm_blk_to hF (pm_stp 1213 [0, 5, 15, 61, 78, 81, 86, 89, 111, 149, 152, 157, 160, 181, 205, 208]) 139 rfl
set_option maxRecDepth 20000 in
theorem e1213_152 (hF : pm_fix pt_me pt_Sg (pt_R L0 xs) F) {x1 : Int32} {x2 : Int32} : F 1213 152 [some (.ref 49), some (.int x1), some (.int x2)] [] (81, pt_G, I, L) =
    pm_k (F 1210 0 [some (.ref 49), some (.int x2)] [] (81, pt_G, I, L)) (fun v S => F 1213 157 [some (.ref 49), some (.int x1), some (.int x2)] (v.toList ++ []) S) := pm_blk_to hF (pm_stp 1213 [0, 5, 15, 61, 78, 81, 86, 89, 111, 149, 152, 157, 160, 181, 205, 208]) 139 rfl
set_option maxRecDepth 20000 in
theorem e1213_157 (hF : pm_fix pt_me pt_Sg (pt_R L0 xs) F) {x1 : Int32} {x2 : Int32} {s0 : Int32} : F 1213 157 [some (.ref 49), some (.int x1), some (.int x2)] [.int s0] (81, pt_G, I, L) =
    pm_k (F 1212 0 [some (.int s0)] [] (81, pt_G, I, L)) (fun v S => F 1213 160 [some (.ref 49), some (.int x1), some (.int x2)] (v.toList ++ []) S) := pm_blk_to hF (pm_stp 1213 [0, 5, 15, 61, 78, 81, 86, 89, 111, 149, 152, 157, 160, 181, 205, 208]) 139 rfl
set_option maxRecDepth 20000 in
theorem e1213_160 (hF : pm_fix pt_me pt_Sg (pt_R L0 xs) F) {x1 : Int32} {x2 : Int32} {s0 : Int32} : F 1213 160 [some (.ref 49), some (.int x1), some (.int x2)] [.int s0] (81, pt_G, I, L) =
    if s0 = 0 then
      if x2 ≤ 3 then
        pm_k (F 1210 0 [some (.ref 49), some (.int x2)] [] (81, pt_G, I, L)) (fun v S => F 1213 205 [some (.ref 49), some (.int x1), some (.int x2)] (v.toList ++ [.ref 49]) S)
      else
        some (none, (81, pt_G, (pm_ui (pm_ui I 49 5 4) 49 3 ((I 49 3) + x2)), L))
    else
      if x2 < 3 then
        pm_k (F 1210 0 [some (.ref 49), some (.int x2)] [] (81, pt_G, I, L)) (fun v S => F 1213 181 [some (.ref 49), some (.int x1), some (.int x2)] (v.toList ++ [.int (10 * (I 49 6)), .ref 49]) S)
      else
        F 1213 152 [some (.ref 49), some (.int x1), some (.int (x2 + 1))] [] (81, pt_G, I, L) := pm_blk_to hF (pm_stp 1213 [0, 5, 15, 61, 78, 81, 86, 89, 111, 149, 152, 157, 160, 181, 205, 208]) 139 rfl
set_option maxRecDepth 20000 in
theorem e1213_181 (hF : pm_fix pt_me pt_Sg (pt_R L0 xs) F) {x1 : Int32} {x2 : Int32} {s0 : Int32} {s1 : Int32} : F 1213 181 [some (.ref 49), some (.int x1), some (.int x2)] [.int s0, .int s1, .ref 49] (81, pt_G, I, L) =
    F 1213 152 [some (.ref 49), some (.int x1), some (.int (x2 + 1))] [] (81, pt_G, (pm_ui I 49 6 ((s1 + s0) - 48)), L) := pm_blk_to hF (pm_stp 1213 [0, 5, 15, 61, 78, 81, 86, 89, 111, 149, 152, 157, 160, 181, 205, 208]) 139 rfl
set_option maxRecDepth 20000 in
theorem e1213_205 (hF : pm_fix pt_me pt_Sg (pt_R L0 xs) F) {x1 : Int32} {x2 : Int32} {s0 : Int32} : F 1213 205 [some (.ref 49), some (.int x1), some (.int x2)] [.int s0, .ref 49] (81, pt_G, I, L) =
    pm_k (F 1211 0 [some (.int s0)] [] (81, pt_G, I, L)) (fun v S => F 1213 208 [some (.ref 49), some (.int x1), some (.int x2)] (v.toList ++ [.ref 49]) S) := pm_blk_to hF (pm_stp 1213 [0, 5, 15, 61, 78, 81, 86, 89, 111, 149, 152, 157, 160, 181, 205, 208]) 139 rfl
set_option maxRecDepth 20000 in
theorem e1213_208 (hF : pm_fix pt_me pt_Sg (pt_R L0 xs) F) {x1 : Int32} {x2 : Int32} {s0 : Int32} : F 1213 208 [some (.ref 49), some (.int x1), some (.int x2)] [.int s0, .ref 49] (81, pt_G, I, L) =
    if s0 = 0 then
      some (none, (81, pt_G, (pm_ui (pm_ui I 49 5 2) 49 3 ((I 49 3) + x2)), L))
    else
      some (none, (81, pt_G, (pm_ui (pm_ui I 49 5 4) 49 3 ((I 49 3) + x2)), L)) := pm_blk_to hF (pm_stp 1213 [0, 5, 15, 61, 78, 81, 86, 89, 111, 149, 152, 157, 160, 181, 205, 208]) 139 rfl
-- TurnCabinetModel.wrong(I)V 49
set_option maxRecDepth 20000 in
theorem e1214_0 (hF : pm_fix pt_me pt_Sg (pt_R L0 xs) F) {x1 : Int32} : F 1214 0 [some (.ref 49), some (.int x1)] [] (81, pt_G, I, L) =
    if (I 49 8) ≤ 0 then
      if (I 49 5) = 4 then
        some (none, (81, pt_G, (pm_ui (pm_ui I 49 8 1) 49 9 (I 49 4)), L))
      else
        some (none, (81, pt_G, (pm_ui (pm_ui I 49 8 x1) 49 9 (I 49 4)), L))
    else
      some (none, (81, pt_G, I, L)) := pm_blk_to hF (pm_stp 1214 [0]) 23 rfl
-- TurnCabinetModel.isGood()Z 49
set_option maxRecDepth 20000 in
theorem e1215_0 (hF : pm_fix pt_me pt_Sg (pt_R L0 xs) F) : F 1215 0 [some (.ref 49)] [] (81, pt_G, I, L) =
    if (I 49 8) = 0 then
      some (some (.int 1), (81, pt_G, I, L))
    else
      some (some (.int 0), (81, pt_G, I, L)) := pm_blk_to hF (pm_stp 1215 [0]) 12 rfl
-- TurnCabinetModel.isWord(J)Z 49
set_option maxRecDepth 20000 in
theorem e1216_0 (hF : pm_fix pt_me pt_Sg (pt_R L0 xs) F) {y1 : Int64} : F 1216 0 [some (.ref 49), some (.long y1), none] [] (81, pt_G, I, L) =
    if (I 49 8) = 0 then
      if (I 49 5) = 1 then
        if (lg_cmp (L 49 12) y1) = 0 then
          some (some (.int 1), (81, pt_G, I, L))
        else
          some (some (.int 0), (81, pt_G, I, L))
      else
        some (some (.int 0), (81, pt_G, I, L))
    else
      some (some (.int 0), (81, pt_G, I, L)) := pm_blk_to hF (pm_stp 1216 [0]) 21 rfl
-- TurnCabinetModel.isKept()Z 49
set_option maxRecDepth 20000 in
theorem e1217_0 (hF : pm_fix pt_me pt_Sg (pt_R L0 xs) F) : F 1217 0 [some (.ref 49)] [] (81, pt_G, I, L) =
    if (lg_cmp (L 49 12) 7235444471627739763) = 0 then
      some (some (.int 1), (81, pt_G, I, L))
    else
      if (lg_cmp (L 49 12) 1852138852) = 0 then
        some (some (.int 1), (81, pt_G, I, L))
      else
        if (lg_cmp (L 49 12) 1667330661) = 0 then
          some (some (.int 1), (81, pt_G, I, L))
        else
          if (lg_cmp (L 49 12) 500135716211) = 0 then
            some (some (.int 1), (81, pt_G, I, L))
          else
            if (lg_cmp (L 49 12) 1953067621) = 0 then
              some (some (.int 1), (81, pt_G, I, L))
            else
              if (lg_cmp (L 49 12) 122485595530085) = 0 then
                some (some (.int 1), (81, pt_G, I, L))
              else
                if (lg_cmp (L 49 12) 482671228025) = 0 then
                  some (some (.int 1), (81, pt_G, I, L))
                else
                  if (lg_cmp (L 49 12) 495622124659) = 0 then
                    some (some (.int 1), (81, pt_G, I, L))
                  else
                    if (lg_cmp (L 49 12) 24948) = 0 then
                      some (some (.int 1), (81, pt_G, I, L))
                    else
                      if (lg_cmp (L 49 12) 2002873451) = 0 then
                        some (some (.int 1), (81, pt_G, I, L))
                      else
                        if (lg_cmp (L 49 12) 512970880104) = 0 then
                          some (some (.int 1), (81, pt_G, I, L))
                        else
                          if (lg_cmp (L 49 12) 6447474) = 0 then
                            some (some (.int 1), (81, pt_G, I, L))
                          else
                            if (lg_cmp (L 49 12) 126943688024933) = 0 then
                              some (some (.int 1), (81, pt_G, I, L))
                            else
                              some (some (.int 0), (81, pt_G, I, L)) := pm_blk_to hF (pm_stp 1217 [0]) 74 rfl
-- TurnCabinetModel.must(I)V 49
set_option maxRecDepth 20000 in
theorem e1218_0 (hF : pm_fix pt_me pt_Sg (pt_R L0 xs) F) {x1 : Int32} : F 1218 0 [some (.ref 49), some (.int x1)] [] (81, pt_G, I, L) =
    if (I 49 8) ≤ 0 then
      if (I 49 5) = x1 then
        pm_k (F 1213 0 [some (.ref 49), none, none] [] (81, pt_G, I, L)) (fun v S => F 1218 20 [some (.ref 49), some (.int x1)] (v.toList ++ []) S)
      else
        pm_k (F 1214 0 [some (.ref 49), some (.int 2)] [] (81, pt_G, I, L)) (fun v S => F 1218 28 [some (.ref 49), some (.int x1)] (v.toList ++ []) S)
    else
      some (none, (81, pt_G, I, L)) := pm_blk_to hF (pm_stp 1218 [0, 20, 28]) 20 rfl
set_option maxRecDepth 20000 in
theorem e1218_20 (hF : pm_fix pt_me pt_Sg (pt_R L0 xs) F) {x1 : Int32} : F 1218 20 [some (.ref 49), some (.int x1)] [] (81, pt_G, I, L) =
    F 1218 28 [some (.ref 49), some (.int x1)] [] (81, pt_G, I, L) := pm_blk_to hF (pm_stp 1218 [0, 20, 28]) 20 rfl
set_option maxRecDepth 20000 in
theorem e1218_28 (hF : pm_fix pt_me pt_Sg (pt_R L0 xs) F) {x1 : Int32} : F 1218 28 [some (.ref 49), some (.int x1)] [] (81, pt_G, I, L) =
    some (none, (81, pt_G, I, L)) := pm_blk_to hF (pm_stp 1218 [0, 20, 28]) 20 rfl
-- TurnCabinetModel.mustWord(J)V 49
set_option maxRecDepth 20000 in
theorem e1219_0 (hF : pm_fix pt_me pt_Sg (pt_R L0 xs) F) {y1 : Int64} : F 1219 0 [some (.ref 49), some (.long y1), none] [] (81, pt_G, I, L) =
    pm_k (F 1215 0 [some (.ref 49)] [] (81, pt_G, I, L)) (fun v S => F 1219 4 [some (.ref 49), some (.long y1), none] (v.toList ++ []) S) := pm_blk_to hF (pm_stp 1219 [0, 4, 12, 20, 24, 31]) 21 rfl
set_option maxRecDepth 20000 in
theorem e1219_4 (hF : pm_fix pt_me pt_Sg (pt_R L0 xs) F) {y1 : Int64} {s0 : Int32} : F 1219 4 [some (.ref 49), some (.long y1), none] [.int s0] (81, pt_G, I, L) =
    if s0 = 0 then
      F 1219 20 [some (.ref 49), some (.long y1), none] [] (81, pt_G, I, L)
    else
      pm_k (F 1216 0 [some (.ref 49), some (.long y1), none] [] (81, pt_G, I, L)) (fun v S => F 1219 12 [some (.ref 49), some (.long y1), none] (v.toList ++ []) S) := pm_blk_to hF (pm_stp 1219 [0, 4, 12, 20, 24, 31]) 21 rfl
set_option maxRecDepth 20000 in
theorem e1219_12 (hF : pm_fix pt_me pt_Sg (pt_R L0 xs) F) {y1 : Int64} {s0 : Int32} : F 1219 12 [some (.ref 49), some (.long y1), none] [.int s0] (81, pt_G, I, L) =
    if s0 = 0 then
      pm_k (F 1214 0 [some (.ref 49), some (.int 2)] [] (81, pt_G, I, L)) (fun v S => F 1219 20 [some (.ref 49), some (.long y1), none] (v.toList ++ []) S)
    else
      F 1219 20 [some (.ref 49), some (.long y1), none] [] (81, pt_G, I, L) := pm_blk_to hF (pm_stp 1219 [0, 4, 12, 20, 24, 31]) 21 rfl
set_option maxRecDepth 20000 in
theorem e1219_20 (hF : pm_fix pt_me pt_Sg (pt_R L0 xs) F) {y1 : Int64} : F 1219 20 [some (.ref 49), some (.long y1), none] [] (81, pt_G, I, L) =
    pm_k (F 1215 0 [some (.ref 49)] [] (81, pt_G, I, L)) (fun v S => F 1219 24 [some (.ref 49), some (.long y1), none] (v.toList ++ []) S) := pm_blk_to hF (pm_stp 1219 [0, 4, 12, 20, 24, 31]) 21 rfl
set_option maxRecDepth 20000 in
theorem e1219_24 (hF : pm_fix pt_me pt_Sg (pt_R L0 xs) F) {y1 : Int64} {s0 : Int32} : F 1219 24 [some (.ref 49), some (.long y1), none] [.int s0] (81, pt_G, I, L) =
    if s0 = 0 then
      F 1219 31 [some (.ref 49), some (.long y1), none] [] (81, pt_G, I, L)
    else
      pm_k (F 1213 0 [some (.ref 49), none, none] [] (81, pt_G, I, L)) (fun v S => F 1219 31 [some (.ref 49), some (.long y1), none] (v.toList ++ []) S) := pm_blk_to hF (pm_stp 1219 [0, 4, 12, 20, 24, 31]) 21 rfl
set_option maxRecDepth 20000 in
theorem e1219_31 (hF : pm_fix pt_me pt_Sg (pt_R L0 xs) F) {y1 : Int64} : F 1219 31 [some (.ref 49), some (.long y1), none] [] (81, pt_G, I, L) =
    some (none, (81, pt_G, I, L)) := pm_blk_to hF (pm_stp 1219 [0, 4, 12, 20, 24, 31]) 21 rfl
-- TurnCabinetModel.mustName()V 49
set_option maxRecDepth 20000 in
theorem e1220_0 (hF : pm_fix pt_me pt_Sg (pt_R L0 xs) F) : F 1220 0 [some (.ref 49)] [] (81, pt_G, I, L) =
    pm_k (F 1215 0 [some (.ref 49)] [] (81, pt_G, I, L)) (fun v S => F 1220 4 [some (.ref 49)] (v.toList ++ []) S) := pm_blk_to hF (pm_stp 1220 [0, 4, 28, 36]) 23 rfl
set_option maxRecDepth 20000 in
theorem e1220_4 (hF : pm_fix pt_me pt_Sg (pt_R L0 xs) F) {s0 : Int32} : F 1220 4 [some (.ref 49)] [.int s0] (81, pt_G, I, L) =
    if s0 = 0 then
      F 1220 36 [some (.ref 49)] [] (81, pt_G, I, L)
    else
      if (I 49 5) = 1 then
        if (I 49 7) ≤ 6 then
          pm_k (F 1217 0 [some (.ref 49)] [] (81, pt_G, I, L)) (fun v S => F 1220 28 [some (.ref 49)] (v.toList ++ []) S)
        else
          pm_k (F 1214 0 [some (.ref 49), some (.int 2)] [] (81, pt_G, I, L)) (fun v S => F 1220 36 [some (.ref 49)] (v.toList ++ []) S)
      else
        pm_k (F 1214 0 [some (.ref 49), some (.int 2)] [] (81, pt_G, I, L)) (fun v S => F 1220 36 [some (.ref 49)] (v.toList ++ []) S) := pm_blk_to hF (pm_stp 1220 [0, 4, 28, 36]) 23 rfl
set_option maxRecDepth 20000 in
theorem e1220_28 (hF : pm_fix pt_me pt_Sg (pt_R L0 xs) F) {s0 : Int32} : F 1220 28 [some (.ref 49)] [.int s0] (81, pt_G, I, L) =
    if s0 = 0 then
      F 1220 36 [some (.ref 49)] [] (81, pt_G, I, L)
    else
      pm_k (F 1214 0 [some (.ref 49), some (.int 2)] [] (81, pt_G, I, L)) (fun v S => F 1220 36 [some (.ref 49)] (v.toList ++ []) S) := pm_blk_to hF (pm_stp 1220 [0, 4, 28, 36]) 23 rfl
set_option maxRecDepth 20000 in
theorem e1220_36 (hF : pm_fix pt_me pt_Sg (pt_R L0 xs) F) : F 1220 36 [some (.ref 49)] [] (81, pt_G, I, L) =
    some (none, (81, pt_G, I, L)) := pm_blk_to hF (pm_stp 1220 [0, 4, 28, 36]) 23 rfl
-- TurnCabinetModel.number(II)I 49
set_option maxRecDepth 20000 in
theorem e1221_0 (hF : pm_fix pt_me pt_Sg (pt_R L0 xs) F) {x1 : Int32} {x2 : Int32} : F 1221 0 [some (.ref 49), some (.int x1), some (.int x2), none] [] (81, pt_G, I, L) =
    pm_k (F 1215 0 [some (.ref 49)] [] (81, pt_G, I, L)) (fun v S => F 1221 4 [some (.ref 49), some (.int x1), some (.int x2), none] (v.toList ++ []) S) := pm_blk_to hF (pm_stp 1221 [0, 4, 20, 29, 41, 49, 53, 60]) 39 rfl
set_option maxRecDepth 20000 in
theorem e1221_4 (hF : pm_fix pt_me pt_Sg (pt_R L0 xs) F) {x1 : Int32} {x2 : Int32} {s0 : Int32} : F 1221 4 [some (.ref 49), some (.int x1), some (.int x2), none] [.int s0] (81, pt_G, I, L) =
    if s0 = 0 then
      F 1221 20 [some (.ref 49), some (.int x1), some (.int x2), none] [] (81, pt_G, I, L)
    else
      if (I 49 5) = 2 then
        F 1221 20 [some (.ref 49), some (.int x1), some (.int x2), none] [] (81, pt_G, I, L)
      else
        pm_k (F 1214 0 [some (.ref 49), some (.int 2)] [] (81, pt_G, I, L)) (fun v S => F 1221 20 [some (.ref 49), some (.int x1), some (.int x2), none] (v.toList ++ []) S) := pm_blk_to hF (pm_stp 1221 [0, 4, 20, 29, 41, 49, 53, 60]) 39 rfl
set_option maxRecDepth 20000 in
theorem e1221_20 (hF : pm_fix pt_me pt_Sg (pt_R L0 xs) F) {x1 : Int32} {x2 : Int32} : F 1221 20 [some (.ref 49), some (.int x1), some (.int x2), none] [] (81, pt_G, I, L) =
    pm_k (F 1215 0 [some (.ref 49)] [] (81, pt_G, I, L)) (fun v S => F 1221 29 [some (.ref 49), some (.int x1), some (.int x2), some (.int (I 49 6))] (v.toList ++ []) S) := pm_blk_to hF (pm_stp 1221 [0, 4, 20, 29, 41, 49, 53, 60]) 39 rfl
set_option maxRecDepth 20000 in
theorem e1221_29 (hF : pm_fix pt_me pt_Sg (pt_R L0 xs) F) {x1 : Int32} {x2 : Int32} {x3 : Int32} {s0 : Int32} : F 1221 29 [some (.ref 49), some (.int x1), some (.int x2), some (.int x3)] [.int s0] (81, pt_G, I, L) =
    if s0 = 0 then
      F 1221 49 [some (.ref 49), some (.int x1), some (.int x2), some (.int x3)] [] (81, pt_G, I, L)
    else
      pm_k (F 1202 0 [some (.long (Int32.toInt64 x3)), none, some (.long (Int32.toInt64 x1)), none, some (.long (Int32.toInt64 x2)), none] [] (81, pt_G, I, L)) (fun v S => F 1221 41 [some (.ref 49), some (.int x1), some (.int x2), some (.int x3)] (v.toList ++ []) S) := pm_blk_to hF (pm_stp 1221 [0, 4, 20, 29, 41, 49, 53, 60]) 39 rfl
set_option maxRecDepth 20000 in
theorem e1221_41 (hF : pm_fix pt_me pt_Sg (pt_R L0 xs) F) {x1 : Int32} {x2 : Int32} {x3 : Int32} {s0 : Int32} : F 1221 41 [some (.ref 49), some (.int x1), some (.int x2), some (.int x3)] [.int s0] (81, pt_G, I, L) =
    if s0 = 0 then
      pm_k (F 1214 0 [some (.ref 49), some (.int 4)] [] (81, pt_G, I, L)) (fun v S => F 1221 49 [some (.ref 49), some (.int x1), some (.int x2), some (.int x3)] (v.toList ++ []) S)
    else
      F 1221 49 [some (.ref 49), some (.int x1), some (.int x2), some (.int x3)] [] (81, pt_G, I, L) := pm_blk_to hF (pm_stp 1221 [0, 4, 20, 29, 41, 49, 53, 60]) 39 rfl
set_option maxRecDepth 20000 in
theorem e1221_49 (hF : pm_fix pt_me pt_Sg (pt_R L0 xs) F) {x1 : Int32} {x2 : Int32} {x3 : Int32} : F 1221 49 [some (.ref 49), some (.int x1), some (.int x2), some (.int x3)] [] (81, pt_G, I, L) =
    pm_k (F 1215 0 [some (.ref 49)] [] (81, pt_G, I, L)) (fun v S => F 1221 53 [some (.ref 49), some (.int x1), some (.int x2), some (.int x3)] (v.toList ++ []) S) := pm_blk_to hF (pm_stp 1221 [0, 4, 20, 29, 41, 49, 53, 60]) 39 rfl
set_option maxRecDepth 20000 in
theorem e1221_53 (hF : pm_fix pt_me pt_Sg (pt_R L0 xs) F) {x1 : Int32} {x2 : Int32} {x3 : Int32} {s0 : Int32} : F 1221 53 [some (.ref 49), some (.int x1), some (.int x2), some (.int x3)] [.int s0] (81, pt_G, I, L) =
    if s0 = 0 then
      F 1221 60 [some (.ref 49), some (.int x1), some (.int x2), some (.int x3)] [] (81, pt_G, I, L)
    else
      pm_k (F 1213 0 [some (.ref 49), none, none] [] (81, pt_G, I, L)) (fun v S => F 1221 60 [some (.ref 49), some (.int x1), some (.int x2), some (.int x3)] (v.toList ++ []) S) := pm_blk_to hF (pm_stp 1221 [0, 4, 20, 29, 41, 49, 53, 60]) 39 rfl
set_option maxRecDepth 20000 in
theorem e1221_60 (hF : pm_fix pt_me pt_Sg (pt_R L0 xs) F) {x1 : Int32} {x2 : Int32} {x3 : Int32} : F 1221 60 [some (.ref 49), some (.int x1), some (.int x2), some (.int x3)] [] (81, pt_G, I, L) =
    some (some (.int x3), (81, pt_G, I, L)) := pm_blk_to hF (pm_stp 1221 [0, 4, 20, 29, 41, 49, 53, 60]) 39 rfl
-- TurnCabinetModel.readsNothing()V 49
set_option maxRecDepth 20000 in
theorem e1222_0 (hF : pm_fix pt_me pt_Sg (pt_R L0 xs) F) : F 1222 0 [some (.ref 49), none] [] (81, pt_G, I, L) =
    F 1222 47 [some (.ref 49), some (.int 0)] [] (81, pt_G, (pm_ui (pm_ui (pm_ui (pm_ui (pm_ui (pm_ui (pm_ui (pm_ui (pm_ui I 49 13 0) 49 14 0) 49 15 1) 49 16 1) 49 17 (-1)) 49 18 0) 49 19 1) 49 20 0) 49 21 0), L) := pm_blk_to hF (pm_stp 1222 [0, 47, 75]) 67 rfl
set_option maxRecDepth 20000 in
theorem e1222_47 (hF : pm_fix pt_me pt_Sg (pt_R L0 xs) F) {x1 : Int32} : F 1222 47 [some (.ref 49), some (.int x1)] [] (81, pt_G, I, L) =
    if x1 < 56 then
      bif pm_ib x1 56 then
        bif pm_ib x1 56 then
          F 1222 47 [some (.ref 49), some (.int (x1 + 1))] [] (81, pt_G, (pm_ui (pm_ui I 57 (Int32.toNatClampNeg x1) (-1)) 58 (Int32.toNatClampNeg x1) (-1)), L)
        else none
      else none
    else
      F 1222 75 [some (.ref 49), some (.int 0)] [] (81, pt_G, I, L) := pm_blk_to hF (pm_stp 1222 [0, 47, 75]) 67 rfl
set_option maxRecDepth 20000 in
theorem e1222_75 (hF : pm_fix pt_me pt_Sg (pt_R L0 xs) F) {x1 : Int32} : F 1222 75 [some (.ref 49), some (.int x1)] [] (81, pt_G, I, L) =
    if x1 < 7 then
      bif pm_ib x1 7 then
        bif pm_ib x1 7 then
          F 1222 75 [some (.ref 49), some (.int (x1 + 1))] [] (81, pt_G, (pm_ui (pm_ui I 53 (Int32.toNatClampNeg x1) 0) 56 (Int32.toNatClampNeg x1) 0), L)
        else none
      else none
    else
      some (none, (81, pt_G, I, L)) := pm_blk_to hF (pm_stp 1222 [0, 47, 75]) 67 rfl
-- TurnCabinetModel.indexIn([JIJ)I 51
set_option maxRecDepth 20000 in
theorem e1223_0a (hF : pm_fix pt_me pt_Sg (pt_R L0 xs) F) {x1 : Int32} {y2 : Int64} : F 1223 0 [some (.ref 51), some (.int x1), some (.long y2), none, none] [] (81, pt_G, I, L) =
    F 1223 3 [some (.ref 51), some (.int x1), some (.long y2), none, some (.int 0)] [] (81, pt_G, I, L) := pm_blk_to hF (pm_stp 1223 [0, 3]) 22 rfl
set_option maxRecDepth 20000 in
theorem e1223_3a (hF : pm_fix pt_me pt_Sg (pt_R L0 xs) F) {x1 : Int32} {y2 : Int64} {x4 : Int32} : F 1223 3 [some (.ref 51), some (.int x1), some (.long y2), none, some (.int x4)] [] (81, pt_G, I, L) =
    if x4 < x1 then
      bif pm_ib x4 7 then
        if (lg_cmp (L 51 (Int32.toNatClampNeg x4)) y2) = 0 then
          some (some (.int x4), (81, pt_G, I, L))
        else
          F 1223 3 [some (.ref 51), some (.int x1), some (.long y2), none, some (.int (x4 + 1))] [] (81, pt_G, I, L)
      else none
    else
      some (some (.int (-1)), (81, pt_G, I, L)) := pm_blk_to hF (pm_stp 1223 [0, 3]) 22 rfl
-- TurnCabinetModel.indexIn([JIJ)I 52
set_option maxRecDepth 20000 in
theorem e1223_0b (hF : pm_fix pt_me pt_Sg (pt_R L0 xs) F) {x1 : Int32} {y2 : Int64} : F 1223 0 [some (.ref 52), some (.int x1), some (.long y2), none, none] [] (81, pt_G, I, L) =
    F 1223 3 [some (.ref 52), some (.int x1), some (.long y2), none, some (.int 0)] [] (81, pt_G, I, L) := pm_blk_to hF (pm_stp 1223 [0, 3]) 22 rfl
set_option maxRecDepth 20000 in
theorem e1223_3b (hF : pm_fix pt_me pt_Sg (pt_R L0 xs) F) {x1 : Int32} {y2 : Int64} {x4 : Int32} : F 1223 3 [some (.ref 52), some (.int x1), some (.long y2), none, some (.int x4)] [] (81, pt_G, I, L) =
    if x4 < x1 then
      bif pm_ib x4 8 then
        if (lg_cmp (L 52 (Int32.toNatClampNeg x4)) y2) = 0 then
          some (some (.int x4), (81, pt_G, I, L))
        else
          F 1223 3 [some (.ref 52), some (.int x1), some (.long y2), none, some (.int (x4 + 1))] [] (81, pt_G, I, L)
      else none
    else
      some (some (.int (-1)), (81, pt_G, I, L)) := pm_blk_to hF (pm_stp 1223 [0, 3]) 22 rfl
-- TurnCabinetModel.freshName()V 49
set_option maxRecDepth 20000 in
theorem e1224_0 (hF : pm_fix pt_me pt_Sg (pt_R L0 xs) F) : F 1224 0 [some (.ref 49)] [] (81, pt_G, I, L) =
    pm_k (F 1220 0 [some (.ref 49)] [] (81, pt_G, I, L)) (fun v S => F 1224 4 [some (.ref 49)] (v.toList ++ []) S) := pm_blk_to hF (pm_stp 1224 [0, 4, 8, 26, 45, 54]) 32 rfl
set_option maxRecDepth 20000 in
theorem e1224_4 (hF : pm_fix pt_me pt_Sg (pt_R L0 xs) F) : F 1224 4 [some (.ref 49)] [] (81, pt_G, I, L) =
    pm_k (F 1215 0 [some (.ref 49)] [] (81, pt_G, I, L)) (fun v S => F 1224 8 [some (.ref 49)] (v.toList ++ []) S) := pm_blk_to hF (pm_stp 1224 [0, 4, 8, 26, 45, 54]) 32 rfl
set_option maxRecDepth 20000 in
theorem e1224_8 (hF : pm_fix pt_me pt_Sg (pt_R L0 xs) F) {s0 : Int32} : F 1224 8 [some (.ref 49)] [.int s0] (81, pt_G, I, L) =
    if s0 = 0 then
      F 1224 54 [some (.ref 49)] [] (81, pt_G, I, L)
    else
      pm_k (F 1223 0 [some (.ref 51), some (.int (I 49 13)), some (.long (L 49 12)), none, none] [] (81, pt_G, I, L)) (fun v S => F 1224 26 [some (.ref 49)] (v.toList ++ []) S) := pm_blk_to hF (pm_stp 1224 [0, 4, 8, 26, 45, 54]) 32 rfl
set_option maxRecDepth 20000 in
theorem e1224_26 (hF : pm_fix pt_me pt_Sg (pt_R L0 xs) F) {s0 : Int32} : F 1224 26 [some (.ref 49)] [.int s0] (81, pt_G, I, L) =
    if s0 = (-1) then
      pm_k (F 1223 0 [some (.ref 52), some (.int (I 49 14)), some (.long (L 49 12)), none, none] [] (81, pt_G, I, L)) (fun v S => F 1224 45 [some (.ref 49)] (v.toList ++ []) S)
    else
      pm_k (F 1214 0 [some (.ref 49), some (.int 3)] [] (81, pt_G, I, L)) (fun v S => F 1224 54 [some (.ref 49)] (v.toList ++ []) S) := pm_blk_to hF (pm_stp 1224 [0, 4, 8, 26, 45, 54]) 32 rfl
set_option maxRecDepth 20000 in
theorem e1224_45 (hF : pm_fix pt_me pt_Sg (pt_R L0 xs) F) {s0 : Int32} : F 1224 45 [some (.ref 49)] [.int s0] (81, pt_G, I, L) =
    if s0 = (-1) then
      F 1224 54 [some (.ref 49)] [] (81, pt_G, I, L)
    else
      pm_k (F 1214 0 [some (.ref 49), some (.int 3)] [] (81, pt_G, I, L)) (fun v S => F 1224 54 [some (.ref 49)] (v.toList ++ []) S) := pm_blk_to hF (pm_stp 1224 [0, 4, 8, 26, 45, 54]) 32 rfl
set_option maxRecDepth 20000 in
theorem e1224_54 (hF : pm_fix pt_me pt_Sg (pt_R L0 xs) F) : F 1224 54 [some (.ref 49)] [] (81, pt_G, I, L) =
    some (none, (81, pt_G, I, L)) := pm_blk_to hF (pm_stp 1224 [0, 4, 8, 26, 45, 54]) 32 rfl
-- TurnCabinetModel.partyHere()I 49
set_option maxRecDepth 20000 in
theorem e1225_0 (hF : pm_fix pt_me pt_Sg (pt_R L0 xs) F) : F 1225 0 [some (.ref 49), none] [] (81, pt_G, I, L) =
    pm_k (F 1220 0 [some (.ref 49)] [] (81, pt_G, I, L)) (fun v S => F 1225 4 [some (.ref 49), none] (v.toList ++ []) S) := pm_blk_to hF (pm_stp 1225 [0, 4, 19, 24, 37]) 26 rfl
set_option maxRecDepth 20000 in
theorem e1225_4 (hF : pm_fix pt_me pt_Sg (pt_R L0 xs) F) : F 1225 4 [some (.ref 49), none] [] (81, pt_G, I, L) =
    pm_k (F 1223 0 [some (.ref 51), some (.int (I 49 13)), some (.long (L 49 12)), none, none] [] (81, pt_G, I, L)) (fun v S => F 1225 19 [some (.ref 49), none] (v.toList ++ []) S) := pm_blk_to hF (pm_stp 1225 [0, 4, 19, 24, 37]) 26 rfl
set_option maxRecDepth 20000 in
theorem e1225_19 (hF : pm_fix pt_me pt_Sg (pt_R L0 xs) F) {s0 : Int32} : F 1225 19 [some (.ref 49), none] [.int s0] (81, pt_G, I, L) =
    pm_k (F 1215 0 [some (.ref 49)] [] (81, pt_G, I, L)) (fun v S => F 1225 24 [some (.ref 49), some (.int s0)] (v.toList ++ []) S) := pm_blk_to hF (pm_stp 1225 [0, 4, 19, 24, 37]) 26 rfl
set_option maxRecDepth 20000 in
theorem e1225_24 (hF : pm_fix pt_me pt_Sg (pt_R L0 xs) F) {x1 : Int32} {s0 : Int32} : F 1225 24 [some (.ref 49), some (.int x1)] [.int s0] (81, pt_G, I, L) =
    if s0 = 0 then
      F 1225 37 [some (.ref 49), some (.int x1)] [] (81, pt_G, I, L)
    else
      if x1 = (-1) then
        pm_k (F 1214 0 [some (.ref 49), some (.int 3)] [] (81, pt_G, I, L)) (fun v S => F 1225 37 [some (.ref 49), some (.int x1)] (v.toList ++ []) S)
      else
        F 1225 37 [some (.ref 49), some (.int x1)] [] (81, pt_G, I, L) := pm_blk_to hF (pm_stp 1225 [0, 4, 19, 24, 37]) 26 rfl
set_option maxRecDepth 20000 in
theorem e1225_37 (hF : pm_fix pt_me pt_Sg (pt_R L0 xs) F) {x1 : Int32} : F 1225 37 [some (.ref 49), some (.int x1)] [] (81, pt_G, I, L) =
    some (some (.int x1), (81, pt_G, I, L)) := pm_blk_to hF (pm_stp 1225 [0, 4, 19, 24, 37]) 26 rfl
-- TurnCabinetModel.once(I)V 49
set_option maxRecDepth 20000 in
theorem e1226_0 (hF : pm_fix pt_me pt_Sg (pt_R L0 xs) F) {x1 : Int32} : F 1226 0 [some (.ref 49), some (.int x1)] [] (81, pt_G, I, L) =
    pm_k (F 1215 0 [some (.ref 49)] [] (81, pt_G, I, L)) (fun v S => F 1226 4 [some (.ref 49), some (.int x1)] (v.toList ++ []) S) := pm_blk_to hF (pm_stp 1226 [0, 4, 15, 23, 39, 46]) 30 rfl
set_option maxRecDepth 20000 in
theorem e1226_4 (hF : pm_fix pt_me pt_Sg (pt_R L0 xs) F) {x1 : Int32} {s0 : Int32} : F 1226 4 [some (.ref 49), some (.int x1)] [.int s0] (81, pt_G, I, L) =
    if s0 = 0 then
      F 1226 23 [some (.ref 49), some (.int x1)] [] (81, pt_G, I, L)
    else
      pm_k (F 1205 0 [some (.int (I 49 21)), some (.int x1)] [] (81, pt_G, I, L)) (fun v S => F 1226 15 [some (.ref 49), some (.int x1)] (v.toList ++ []) S) := pm_blk_to hF (pm_stp 1226 [0, 4, 15, 23, 39, 46]) 30 rfl
set_option maxRecDepth 20000 in
theorem e1226_15 (hF : pm_fix pt_me pt_Sg (pt_R L0 xs) F) {x1 : Int32} {s0 : Int32} : F 1226 15 [some (.ref 49), some (.int x1)] [.int s0] (81, pt_G, I, L) =
    if s0 = 0 then
      F 1226 23 [some (.ref 49), some (.int x1)] [] (81, pt_G, I, L)
    else
      pm_k (F 1214 0 [some (.ref 49), some (.int 2)] [] (81, pt_G, I, L)) (fun v S => F 1226 23 [some (.ref 49), some (.int x1)] (v.toList ++ []) S) := pm_blk_to hF (pm_stp 1226 [0, 4, 15, 23, 39, 46]) 30 rfl
set_option maxRecDepth 20000 in
theorem e1226_23 (hF : pm_fix pt_me pt_Sg (pt_R L0 xs) F) {x1 : Int32} : F 1226 23 [some (.ref 49), some (.int x1)] [] (81, pt_G, I, L) =
    pm_k (F 1215 0 [some (.ref 49)] [] (81, pt_G, (pm_ui I 49 21 ((I 49 21) ||| ((1 : Int32) <<< (x1 &&& 31)))), L)) (fun v S => F 1226 39 [some (.ref 49), some (.int x1)] (v.toList ++ []) S) := pm_blk_to hF (pm_stp 1226 [0, 4, 15, 23, 39, 46]) 30 rfl
set_option maxRecDepth 20000 in
theorem e1226_39 (hF : pm_fix pt_me pt_Sg (pt_R L0 xs) F) {x1 : Int32} {s0 : Int32} : F 1226 39 [some (.ref 49), some (.int x1)] [.int s0] (81, pt_G, I, L) =
    if s0 = 0 then
      F 1226 46 [some (.ref 49), some (.int x1)] [] (81, pt_G, I, L)
    else
      pm_k (F 1213 0 [some (.ref 49), none, none] [] (81, pt_G, I, L)) (fun v S => F 1226 46 [some (.ref 49), some (.int x1)] (v.toList ++ []) S) := pm_blk_to hF (pm_stp 1226 [0, 4, 15, 23, 39, 46]) 30 rfl
set_option maxRecDepth 20000 in
theorem e1226_46 (hF : pm_fix pt_me pt_Sg (pt_R L0 xs) F) {x1 : Int32} : F 1226 46 [some (.ref 49), some (.int x1)] [] (81, pt_G, I, L) =
    some (none, (81, pt_G, I, L)) := pm_blk_to hF (pm_stp 1226 [0, 4, 15, 23, 39, 46]) 30 rfl
-- TurnCabinetModel.officeLine()V 49
set_option maxRecDepth 20000 in
theorem e1227_0 (hF : pm_fix pt_me pt_Sg (pt_R L0 xs) F) : F 1227 0 [some (.ref 49)] [] (81, pt_G, I, L) =
    if (I 49 14) = 8 then
      pm_k (F 1214 0 [some (.ref 49), some (.int 5)] [] (81, pt_G, I, L)) (fun v S => F 1227 14 [some (.ref 49)] (v.toList ++ []) S)
    else
      F 1227 14 [some (.ref 49)] [] (81, pt_G, I, L) := pm_blk_to hF (pm_stp 1227 [0, 14, 18, 25, 29, 64]) 39 rfl
set_option maxRecDepth 20000 in
theorem e1227_14 (hF : pm_fix pt_me pt_Sg (pt_R L0 xs) F) : F 1227 14 [some (.ref 49)] [] (81, pt_G, I, L) =
    pm_k (F 1215 0 [some (.ref 49)] [] (81, pt_G, I, L)) (fun v S => F 1227 18 [some (.ref 49)] (v.toList ++ []) S) := pm_blk_to hF (pm_stp 1227 [0, 14, 18, 25, 29, 64]) 39 rfl
set_option maxRecDepth 20000 in
theorem e1227_18 (hF : pm_fix pt_me pt_Sg (pt_R L0 xs) F) {s0 : Int32} : F 1227 18 [some (.ref 49)] [.int s0] (81, pt_G, I, L) =
    if s0 = 0 then
      F 1227 25 [some (.ref 49)] [] (81, pt_G, I, L)
    else
      pm_k (F 1213 0 [some (.ref 49), none, none] [] (81, pt_G, I, L)) (fun v S => F 1227 25 [some (.ref 49)] (v.toList ++ []) S) := pm_blk_to hF (pm_stp 1227 [0, 14, 18, 25, 29, 64]) 39 rfl
set_option maxRecDepth 20000 in
theorem e1227_25 (hF : pm_fix pt_me pt_Sg (pt_R L0 xs) F) : F 1227 25 [some (.ref 49)] [] (81, pt_G, I, L) =
    pm_k (F 1224 0 [some (.ref 49)] [] (81, pt_G, I, L)) (fun v S => F 1227 29 [some (.ref 49)] (v.toList ++ []) S) := pm_blk_to hF (pm_stp 1227 [0, 14, 18, 25, 29, 64]) 39 rfl
set_option maxRecDepth 20000 in
theorem e1227_29 (hF : pm_fix pt_me pt_Sg (pt_R L0 xs) F) : F 1227 29 [some (.ref 49)] [] (81, pt_G, I, L) =
    if (I 49 8) ≤ 0 then
      bif pm_ib (I 49 14) 8 then
        pm_k (F 1213 0 [some (.ref 49), none, none] [] (81, pt_G, (pm_ui I 49 14 ((I 49 14) + 1)), (pm_ul L 52 (Int32.toNatClampNeg (I 49 14)) (L 49 12)))) (fun v S => F 1227 64 [some (.ref 49)] (v.toList ++ []) S)
      else none
    else
      some (none, (81, pt_G, I, L)) := pm_blk_to hF (pm_stp 1227 [0, 14, 18, 25, 29, 64]) 39 rfl
set_option maxRecDepth 20000 in
theorem e1227_64 (hF : pm_fix pt_me pt_Sg (pt_R L0 xs) F) : F 1227 64 [some (.ref 49)] [] (81, pt_G, I, L) =
    some (none, (81, pt_G, I, L)) := pm_blk_to hF (pm_stp 1227 [0, 14, 18, 25, 29, 64]) 39 rfl
-- TurnCabinetModel.partyLine()V 49
set_option maxRecDepth 20000 in
theorem e1228_0 (hF : pm_fix pt_me pt_Sg (pt_R L0 xs) F) : F 1228 0 [some (.ref 49)] [] (81, pt_G, I, L) =
    if (I 49 13) = 7 then
      pm_k (F 1214 0 [some (.ref 49), some (.int 5)] [] (81, pt_G, I, L)) (fun v S => F 1228 14 [some (.ref 49)] (v.toList ++ []) S)
    else
      F 1228 14 [some (.ref 49)] [] (81, pt_G, I, L) := pm_blk_to hF (pm_stp 1228 [0, 14, 18, 25, 29, 54, 61, 77, 85, 100, 118, 125, 141, 146]) 87 rfl
set_option maxRecDepth 20000 in
theorem e1228_14 (hF : pm_fix pt_me pt_Sg (pt_R L0 xs) F) : F 1228 14 [some (.ref 49)] [] (81, pt_G, I, L) =
    pm_k (F 1215 0 [some (.ref 49)] [] (81, pt_G, I, L)) (fun v S => F 1228 18 [some (.ref 49)] (v.toList ++ []) S) := pm_blk_to hF (pm_stp 1228 [0, 14, 18, 25, 29, 54, 61, 77, 85, 100, 118, 125, 141, 146]) 87 rfl
set_option maxRecDepth 20000 in
theorem e1228_18 (hF : pm_fix pt_me pt_Sg (pt_R L0 xs) F) {s0 : Int32} : F 1228 18 [some (.ref 49)] [.int s0] (81, pt_G, I, L) =
    if s0 = 0 then
      F 1228 25 [some (.ref 49)] [] (81, pt_G, I, L)
    else
      pm_k (F 1213 0 [some (.ref 49), none, none] [] (81, pt_G, I, L)) (fun v S => F 1228 25 [some (.ref 49)] (v.toList ++ []) S) := pm_blk_to hF (pm_stp 1228 [0, 14, 18, 25, 29, 54, 61, 77, 85, 100, 118, 125, 141, 146]) 87 rfl
set_option maxRecDepth 20000 in
theorem e1228_25 (hF : pm_fix pt_me pt_Sg (pt_R L0 xs) F) : F 1228 25 [some (.ref 49)] [] (81, pt_G, I, L) =
    pm_k (F 1224 0 [some (.ref 49)] [] (81, pt_G, I, L)) (fun v S => F 1228 29 [some (.ref 49)] (v.toList ++ []) S) := pm_blk_to hF (pm_stp 1228 [0, 14, 18, 25, 29, 54, 61, 77, 85, 100, 118, 125, 141, 146]) 87 rfl
set_option maxRecDepth 20000 in
theorem e1228_29 (hF : pm_fix pt_me pt_Sg (pt_R L0 xs) F) : F 1228 29 [some (.ref 49)] [] (81, pt_G, I, L) =
    if (I 49 8) ≤ 0 then
      bif pm_ib (I 49 13) 7 then
        pm_k (F 1213 0 [some (.ref 49), none, none] [] (81, pt_G, I, (pm_ul L 51 (Int32.toNatClampNeg (I 49 13)) (L 49 12)))) (fun v S => F 1228 54 [some (.ref 49)] (v.toList ++ []) S)
      else none
    else
      some (none, (81, pt_G, I, L)) := pm_blk_to hF (pm_stp 1228 [0, 14, 18, 25, 29, 54, 61, 77, 85, 100, 118, 125, 141, 146]) 87 rfl
set_option maxRecDepth 20000 in
theorem e1228_54 (hF : pm_fix pt_me pt_Sg (pt_R L0 xs) F) : F 1228 54 [some (.ref 49)] [] (81, pt_G, I, L) =
    pm_k (F 1219 0 [some (.ref 49), some (.long 495622124659), none] [] (81, pt_G, I, L)) (fun v S => F 1228 61 [some (.ref 49)] (v.toList ++ []) S) := pm_blk_to hF (pm_stp 1228 [0, 14, 18, 25, 29, 54, 61, 77, 85, 100, 118, 125, 141, 146]) 87 rfl
set_option maxRecDepth 20000 in
theorem e1228_61 (hF : pm_fix pt_me pt_Sg (pt_R L0 xs) F) : F 1228 61 [some (.ref 49)] [] (81, pt_G, I, L) =
    pm_k (F 1221 0 [some (.ref 49), some (.int 1), some (.int 999), none] [] (81, pt_G, I, L)) (fun v S => F 1228 77 [some (.ref 49)] (v.toList ++ [.int (I 49 13), .ref 53]) S) := pm_blk_to hF (pm_stp 1228 [0, 14, 18, 25, 29, 54, 61, 77, 85, 100, 118, 125, 141, 146]) 87 rfl
set_option maxRecDepth 20000 in
theorem e1228_77 (hF : pm_fix pt_me pt_Sg (pt_R L0 xs) F) {s0 : Int32} {s1 : Int32} : F 1228 77 [some (.ref 49)] [.int s0, .int s1, .ref 53] (81, pt_G, I, L) =
    bif pm_ib s1 7 then
      pm_k (F 1219 0 [some (.ref 49), some (.long 24948), none] [] (81, pt_G, (pm_ui I 53 (Int32.toNatClampNeg s1) s0), L)) (fun v S => F 1228 85 [some (.ref 49)] (v.toList ++ []) S)
    else none := pm_blk_to hF (pm_stp 1228 [0, 14, 18, 25, 29, 54, 61, 77, 85, 100, 118, 125, 141, 146]) 87 rfl
set_option maxRecDepth 20000 in
theorem e1228_85 (hF : pm_fix pt_me pt_Sg (pt_R L0 xs) F) : F 1228 85 [some (.ref 49)] [] (81, pt_G, I, L) =
    pm_k (F 1221 0 [some (.ref 49), some (.int 0), some (.int 99), none] [] (81, pt_G, I, L)) (fun v S => F 1228 100 [some (.ref 49)] (v.toList ++ [.int (I 49 13), .ref 54]) S) := pm_blk_to hF (pm_stp 1228 [0, 14, 18, 25, 29, 54, 61, 77, 85, 100, 118, 125, 141, 146]) 87 rfl
set_option maxRecDepth 20000 in
theorem e1228_100 (hF : pm_fix pt_me pt_Sg (pt_R L0 xs) F) {s0 : Int32} {s1 : Int32} : F 1228 100 [some (.ref 49)] [.int s0, .int s1, .ref 54] (81, pt_G, I, L) =
    bif pm_ib s1 7 then
      bif pm_ib (I 49 13) 7 then
        pm_k (F 1216 0 [some (.ref 49), some (.long 2002873451), none] [] (81, pt_G, (pm_ui (pm_ui I 54 (Int32.toNatClampNeg s1) s0) 55 (Int32.toNatClampNeg (I 49 13)) 0), L)) (fun v S => F 1228 118 [some (.ref 49)] (v.toList ++ []) S)
      else none
    else none := pm_blk_to hF (pm_stp 1228 [0, 14, 18, 25, 29, 54, 61, 77, 85, 100, 118, 125, 141, 146]) 87 rfl
set_option maxRecDepth 20000 in
theorem e1228_118 (hF : pm_fix pt_me pt_Sg (pt_R L0 xs) F) {s0 : Int32} : F 1228 118 [some (.ref 49)] [.int s0] (81, pt_G, I, L) =
    if s0 = 0 then
      pm_k (F 1215 0 [some (.ref 49)] [] (81, pt_G, I, L)) (fun v S => F 1228 146 [some (.ref 49)] (v.toList ++ []) S)
    else
      pm_k (F 1213 0 [some (.ref 49), none, none] [] (81, pt_G, I, L)) (fun v S => F 1228 125 [some (.ref 49)] (v.toList ++ []) S) := pm_blk_to hF (pm_stp 1228 [0, 14, 18, 25, 29, 54, 61, 77, 85, 100, 118, 125, 141, 146]) 87 rfl
set_option maxRecDepth 20000 in
theorem e1228_125 (hF : pm_fix pt_me pt_Sg (pt_R L0 xs) F) : F 1228 125 [some (.ref 49)] [] (81, pt_G, I, L) =
    pm_k (F 1221 0 [some (.ref 49), some (.int 0), some (.int 999), none] [] (81, pt_G, I, L)) (fun v S => F 1228 141 [some (.ref 49)] (v.toList ++ [.int (I 49 13), .ref 55]) S) := pm_blk_to hF (pm_stp 1228 [0, 14, 18, 25, 29, 54, 61, 77, 85, 100, 118, 125, 141, 146]) 87 rfl
set_option maxRecDepth 20000 in
theorem e1228_141 (hF : pm_fix pt_me pt_Sg (pt_R L0 xs) F) {s0 : Int32} {s1 : Int32} : F 1228 141 [some (.ref 49)] [.int s0, .int s1, .ref 55] (81, pt_G, I, L) =
    bif pm_ib s1 7 then
      pm_k (F 1215 0 [some (.ref 49)] [] (81, pt_G, (pm_ui I 55 (Int32.toNatClampNeg s1) s0), L)) (fun v S => F 1228 146 [some (.ref 49)] (v.toList ++ []) S)
    else none := pm_blk_to hF (pm_stp 1228 [0, 14, 18, 25, 29, 54, 61, 77, 85, 100, 118, 125, 141, 146]) 87 rfl
set_option maxRecDepth 20000 in
theorem e1228_146 (hF : pm_fix pt_me pt_Sg (pt_R L0 xs) F) {s0 : Int32} : F 1228 146 [some (.ref 49)] [.int s0] (81, pt_G, I, L) =
    if s0 = 0 then
      some (none, (81, pt_G, I, L))
    else
      some (none, (81, pt_G, (pm_ui I 49 13 ((I 49 13) + 1)), L)) := pm_blk_to hF (pm_stp 1228 [0, 14, 18, 25, 29, 54, 61, 77, 85, 100, 118, 125, 141, 146]) 87 rfl
-- TurnCabinetModel.numberLine([II)V 49 57
set_option maxRecDepth 20000 in
theorem e1229_0a (hF : pm_fix pt_me pt_Sg (pt_R L0 xs) F) {x2 : Int32} : F 1229 0 [some (.ref 49), some (.ref 57), some (.int x2), none, none, none] [] (81, pt_G, I, L) =
    pm_k (F 1213 0 [some (.ref 49), none, none] [] (81, pt_G, I, L)) (fun v S => F 1229 4 [some (.ref 49), some (.ref 57), some (.int x2), none, none, none] (v.toList ++ []) S) := pm_blk_to hF (pm_stp 1229 [0, 4, 8, 13, 20, 24, 39, 45, 72, 76, 83, 89, 95]) 65 rfl
set_option maxRecDepth 20000 in
theorem e1229_4a (hF : pm_fix pt_me pt_Sg (pt_R L0 xs) F) {x2 : Int32} : F 1229 4 [some (.ref 49), some (.ref 57), some (.int x2), none, none, none] [] (81, pt_G, I, L) =
    pm_k (F 1225 0 [some (.ref 49), none] [] (81, pt_G, I, L)) (fun v S => F 1229 8 [some (.ref 49), some (.ref 57), some (.int x2), none, none, none] (v.toList ++ []) S) := pm_blk_to hF (pm_stp 1229 [0, 4, 8, 13, 20, 24, 39, 45, 72, 76, 83, 89, 95]) 65 rfl
set_option maxRecDepth 20000 in
theorem e1229_8a (hF : pm_fix pt_me pt_Sg (pt_R L0 xs) F) {x2 : Int32} {s0 : Int32} : F 1229 8 [some (.ref 49), some (.ref 57), some (.int x2), none, none, none] [.int s0] (81, pt_G, I, L) =
    pm_k (F 1215 0 [some (.ref 49)] [] (81, pt_G, I, L)) (fun v S => F 1229 13 [some (.ref 49), some (.ref 57), some (.int x2), some (.int s0), none, none] (v.toList ++ []) S) := pm_blk_to hF (pm_stp 1229 [0, 4, 8, 13, 20, 24, 39, 45, 72, 76, 83, 89, 95]) 65 rfl
set_option maxRecDepth 20000 in
theorem e1229_13a (hF : pm_fix pt_me pt_Sg (pt_R L0 xs) F) {x2 : Int32} {x3 : Int32} {s0 : Int32} : F 1229 13 [some (.ref 49), some (.ref 57), some (.int x2), some (.int x3), none, none] [.int s0] (81, pt_G, I, L) =
    if s0 = 0 then
      F 1229 20 [some (.ref 49), some (.ref 57), some (.int x2), some (.int x3), none, none] [] (81, pt_G, I, L)
    else
      pm_k (F 1213 0 [some (.ref 49), none, none] [] (81, pt_G, I, L)) (fun v S => F 1229 20 [some (.ref 49), some (.ref 57), some (.int x2), some (.int x3), none, none] (v.toList ++ []) S) := pm_blk_to hF (pm_stp 1229 [0, 4, 8, 13, 20, 24, 39, 45, 72, 76, 83, 89, 95]) 65 rfl
set_option maxRecDepth 20000 in
theorem e1229_20a (hF : pm_fix pt_me pt_Sg (pt_R L0 xs) F) {x2 : Int32} {x3 : Int32} : F 1229 20 [some (.ref 49), some (.ref 57), some (.int x2), some (.int x3), none, none] [] (81, pt_G, I, L) =
    pm_k (F 1220 0 [some (.ref 49)] [] (81, pt_G, I, L)) (fun v S => F 1229 24 [some (.ref 49), some (.ref 57), some (.int x2), some (.int x3), none, none] (v.toList ++ []) S) := pm_blk_to hF (pm_stp 1229 [0, 4, 8, 13, 20, 24, 39, 45, 72, 76, 83, 89, 95]) 65 rfl
set_option maxRecDepth 20000 in
theorem e1229_24a (hF : pm_fix pt_me pt_Sg (pt_R L0 xs) F) {x2 : Int32} {x3 : Int32} : F 1229 24 [some (.ref 49), some (.ref 57), some (.int x2), some (.int x3), none, none] [] (81, pt_G, I, L) =
    pm_k (F 1223 0 [some (.ref 52), some (.int (I 49 14)), some (.long (L 49 12)), none, none] [] (81, pt_G, I, L)) (fun v S => F 1229 39 [some (.ref 49), some (.ref 57), some (.int x2), some (.int x3), none, none] (v.toList ++ []) S) := pm_blk_to hF (pm_stp 1229 [0, 4, 8, 13, 20, 24, 39, 45, 72, 76, 83, 89, 95]) 65 rfl
set_option maxRecDepth 20000 in
theorem e1229_39a (hF : pm_fix pt_me pt_Sg (pt_R L0 xs) F) {x2 : Int32} {x3 : Int32} {s0 : Int32} : F 1229 39 [some (.ref 49), some (.ref 57), some (.int x2), some (.int x3), none, none] [.int s0] (81, pt_G, I, L) =
    pm_k (F 1215 0 [some (.ref 49)] [] (81, pt_G, I, L)) (fun v S => F 1229 45 [some (.ref 49), some (.ref 57), some (.int x2), some (.int x3), some (.int s0), none] (v.toList ++ []) S) := pm_blk_to hF (pm_stp 1229 [0, 4, 8, 13, 20, 24, 39, 45, 72, 76, 83, 89, 95]) 65 rfl
set_option maxRecDepth 20000 in
theorem e1229_45a (hF : pm_fix pt_me pt_Sg (pt_R L0 xs) F) {x2 : Int32} {x3 : Int32} {x4 : Int32} {s0 : Int32} : F 1229 45 [some (.ref 49), some (.ref 57), some (.int x2), some (.int x3), some (.int x4), none] [.int s0] (81, pt_G, I, L) =
    if s0 = 0 then
      F 1229 72 [some (.ref 49), some (.ref 57), some (.int x2), some (.int x3), some (.int x4), none] [] (81, pt_G, I, L)
    else
      if x4 = (-1) then
        pm_k (F 1214 0 [some (.ref 49), some (.int 3)] [] (81, pt_G, I, L)) (fun v S => F 1229 72 [some (.ref 49), some (.ref 57), some (.int x2), some (.int x3), some (.int x4), none] (v.toList ++ []) S)
      else
        bif pm_ib ((8 * x3) + x4) 56 then
          if (I 57 (Int32.toNatClampNeg ((8 * x3) + x4))) = (-1) then
            F 1229 72 [some (.ref 49), some (.ref 57), some (.int x2), some (.int x3), some (.int x4), none] [] (81, pt_G, I, L)
          else
            pm_k (F 1214 0 [some (.ref 49), some (.int 3)] [] (81, pt_G, I, L)) (fun v S => F 1229 72 [some (.ref 49), some (.ref 57), some (.int x2), some (.int x3), some (.int x4), none] (v.toList ++ []) S)
        else none := pm_blk_to hF (pm_stp 1229 [0, 4, 8, 13, 20, 24, 39, 45, 72, 76, 83, 89, 95]) 65 rfl
set_option maxRecDepth 20000 in
theorem e1229_72a (hF : pm_fix pt_me pt_Sg (pt_R L0 xs) F) {x2 : Int32} {x3 : Int32} {x4 : Int32} : F 1229 72 [some (.ref 49), some (.ref 57), some (.int x2), some (.int x3), some (.int x4), none] [] (81, pt_G, I, L) =
    pm_k (F 1215 0 [some (.ref 49)] [] (81, pt_G, I, L)) (fun v S => F 1229 76 [some (.ref 49), some (.ref 57), some (.int x2), some (.int x3), some (.int x4), none] (v.toList ++ []) S) := pm_blk_to hF (pm_stp 1229 [0, 4, 8, 13, 20, 24, 39, 45, 72, 76, 83, 89, 95]) 65 rfl
set_option maxRecDepth 20000 in
theorem e1229_76a (hF : pm_fix pt_me pt_Sg (pt_R L0 xs) F) {x2 : Int32} {x3 : Int32} {x4 : Int32} {s0 : Int32} : F 1229 76 [some (.ref 49), some (.ref 57), some (.int x2), some (.int x3), some (.int x4), none] [.int s0] (81, pt_G, I, L) =
    if s0 = 0 then
      F 1229 83 [some (.ref 49), some (.ref 57), some (.int x2), some (.int x3), some (.int x4), none] [] (81, pt_G, I, L)
    else
      pm_k (F 1213 0 [some (.ref 49), none, none] [] (81, pt_G, I, L)) (fun v S => F 1229 83 [some (.ref 49), some (.ref 57), some (.int x2), some (.int x3), some (.int x4), none] (v.toList ++ []) S) := pm_blk_to hF (pm_stp 1229 [0, 4, 8, 13, 20, 24, 39, 45, 72, 76, 83, 89, 95]) 65 rfl
set_option maxRecDepth 20000 in
theorem e1229_83a (hF : pm_fix pt_me pt_Sg (pt_R L0 xs) F) {x2 : Int32} {x3 : Int32} {x4 : Int32} : F 1229 83 [some (.ref 49), some (.ref 57), some (.int x2), some (.int x3), some (.int x4), none] [] (81, pt_G, I, L) =
    pm_k (F 1221 0 [some (.ref 49), some (.int 0), some (.int x2), none] [] (81, pt_G, I, L)) (fun v S => F 1229 89 [some (.ref 49), some (.ref 57), some (.int x2), some (.int x3), some (.int x4), none] (v.toList ++ []) S) := pm_blk_to hF (pm_stp 1229 [0, 4, 8, 13, 20, 24, 39, 45, 72, 76, 83, 89, 95]) 65 rfl
set_option maxRecDepth 20000 in
theorem e1229_89a (hF : pm_fix pt_me pt_Sg (pt_R L0 xs) F) {x2 : Int32} {x3 : Int32} {x4 : Int32} {s0 : Int32} : F 1229 89 [some (.ref 49), some (.ref 57), some (.int x2), some (.int x3), some (.int x4), none] [.int s0] (81, pt_G, I, L) =
    pm_k (F 1215 0 [some (.ref 49)] [] (81, pt_G, I, L)) (fun v S => F 1229 95 [some (.ref 49), some (.ref 57), some (.int x2), some (.int x3), some (.int x4), some (.int s0)] (v.toList ++ []) S) := pm_blk_to hF (pm_stp 1229 [0, 4, 8, 13, 20, 24, 39, 45, 72, 76, 83, 89, 95]) 65 rfl
set_option maxRecDepth 20000 in
theorem e1229_95a (hF : pm_fix pt_me pt_Sg (pt_R L0 xs) F) {x2 : Int32} {x3 : Int32} {x4 : Int32} {x5 : Int32} {s0 : Int32} : F 1229 95 [some (.ref 49), some (.ref 57), some (.int x2), some (.int x3), some (.int x4), some (.int x5)] [.int s0] (81, pt_G, I, L) =
    if s0 = 0 then
      some (none, (81, pt_G, I, L))
    else
      bif pm_ib ((8 * x3) + x4) 56 then
        some (none, (81, pt_G, (pm_ui I 57 (Int32.toNatClampNeg ((8 * x3) + x4)) x5), L))
      else none := pm_blk_to hF (pm_stp 1229 [0, 4, 8, 13, 20, 24, 39, 45, 72, 76, 83, 89, 95]) 65 rfl
-- TurnCabinetModel.numberLine([II)V 49 58
set_option maxRecDepth 20000 in
theorem e1229_0b (hF : pm_fix pt_me pt_Sg (pt_R L0 xs) F) {x2 : Int32} : F 1229 0 [some (.ref 49), some (.ref 58), some (.int x2), none, none, none] [] (81, pt_G, I, L) =
    pm_k (F 1213 0 [some (.ref 49), none, none] [] (81, pt_G, I, L)) (fun v S => F 1229 4 [some (.ref 49), some (.ref 58), some (.int x2), none, none, none] (v.toList ++ []) S) := pm_blk_to hF (pm_stp 1229 [0, 4, 8, 13, 20, 24, 39, 45, 72, 76, 83, 89, 95]) 65 rfl
set_option maxRecDepth 20000 in
theorem e1229_4b (hF : pm_fix pt_me pt_Sg (pt_R L0 xs) F) {x2 : Int32} : F 1229 4 [some (.ref 49), some (.ref 58), some (.int x2), none, none, none] [] (81, pt_G, I, L) =
    pm_k (F 1225 0 [some (.ref 49), none] [] (81, pt_G, I, L)) (fun v S => F 1229 8 [some (.ref 49), some (.ref 58), some (.int x2), none, none, none] (v.toList ++ []) S) := pm_blk_to hF (pm_stp 1229 [0, 4, 8, 13, 20, 24, 39, 45, 72, 76, 83, 89, 95]) 65 rfl
set_option maxRecDepth 20000 in
theorem e1229_8b (hF : pm_fix pt_me pt_Sg (pt_R L0 xs) F) {x2 : Int32} {s0 : Int32} : F 1229 8 [some (.ref 49), some (.ref 58), some (.int x2), none, none, none] [.int s0] (81, pt_G, I, L) =
    pm_k (F 1215 0 [some (.ref 49)] [] (81, pt_G, I, L)) (fun v S => F 1229 13 [some (.ref 49), some (.ref 58), some (.int x2), some (.int s0), none, none] (v.toList ++ []) S) := pm_blk_to hF (pm_stp 1229 [0, 4, 8, 13, 20, 24, 39, 45, 72, 76, 83, 89, 95]) 65 rfl
set_option maxRecDepth 20000 in
theorem e1229_13b (hF : pm_fix pt_me pt_Sg (pt_R L0 xs) F) {x2 : Int32} {x3 : Int32} {s0 : Int32} : F 1229 13 [some (.ref 49), some (.ref 58), some (.int x2), some (.int x3), none, none] [.int s0] (81, pt_G, I, L) =
    if s0 = 0 then
      F 1229 20 [some (.ref 49), some (.ref 58), some (.int x2), some (.int x3), none, none] [] (81, pt_G, I, L)
    else
      pm_k (F 1213 0 [some (.ref 49), none, none] [] (81, pt_G, I, L)) (fun v S => F 1229 20 [some (.ref 49), some (.ref 58), some (.int x2), some (.int x3), none, none] (v.toList ++ []) S) := pm_blk_to hF (pm_stp 1229 [0, 4, 8, 13, 20, 24, 39, 45, 72, 76, 83, 89, 95]) 65 rfl
set_option maxRecDepth 20000 in
theorem e1229_20b (hF : pm_fix pt_me pt_Sg (pt_R L0 xs) F) {x2 : Int32} {x3 : Int32} : F 1229 20 [some (.ref 49), some (.ref 58), some (.int x2), some (.int x3), none, none] [] (81, pt_G, I, L) =
    pm_k (F 1220 0 [some (.ref 49)] [] (81, pt_G, I, L)) (fun v S => F 1229 24 [some (.ref 49), some (.ref 58), some (.int x2), some (.int x3), none, none] (v.toList ++ []) S) := pm_blk_to hF (pm_stp 1229 [0, 4, 8, 13, 20, 24, 39, 45, 72, 76, 83, 89, 95]) 65 rfl
set_option maxRecDepth 20000 in
theorem e1229_24b (hF : pm_fix pt_me pt_Sg (pt_R L0 xs) F) {x2 : Int32} {x3 : Int32} : F 1229 24 [some (.ref 49), some (.ref 58), some (.int x2), some (.int x3), none, none] [] (81, pt_G, I, L) =
    pm_k (F 1223 0 [some (.ref 52), some (.int (I 49 14)), some (.long (L 49 12)), none, none] [] (81, pt_G, I, L)) (fun v S => F 1229 39 [some (.ref 49), some (.ref 58), some (.int x2), some (.int x3), none, none] (v.toList ++ []) S) := pm_blk_to hF (pm_stp 1229 [0, 4, 8, 13, 20, 24, 39, 45, 72, 76, 83, 89, 95]) 65 rfl
set_option maxRecDepth 20000 in
theorem e1229_39b (hF : pm_fix pt_me pt_Sg (pt_R L0 xs) F) {x2 : Int32} {x3 : Int32} {s0 : Int32} : F 1229 39 [some (.ref 49), some (.ref 58), some (.int x2), some (.int x3), none, none] [.int s0] (81, pt_G, I, L) =
    pm_k (F 1215 0 [some (.ref 49)] [] (81, pt_G, I, L)) (fun v S => F 1229 45 [some (.ref 49), some (.ref 58), some (.int x2), some (.int x3), some (.int s0), none] (v.toList ++ []) S) := pm_blk_to hF (pm_stp 1229 [0, 4, 8, 13, 20, 24, 39, 45, 72, 76, 83, 89, 95]) 65 rfl
set_option maxRecDepth 20000 in
theorem e1229_45b (hF : pm_fix pt_me pt_Sg (pt_R L0 xs) F) {x2 : Int32} {x3 : Int32} {x4 : Int32} {s0 : Int32} : F 1229 45 [some (.ref 49), some (.ref 58), some (.int x2), some (.int x3), some (.int x4), none] [.int s0] (81, pt_G, I, L) =
    if s0 = 0 then
      F 1229 72 [some (.ref 49), some (.ref 58), some (.int x2), some (.int x3), some (.int x4), none] [] (81, pt_G, I, L)
    else
      if x4 = (-1) then
        pm_k (F 1214 0 [some (.ref 49), some (.int 3)] [] (81, pt_G, I, L)) (fun v S => F 1229 72 [some (.ref 49), some (.ref 58), some (.int x2), some (.int x3), some (.int x4), none] (v.toList ++ []) S)
      else
        bif pm_ib ((8 * x3) + x4) 56 then
          if (I 58 (Int32.toNatClampNeg ((8 * x3) + x4))) = (-1) then
            F 1229 72 [some (.ref 49), some (.ref 58), some (.int x2), some (.int x3), some (.int x4), none] [] (81, pt_G, I, L)
          else
            pm_k (F 1214 0 [some (.ref 49), some (.int 3)] [] (81, pt_G, I, L)) (fun v S => F 1229 72 [some (.ref 49), some (.ref 58), some (.int x2), some (.int x3), some (.int x4), none] (v.toList ++ []) S)
        else none := pm_blk_to hF (pm_stp 1229 [0, 4, 8, 13, 20, 24, 39, 45, 72, 76, 83, 89, 95]) 65 rfl
set_option maxRecDepth 20000 in
theorem e1229_72b (hF : pm_fix pt_me pt_Sg (pt_R L0 xs) F) {x2 : Int32} {x3 : Int32} {x4 : Int32} : F 1229 72 [some (.ref 49), some (.ref 58), some (.int x2), some (.int x3), some (.int x4), none] [] (81, pt_G, I, L) =
    pm_k (F 1215 0 [some (.ref 49)] [] (81, pt_G, I, L)) (fun v S => F 1229 76 [some (.ref 49), some (.ref 58), some (.int x2), some (.int x3), some (.int x4), none] (v.toList ++ []) S) := pm_blk_to hF (pm_stp 1229 [0, 4, 8, 13, 20, 24, 39, 45, 72, 76, 83, 89, 95]) 65 rfl
set_option maxRecDepth 20000 in
theorem e1229_76b (hF : pm_fix pt_me pt_Sg (pt_R L0 xs) F) {x2 : Int32} {x3 : Int32} {x4 : Int32} {s0 : Int32} : F 1229 76 [some (.ref 49), some (.ref 58), some (.int x2), some (.int x3), some (.int x4), none] [.int s0] (81, pt_G, I, L) =
    if s0 = 0 then
      F 1229 83 [some (.ref 49), some (.ref 58), some (.int x2), some (.int x3), some (.int x4), none] [] (81, pt_G, I, L)
    else
      pm_k (F 1213 0 [some (.ref 49), none, none] [] (81, pt_G, I, L)) (fun v S => F 1229 83 [some (.ref 49), some (.ref 58), some (.int x2), some (.int x3), some (.int x4), none] (v.toList ++ []) S) := pm_blk_to hF (pm_stp 1229 [0, 4, 8, 13, 20, 24, 39, 45, 72, 76, 83, 89, 95]) 65 rfl
set_option maxRecDepth 20000 in
theorem e1229_83b (hF : pm_fix pt_me pt_Sg (pt_R L0 xs) F) {x2 : Int32} {x3 : Int32} {x4 : Int32} : F 1229 83 [some (.ref 49), some (.ref 58), some (.int x2), some (.int x3), some (.int x4), none] [] (81, pt_G, I, L) =
    pm_k (F 1221 0 [some (.ref 49), some (.int 0), some (.int x2), none] [] (81, pt_G, I, L)) (fun v S => F 1229 89 [some (.ref 49), some (.ref 58), some (.int x2), some (.int x3), some (.int x4), none] (v.toList ++ []) S) := pm_blk_to hF (pm_stp 1229 [0, 4, 8, 13, 20, 24, 39, 45, 72, 76, 83, 89, 95]) 65 rfl
set_option maxRecDepth 20000 in
theorem e1229_89b (hF : pm_fix pt_me pt_Sg (pt_R L0 xs) F) {x2 : Int32} {x3 : Int32} {x4 : Int32} {s0 : Int32} : F 1229 89 [some (.ref 49), some (.ref 58), some (.int x2), some (.int x3), some (.int x4), none] [.int s0] (81, pt_G, I, L) =
    pm_k (F 1215 0 [some (.ref 49)] [] (81, pt_G, I, L)) (fun v S => F 1229 95 [some (.ref 49), some (.ref 58), some (.int x2), some (.int x3), some (.int x4), some (.int s0)] (v.toList ++ []) S) := pm_blk_to hF (pm_stp 1229 [0, 4, 8, 13, 20, 24, 39, 45, 72, 76, 83, 89, 95]) 65 rfl
set_option maxRecDepth 20000 in
theorem e1229_95b (hF : pm_fix pt_me pt_Sg (pt_R L0 xs) F) {x2 : Int32} {x3 : Int32} {x4 : Int32} {x5 : Int32} {s0 : Int32} : F 1229 95 [some (.ref 49), some (.ref 58), some (.int x2), some (.int x3), some (.int x4), some (.int x5)] [.int s0] (81, pt_G, I, L) =
    if s0 = 0 then
      some (none, (81, pt_G, I, L))
    else
      bif pm_ib ((8 * x3) + x4) 56 then
        some (none, (81, pt_G, (pm_ui I 58 (Int32.toNatClampNeg ((8 * x3) + x4)) x5), L))
      else none := pm_blk_to hF (pm_stp 1229 [0, 4, 8, 13, 20, 24, 39, 45, 72, 76, 83, 89, 95]) 65 rfl
-- TurnCabinetModel.barLine()V 49
set_option maxRecDepth 20000 in
theorem e1230_0 (hF : pm_fix pt_me pt_Sg (pt_R L0 xs) F) : F 1230 0 [some (.ref 49), none, none] [] (81, pt_G, I, L) =
    pm_k (F 1213 0 [some (.ref 49), none, none] [] (81, pt_G, I, L)) (fun v S => F 1230 4 [some (.ref 49), none, none] (v.toList ++ []) S) := pm_blk_to hF (pm_stp 1230 [0, 4, 8, 13, 20, 24, 29, 42, 54]) 54 rfl
set_option maxRecDepth 20000 in
theorem e1230_4 (hF : pm_fix pt_me pt_Sg (pt_R L0 xs) F) : F 1230 4 [some (.ref 49), none, none] [] (81, pt_G, I, L) =
    pm_k (F 1225 0 [some (.ref 49), none] [] (81, pt_G, I, L)) (fun v S => F 1230 8 [some (.ref 49), none, none] (v.toList ++ []) S) := pm_blk_to hF (pm_stp 1230 [0, 4, 8, 13, 20, 24, 29, 42, 54]) 54 rfl
set_option maxRecDepth 20000 in
theorem e1230_8 (hF : pm_fix pt_me pt_Sg (pt_R L0 xs) F) {s0 : Int32} : F 1230 8 [some (.ref 49), none, none] [.int s0] (81, pt_G, I, L) =
    pm_k (F 1215 0 [some (.ref 49)] [] (81, pt_G, I, L)) (fun v S => F 1230 13 [some (.ref 49), some (.int s0), none] (v.toList ++ []) S) := pm_blk_to hF (pm_stp 1230 [0, 4, 8, 13, 20, 24, 29, 42, 54]) 54 rfl
set_option maxRecDepth 20000 in
theorem e1230_13 (hF : pm_fix pt_me pt_Sg (pt_R L0 xs) F) {x1 : Int32} {s0 : Int32} : F 1230 13 [some (.ref 49), some (.int x1), none] [.int s0] (81, pt_G, I, L) =
    if s0 = 0 then
      F 1230 20 [some (.ref 49), some (.int x1), none] [] (81, pt_G, I, L)
    else
      pm_k (F 1213 0 [some (.ref 49), none, none] [] (81, pt_G, I, L)) (fun v S => F 1230 20 [some (.ref 49), some (.int x1), none] (v.toList ++ []) S) := pm_blk_to hF (pm_stp 1230 [0, 4, 8, 13, 20, 24, 29, 42, 54]) 54 rfl
set_option maxRecDepth 20000 in
theorem e1230_20 (hF : pm_fix pt_me pt_Sg (pt_R L0 xs) F) {x1 : Int32} : F 1230 20 [some (.ref 49), some (.int x1), none] [] (81, pt_G, I, L) =
    pm_k (F 1225 0 [some (.ref 49), none] [] (81, pt_G, I, L)) (fun v S => F 1230 24 [some (.ref 49), some (.int x1), none] (v.toList ++ []) S) := pm_blk_to hF (pm_stp 1230 [0, 4, 8, 13, 20, 24, 29, 42, 54]) 54 rfl
set_option maxRecDepth 20000 in
theorem e1230_24 (hF : pm_fix pt_me pt_Sg (pt_R L0 xs) F) {x1 : Int32} {s0 : Int32} : F 1230 24 [some (.ref 49), some (.int x1), none] [.int s0] (81, pt_G, I, L) =
    pm_k (F 1215 0 [some (.ref 49)] [] (81, pt_G, I, L)) (fun v S => F 1230 29 [some (.ref 49), some (.int x1), some (.int s0)] (v.toList ++ []) S) := pm_blk_to hF (pm_stp 1230 [0, 4, 8, 13, 20, 24, 29, 42, 54]) 54 rfl
set_option maxRecDepth 20000 in
theorem e1230_29 (hF : pm_fix pt_me pt_Sg (pt_R L0 xs) F) {x1 : Int32} {x2 : Int32} {s0 : Int32} : F 1230 29 [some (.ref 49), some (.int x1), some (.int x2)] [.int s0] (81, pt_G, I, L) =
    if s0 = 0 then
      F 1230 42 [some (.ref 49), some (.int x1), some (.int x2)] [] (81, pt_G, I, L)
    else
      if x1 = x2 then
        pm_k (F 1214 0 [some (.ref 49), some (.int 3)] [] (81, pt_G, I, L)) (fun v S => F 1230 42 [some (.ref 49), some (.int x1), some (.int x2)] (v.toList ++ []) S)
      else
        F 1230 42 [some (.ref 49), some (.int x1), some (.int x2)] [] (81, pt_G, I, L) := pm_blk_to hF (pm_stp 1230 [0, 4, 8, 13, 20, 24, 29, 42, 54]) 54 rfl
set_option maxRecDepth 20000 in
theorem e1230_42 (hF : pm_fix pt_me pt_Sg (pt_R L0 xs) F) {x1 : Int32} {x2 : Int32} : F 1230 42 [some (.ref 49), some (.int x1), some (.int x2)] [] (81, pt_G, I, L) =
    if (I 49 8) ≤ 0 then
      pm_k (F 1213 0 [some (.ref 49), none, none] [] (81, pt_G, I, L)) (fun v S => F 1230 54 [some (.ref 49), some (.int x1), some (.int x2)] (v.toList ++ []) S)
    else
      some (none, (81, pt_G, I, L)) := pm_blk_to hF (pm_stp 1230 [0, 4, 8, 13, 20, 24, 29, 42, 54]) 54 rfl
set_option maxRecDepth 20000 in
theorem e1230_54 (hF : pm_fix pt_me pt_Sg (pt_R L0 xs) F) {x1 : Int32} {x2 : Int32} : F 1230 54 [some (.ref 49), some (.int x1), some (.int x2)] [] (81, pt_G, I, L) =
    bif pm_ib x1 7 then
      bif pm_ib x1 7 then
        bif pm_ib x2 7 then
          bif pm_ib x2 7 then
            some (none, (81, pt_G, (pm_ui (pm_ui I 56 (Int32.toNatClampNeg x1) ((I 56 (Int32.toNatClampNeg x1)) ||| ((1 : Int32) <<< (x2 &&& 31)))) 56 (Int32.toNatClampNeg x2) (((pm_ui I 56 (Int32.toNatClampNeg x1) ((I 56 (Int32.toNatClampNeg x1)) ||| ((1 : Int32) <<< (x2 &&& 31)))) 56 (Int32.toNatClampNeg x2)) ||| ((1 : Int32) <<< (x1 &&& 31)))), L))
          else none
        else none
      else none
    else none := pm_blk_to hF (pm_stp 1230 [0, 4, 8, 13, 20, 24, 29, 42, 54]) 54 rfl
-- TurnCabinetModel.divisorsLine()V 49
set_option maxRecDepth 20000 in
theorem e1231_0 (hF : pm_fix pt_me pt_Sg (pt_R L0 xs) F) : F 1231 0 [some (.ref 49)] [] (81, pt_G, I, L) =
    pm_k (F 1226 0 [some (.ref 49), some (.int 0)] [] (81, pt_G, I, L)) (fun v S => F 1231 5 [some (.ref 49)] (v.toList ++ []) S) := pm_blk_to hF (pm_stp 1231 [0, 5, 13, 24]) 21 rfl
set_option maxRecDepth 20000 in
theorem e1231_5 (hF : pm_fix pt_me pt_Sg (pt_R L0 xs) F) : F 1231 5 [some (.ref 49)] [] (81, pt_G, I, L) =
    pm_k (F 1221 0 [some (.ref 49), some (.int 1), some (.int 99), none] [] (81, pt_G, I, L)) (fun v S => F 1231 13 [some (.ref 49)] (v.toList ++ [.ref 49]) S) := pm_blk_to hF (pm_stp 1231 [0, 5, 13, 24]) 21 rfl
set_option maxRecDepth 20000 in
theorem e1231_13 (hF : pm_fix pt_me pt_Sg (pt_R L0 xs) F) {s0 : Int32} : F 1231 13 [some (.ref 49)] [.int s0, .ref 49] (81, pt_G, I, L) =
    pm_k (F 1221 0 [some (.ref 49), some (.int 1), some (.int 99), none] [] (81, pt_G, (pm_ui I 49 15 s0), L)) (fun v S => F 1231 24 [some (.ref 49)] (v.toList ++ [.ref 49]) S) := pm_blk_to hF (pm_stp 1231 [0, 5, 13, 24]) 21 rfl
set_option maxRecDepth 20000 in
theorem e1231_24 (hF : pm_fix pt_me pt_Sg (pt_R L0 xs) F) {s0 : Int32} : F 1231 24 [some (.ref 49)] [.int s0, .ref 49] (81, pt_G, I, L) =
    some (none, (81, pt_G, (pm_ui I 49 16 s0), L)) := pm_blk_to hF (pm_stp 1231 [0, 5, 13, 24]) 21 rfl
-- TurnCabinetModel.needLine()V 49
set_option maxRecDepth 20000 in
theorem e1232_0 (hF : pm_fix pt_me pt_Sg (pt_R L0 xs) F) : F 1232 0 [some (.ref 49)] [] (81, pt_G, I, L) =
    pm_k (F 1226 0 [some (.ref 49), some (.int 1)] [] (81, pt_G, I, L)) (fun v S => F 1232 5 [some (.ref 49)] (v.toList ++ []) S) := pm_blk_to hF (pm_stp 1232 [0, 5, 14]) 15 rfl
set_option maxRecDepth 20000 in
theorem e1232_5 (hF : pm_fix pt_me pt_Sg (pt_R L0 xs) F) : F 1232 5 [some (.ref 49)] [] (81, pt_G, I, L) =
    pm_k (F 1221 0 [some (.ref 49), some (.int 1), some (.int 999), none] [] (81, pt_G, I, L)) (fun v S => F 1232 14 [some (.ref 49)] (v.toList ++ [.ref 49]) S) := pm_blk_to hF (pm_stp 1232 [0, 5, 14]) 15 rfl
set_option maxRecDepth 20000 in
theorem e1232_14 (hF : pm_fix pt_me pt_Sg (pt_R L0 xs) F) {s0 : Int32} : F 1232 14 [some (.ref 49)] [.int s0, .ref 49] (81, pt_G, I, L) =
    some (none, (81, pt_G, (pm_ui I 49 17 s0), L)) := pm_blk_to hF (pm_stp 1232 [0, 5, 14]) 15 rfl
-- TurnCabinetModel.careLine()V 49
set_option maxRecDepth 20000 in
theorem e1233_0 (hF : pm_fix pt_me pt_Sg (pt_R L0 xs) F) : F 1233 0 [some (.ref 49)] [] (81, pt_G, I, L) =
    pm_k (F 1226 0 [some (.ref 49), some (.int 2)] [] (81, pt_G, I, L)) (fun v S => F 1233 5 [some (.ref 49)] (v.toList ++ []) S) := pm_blk_to hF (pm_stp 1233 [0, 5, 13]) 15 rfl
set_option maxRecDepth 20000 in
theorem e1233_5 (hF : pm_fix pt_me pt_Sg (pt_R L0 xs) F) : F 1233 5 [some (.ref 49)] [] (81, pt_G, I, L) =
    pm_k (F 1221 0 [some (.ref 49), some (.int 0), some (.int 9), none] [] (81, pt_G, I, L)) (fun v S => F 1233 13 [some (.ref 49)] (v.toList ++ [.ref 49]) S) := pm_blk_to hF (pm_stp 1233 [0, 5, 13]) 15 rfl
set_option maxRecDepth 20000 in
theorem e1233_13 (hF : pm_fix pt_me pt_Sg (pt_R L0 xs) F) {s0 : Int32} : F 1233 13 [some (.ref 49)] [.int s0, .ref 49] (81, pt_G, I, L) =
    some (none, (81, pt_G, (pm_ui I 49 18 s0), L)) := pm_blk_to hF (pm_stp 1233 [0, 5, 13]) 15 rfl
-- TurnCabinetModel.triesLine()V 49
set_option maxRecDepth 20000 in
theorem e1234_0 (hF : pm_fix pt_me pt_Sg (pt_R L0 xs) F) : F 1234 0 [some (.ref 49)] [] (81, pt_G, I, L) =
    pm_k (F 1226 0 [some (.ref 49), some (.int 3)] [] (81, pt_G, I, L)) (fun v S => F 1234 5 [some (.ref 49)] (v.toList ++ []) S) := pm_blk_to hF (pm_stp 1234 [0, 5, 13]) 15 rfl
set_option maxRecDepth 20000 in
theorem e1234_5 (hF : pm_fix pt_me pt_Sg (pt_R L0 xs) F) : F 1234 5 [some (.ref 49)] [] (81, pt_G, I, L) =
    pm_k (F 1221 0 [some (.ref 49), some (.int 1), some (.int 9), none] [] (81, pt_G, I, L)) (fun v S => F 1234 13 [some (.ref 49)] (v.toList ++ [.ref 49]) S) := pm_blk_to hF (pm_stp 1234 [0, 5, 13]) 15 rfl
set_option maxRecDepth 20000 in
theorem e1234_13 (hF : pm_fix pt_me pt_Sg (pt_R L0 xs) F) {s0 : Int32} : F 1234 13 [some (.ref 49)] [.int s0, .ref 49] (81, pt_G, I, L) =
    some (none, (81, pt_G, (pm_ui I 49 19 s0), L)) := pm_blk_to hF (pm_stp 1234 [0, 5, 13]) 15 rfl
-- TurnCabinetModel.tireLine()V 49
set_option maxRecDepth 20000 in
theorem e1235_0 (hF : pm_fix pt_me pt_Sg (pt_R L0 xs) F) : F 1235 0 [some (.ref 49)] [] (81, pt_G, I, L) =
    pm_k (F 1226 0 [some (.ref 49), some (.int 4)] [] (81, pt_G, I, L)) (fun v S => F 1235 5 [some (.ref 49)] (v.toList ++ []) S) := pm_blk_to hF (pm_stp 1235 [0, 5, 13]) 15 rfl
set_option maxRecDepth 20000 in
theorem e1235_5 (hF : pm_fix pt_me pt_Sg (pt_R L0 xs) F) : F 1235 5 [some (.ref 49)] [] (81, pt_G, I, L) =
    pm_k (F 1221 0 [some (.ref 49), some (.int 0), some (.int 99), none] [] (81, pt_G, I, L)) (fun v S => F 1235 13 [some (.ref 49)] (v.toList ++ [.ref 49]) S) := pm_blk_to hF (pm_stp 1235 [0, 5, 13]) 15 rfl
set_option maxRecDepth 20000 in
theorem e1235_13 (hF : pm_fix pt_me pt_Sg (pt_R L0 xs) F) {s0 : Int32} : F 1235 13 [some (.ref 49)] [.int s0, .ref 49] (81, pt_G, I, L) =
    some (none, (81, pt_G, (pm_ui I 49 20 s0), L)) := pm_blk_to hF (pm_stp 1235 [0, 5, 13]) 15 rfl
-- TurnCabinetModel.line()V 49
set_option maxRecDepth 20000 in
theorem e1236_0 (hF : pm_fix pt_me pt_Sg (pt_R L0 xs) F) : F 1236 0 [some (.ref 49)] [] (81, pt_G, I, L) =
    pm_k (F 1216 0 [some (.ref 49), some (.long 7235444471627739763), none] [] (81, pt_G, I, L)) (fun v S => F 1236 7 [some (.ref 49)] (v.toList ++ []) S) := pm_blk_to hF (pm_stp 1236 [0, 7, 14, 24, 31, 41, 48, 58, 65, 75, 82, 92, 99, 109, 116, 126, 139, 149, 162, 172, 179, 187, 192]) 88 rfl
set_option maxRecDepth 20000 in
theorem e1236_7 (hF : pm_fix pt_me pt_Sg (pt_R L0 xs) F) {s0 : Int32} : F 1236 7 [some (.ref 49)] [.int s0] (81, pt_G, I, L) =
    if s0 = 0 then
      pm_k (F 1216 0 [some (.ref 49), some (.long 1852138852), none] [] (81, pt_G, I, L)) (fun v S => F 1236 24 [some (.ref 49)] (v.toList ++ []) S)
    else
      pm_k (F 1231 0 [some (.ref 49)] [] (81, pt_G, I, L)) (fun v S => F 1236 14 [some (.ref 49)] (v.toList ++ []) S) := pm_blk_to hF (pm_stp 1236 [0, 7, 14, 24, 31, 41, 48, 58, 65, 75, 82, 92, 99, 109, 116, 126, 139, 149, 162, 172, 179, 187, 192]) 88 rfl
set_option maxRecDepth 20000 in
theorem e1236_14 (hF : pm_fix pt_me pt_Sg (pt_R L0 xs) F) : F 1236 14 [some (.ref 49)] [] (81, pt_G, I, L) =
    F 1236 187 [some (.ref 49)] [] (81, pt_G, I, L) := pm_blk_to hF (pm_stp 1236 [0, 7, 14, 24, 31, 41, 48, 58, 65, 75, 82, 92, 99, 109, 116, 126, 139, 149, 162, 172, 179, 187, 192]) 88 rfl
set_option maxRecDepth 20000 in
theorem e1236_24 (hF : pm_fix pt_me pt_Sg (pt_R L0 xs) F) {s0 : Int32} : F 1236 24 [some (.ref 49)] [.int s0] (81, pt_G, I, L) =
    if s0 = 0 then
      pm_k (F 1216 0 [some (.ref 49), some (.long 1667330661), none] [] (81, pt_G, I, L)) (fun v S => F 1236 41 [some (.ref 49)] (v.toList ++ []) S)
    else
      pm_k (F 1232 0 [some (.ref 49)] [] (81, pt_G, I, L)) (fun v S => F 1236 31 [some (.ref 49)] (v.toList ++ []) S) := pm_blk_to hF (pm_stp 1236 [0, 7, 14, 24, 31, 41, 48, 58, 65, 75, 82, 92, 99, 109, 116, 126, 139, 149, 162, 172, 179, 187, 192]) 88 rfl
set_option maxRecDepth 20000 in
theorem e1236_31 (hF : pm_fix pt_me pt_Sg (pt_R L0 xs) F) : F 1236 31 [some (.ref 49)] [] (81, pt_G, I, L) =
    F 1236 187 [some (.ref 49)] [] (81, pt_G, I, L) := pm_blk_to hF (pm_stp 1236 [0, 7, 14, 24, 31, 41, 48, 58, 65, 75, 82, 92, 99, 109, 116, 126, 139, 149, 162, 172, 179, 187, 192]) 88 rfl
set_option maxRecDepth 20000 in
theorem e1236_41 (hF : pm_fix pt_me pt_Sg (pt_R L0 xs) F) {s0 : Int32} : F 1236 41 [some (.ref 49)] [.int s0] (81, pt_G, I, L) =
    if s0 = 0 then
      pm_k (F 1216 0 [some (.ref 49), some (.long 500135716211), none] [] (81, pt_G, I, L)) (fun v S => F 1236 58 [some (.ref 49)] (v.toList ++ []) S)
    else
      pm_k (F 1233 0 [some (.ref 49)] [] (81, pt_G, I, L)) (fun v S => F 1236 48 [some (.ref 49)] (v.toList ++ []) S) := pm_blk_to hF (pm_stp 1236 [0, 7, 14, 24, 31, 41, 48, 58, 65, 75, 82, 92, 99, 109, 116, 126, 139, 149, 162, 172, 179, 187, 192]) 88 rfl
set_option maxRecDepth 20000 in
theorem e1236_48 (hF : pm_fix pt_me pt_Sg (pt_R L0 xs) F) : F 1236 48 [some (.ref 49)] [] (81, pt_G, I, L) =
    F 1236 187 [some (.ref 49)] [] (81, pt_G, I, L) := pm_blk_to hF (pm_stp 1236 [0, 7, 14, 24, 31, 41, 48, 58, 65, 75, 82, 92, 99, 109, 116, 126, 139, 149, 162, 172, 179, 187, 192]) 88 rfl
set_option maxRecDepth 20000 in
theorem e1236_58 (hF : pm_fix pt_me pt_Sg (pt_R L0 xs) F) {s0 : Int32} : F 1236 58 [some (.ref 49)] [.int s0] (81, pt_G, I, L) =
    if s0 = 0 then
      pm_k (F 1216 0 [some (.ref 49), some (.long 1953067621), none] [] (81, pt_G, I, L)) (fun v S => F 1236 75 [some (.ref 49)] (v.toList ++ []) S)
    else
      pm_k (F 1234 0 [some (.ref 49)] [] (81, pt_G, I, L)) (fun v S => F 1236 65 [some (.ref 49)] (v.toList ++ []) S) := pm_blk_to hF (pm_stp 1236 [0, 7, 14, 24, 31, 41, 48, 58, 65, 75, 82, 92, 99, 109, 116, 126, 139, 149, 162, 172, 179, 187, 192]) 88 rfl
set_option maxRecDepth 20000 in
theorem e1236_65 (hF : pm_fix pt_me pt_Sg (pt_R L0 xs) F) : F 1236 65 [some (.ref 49)] [] (81, pt_G, I, L) =
    F 1236 187 [some (.ref 49)] [] (81, pt_G, I, L) := pm_blk_to hF (pm_stp 1236 [0, 7, 14, 24, 31, 41, 48, 58, 65, 75, 82, 92, 99, 109, 116, 126, 139, 149, 162, 172, 179, 187, 192]) 88 rfl
set_option maxRecDepth 20000 in
theorem e1236_75 (hF : pm_fix pt_me pt_Sg (pt_R L0 xs) F) {s0 : Int32} : F 1236 75 [some (.ref 49)] [.int s0] (81, pt_G, I, L) =
    if s0 = 0 then
      pm_k (F 1216 0 [some (.ref 49), some (.long 122485595530085), none] [] (81, pt_G, I, L)) (fun v S => F 1236 92 [some (.ref 49)] (v.toList ++ []) S)
    else
      pm_k (F 1235 0 [some (.ref 49)] [] (81, pt_G, I, L)) (fun v S => F 1236 82 [some (.ref 49)] (v.toList ++ []) S) := pm_blk_to hF (pm_stp 1236 [0, 7, 14, 24, 31, 41, 48, 58, 65, 75, 82, 92, 99, 109, 116, 126, 139, 149, 162, 172, 179, 187, 192]) 88 rfl
set_option maxRecDepth 20000 in
theorem e1236_82 (hF : pm_fix pt_me pt_Sg (pt_R L0 xs) F) : F 1236 82 [some (.ref 49)] [] (81, pt_G, I, L) =
    F 1236 187 [some (.ref 49)] [] (81, pt_G, I, L) := pm_blk_to hF (pm_stp 1236 [0, 7, 14, 24, 31, 41, 48, 58, 65, 75, 82, 92, 99, 109, 116, 126, 139, 149, 162, 172, 179, 187, 192]) 88 rfl
set_option maxRecDepth 20000 in
theorem e1236_92 (hF : pm_fix pt_me pt_Sg (pt_R L0 xs) F) {s0 : Int32} : F 1236 92 [some (.ref 49)] [.int s0] (81, pt_G, I, L) =
    if s0 = 0 then
      pm_k (F 1216 0 [some (.ref 49), some (.long 482671228025), none] [] (81, pt_G, I, L)) (fun v S => F 1236 109 [some (.ref 49)] (v.toList ++ []) S)
    else
      pm_k (F 1227 0 [some (.ref 49)] [] (81, pt_G, I, L)) (fun v S => F 1236 99 [some (.ref 49)] (v.toList ++ []) S) := pm_blk_to hF (pm_stp 1236 [0, 7, 14, 24, 31, 41, 48, 58, 65, 75, 82, 92, 99, 109, 116, 126, 139, 149, 162, 172, 179, 187, 192]) 88 rfl
set_option maxRecDepth 20000 in
theorem e1236_99 (hF : pm_fix pt_me pt_Sg (pt_R L0 xs) F) : F 1236 99 [some (.ref 49)] [] (81, pt_G, I, L) =
    F 1236 187 [some (.ref 49)] [] (81, pt_G, I, L) := pm_blk_to hF (pm_stp 1236 [0, 7, 14, 24, 31, 41, 48, 58, 65, 75, 82, 92, 99, 109, 116, 126, 139, 149, 162, 172, 179, 187, 192]) 88 rfl
set_option maxRecDepth 20000 in
theorem e1236_109 (hF : pm_fix pt_me pt_Sg (pt_R L0 xs) F) {s0 : Int32} : F 1236 109 [some (.ref 49)] [.int s0] (81, pt_G, I, L) =
    if s0 = 0 then
      pm_k (F 1216 0 [some (.ref 49), some (.long 512970880104), none] [] (81, pt_G, I, L)) (fun v S => F 1236 126 [some (.ref 49)] (v.toList ++ []) S)
    else
      pm_k (F 1228 0 [some (.ref 49)] [] (81, pt_G, I, L)) (fun v S => F 1236 116 [some (.ref 49)] (v.toList ++ []) S) := pm_blk_to hF (pm_stp 1236 [0, 7, 14, 24, 31, 41, 48, 58, 65, 75, 82, 92, 99, 109, 116, 126, 139, 149, 162, 172, 179, 187, 192]) 88 rfl
set_option maxRecDepth 20000 in
theorem e1236_116 (hF : pm_fix pt_me pt_Sg (pt_R L0 xs) F) : F 1236 116 [some (.ref 49)] [] (81, pt_G, I, L) =
    F 1236 187 [some (.ref 49)] [] (81, pt_G, I, L) := pm_blk_to hF (pm_stp 1236 [0, 7, 14, 24, 31, 41, 48, 58, 65, 75, 82, 92, 99, 109, 116, 126, 139, 149, 162, 172, 179, 187, 192]) 88 rfl
set_option maxRecDepth 20000 in
theorem e1236_126 (hF : pm_fix pt_me pt_Sg (pt_R L0 xs) F) {s0 : Int32} : F 1236 126 [some (.ref 49)] [.int s0] (81, pt_G, I, L) =
    if s0 = 0 then
      pm_k (F 1216 0 [some (.ref 49), some (.long 126943688024933), none] [] (81, pt_G, I, L)) (fun v S => F 1236 149 [some (.ref 49)] (v.toList ++ []) S)
    else
      pm_k (F 1229 0 [some (.ref 49), some (.ref 57), some (.int 99), none, none, none] [] (81, pt_G, I, L)) (fun v S => F 1236 139 [some (.ref 49)] (v.toList ++ []) S) := pm_blk_to hF (pm_stp 1236 [0, 7, 14, 24, 31, 41, 48, 58, 65, 75, 82, 92, 99, 109, 116, 126, 139, 149, 162, 172, 179, 187, 192]) 88 rfl
set_option maxRecDepth 20000 in
theorem e1236_139 (hF : pm_fix pt_me pt_Sg (pt_R L0 xs) F) : F 1236 139 [some (.ref 49)] [] (81, pt_G, I, L) =
    F 1236 187 [some (.ref 49)] [] (81, pt_G, I, L) := pm_blk_to hF (pm_stp 1236 [0, 7, 14, 24, 31, 41, 48, 58, 65, 75, 82, 92, 99, 109, 116, 126, 139, 149, 162, 172, 179, 187, 192]) 88 rfl
set_option maxRecDepth 20000 in
theorem e1236_149 (hF : pm_fix pt_me pt_Sg (pt_R L0 xs) F) {s0 : Int32} : F 1236 149 [some (.ref 49)] [.int s0] (81, pt_G, I, L) =
    if s0 = 0 then
      pm_k (F 1216 0 [some (.ref 49), some (.long 6447474), none] [] (81, pt_G, I, L)) (fun v S => F 1236 172 [some (.ref 49)] (v.toList ++ []) S)
    else
      pm_k (F 1229 0 [some (.ref 49), some (.ref 58), some (.int 9), none, none, none] [] (81, pt_G, I, L)) (fun v S => F 1236 162 [some (.ref 49)] (v.toList ++ []) S) := pm_blk_to hF (pm_stp 1236 [0, 7, 14, 24, 31, 41, 48, 58, 65, 75, 82, 92, 99, 109, 116, 126, 139, 149, 162, 172, 179, 187, 192]) 88 rfl
set_option maxRecDepth 20000 in
theorem e1236_162 (hF : pm_fix pt_me pt_Sg (pt_R L0 xs) F) : F 1236 162 [some (.ref 49)] [] (81, pt_G, I, L) =
    F 1236 187 [some (.ref 49)] [] (81, pt_G, I, L) := pm_blk_to hF (pm_stp 1236 [0, 7, 14, 24, 31, 41, 48, 58, 65, 75, 82, 92, 99, 109, 116, 126, 139, 149, 162, 172, 179, 187, 192]) 88 rfl
set_option maxRecDepth 20000 in
theorem e1236_172 (hF : pm_fix pt_me pt_Sg (pt_R L0 xs) F) {s0 : Int32} : F 1236 172 [some (.ref 49)] [.int s0] (81, pt_G, I, L) =
    if s0 = 0 then
      pm_k (F 1214 0 [some (.ref 49), some (.int 2)] [] (81, pt_G, I, L)) (fun v S => F 1236 187 [some (.ref 49)] (v.toList ++ []) S)
    else
      pm_k (F 1230 0 [some (.ref 49), none, none] [] (81, pt_G, I, L)) (fun v S => F 1236 179 [some (.ref 49)] (v.toList ++ []) S) := pm_blk_to hF (pm_stp 1236 [0, 7, 14, 24, 31, 41, 48, 58, 65, 75, 82, 92, 99, 109, 116, 126, 139, 149, 162, 172, 179, 187, 192]) 88 rfl
set_option maxRecDepth 20000 in
theorem e1236_179 (hF : pm_fix pt_me pt_Sg (pt_R L0 xs) F) : F 1236 179 [some (.ref 49)] [] (81, pt_G, I, L) =
    F 1236 187 [some (.ref 49)] [] (81, pt_G, I, L) := pm_blk_to hF (pm_stp 1236 [0, 7, 14, 24, 31, 41, 48, 58, 65, 75, 82, 92, 99, 109, 116, 126, 139, 149, 162, 172, 179, 187, 192]) 88 rfl
set_option maxRecDepth 20000 in
theorem e1236_187 (hF : pm_fix pt_me pt_Sg (pt_R L0 xs) F) : F 1236 187 [some (.ref 49)] [] (81, pt_G, I, L) =
    pm_k (F 1218 0 [some (.ref 49), some (.int 3)] [] (81, pt_G, I, L)) (fun v S => F 1236 192 [some (.ref 49)] (v.toList ++ []) S) := pm_blk_to hF (pm_stp 1236 [0, 7, 14, 24, 31, 41, 48, 58, 65, 75, 82, 92, 99, 109, 116, 126, 139, 149, 162, 172, 179, 187, 192]) 88 rfl
set_option maxRecDepth 20000 in
theorem e1236_192 (hF : pm_fix pt_me pt_Sg (pt_R L0 xs) F) : F 1236 192 [some (.ref 49)] [] (81, pt_G, I, L) =
    some (none, (81, pt_G, I, L)) := pm_blk_to hF (pm_stp 1236 [0, 7, 14, 24, 31, 41, 48, 58, 65, 75, 82, 92, 99, 109, 116, 126, 139, 149, 162, 172, 179, 187, 192]) 88 rfl
-- TurnCabinetModel.house()I 49
set_option maxRecDepth 20000 in
theorem e1237_0 (hF : pm_fix pt_me pt_Sg (pt_R L0 xs) F) : F 1237 0 [some (.ref 49)] [] (81, pt_G, I, L) =
    pm_k (F 1222 0 [some (.ref 49), none] [] (81, pt_G, I, L)) (fun v S => F 1237 4 [some (.ref 49)] (v.toList ++ []) S) := pm_blk_to hF (pm_stp 1237 [0, 4, 36, 40, 54, 86]) 52 rfl
set_option maxRecDepth 20000 in
theorem e1237_4 (hF : pm_fix pt_me pt_Sg (pt_R L0 xs) F) : F 1237 4 [some (.ref 49)] [] (81, pt_G, I, L) =
    pm_k (F 1213 0 [some (.ref 49), none, none] [] (81, pt_G, (pm_ui (pm_ui (pm_ui (pm_ui (pm_ui I 49 2 (I 49 1)) 49 1 0) 49 3 0) 49 8 0) 49 9 (-1)), L)) (fun v S => F 1237 36 [some (.ref 49)] (v.toList ++ []) S) := pm_blk_to hF (pm_stp 1237 [0, 4, 36, 40, 54, 86]) 52 rfl
set_option maxRecDepth 20000 in
theorem e1237_36 (hF : pm_fix pt_me pt_Sg (pt_R L0 xs) F) : F 1237 36 [some (.ref 49)] [] (81, pt_G, I, L) =
    pm_k (F 1215 0 [some (.ref 49)] [] (81, pt_G, I, L)) (fun v S => F 1237 40 [some (.ref 49)] (v.toList ++ []) S) := pm_blk_to hF (pm_stp 1237 [0, 4, 36, 40, 54, 86]) 52 rfl
set_option maxRecDepth 20000 in
theorem e1237_40 (hF : pm_fix pt_me pt_Sg (pt_R L0 xs) F) {s0 : Int32} : F 1237 40 [some (.ref 49)] [.int s0] (81, pt_G, I, L) =
    if s0 = 0 then
      if (I 49 8) ≤ 0 then
        pm_k (F 1238 0 [some (.ref 49), none] [] (81, pt_G, (pm_ui (pm_ui I 49 10 (I 49 8)) 49 11 (I 49 9)), L)) (fun v S => F 1237 86 [some (.ref 49)] (v.toList ++ []) S)
      else
        some (some (.int (-1)), (81, pt_G, (pm_ui (pm_ui I 49 10 (I 49 8)) 49 11 (I 49 9)), L))
    else
      if (I 49 5) = 0 then
        if (I 49 8) ≤ 0 then
          pm_k (F 1238 0 [some (.ref 49), none] [] (81, pt_G, (pm_ui (pm_ui I 49 10 (I 49 8)) 49 11 (I 49 9)), L)) (fun v S => F 1237 86 [some (.ref 49)] (v.toList ++ []) S)
        else
          some (some (.int (-1)), (81, pt_G, (pm_ui (pm_ui I 49 10 (I 49 8)) 49 11 (I 49 9)), L))
      else
        pm_k (F 1236 0 [some (.ref 49)] [] (81, pt_G, I, L)) (fun v S => F 1237 54 [some (.ref 49)] (v.toList ++ []) S) := pm_blk_to hF (pm_stp 1237 [0, 4, 36, 40, 54, 86]) 52 rfl
set_option maxRecDepth 20000 in
theorem e1237_54 (hF : pm_fix pt_me pt_Sg (pt_R L0 xs) F) : F 1237 54 [some (.ref 49)] [] (81, pt_G, I, L) =
    F 1237 36 [some (.ref 49)] [] (81, pt_G, I, L) := pm_blk_to hF (pm_stp 1237 [0, 4, 36, 40, 54, 86]) 52 rfl
set_option maxRecDepth 20000 in
theorem e1237_86 (hF : pm_fix pt_me pt_Sg (pt_R L0 xs) F) : F 1237 86 [some (.ref 49)] [] (81, pt_G, I, L) =
    some (some (.int (I 49 30)), (81, pt_G, I, L)) := pm_blk_to hF (pm_stp 1237 [0, 4, 36, 40, 54, 86]) 52 rfl
-- TurnCabinetModel.takes()V 49
set_option maxRecDepth 20000 in
theorem e1238_0 (hF : pm_fix pt_me pt_Sg (pt_R L0 xs) F) : F 1238 0 [some (.ref 49), none] [] (81, pt_G, I, L) =
    F 1238 66 [some (.ref 49), some (.int 0)] [] (81, pt_G, (pm_ui (pm_ui (pm_ui (pm_ui (pm_ui (pm_ui (pm_ui (pm_ui I 49 30 (I 49 13)) 49 31 (I 49 14)) 49 32 (I 49 15)) 49 33 (I 49 16)) 49 34 (I 49 17)) 49 35 (I 49 18)) 49 36 (I 49 19)) 49 37 (I 49 20)), L) := pm_blk_to hF (pm_stp 1238 [0, 66, 131, 152, 168, 184]) 131 rfl
set_option maxRecDepth 20000 in
theorem e1238_66 (hF : pm_fix pt_me pt_Sg (pt_R L0 xs) F) {x1 : Int32} : F 1238 66 [some (.ref 49), some (.int x1)] [] (81, pt_G, I, L) =
    if x1 < 7 then
      bif pm_ib x1 7 then
        bif pm_ib x1 7 then
          bif pm_ib x1 7 then
            bif pm_ib x1 7 then
              bif pm_ib x1 7 then
                bif pm_ib x1 7 then
                  bif pm_ib x1 7 then
                    bif pm_ib (9 + x1) 16 then
                      F 1238 66 [some (.ref 49), some (.int (x1 + 1))] [] (81, pt_G, (pm_ui (pm_ui (pm_ui (pm_ui I 59 (Int32.toNatClampNeg x1) (I 54 (Int32.toNatClampNeg x1))) 60 (Int32.toNatClampNeg x1) (I 55 (Int32.toNatClampNeg x1))) 61 (Int32.toNatClampNeg x1) (I 56 (Int32.toNatClampNeg x1))) 64 (Int32.toNatClampNeg (9 + x1)) (I 53 (Int32.toNatClampNeg x1))), L)
                    else none
                  else none
                else none
              else none
            else none
          else none
        else none
      else none
    else
      F 1238 131 [some (.ref 49), some (.int 0)] [] (81, pt_G, I, L) := pm_blk_to hF (pm_stp 1238 [0, 66, 131, 152, 168, 184]) 131 rfl
set_option maxRecDepth 20000 in
theorem e1238_131 (hF : pm_fix pt_me pt_Sg (pt_R L0 xs) F) {x1 : Int32} : F 1238 131 [some (.ref 49), some (.int x1)] [] (81, pt_G, I, L) =
    if x1 < 56 then
      bif pm_ib x1 56 then
        pm_k (F 1204 0 [some (.int 0), some (.int (I 57 (Int32.toNatClampNeg x1)))] [] (81, pt_G, I, L)) (fun v S => F 1238 152 [some (.ref 49), some (.int x1)] (v.toList ++ [.int x1, .ref 62]) S)
      else none
    else
      bif pm_ib 0 16 then
        F 1238 184 [some (.ref 49), some (.int 0)] [] (81, pt_G, (pm_ui I 64 (Int32.toNatClampNeg 0) 0), L)
      else none := pm_blk_to hF (pm_stp 1238 [0, 66, 131, 152, 168, 184]) 131 rfl
set_option maxRecDepth 20000 in
theorem e1238_152 (hF : pm_fix pt_me pt_Sg (pt_R L0 xs) F) {x1 : Int32} {s0 : Int32} {s1 : Int32} : F 1238 152 [some (.ref 49), some (.int x1)] [.int s0, .int s1, .ref 62] (81, pt_G, I, L) =
    bif pm_ib s1 56 then
      bif pm_ib x1 56 then
        pm_k (F 1204 0 [some (.int 0), some (.int (I 58 (Int32.toNatClampNeg x1)))] [] (81, pt_G, (pm_ui I 62 (Int32.toNatClampNeg s1) s0), L)) (fun v S => F 1238 168 [some (.ref 49), some (.int x1)] (v.toList ++ [.int x1, .ref 63]) S)
      else none
    else none := pm_blk_to hF (pm_stp 1238 [0, 66, 131, 152, 168, 184]) 131 rfl
set_option maxRecDepth 20000 in
theorem e1238_168 (hF : pm_fix pt_me pt_Sg (pt_R L0 xs) F) {x1 : Int32} {s0 : Int32} {s1 : Int32} : F 1238 168 [some (.ref 49), some (.int x1)] [.int s0, .int s1, .ref 63] (81, pt_G, I, L) =
    bif pm_ib s1 56 then
      F 1238 131 [some (.ref 49), some (.int (x1 + 1))] [] (81, pt_G, (pm_ui I 63 (Int32.toNatClampNeg s1) s0), L)
    else none := pm_blk_to hF (pm_stp 1238 [0, 66, 131, 152, 168, 184]) 131 rfl
set_option maxRecDepth 20000 in
theorem e1238_184 (hF : pm_fix pt_me pt_Sg (pt_R L0 xs) F) {x1 : Int32} : F 1238 184 [some (.ref 49), some (.int x1)] [] (81, pt_G, I, L) =
    if x1 < 8 then
      bif pm_ib (1 + x1) 16 then
        F 1238 184 [some (.ref 49), some (.int (x1 + 1))] [] (81, pt_G, (pm_ui I 64 (Int32.toNatClampNeg (1 + x1)) (-1)), L)
      else none
    else
      some (none, (81, pt_G, (pm_ui (pm_ui I 49 45 0) 49 57 0), L)) := pm_blk_to hF (pm_stp 1238 [0, 66, 131, 152, 168, 184]) 131 rfl
-- TurnCabinetModel.fault(I)I 49
set_option maxRecDepth 20000 in
theorem e1239_0 (hF : pm_fix pt_me pt_Sg (pt_R L0 xs) F) {x1 : Int32} : F 1239 0 [some (.ref 49), some (.int x1)] [] (81, pt_G, I, L) =
    if x1 = 0 then
      some (some (.int (I 49 10)), (81, pt_G, I, L))
    else
      if x1 = 1 then
        some (some (.int (I 49 11)), (81, pt_G, I, L))
      else
        some (some (.int (-1)), (81, pt_G, I, L)) := pm_blk_to hF (pm_stp 1239 [0]) 18 rfl
-- TurnCabinetModel.act()V 49
set_option maxRecDepth 20000 in
theorem e1240_0 (hF : pm_fix pt_me pt_Sg (pt_R L0 xs) F) : F 1240 0 [some (.ref 49), none] [] (81, pt_G, I, L) =
    if (I 49 45) = 12 then
      F 1240 12 [some (.ref 49), some (.int 16)] [] (81, pt_G, I, L)
    else
      F 1240 52 [some (.ref 49), some (.int 0)] [] (81, pt_G, I, L) := pm_blk_to hF (pm_stp 1240 [0, 12, 52]) 59 rfl
set_option maxRecDepth 20000 in
theorem e1240_12 (hF : pm_fix pt_me pt_Sg (pt_R L0 xs) F) {x1 : Int32} : F 1240 12 [some (.ref 49), some (.int x1)] [] (81, pt_G, I, L) =
    if x1 < 192 then
      bif pm_ib x1 192 then
        bif pm_ib (x1 - 16) 192 then
          F 1240 12 [some (.ref 49), some (.int (x1 + 1))] [] (81, pt_G, (pm_ui I 65 (Int32.toNatClampNeg (x1 - 16)) (I 65 (Int32.toNatClampNeg x1))), L)
        else none
      else none
    else
      F 1240 52 [some (.ref 49), some (.int 0)] [] (81, pt_G, (pm_ui I 49 45 ((I 49 45) - 1)), L) := pm_blk_to hF (pm_stp 1240 [0, 12, 52]) 59 rfl
set_option maxRecDepth 20000 in
theorem e1240_52 (hF : pm_fix pt_me pt_Sg (pt_R L0 xs) F) {x1 : Int32} : F 1240 52 [some (.ref 49), some (.int x1)] [] (81, pt_G, I, L) =
    if x1 < 16 then
      bif pm_ib x1 16 then
        bif pm_ib ((16 * (I 49 45)) + x1) 192 then
          F 1240 52 [some (.ref 49), some (.int (x1 + 1))] [] (81, pt_G, (pm_ui I 65 (Int32.toNatClampNeg ((16 * (I 49 45)) + x1)) (I 64 (Int32.toNatClampNeg x1))), L)
        else none
      else none
    else
      some (none, (81, pt_G, (pm_ui I 49 45 ((I 49 45) + 1)), L)) := pm_blk_to hF (pm_stp 1240 [0, 12, 52]) 59 rfl
-- TurnCabinetModel.undo()I 49
set_option maxRecDepth 20000 in
theorem e1241_0 (hF : pm_fix pt_me pt_Sg (pt_R L0 xs) F) : F 1241 0 [some (.ref 49), none] [] (81, pt_G, I, L) =
    if (I 49 45) = 0 then
      some (some (.int (-1)), (81, pt_G, I, L))
    else
      F 1241 21 [some (.ref 49), some (.int 0)] [] (81, pt_G, (pm_ui I 49 45 ((I 49 45) - 1)), L) := pm_blk_to hF (pm_stp 1241 [0, 21]) 42 rfl
set_option maxRecDepth 20000 in
theorem e1241_21 (hF : pm_fix pt_me pt_Sg (pt_R L0 xs) F) {x1 : Int32} : F 1241 21 [some (.ref 49), some (.int x1)] [] (81, pt_G, I, L) =
    if x1 < 16 then
      bif pm_ib ((16 * (I 49 45)) + x1) 192 then
        bif pm_ib x1 16 then
          F 1241 21 [some (.ref 49), some (.int (x1 + 1))] [] (81, pt_G, (pm_ui I 64 (Int32.toNatClampNeg x1) (I 65 (Int32.toNatClampNeg ((16 * (I 49 45)) + x1)))), L)
        else none
      else none
    else
      some (some (.int (I 49 45)), (81, pt_G, (pm_ui I 49 57 0), L)) := pm_blk_to hF (pm_stp 1241 [0, 21]) 42 rfl
-- TurnCabinetModel.seatsOf(I)I 49
set_option maxRecDepth 20000 in
theorem e1242_0 (hF : pm_fix pt_me pt_Sg (pt_R L0 xs) F) {x1 : Int32} : F 1242 0 [some (.ref 49), some (.int x1)] [] (81, pt_G, I, L) =
    bif pm_ib (9 + x1) 16 then
      some (some (.int (I 64 (Int32.toNatClampNeg (9 + x1)))), (81, pt_G, I, L))
    else none := pm_blk_to hF (pm_stp 1242 [0]) 12 rfl
-- TurnCabinetModel.seatsIn(I)I 49
set_option maxRecDepth 20000 in
theorem e1243_0 (hF : pm_fix pt_me pt_Sg (pt_R L0 xs) F) {x1 : Int32} : F 1243 0 [some (.ref 49), some (.int x1), none, none] [] (81, pt_G, I, L) =
    F 1243 4 [some (.ref 49), some (.int x1), some (.int 0), some (.int 0)] [] (81, pt_G, I, L) := pm_blk_to hF (pm_stp 1243 [0, 4, 18, 26]) 29 rfl
set_option maxRecDepth 20000 in
theorem e1243_4 (hF : pm_fix pt_me pt_Sg (pt_R L0 xs) F) {x1 : Int32} {x2 : Int32} {x3 : Int32} : F 1243 4 [some (.ref 49), some (.int x1), some (.int x2), some (.int x3)] [] (81, pt_G, I, L) =
    if x3 < (I 49 30) then
      pm_k (F 1205 0 [some (.int x1), some (.int x3)] [] (81, pt_G, I, L)) (fun v S => F 1243 18 [some (.ref 49), some (.int x1), some (.int x2), some (.int x3)] (v.toList ++ [.int x2]) S)
    else
      some (some (.int x2), (81, pt_G, I, L)) := pm_blk_to hF (pm_stp 1243 [0, 4, 18, 26]) 29 rfl
set_option maxRecDepth 20000 in
theorem e1243_18 (hF : pm_fix pt_me pt_Sg (pt_R L0 xs) F) {x1 : Int32} {x2 : Int32} {x3 : Int32} {s0 : Int32} {s1 : Int32} : F 1243 18 [some (.ref 49), some (.int x1), some (.int x2), some (.int x3)] [.int s0, .int s1] (81, pt_G, I, L) =
    if s0 = 0 then
      F 1243 4 [some (.ref 49), some (.int x1), some (.int (s1 + 0)), some (.int (x3 + 1))] [] (81, pt_G, I, L)
    else
      pm_k (F 1242 0 [some (.ref 49), some (.int x3)] [] (81, pt_G, I, L)) (fun v S => F 1243 26 [some (.ref 49), some (.int x1), some (.int x2), some (.int x3)] (v.toList ++ [.int s1]) S) := pm_blk_to hF (pm_stp 1243 [0, 4, 18, 26]) 29 rfl
set_option maxRecDepth 20000 in
theorem e1243_26 (hF : pm_fix pt_me pt_Sg (pt_R L0 xs) F) {x1 : Int32} {x2 : Int32} {x3 : Int32} {s0 : Int32} {s1 : Int32} : F 1243 26 [some (.ref 49), some (.int x1), some (.int x2), some (.int x3)] [.int s0, .int s1] (81, pt_G, I, L) =
    F 1243 4 [some (.ref 49), some (.int x1), some (.int (s1 + s0)), some (.int (x3 + 1))] [] (81, pt_G, I, L) := pm_blk_to hF (pm_stp 1243 [0, 4, 18, 26]) 29 rfl
-- TurnCabinetModel.everyone()I 49
set_option maxRecDepth 20000 in
theorem e1244_0 (hF : pm_fix pt_me pt_Sg (pt_R L0 xs) F) : F 1244 0 [some (.ref 49)] [] (81, pt_G, I, L) =
    some (some (.int (((1 : Int32) <<< ((I 49 30) &&& 31)) - 1)), (81, pt_G, I, L)) := pm_blk_to hF (pm_stp 1244 [0]) 12 rfl
-- TurnCabinetModel.need()I 49
set_option maxRecDepth 20000 in
theorem e1245_0 (hF : pm_fix pt_me pt_Sg (pt_R L0 xs) F) : F 1245 0 [some (.ref 49)] [] (81, pt_G, I, L) =
    if (I 49 34) = (-1) then
      pm_k (F 1244 0 [some (.ref 49)] [] (81, pt_G, I, L)) (fun v S => F 1245 20 [some (.ref 49)] (v.toList ++ [.ref 49]) S)
    else
      some (some (.int (I 49 34)), (81, pt_G, I, L)) := pm_blk_to hF (pm_stp 1245 [0, 20, 23]) 21 rfl
set_option maxRecDepth 20000 in
theorem e1245_20 (hF : pm_fix pt_me pt_Sg (pt_R L0 xs) F) {s0 : Int32} : F 1245 20 [some (.ref 49)] [.int s0, .ref 49] (81, pt_G, I, L) =
    pm_k (F 1243 0 [some (.ref 49), some (.int s0), none, none] [] (81, pt_G, I, L)) (fun v S => F 1245 23 [some (.ref 49)] (v.toList ++ []) S) := pm_blk_to hF (pm_stp 1245 [0, 20, 23]) 21 rfl
set_option maxRecDepth 20000 in
theorem e1245_23 (hF : pm_fix pt_me pt_Sg (pt_R L0 xs) F) {s0 : Int32} : F 1245 23 [some (.ref 49)] [.int s0] (81, pt_G, I, L) =
    bif !(decide (2 = 0)) then
      some (some (.int ((s0 / 2) + 1)), (81, pt_G, I, L))
    else none := pm_blk_to hF (pm_stp 1245 [0, 20, 23]) 21 rfl
-- TurnCabinetModel.isParty(I)Z 49
set_option maxRecDepth 20000 in
theorem e1246_0 (hF : pm_fix pt_me pt_Sg (pt_R L0 xs) F) {x1 : Int32} : F 1246 0 [some (.ref 49), some (.int x1)] [] (81, pt_G, I, L) =
    pm_k (F 1202 0 [some (.long (Int32.toInt64 x1)), none, some (.long 0), none, some (.long (Int32.toInt64 ((I 49 30) - 1))), none] [] (81, pt_G, I, L)) (fun v S => F 1246 13 [some (.ref 49), some (.int x1)] (v.toList ++ []) S) := pm_blk_to hF (pm_stp 1246 [0, 13]) 15 rfl
set_option maxRecDepth 20000 in
theorem e1246_13 (hF : pm_fix pt_me pt_Sg (pt_R L0 xs) F) {x1 : Int32} {s0 : Int32} : F 1246 13 [some (.ref 49), some (.int x1)] [.int s0] (81, pt_G, I, L) =
    bif decide (s0 &&& 1 = s0) then some (some (.int s0), (81, pt_G, I, L)) else none := pm_blk_to hF (pm_stp 1246 [0, 13]) 15 rfl
-- TurnCabinetModel.isOffice(I)Z 49
set_option maxRecDepth 20000 in
theorem e1247_0 (hF : pm_fix pt_me pt_Sg (pt_R L0 xs) F) {x1 : Int32} : F 1247 0 [some (.ref 49), some (.int x1)] [] (81, pt_G, I, L) =
    pm_k (F 1202 0 [some (.long (Int32.toInt64 x1)), none, some (.long 0), none, some (.long (Int32.toInt64 ((I 49 31) - 1))), none] [] (81, pt_G, I, L)) (fun v S => F 1247 13 [some (.ref 49), some (.int x1)] (v.toList ++ []) S) := pm_blk_to hF (pm_stp 1247 [0, 13]) 15 rfl
set_option maxRecDepth 20000 in
theorem e1247_13 (hF : pm_fix pt_me pt_Sg (pt_R L0 xs) F) {x1 : Int32} {s0 : Int32} : F 1247 13 [some (.ref 49), some (.int x1)] [.int s0] (81, pt_G, I, L) =
    bif decide (s0 &&& 1 = s0) then some (some (.int s0), (81, pt_G, I, L)) else none := pm_blk_to hF (pm_stp 1247 [0, 13]) 15 rfl
-- TurnCabinetModel.isCoalition(I)Z 49
set_option maxRecDepth 20000 in
theorem e1248_0 (hF : pm_fix pt_me pt_Sg (pt_R L0 xs) F) {x1 : Int32} : F 1248 0 [some (.ref 49), some (.int x1)] [] (81, pt_G, I, L) =
    pm_k (F 1244 0 [some (.ref 49)] [] (81, pt_G, I, L)) (fun v S => F 1248 7 [some (.ref 49), some (.int x1)] (v.toList ++ [.long 1, .long (Int32.toInt64 x1)]) S) := pm_blk_to hF (pm_stp 1248 [0, 7, 11]) 13 rfl
set_option maxRecDepth 20000 in
theorem e1248_7 (hF : pm_fix pt_me pt_Sg (pt_R L0 xs) F) {x1 : Int32} {s0 : Int32} {s1 : Int64} {s2 : Int64} : F 1248 7 [some (.ref 49), some (.int x1)] [.int s0, .long s1, .long s2] (81, pt_G, I, L) =
    pm_k (F 1202 0 [some (.long s2), none, some (.long s1), none, some (.long (Int32.toInt64 s0)), none] [] (81, pt_G, I, L)) (fun v S => F 1248 11 [some (.ref 49), some (.int x1)] (v.toList ++ []) S) := pm_blk_to hF (pm_stp 1248 [0, 7, 11]) 13 rfl
set_option maxRecDepth 20000 in
theorem e1248_11 (hF : pm_fix pt_me pt_Sg (pt_R L0 xs) F) {x1 : Int32} {s0 : Int32} : F 1248 11 [some (.ref 49), some (.int x1)] [.int s0] (81, pt_G, I, L) =
    bif decide (s0 &&& 1 = s0) then some (some (.int s0), (81, pt_G, I, L)) else none := pm_blk_to hF (pm_stp 1248 [0, 7, 11]) 13 rfl
-- TurnCabinetModel.worthOf(II)I 49
set_option maxRecDepth 20000 in
theorem e1249_0 (hF : pm_fix pt_me pt_Sg (pt_R L0 xs) F) {x1 : Int32} {x2 : Int32} : F 1249 0 [some (.ref 49), some (.int x1), some (.int x2)] [] (81, pt_G, I, L) =
    bif pm_ib ((8 * x1) + x2) 56 then
      some (some (.int (I 62 (Int32.toNatClampNeg ((8 * x1) + x2)))), (81, pt_G, I, L))
    else none := pm_blk_to hF (pm_stp 1249 [0]) 14 rfl
-- TurnCabinetModel.held(I)I 49
set_option maxRecDepth 20000 in
theorem e1250_0 (hF : pm_fix pt_me pt_Sg (pt_R L0 xs) F) {x1 : Int32} : F 1250 0 [some (.ref 49), some (.int x1), none, none] [] (81, pt_G, I, L) =
    F 1250 4 [some (.ref 49), some (.int x1), some (.int 0), some (.int 0)] [] (81, pt_G, I, L) := pm_blk_to hF (pm_stp 1250 [0, 4, 33]) 32 rfl
set_option maxRecDepth 20000 in
theorem e1250_4 (hF : pm_fix pt_me pt_Sg (pt_R L0 xs) F) {x1 : Int32} {x2 : Int32} {x3 : Int32} : F 1250 4 [some (.ref 49), some (.int x1), some (.int x2), some (.int x3)] [] (81, pt_G, I, L) =
    if x3 < (I 49 31) then
      bif pm_ib (1 + x3) 16 then
        if (I 64 (Int32.toNatClampNeg (1 + x3))) = x1 then
          pm_k (F 1203 0 [some (.int 1)] [] (81, pt_G, I, L)) (fun v S => F 1250 33 [some (.ref 49), some (.int x1), some (.int x2), some (.int x3)] (v.toList ++ [.int x2]) S)
        else
          pm_k (F 1203 0 [some (.int 0)] [] (81, pt_G, I, L)) (fun v S => F 1250 33 [some (.ref 49), some (.int x1), some (.int x2), some (.int x3)] (v.toList ++ [.int x2]) S)
      else none
    else
      some (some (.int x2), (81, pt_G, I, L)) := pm_blk_to hF (pm_stp 1250 [0, 4, 33]) 32 rfl
set_option maxRecDepth 20000 in
theorem e1250_33 (hF : pm_fix pt_me pt_Sg (pt_R L0 xs) F) {x1 : Int32} {x2 : Int32} {x3 : Int32} {s0 : Int32} {s1 : Int32} : F 1250 33 [some (.ref 49), some (.int x1), some (.int x2), some (.int x3)] [.int s0, .int s1] (81, pt_G, I, L) =
    F 1250 4 [some (.ref 49), some (.int x1), some (.int (s1 + s0)), some (.int (x3 + 1))] [] (81, pt_G, I, L) := pm_blk_to hF (pm_stp 1250 [0, 4, 33]) 32 rfl
-- TurnCabinetModel.party(II)I 49
set_option maxRecDepth 20000 in
theorem e1251_0 (hF : pm_fix pt_me pt_Sg (pt_R L0 xs) F) {x1 : Int32} {x2 : Int32} : F 1251 0 [some (.ref 49), some (.int x1), some (.int x2)] [] (81, pt_G, I, L) =
    pm_k (F 1246 0 [some (.ref 49), some (.int x1)] [] (81, pt_G, I, L)) (fun v S => F 1251 5 [some (.ref 49), some (.int x1), some (.int x2)] (v.toList ++ []) S) := pm_blk_to hF (pm_stp 1251 [0, 5, 49, 69]) 38 rfl
set_option maxRecDepth 20000 in
theorem e1251_5 (hF : pm_fix pt_me pt_Sg (pt_R L0 xs) F) {x1 : Int32} {x2 : Int32} {s0 : Int32} : F 1251 5 [some (.ref 49), some (.int x1), some (.int x2)] [.int s0] (81, pt_G, I, L) =
    if s0 = 0 then
      some (some (.int (-1)), (81, pt_G, I, L))
    else
      if x2 = nI 0 then
        pm_k (F 1242 0 [some (.ref 49), some (.int x1)] [] (81, pt_G, I, L)) (fun v S => F 1251 49 [some (.ref 49), some (.int x1), some (.int x2)] (v.toList ++ []) S)
      else
      if x2 = nI 1 then
        bif pm_ib x1 7 then
          some (some (.int (I 59 (Int32.toNatClampNeg x1))), (81, pt_G, I, L))
        else none
      else
      if x2 = nI 2 then
        bif pm_ib x1 7 then
          some (some (.int (I 60 (Int32.toNatClampNeg x1))), (81, pt_G, I, L))
        else none
      else
      if x2 = nI 3 then
        pm_k (F 1250 0 [some (.ref 49), some (.int x1), none, none] [] (81, pt_G, I, L)) (fun v S => F 1251 69 [some (.ref 49), some (.int x1), some (.int x2)] (v.toList ++ []) S)
      else
      if x2 = nI 4 then
        bif pm_ib x1 7 then
          some (some (.int (I 61 (Int32.toNatClampNeg x1))), (81, pt_G, I, L))
        else none
      else
      some (some (.int (-1)), (81, pt_G, I, L)) := pm_blk_to hF (pm_stp 1251 [0, 5, 49, 69]) 38 rfl
set_option maxRecDepth 20000 in
theorem e1251_49 (hF : pm_fix pt_me pt_Sg (pt_R L0 xs) F) {x1 : Int32} {x2 : Int32} {s0 : Int32} : F 1251 49 [some (.ref 49), some (.int x1), some (.int x2)] [.int s0] (81, pt_G, I, L) =
    some (some (.int s0), (81, pt_G, I, L)) := pm_blk_to hF (pm_stp 1251 [0, 5, 49, 69]) 38 rfl
set_option maxRecDepth 20000 in
theorem e1251_69 (hF : pm_fix pt_me pt_Sg (pt_R L0 xs) F) {x1 : Int32} {x2 : Int32} {s0 : Int32} : F 1251 69 [some (.ref 49), some (.int x1), some (.int x2)] [.int s0] (81, pt_G, I, L) =
    some (some (.int s0), (81, pt_G, I, L)) := pm_blk_to hF (pm_stp 1251 [0, 5, 49, 69]) 38 rfl
-- TurnCabinetModel.worth(II)I 49
set_option maxRecDepth 20000 in
theorem e1252_0 (hF : pm_fix pt_me pt_Sg (pt_R L0 xs) F) {x1 : Int32} {x2 : Int32} : F 1252 0 [some (.ref 49), some (.int x1), some (.int x2)] [] (81, pt_G, I, L) =
    pm_k (F 1246 0 [some (.ref 49), some (.int x1)] [] (81, pt_G, I, L)) (fun v S => F 1252 5 [some (.ref 49), some (.int x1), some (.int x2)] (v.toList ++ []) S) := pm_blk_to hF (pm_stp 1252 [0, 5, 13, 22]) 20 rfl
set_option maxRecDepth 20000 in
theorem e1252_5 (hF : pm_fix pt_me pt_Sg (pt_R L0 xs) F) {x1 : Int32} {x2 : Int32} {s0 : Int32} : F 1252 5 [some (.ref 49), some (.int x1), some (.int x2)] [.int s0] (81, pt_G, I, L) =
    if s0 = 0 then
      some (some (.int (-1)), (81, pt_G, I, L))
    else
      pm_k (F 1247 0 [some (.ref 49), some (.int x2)] [] (81, pt_G, I, L)) (fun v S => F 1252 13 [some (.ref 49), some (.int x1), some (.int x2)] (v.toList ++ []) S) := pm_blk_to hF (pm_stp 1252 [0, 5, 13, 22]) 20 rfl
set_option maxRecDepth 20000 in
theorem e1252_13 (hF : pm_fix pt_me pt_Sg (pt_R L0 xs) F) {x1 : Int32} {x2 : Int32} {s0 : Int32} : F 1252 13 [some (.ref 49), some (.int x1), some (.int x2)] [.int s0] (81, pt_G, I, L) =
    if s0 = 0 then
      some (some (.int (-1)), (81, pt_G, I, L))
    else
      pm_k (F 1249 0 [some (.ref 49), some (.int x1), some (.int x2)] [] (81, pt_G, I, L)) (fun v S => F 1252 22 [some (.ref 49), some (.int x1), some (.int x2)] (v.toList ++ []) S) := pm_blk_to hF (pm_stp 1252 [0, 5, 13, 22]) 20 rfl
set_option maxRecDepth 20000 in
theorem e1252_22 (hF : pm_fix pt_me pt_Sg (pt_R L0 xs) F) {x1 : Int32} {x2 : Int32} {s0 : Int32} : F 1252 22 [some (.ref 49), some (.int x1), some (.int x2)] [.int s0] (81, pt_G, I, L) =
    some (some (.int s0), (81, pt_G, I, L)) := pm_blk_to hF (pm_stp 1252 [0, 5, 13, 22]) 20 rfl
-- TurnCabinetModel.about(I)I 49
set_option maxRecDepth 20000 in
theorem e1253_0 (hF : pm_fix pt_me pt_Sg (pt_R L0 xs) F) {x1 : Int32} : F 1253 0 [some (.ref 49), some (.int x1)] [] (81, pt_G, I, L) =
    if x1 = nI 0 then
      some (some (.int (I 49 30)), (81, pt_G, I, L))
    else
    if x1 = nI 1 then
      some (some (.int (I 49 31)), (81, pt_G, I, L))
    else
    if x1 = nI 2 then
      pm_k (F 1245 0 [some (.ref 49)] [] (81, pt_G, I, L)) (fun v S => F 1253 74 [some (.ref 49), some (.int x1)] (v.toList ++ []) S)
    else
    if x1 = nI 3 then
      some (some (.int (I 49 35)), (81, pt_G, I, L))
    else
    if x1 = nI 4 then
      some (some (.int (I 49 36)), (81, pt_G, I, L))
    else
    if x1 = nI 5 then
      some (some (.int (I 49 37)), (81, pt_G, I, L))
    else
    if x1 = nI 6 then
      pm_k (F 1244 0 [some (.ref 49)] [] (81, pt_G, I, L)) (fun v S => F 1253 95 [some (.ref 49), some (.int x1)] (v.toList ++ [.ref 49]) S)
    else
    if x1 = nI 7 then
      some (some (.int (I 49 45)), (81, pt_G, I, L))
    else
    if x1 = nI 8 then
      some (some (.int (I 49 1)), (81, pt_G, I, L))
    else
    if x1 = nI 9 then
      some (some (.int (I 49 32)), (81, pt_G, I, L))
    else
    if x1 = nI 10 then
      some (some (.int (I 49 33)), (81, pt_G, I, L))
    else
    some (some (.int (-1)), (81, pt_G, I, L)) := pm_blk_to hF (pm_stp 1253 [0, 74, 95, 98]) 44 rfl
set_option maxRecDepth 20000 in
theorem e1253_74 (hF : pm_fix pt_me pt_Sg (pt_R L0 xs) F) {x1 : Int32} {s0 : Int32} : F 1253 74 [some (.ref 49), some (.int x1)] [.int s0] (81, pt_G, I, L) =
    some (some (.int s0), (81, pt_G, I, L)) := pm_blk_to hF (pm_stp 1253 [0, 74, 95, 98]) 44 rfl
set_option maxRecDepth 20000 in
theorem e1253_95 (hF : pm_fix pt_me pt_Sg (pt_R L0 xs) F) {x1 : Int32} {s0 : Int32} : F 1253 95 [some (.ref 49), some (.int x1)] [.int s0, .ref 49] (81, pt_G, I, L) =
    pm_k (F 1243 0 [some (.ref 49), some (.int s0), none, none] [] (81, pt_G, I, L)) (fun v S => F 1253 98 [some (.ref 49), some (.int x1)] (v.toList ++ []) S) := pm_blk_to hF (pm_stp 1253 [0, 74, 95, 98]) 44 rfl
set_option maxRecDepth 20000 in
theorem e1253_98 (hF : pm_fix pt_me pt_Sg (pt_R L0 xs) F) {x1 : Int32} {s0 : Int32} : F 1253 98 [some (.ref 49), some (.int x1)] [.int s0] (81, pt_G, I, L) =
    some (some (.int s0), (81, pt_G, I, L)) := pm_blk_to hF (pm_stp 1253 [0, 74, 95, 98]) 44 rfl
-- TurnCabinetModel.isAhead(II)Z 49
set_option maxRecDepth 20000 in
theorem e1254_0 (hF : pm_fix pt_me pt_Sg (pt_R L0 xs) F) {x1 : Int32} {x2 : Int32} : F 1254 0 [some (.ref 49), some (.int x1), some (.int x2), none, none] [] (81, pt_G, I, L) =
    pm_k (F 1242 0 [some (.ref 49), some (.int x1)] [] (81, pt_G, I, L)) (fun v S => F 1254 5 [some (.ref 49), some (.int x1), some (.int x2), none, none] (v.toList ++ []) S) := pm_blk_to hF (pm_stp 1254 [0, 5, 28, 72, 77]) 56 rfl
set_option maxRecDepth 20000 in
theorem e1254_5 (hF : pm_fix pt_me pt_Sg (pt_R L0 xs) F) {x1 : Int32} {x2 : Int32} {s0 : Int32} : F 1254 5 [some (.ref 49), some (.int x1), some (.int x2), none, none] [.int s0] (81, pt_G, I, L) =
    bif pm_ib x2 7 then
      pm_k (F 1242 0 [some (.ref 49), some (.int x2)] [] (81, pt_G, I, L)) (fun v S => F 1254 28 [some (.ref 49), some (.int x1), some (.int x2), some (.int (s0 * ((I 49 32) + ((I 49 33) * (I 67 (Int32.toNatClampNeg x2)))))), none] (v.toList ++ []) S)
    else none := pm_blk_to hF (pm_stp 1254 [0, 5, 28, 72, 77]) 56 rfl
set_option maxRecDepth 20000 in
theorem e1254_28 (hF : pm_fix pt_me pt_Sg (pt_R L0 xs) F) {x1 : Int32} {x2 : Int32} {x3 : Int32} {s0 : Int32} : F 1254 28 [some (.ref 49), some (.int x1), some (.int x2), some (.int x3), none] [.int s0] (81, pt_G, I, L) =
    bif pm_ib x1 7 then
      if x3 = (s0 * ((I 49 32) + ((I 49 33) * (I 67 (Int32.toNatClampNeg x1))))) then
        pm_k (F 1242 0 [some (.ref 49), some (.int x1)] [] (81, pt_G, I, L)) (fun v S => F 1254 72 [some (.ref 49), some (.int x1), some (.int x2), some (.int x3), some (.int (s0 * ((I 49 32) + ((I 49 33) * (I 67 (Int32.toNatClampNeg x1))))))] (v.toList ++ []) S)
      else
        if x3 ≤ (s0 * ((I 49 32) + ((I 49 33) * (I 67 (Int32.toNatClampNeg x1))))) then
          some (some (.int 0), (81, pt_G, I, L))
        else
          some (some (.int 1), (81, pt_G, I, L))
    else none := pm_blk_to hF (pm_stp 1254 [0, 5, 28, 72, 77]) 56 rfl
set_option maxRecDepth 20000 in
theorem e1254_72 (hF : pm_fix pt_me pt_Sg (pt_R L0 xs) F) {x1 : Int32} {x2 : Int32} {x3 : Int32} {x4 : Int32} {s0 : Int32} : F 1254 72 [some (.ref 49), some (.int x1), some (.int x2), some (.int x3), some (.int x4)] [.int s0] (81, pt_G, I, L) =
    pm_k (F 1242 0 [some (.ref 49), some (.int x2)] [] (81, pt_G, I, L)) (fun v S => F 1254 77 [some (.ref 49), some (.int x1), some (.int x2), some (.int x3), some (.int x4)] (v.toList ++ [.int s0]) S) := pm_blk_to hF (pm_stp 1254 [0, 5, 28, 72, 77]) 56 rfl
set_option maxRecDepth 20000 in
theorem e1254_77 (hF : pm_fix pt_me pt_Sg (pt_R L0 xs) F) {x1 : Int32} {x2 : Int32} {x3 : Int32} {x4 : Int32} {s0 : Int32} {s1 : Int32} : F 1254 77 [some (.ref 49), some (.int x1), some (.int x2), some (.int x3), some (.int x4)] [.int s0, .int s1] (81, pt_G, I, L) =
    if s1 ≤ s0 then
      some (some (.int 0), (81, pt_G, I, L))
    else
      some (some (.int 1), (81, pt_G, I, L)) := pm_blk_to hF (pm_stp 1254 [0, 5, 28, 72, 77]) 56 rfl
-- TurnCabinetModel.nextOf(I)I 49
set_option maxRecDepth 20000 in
theorem e1255_0 (hF : pm_fix pt_me pt_Sg (pt_R L0 xs) F) {x1 : Int32} : F 1255 0 [some (.ref 49), some (.int x1), none, none] [] (81, pt_G, I, L) =
    F 1255 4 [some (.ref 49), some (.int x1), some (.int (-1)), some (.int 0)] [] (81, pt_G, I, L) := pm_blk_to hF (pm_stp 1255 [0, 4, 17, 31]) 31 rfl
set_option maxRecDepth 20000 in
theorem e1255_4 (hF : pm_fix pt_me pt_Sg (pt_R L0 xs) F) {x1 : Int32} {x2 : Int32} {x3 : Int32} : F 1255 4 [some (.ref 49), some (.int x1), some (.int x2), some (.int x3)] [] (81, pt_G, I, L) =
    if x3 < (I 49 30) then
      pm_k (F 1205 0 [some (.int x1), some (.int x3)] [] (81, pt_G, I, L)) (fun v S => F 1255 17 [some (.ref 49), some (.int x1), some (.int x2), some (.int x3)] (v.toList ++ []) S)
    else
      some (some (.int x2), (81, pt_G, I, L)) := pm_blk_to hF (pm_stp 1255 [0, 4, 17, 31]) 31 rfl
set_option maxRecDepth 20000 in
theorem e1255_17 (hF : pm_fix pt_me pt_Sg (pt_R L0 xs) F) {x1 : Int32} {x2 : Int32} {x3 : Int32} {s0 : Int32} : F 1255 17 [some (.ref 49), some (.int x1), some (.int x2), some (.int x3)] [.int s0] (81, pt_G, I, L) =
    if s0 = 0 then
      F 1255 4 [some (.ref 49), some (.int x1), some (.int x2), some (.int (x3 + 1))] [] (81, pt_G, I, L)
    else
      if x2 = (-1) then
        F 1255 4 [some (.ref 49), some (.int x1), some (.int x3), some (.int (x3 + 1))] [] (81, pt_G, I, L)
      else
        pm_k (F 1254 0 [some (.ref 49), some (.int x3), some (.int x2), none, none] [] (81, pt_G, I, L)) (fun v S => F 1255 31 [some (.ref 49), some (.int x1), some (.int x2), some (.int x3)] (v.toList ++ []) S) := pm_blk_to hF (pm_stp 1255 [0, 4, 17, 31]) 31 rfl
set_option maxRecDepth 20000 in
theorem e1255_31 (hF : pm_fix pt_me pt_Sg (pt_R L0 xs) F) {x1 : Int32} {x2 : Int32} {x3 : Int32} {s0 : Int32} : F 1255 31 [some (.ref 49), some (.int x1), some (.int x2), some (.int x3)] [.int s0] (81, pt_G, I, L) =
    if s0 = 0 then
      F 1255 4 [some (.ref 49), some (.int x1), some (.int x2), some (.int (x3 + 1))] [] (81, pt_G, I, L)
    else
      F 1255 4 [some (.ref 49), some (.int x1), some (.int x3), some (.int (x3 + 1))] [] (81, pt_G, I, L) := pm_blk_to hF (pm_stp 1255 [0, 4, 17, 31]) 31 rfl
-- TurnCabinetModel.laysTurns(I)V 49
set_option maxRecDepth 20000 in
theorem e1256_0 (hF : pm_fix pt_me pt_Sg (pt_R L0 xs) F) {x1 : Int32} : F 1256 0 [some (.ref 49), some (.int x1), none] [] (81, pt_G, I, L) =
    F 1256 2 [some (.ref 49), some (.int x1), some (.int 0)] [] (81, pt_G, I, L) := pm_blk_to hF (pm_stp 1256 [0, 2, 23, 41]) 44 rfl
set_option maxRecDepth 20000 in
theorem e1256_2 (hF : pm_fix pt_me pt_Sg (pt_R L0 xs) F) {x1 : Int32} {x2 : Int32} : F 1256 2 [some (.ref 49), some (.int x1), some (.int x2)] [] (81, pt_G, I, L) =
    if x2 < 7 then
      bif pm_ib x2 7 then
        F 1256 2 [some (.ref 49), some (.int x1), some (.int (x2 + 1))] [] (81, pt_G, (pm_ui I 67 (Int32.toNatClampNeg x2) 0), L)
      else none
    else
      F 1256 23 [some (.ref 49), some (.int x1), some (.int 0)] [] (81, pt_G, I, L) := pm_blk_to hF (pm_stp 1256 [0, 2, 23, 41]) 44 rfl
set_option maxRecDepth 20000 in
theorem e1256_23 (hF : pm_fix pt_me pt_Sg (pt_R L0 xs) F) {x1 : Int32} {x2 : Int32} : F 1256 23 [some (.ref 49), some (.int x1), some (.int x2)] [] (81, pt_G, I, L) =
    if x2 < (I 49 31) then
      pm_k (F 1255 0 [some (.ref 49), some (.int x1), none, none] [] (81, pt_G, I, L)) (fun v S => F 1256 41 [some (.ref 49), some (.int x1), some (.int x2)] (v.toList ++ [.int x2, .ref 66]) S)
    else
      some (none, (81, pt_G, I, L)) := pm_blk_to hF (pm_stp 1256 [0, 2, 23, 41]) 44 rfl
set_option maxRecDepth 20000 in
theorem e1256_41 (hF : pm_fix pt_me pt_Sg (pt_R L0 xs) F) {x1 : Int32} {x2 : Int32} {s0 : Int32} {s1 : Int32} : F 1256 41 [some (.ref 49), some (.int x1), some (.int x2)] [.int s0, .int s1, .ref 66] (81, pt_G, I, L) =
    bif pm_ib s1 8 then
      bif pm_ib x2 8 then
        bif pm_ib ((pm_ui I 66 (Int32.toNatClampNeg s1) s0) 66 (Int32.toNatClampNeg x2)) 7 then
          bif pm_ib ((pm_ui I 66 (Int32.toNatClampNeg s1) s0) 66 (Int32.toNatClampNeg x2)) 7 then
            F 1256 23 [some (.ref 49), some (.int x1), some (.int (x2 + 1))] [] (81, pt_G, (pm_ui (pm_ui I 66 (Int32.toNatClampNeg s1) s0) 67 (Int32.toNatClampNeg ((pm_ui I 66 (Int32.toNatClampNeg s1) s0) 66 (Int32.toNatClampNeg x2))) ((I 67 (Int32.toNatClampNeg ((pm_ui I 66 (Int32.toNatClampNeg s1) s0) 66 (Int32.toNatClampNeg x2)))) + 1)), L)
          else none
        else none
      else none
    else none := pm_blk_to hF (pm_stp 1256 [0, 2, 23, 41]) 44 rfl
-- TurnCabinetModel.turn(II)I 49
set_option maxRecDepth 20000 in
theorem e1257_0 (hF : pm_fix pt_me pt_Sg (pt_R L0 xs) F) {x1 : Int32} {x2 : Int32} : F 1257 0 [some (.ref 49), some (.int x1), some (.int x2)] [] (81, pt_G, I, L) =
    pm_k (F 1248 0 [some (.ref 49), some (.int x1)] [] (81, pt_G, I, L)) (fun v S => F 1257 5 [some (.ref 49), some (.int x1), some (.int x2)] (v.toList ++ []) S) := pm_blk_to hF (pm_stp 1257 [0, 5, 21, 31]) 29 rfl
set_option maxRecDepth 20000 in
theorem e1257_5 (hF : pm_fix pt_me pt_Sg (pt_R L0 xs) F) {x1 : Int32} {x2 : Int32} {s0 : Int32} : F 1257 5 [some (.ref 49), some (.int x1), some (.int x2)] [.int s0] (81, pt_G, I, L) =
    if s0 = 0 then
      some (some (.int (-1)), (81, pt_G, I, L))
    else
      pm_k (F 1202 0 [some (.long (Int32.toInt64 x2)), none, some (.long 0), none, some (.long (Int32.toInt64 ((I 49 31) - 1))), none] [] (81, pt_G, I, L)) (fun v S => F 1257 21 [some (.ref 49), some (.int x1), some (.int x2)] (v.toList ++ []) S) := pm_blk_to hF (pm_stp 1257 [0, 5, 21, 31]) 29 rfl
set_option maxRecDepth 20000 in
theorem e1257_21 (hF : pm_fix pt_me pt_Sg (pt_R L0 xs) F) {x1 : Int32} {x2 : Int32} {s0 : Int32} : F 1257 21 [some (.ref 49), some (.int x1), some (.int x2)] [.int s0] (81, pt_G, I, L) =
    if s0 = 0 then
      some (some (.int (-1)), (81, pt_G, I, L))
    else
      pm_k (F 1256 0 [some (.ref 49), some (.int x1), none] [] (81, pt_G, I, L)) (fun v S => F 1257 31 [some (.ref 49), some (.int x1), some (.int x2)] (v.toList ++ []) S) := pm_blk_to hF (pm_stp 1257 [0, 5, 21, 31]) 29 rfl
set_option maxRecDepth 20000 in
theorem e1257_31 (hF : pm_fix pt_me pt_Sg (pt_R L0 xs) F) {x1 : Int32} {x2 : Int32} : F 1257 31 [some (.ref 49), some (.int x1), some (.int x2)] [] (81, pt_G, I, L) =
    bif pm_ib x2 8 then
      some (some (.int (I 66 (Int32.toNatClampNeg x2))), (81, pt_G, I, L))
    else none := pm_blk_to hF (pm_stp 1257 [0, 5, 21, 31]) 29 rfl
-- TurnCabinetModel.turnBy(IIII)I 49
set_option maxRecDepth 20000 in
theorem e1258_0 (hF : pm_fix pt_me pt_Sg (pt_R L0 xs) F) {x1 : Int32} {x2 : Int32} {x3 : Int32} {x4 : Int32} : F 1258 0 [some (.ref 49), some (.int x1), some (.int x2), some (.int x3), some (.int x4), none, none] [] (81, pt_G, I, L) =
    pm_k (F 1248 0 [some (.ref 49), some (.int x1)] [] (81, pt_G, I, L)) (fun v S => F 1258 5 [some (.ref 49), some (.int x1), some (.int x2), some (.int x3), some (.int x4), none, none] (v.toList ++ []) S) := pm_blk_to hF (pm_stp 1258 [0, 5, 17, 29, 46, 78]) 59 rfl
set_option maxRecDepth 20000 in
theorem e1258_5 (hF : pm_fix pt_me pt_Sg (pt_R L0 xs) F) {x1 : Int32} {x2 : Int32} {x3 : Int32} {x4 : Int32} {s0 : Int32} : F 1258 5 [some (.ref 49), some (.int x1), some (.int x2), some (.int x3), some (.int x4), none, none] [.int s0] (81, pt_G, I, L) =
    if s0 = 0 then
      some (some (.int (-1)), (81, pt_G, I, L))
    else
      pm_k (F 1202 0 [some (.long (Int32.toInt64 x2)), none, some (.long 1), none, some (.long 99), none] [] (81, pt_G, I, L)) (fun v S => F 1258 17 [some (.ref 49), some (.int x1), some (.int x2), some (.int x3), some (.int x4), none, none] (v.toList ++ []) S) := pm_blk_to hF (pm_stp 1258 [0, 5, 17, 29, 46, 78]) 59 rfl
set_option maxRecDepth 20000 in
theorem e1258_17 (hF : pm_fix pt_me pt_Sg (pt_R L0 xs) F) {x1 : Int32} {x2 : Int32} {x3 : Int32} {x4 : Int32} {s0 : Int32} : F 1258 17 [some (.ref 49), some (.int x1), some (.int x2), some (.int x3), some (.int x4), none, none] [.int s0] (81, pt_G, I, L) =
    if s0 = 0 then
      some (some (.int (-1)), (81, pt_G, I, L))
    else
      pm_k (F 1202 0 [some (.long (Int32.toInt64 x3)), none, some (.long 1), none, some (.long 99), none] [] (81, pt_G, I, L)) (fun v S => F 1258 29 [some (.ref 49), some (.int x1), some (.int x2), some (.int x3), some (.int x4), none, none] (v.toList ++ []) S) := pm_blk_to hF (pm_stp 1258 [0, 5, 17, 29, 46, 78]) 59 rfl
set_option maxRecDepth 20000 in
theorem e1258_29 (hF : pm_fix pt_me pt_Sg (pt_R L0 xs) F) {x1 : Int32} {x2 : Int32} {x3 : Int32} {x4 : Int32} {s0 : Int32} : F 1258 29 [some (.ref 49), some (.int x1), some (.int x2), some (.int x3), some (.int x4), none, none] [.int s0] (81, pt_G, I, L) =
    if s0 = 0 then
      some (some (.int (-1)), (81, pt_G, I, L))
    else
      pm_k (F 1202 0 [some (.long (Int32.toInt64 x4)), none, some (.long 0), none, some (.long (Int32.toInt64 ((I 49 31) - 1))), none] [] (81, pt_G, I, L)) (fun v S => F 1258 46 [some (.ref 49), some (.int x1), some (.int x2), some (.int x3), some (.int x4), none, none] (v.toList ++ []) S) := pm_blk_to hF (pm_stp 1258 [0, 5, 17, 29, 46, 78]) 59 rfl
set_option maxRecDepth 20000 in
theorem e1258_46 (hF : pm_fix pt_me pt_Sg (pt_R L0 xs) F) {x1 : Int32} {x2 : Int32} {x3 : Int32} {x4 : Int32} {s0 : Int32} : F 1258 46 [some (.ref 49), some (.int x1), some (.int x2), some (.int x3), some (.int x4), none, none] [.int s0] (81, pt_G, I, L) =
    if s0 = 0 then
      some (some (.int (-1)), (81, pt_G, I, L))
    else
      pm_k (F 1256 0 [some (.ref 49), some (.int x1), none] [] (81, pt_G, (pm_ui (pm_ui I 49 32 x2) 49 33 x3), L)) (fun v S => F 1258 78 [some (.ref 49), some (.int x1), some (.int x2), some (.int x3), some (.int x4), some (.int (I 49 32)), some (.int (I 49 33))] (v.toList ++ []) S) := pm_blk_to hF (pm_stp 1258 [0, 5, 17, 29, 46, 78]) 59 rfl
set_option maxRecDepth 20000 in
theorem e1258_78 (hF : pm_fix pt_me pt_Sg (pt_R L0 xs) F) {x1 : Int32} {x2 : Int32} {x3 : Int32} {x4 : Int32} {x5 : Int32} {x6 : Int32} : F 1258 78 [some (.ref 49), some (.int x1), some (.int x2), some (.int x3), some (.int x4), some (.int x5), some (.int x6)] [] (81, pt_G, I, L) =
    bif pm_ib x4 8 then
      some (some (.int (I 66 (Int32.toNatClampNeg x4))), (81, pt_G, (pm_ui (pm_ui I 49 32 x5) 49 33 x6), L))
    else none := pm_blk_to hF (pm_stp 1258 [0, 5, 17, 29, 46, 78]) 59 rfl
-- TurnCabinetModel.turnAt(I)I 49
set_option maxRecDepth 20000 in
theorem e1259_0 (hF : pm_fix pt_me pt_Sg (pt_R L0 xs) F) {x1 : Int32} : F 1259 0 [some (.ref 49), some (.int x1)] [] (81, pt_G, I, L) =
    pm_k (F 1206 0 [some (.int x1), none, none] [] (81, pt_G, I, L)) (fun v S => F 1259 12 [some (.ref 49), some (.int x1)] (v.toList ++ [.int (I 49 31), .ref 66]) S) := pm_blk_to hF (pm_stp 1259 [0, 12]) 14 rfl
set_option maxRecDepth 20000 in
theorem e1259_12 (hF : pm_fix pt_me pt_Sg (pt_R L0 xs) F) {x1 : Int32} {s0 : Int32} {s1 : Int32} : F 1259 12 [some (.ref 49), some (.int x1)] [.int s0, .int s1, .ref 66] (81, pt_G, I, L) =
    bif pm_ib (s1 - s0) 8 then
      some (some (.int (I 66 (Int32.toNatClampNeg (s1 - s0)))), (81, pt_G, I, L))
    else none := pm_blk_to hF (pm_stp 1259 [0, 12]) 14 rfl
-- TurnCabinetModel.foresees()V 49
set_option maxRecDepth 20000 in
theorem e1260_0 (hF : pm_fix pt_me pt_Sg (pt_R L0 xs) F) : F 1260 0 [some (.ref 49), none, none, none, none, none, none] [] (81, pt_G, I, L) =
    F 1260 2 [some (.ref 49), some (.int 0), none, none, none, none, none] [] (81, pt_G, I, L) := pm_blk_to hF (pm_stp 1260 [0, 2, 23, 38, 47, 62, 75, 134, 182]) 124 rfl
set_option maxRecDepth 20000 in
theorem e1260_2 (hF : pm_fix pt_me pt_Sg (pt_R L0 xs) F) {x1 : Int32} : F 1260 2 [some (.ref 49), some (.int x1), none, none, none, none, none] [] (81, pt_G, I, L) =
    if x1 < 7 then
      bif pm_ib x1 1792 then
        F 1260 2 [some (.ref 49), some (.int (x1 + 1)), none, none, none, none, none] [] (81, pt_G, (pm_ui I 68 (Int32.toNatClampNeg x1) 0), L)
      else none
    else
      F 1260 23 [some (.ref 49), some (.int 1), none, none, none, none, none] [] (81, pt_G, I, L) := pm_blk_to hF (pm_stp 1260 [0, 2, 23, 38, 47, 62, 75, 134, 182]) 124 rfl
set_option maxRecDepth 20000 in
theorem e1260_23 (hF : pm_fix pt_me pt_Sg (pt_R L0 xs) F) {x1 : Int32} : F 1260 23 [some (.ref 49), some (.int x1), none, none, none, none, none] [] (81, pt_G, I, L) =
    if x1 < ((1 : Int32) <<< ((I 49 31) &&& 31)) then
      pm_k (F 1259 0 [some (.ref 49), some (.int x1)] [] (81, pt_G, I, L)) (fun v S => F 1260 38 [some (.ref 49), some (.int x1), none, none, none, none, none] (v.toList ++ []) S)
    else
      some (none, (81, pt_G, I, L)) := pm_blk_to hF (pm_stp 1260 [0, 2, 23, 38, 47, 62, 75, 134, 182]) 124 rfl
set_option maxRecDepth 20000 in
theorem e1260_38 (hF : pm_fix pt_me pt_Sg (pt_R L0 xs) F) {x1 : Int32} {s0 : Int32} : F 1260 38 [some (.ref 49), some (.int x1), none, none, none, none, none] [.int s0] (81, pt_G, I, L) =
    F 1260 47 [some (.ref 49), some (.int x1), some (.int s0), some (.int (-1)), some (.int 0), some (.int 0), none] [] (81, pt_G, I, L) := pm_blk_to hF (pm_stp 1260 [0, 2, 23, 38, 47, 62, 75, 134, 182]) 124 rfl
set_option maxRecDepth 20000 in
theorem e1260_47 (hF : pm_fix pt_me pt_Sg (pt_R L0 xs) F) {x1 : Int32} {x2 : Int32} {x3 : Int32} {x4 : Int32} {x5 : Int32} : F 1260 47 [some (.ref 49), some (.int x1), some (.int x2), some (.int x3), some (.int x4), some (.int x5), none] [] (81, pt_G, I, L) =
    if x5 < (I 49 31) then
      pm_k (F 1205 0 [some (.int x1), some (.int x5)] [] (81, pt_G, I, L)) (fun v S => F 1260 62 [some (.ref 49), some (.int x1), some (.int x2), some (.int x3), some (.int x4), some (.int x5), none] (v.toList ++ []) S)
    else
      bif pm_ib x1 256 then
        F 1260 134 [some (.ref 49), some (.int x1), some (.int x2), some (.int x3), some (.int x4), some (.int 0), none] [] (81, pt_G, (pm_ui I 69 (Int32.toNatClampNeg x1) x3), L)
      else none := pm_blk_to hF (pm_stp 1260 [0, 2, 23, 38, 47, 62, 75, 134, 182]) 124 rfl
set_option maxRecDepth 20000 in
theorem e1260_62 (hF : pm_fix pt_me pt_Sg (pt_R L0 xs) F) {x1 : Int32} {x2 : Int32} {x3 : Int32} {x4 : Int32} {x5 : Int32} {s0 : Int32} : F 1260 62 [some (.ref 49), some (.int x1), some (.int x2), some (.int x3), some (.int x4), some (.int x5), none] [.int s0] (81, pt_G, I, L) =
    if s0 = 0 then
      F 1260 47 [some (.ref 49), some (.int x1), some (.int x2), some (.int x3), some (.int x4), some (.int (x5 + 1)), none] [] (81, pt_G, I, L)
    else
      pm_k (F 1249 0 [some (.ref 49), some (.int x2), some (.int x5)] [] (81, pt_G, I, L)) (fun v S => F 1260 75 [some (.ref 49), some (.int x1), some (.int x2), some (.int x3), some (.int x4), some (.int x5), none] (v.toList ++ []) S) := pm_blk_to hF (pm_stp 1260 [0, 2, 23, 38, 47, 62, 75, 134, 182]) 124 rfl
set_option maxRecDepth 20000 in
theorem e1260_75 (hF : pm_fix pt_me pt_Sg (pt_R L0 xs) F) {x1 : Int32} {x2 : Int32} {x3 : Int32} {x4 : Int32} {x5 : Int32} {s0 : Int32} : F 1260 75 [some (.ref 49), some (.int x1), some (.int x2), some (.int x3), some (.int x4), some (.int x5), none] [.int s0] (81, pt_G, I, L) =
    bif pm_ib ((7 * (x1 &&& (((1 : Int32) <<< (x5 &&& 31)) ^^^ (-1)))) + x2) 1792 then
      if x3 = (-1) then
        F 1260 47 [some (.ref 49), some (.int x1), some (.int x2), some (.int x5), some (.int (s0 + (I 68 (Int32.toNatClampNeg ((7 * (x1 &&& (((1 : Int32) <<< (x5 &&& 31)) ^^^ (-1)))) + x2))))), some (.int (x5 + 1)), none] [] (81, pt_G, I, L)
      else
        if (s0 + (I 68 (Int32.toNatClampNeg ((7 * (x1 &&& (((1 : Int32) <<< (x5 &&& 31)) ^^^ (-1)))) + x2)))) ≤ x4 then
          F 1260 47 [some (.ref 49), some (.int x1), some (.int x2), some (.int x3), some (.int x4), some (.int (x5 + 1)), none] [] (81, pt_G, I, L)
        else
          F 1260 47 [some (.ref 49), some (.int x1), some (.int x2), some (.int x5), some (.int (s0 + (I 68 (Int32.toNatClampNeg ((7 * (x1 &&& (((1 : Int32) <<< (x5 &&& 31)) ^^^ (-1)))) + x2))))), some (.int (x5 + 1)), none] [] (81, pt_G, I, L)
    else none := pm_blk_to hF (pm_stp 1260 [0, 2, 23, 38, 47, 62, 75, 134, 182]) 124 rfl
set_option maxRecDepth 20000 in
theorem e1260_134 (hF : pm_fix pt_me pt_Sg (pt_R L0 xs) F) {x1 : Int32} {x2 : Int32} {x3 : Int32} {x4 : Int32} {x5 : Int32} : F 1260 134 [some (.ref 49), some (.int x1), some (.int x2), some (.int x3), some (.int x4), some (.int x5), none] [] (81, pt_G, I, L) =
    if x5 < 7 then
      bif pm_ib ((7 * (x1 &&& (((1 : Int32) <<< (x3 &&& 31)) ^^^ (-1)))) + x5) 1792 then
        if x5 = x2 then
          pm_k (F 1249 0 [some (.ref 49), some (.int x2), some (.int x3)] [] (81, pt_G, I, L)) (fun v S => F 1260 182 [some (.ref 49), some (.int x1), some (.int x2), some (.int x3), some (.int x4), some (.int x5), none] (v.toList ++ [.int (I 68 (Int32.toNatClampNeg ((7 * (x1 &&& (((1 : Int32) <<< (x3 &&& 31)) ^^^ (-1)))) + x5))), .int ((7 * x1) + x5), .ref 68]) S)
        else
          bif pm_ib ((7 * x1) + x5) 1792 then
            F 1260 134 [some (.ref 49), some (.int x1), some (.int x2), some (.int x3), some (.int x4), some (.int (x5 + 1)), none] [] (81, pt_G, (pm_ui I 68 (Int32.toNatClampNeg ((7 * x1) + x5)) ((I 68 (Int32.toNatClampNeg ((7 * (x1 &&& (((1 : Int32) <<< (x3 &&& 31)) ^^^ (-1)))) + x5))) + 0)), L)
          else none
      else none
    else
      F 1260 23 [some (.ref 49), some (.int (x1 + 1)), none, none, none, none, none] [] (81, pt_G, I, L) := pm_blk_to hF (pm_stp 1260 [0, 2, 23, 38, 47, 62, 75, 134, 182]) 124 rfl
set_option maxRecDepth 20000 in
theorem e1260_182 (hF : pm_fix pt_me pt_Sg (pt_R L0 xs) F) {x1 : Int32} {x2 : Int32} {x3 : Int32} {x4 : Int32} {x5 : Int32} {s0 : Int32} {s1 : Int32} {s2 : Int32} : F 1260 182 [some (.ref 49), some (.int x1), some (.int x2), some (.int x3), some (.int x4), some (.int x5), none] [.int s0, .int s1, .int s2, .ref 68] (81, pt_G, I, L) =
    bif pm_ib s2 1792 then
      F 1260 134 [some (.ref 49), some (.int x1), some (.int x2), some (.int x3), some (.int x4), some (.int (x5 + 1)), none] [] (81, pt_G, (pm_ui I 68 (Int32.toNatClampNeg s2) (s1 + s0)), L)
    else none := pm_blk_to hF (pm_stp 1260 [0, 2, 23, 38, 47, 62, 75, 134, 182]) 124 rfl
-- TurnCabinetModel.all()I 49
set_option maxRecDepth 20000 in
theorem e1261_0 (hF : pm_fix pt_me pt_Sg (pt_R L0 xs) F) : F 1261 0 [some (.ref 49)] [] (81, pt_G, I, L) =
    some (some (.int (((1 : Int32) <<< ((I 49 31) &&& 31)) - 1)), (81, pt_G, I, L)) := pm_blk_to hF (pm_stp 1261 [0]) 12 rfl
-- TurnCabinetModel.bestLeft(II)I 49
set_option maxRecDepth 20000 in
theorem e1262_0 (hF : pm_fix pt_me pt_Sg (pt_R L0 xs) F) {x1 : Int32} {x2 : Int32} : F 1262 0 [some (.ref 49), some (.int x1), some (.int x2), none, none] [] (81, pt_G, I, L) =
    F 1262 5 [some (.ref 49), some (.int x1), some (.int x2), some (.int (-1)), some (.int 0)] [] (81, pt_G, I, L) := pm_blk_to hF (pm_stp 1262 [0, 5, 20, 35, 41]) 35 rfl
set_option maxRecDepth 20000 in
theorem e1262_5 (hF : pm_fix pt_me pt_Sg (pt_R L0 xs) F) {x1 : Int32} {x2 : Int32} {x3 : Int32} {x4 : Int32} : F 1262 5 [some (.ref 49), some (.int x1), some (.int x2), some (.int x3), some (.int x4)] [] (81, pt_G, I, L) =
    if x4 < (I 49 31) then
      pm_k (F 1205 0 [some (.int x2), some (.int x4)] [] (81, pt_G, I, L)) (fun v S => F 1262 20 [some (.ref 49), some (.int x1), some (.int x2), some (.int x3), some (.int x4)] (v.toList ++ []) S)
    else
      some (some (.int x3), (81, pt_G, I, L)) := pm_blk_to hF (pm_stp 1262 [0, 5, 20, 35, 41]) 35 rfl
set_option maxRecDepth 20000 in
theorem e1262_20 (hF : pm_fix pt_me pt_Sg (pt_R L0 xs) F) {x1 : Int32} {x2 : Int32} {x3 : Int32} {x4 : Int32} {s0 : Int32} : F 1262 20 [some (.ref 49), some (.int x1), some (.int x2), some (.int x3), some (.int x4)] [.int s0] (81, pt_G, I, L) =
    if s0 = 0 then
      F 1262 5 [some (.ref 49), some (.int x1), some (.int x2), some (.int x3), some (.int (x4 + 1))] [] (81, pt_G, I, L)
    else
      if x3 = (-1) then
        F 1262 5 [some (.ref 49), some (.int x1), some (.int x2), some (.int x4), some (.int (x4 + 1))] [] (81, pt_G, I, L)
      else
        pm_k (F 1249 0 [some (.ref 49), some (.int x1), some (.int x4)] [] (81, pt_G, I, L)) (fun v S => F 1262 35 [some (.ref 49), some (.int x1), some (.int x2), some (.int x3), some (.int x4)] (v.toList ++ []) S) := pm_blk_to hF (pm_stp 1262 [0, 5, 20, 35, 41]) 35 rfl
set_option maxRecDepth 20000 in
theorem e1262_35 (hF : pm_fix pt_me pt_Sg (pt_R L0 xs) F) {x1 : Int32} {x2 : Int32} {x3 : Int32} {x4 : Int32} {s0 : Int32} : F 1262 35 [some (.ref 49), some (.int x1), some (.int x2), some (.int x3), some (.int x4)] [.int s0] (81, pt_G, I, L) =
    pm_k (F 1249 0 [some (.ref 49), some (.int x1), some (.int x3)] [] (81, pt_G, I, L)) (fun v S => F 1262 41 [some (.ref 49), some (.int x1), some (.int x2), some (.int x3), some (.int x4)] (v.toList ++ [.int s0]) S) := pm_blk_to hF (pm_stp 1262 [0, 5, 20, 35, 41]) 35 rfl
set_option maxRecDepth 20000 in
theorem e1262_41 (hF : pm_fix pt_me pt_Sg (pt_R L0 xs) F) {x1 : Int32} {x2 : Int32} {x3 : Int32} {x4 : Int32} {s0 : Int32} {s1 : Int32} : F 1262 41 [some (.ref 49), some (.int x1), some (.int x2), some (.int x3), some (.int x4)] [.int s0, .int s1] (81, pt_G, I, L) =
    if s1 ≤ s0 then
      F 1262 5 [some (.ref 49), some (.int x1), some (.int x2), some (.int x3), some (.int (x4 + 1))] [] (81, pt_G, I, L)
    else
      F 1262 5 [some (.ref 49), some (.int x1), some (.int x2), some (.int x4), some (.int (x4 + 1))] [] (81, pt_G, I, L) := pm_blk_to hF (pm_stp 1262 [0, 5, 20, 35, 41]) 35 rfl
-- TurnCabinetModel.wouldSwap(II)Z 49
set_option maxRecDepth 20000 in
theorem e1263_0 (hF : pm_fix pt_me pt_Sg (pt_R L0 xs) F) {x1 : Int32} {x2 : Int32} : F 1263 0 [some (.ref 49), some (.int x1), some (.int x2), none, none] [] (81, pt_G, I, L) =
    bif pm_ib x1 8 then
      bif pm_ib x2 8 then
        if (I 70 (Int32.toNatClampNeg x1)) = (I 70 (Int32.toNatClampNeg x2)) then
          some (some (.int 0), (81, pt_G, I, L))
        else
          pm_k (F 1249 0 [some (.ref 49), some (.int (I 70 (Int32.toNatClampNeg x1))), some (.int x2)] [] (81, pt_G, I, L)) (fun v S => F 1263 27 [some (.ref 49), some (.int x1), some (.int x2), some (.int (I 70 (Int32.toNatClampNeg x1))), some (.int (I 70 (Int32.toNatClampNeg x2)))] (v.toList ++ []) S)
      else none
    else none := pm_blk_to hF (pm_stp 1263 [0, 27, 33, 43, 50]) 40 rfl
set_option maxRecDepth 20000 in
theorem e1263_27 (hF : pm_fix pt_me pt_Sg (pt_R L0 xs) F) {x1 : Int32} {x2 : Int32} {x3 : Int32} {x4 : Int32} {s0 : Int32} : F 1263 27 [some (.ref 49), some (.int x1), some (.int x2), some (.int x3), some (.int x4)] [.int s0] (81, pt_G, I, L) =
    pm_k (F 1249 0 [some (.ref 49), some (.int x3), some (.int x1)] [] (81, pt_G, I, L)) (fun v S => F 1263 33 [some (.ref 49), some (.int x1), some (.int x2), some (.int x3), some (.int x4)] (v.toList ++ [.int s0]) S) := pm_blk_to hF (pm_stp 1263 [0, 27, 33, 43, 50]) 40 rfl
set_option maxRecDepth 20000 in
theorem e1263_33 (hF : pm_fix pt_me pt_Sg (pt_R L0 xs) F) {x1 : Int32} {x2 : Int32} {x3 : Int32} {x4 : Int32} {s0 : Int32} {s1 : Int32} : F 1263 33 [some (.ref 49), some (.int x1), some (.int x2), some (.int x3), some (.int x4)] [.int s0, .int s1] (81, pt_G, I, L) =
    if s1 ≤ s0 then
      some (some (.int 0), (81, pt_G, I, L))
    else
      pm_k (F 1249 0 [some (.ref 49), some (.int x4), some (.int x1)] [] (81, pt_G, I, L)) (fun v S => F 1263 43 [some (.ref 49), some (.int x1), some (.int x2), some (.int x3), some (.int x4)] (v.toList ++ []) S) := pm_blk_to hF (pm_stp 1263 [0, 27, 33, 43, 50]) 40 rfl
set_option maxRecDepth 20000 in
theorem e1263_43 (hF : pm_fix pt_me pt_Sg (pt_R L0 xs) F) {x1 : Int32} {x2 : Int32} {x3 : Int32} {x4 : Int32} {s0 : Int32} : F 1263 43 [some (.ref 49), some (.int x1), some (.int x2), some (.int x3), some (.int x4)] [.int s0] (81, pt_G, I, L) =
    pm_k (F 1249 0 [some (.ref 49), some (.int x4), some (.int x2)] [] (81, pt_G, I, L)) (fun v S => F 1263 50 [some (.ref 49), some (.int x1), some (.int x2), some (.int x3), some (.int x4)] (v.toList ++ [.int s0]) S) := pm_blk_to hF (pm_stp 1263 [0, 27, 33, 43, 50]) 40 rfl
set_option maxRecDepth 20000 in
theorem e1263_50 (hF : pm_fix pt_me pt_Sg (pt_R L0 xs) F) {x1 : Int32} {x2 : Int32} {x3 : Int32} {x4 : Int32} {s0 : Int32} {s1 : Int32} : F 1263 50 [some (.ref 49), some (.int x1), some (.int x2), some (.int x3), some (.int x4)] [.int s0, .int s1] (81, pt_G, I, L) =
    if s1 ≤ s0 then
      some (some (.int 0), (81, pt_G, I, L))
    else
      some (some (.int 1), (81, pt_G, I, L)) := pm_blk_to hF (pm_stp 1263 [0, 27, 33, 43, 50]) 40 rfl
-- TurnCabinetModel.exchanges(II)V 49
set_option maxRecDepth 20000 in
theorem e1264_0 (hF : pm_fix pt_me pt_Sg (pt_R L0 xs) F) {x1 : Int32} {x2 : Int32} : F 1264 0 [some (.ref 49), some (.int x1), some (.int x2), none] [] (81, pt_G, I, L) =
    bif pm_ib x1 8 then
      bif pm_ib x2 8 then
        bif pm_ib x1 8 then
          bif pm_ib x2 8 then
            some (none, (81, pt_G, (pm_ui (pm_ui I 70 (Int32.toNatClampNeg x1) (I 70 (Int32.toNatClampNeg x2))) 70 (Int32.toNatClampNeg x2) (I 70 (Int32.toNatClampNeg x1))), L))
          else none
        else none
      else none
    else none := pm_blk_to hF (pm_stp 1264 [0]) 24 rfl
-- TurnCabinetModel.swapsOne()Z 49
set_option maxRecDepth 20000 in
theorem e1265_0 (hF : pm_fix pt_me pt_Sg (pt_R L0 xs) F) : F 1265 0 [some (.ref 49), none, none] [] (81, pt_G, I, L) =
    F 1265 2 [some (.ref 49), some (.int 0), none] [] (81, pt_G, I, L) := pm_blk_to hF (pm_stp 1265 [0, 2, 14, 28, 40]) 37 rfl
set_option maxRecDepth 20000 in
theorem e1265_2 (hF : pm_fix pt_me pt_Sg (pt_R L0 xs) F) {x1 : Int32} : F 1265 2 [some (.ref 49), some (.int x1), none] [] (81, pt_G, I, L) =
    if x1 < (I 49 31) then
      F 1265 14 [some (.ref 49), some (.int x1), some (.int (x1 + 1))] [] (81, pt_G, I, L)
    else
      some (some (.int 0), (81, pt_G, I, L)) := pm_blk_to hF (pm_stp 1265 [0, 2, 14, 28, 40]) 37 rfl
set_option maxRecDepth 20000 in
theorem e1265_14 (hF : pm_fix pt_me pt_Sg (pt_R L0 xs) F) {x1 : Int32} {x2 : Int32} : F 1265 14 [some (.ref 49), some (.int x1), some (.int x2)] [] (81, pt_G, I, L) =
    if x2 < (I 49 31) then
      pm_k (F 1263 0 [some (.ref 49), some (.int x1), some (.int x2), none, none] [] (81, pt_G, I, L)) (fun v S => F 1265 28 [some (.ref 49), some (.int x1), some (.int x2)] (v.toList ++ []) S)
    else
      F 1265 2 [some (.ref 49), some (.int (x1 + 1)), none] [] (81, pt_G, I, L) := pm_blk_to hF (pm_stp 1265 [0, 2, 14, 28, 40]) 37 rfl
set_option maxRecDepth 20000 in
theorem e1265_28 (hF : pm_fix pt_me pt_Sg (pt_R L0 xs) F) {x1 : Int32} {x2 : Int32} {s0 : Int32} : F 1265 28 [some (.ref 49), some (.int x1), some (.int x2)] [.int s0] (81, pt_G, I, L) =
    if s0 = 0 then
      F 1265 14 [some (.ref 49), some (.int x1), some (.int (x2 + 1))] [] (81, pt_G, I, L)
    else
      pm_k (F 1264 0 [some (.ref 49), some (.int x1), some (.int x2), none] [] (81, pt_G, I, L)) (fun v S => F 1265 40 [some (.ref 49), some (.int x1), some (.int x2)] (v.toList ++ []) S) := pm_blk_to hF (pm_stp 1265 [0, 2, 14, 28, 40]) 37 rfl
set_option maxRecDepth 20000 in
theorem e1265_40 (hF : pm_fix pt_me pt_Sg (pt_R L0 xs) F) {x1 : Int32} {x2 : Int32} : F 1265 40 [some (.ref 49), some (.int x1), some (.int x2)] [] (81, pt_G, I, L) =
    some (some (.int 1), (81, pt_G, I, L)) := pm_blk_to hF (pm_stp 1265 [0, 2, 14, 28, 40]) 37 rfl
-- TurnCabinetModel.picks(II)V 49
set_option maxRecDepth 20000 in
theorem e1266_0 (hF : pm_fix pt_me pt_Sg (pt_R L0 xs) F) {x1 : Int32} {x2 : Int32} : F 1266 0 [some (.ref 49), some (.int x1), some (.int x2), none, none, none] [] (81, pt_G, I, L) =
    pm_k (F 1256 0 [some (.ref 49), some (.int x1), none] [] (81, pt_G, I, L)) (fun v S => F 1266 5 [some (.ref 49), some (.int x1), some (.int x2), none, none, none] (v.toList ++ []) S) := pm_blk_to hF (pm_stp 1266 [0, 5, 18, 22, 26, 60, 91, 100]) 71 rfl
set_option maxRecDepth 20000 in
theorem e1266_5 (hF : pm_fix pt_me pt_Sg (pt_R L0 xs) F) {x1 : Int32} {x2 : Int32} : F 1266 5 [some (.ref 49), some (.int x1), some (.int x2), none, none, none] [] (81, pt_G, I, L) =
    if x2 ≤ 0 then
      F 1266 18 [some (.ref 49), some (.int x1), some (.int x2), none, none, none] [] (81, pt_G, (pm_ui I 49 51 0), L)
    else
      pm_k (F 1260 0 [some (.ref 49), none, none, none, none, none, none] [] (81, pt_G, (pm_ui I 49 51 0), L)) (fun v S => F 1266 18 [some (.ref 49), some (.int x1), some (.int x2), none, none, none] (v.toList ++ []) S) := pm_blk_to hF (pm_stp 1266 [0, 5, 18, 22, 26, 60, 91, 100]) 71 rfl
set_option maxRecDepth 20000 in
theorem e1266_18 (hF : pm_fix pt_me pt_Sg (pt_R L0 xs) F) {x1 : Int32} {x2 : Int32} : F 1266 18 [some (.ref 49), some (.int x1), some (.int x2), none, none, none] [] (81, pt_G, I, L) =
    pm_k (F 1261 0 [some (.ref 49)] [] (81, pt_G, I, L)) (fun v S => F 1266 22 [some (.ref 49), some (.int x1), some (.int x2), none, none, none] (v.toList ++ []) S) := pm_blk_to hF (pm_stp 1266 [0, 5, 18, 22, 26, 60, 91, 100]) 71 rfl
set_option maxRecDepth 20000 in
theorem e1266_22 (hF : pm_fix pt_me pt_Sg (pt_R L0 xs) F) {x1 : Int32} {x2 : Int32} {s0 : Int32} : F 1266 22 [some (.ref 49), some (.int x1), some (.int x2), none, none, none] [.int s0] (81, pt_G, I, L) =
    F 1266 26 [some (.ref 49), some (.int x1), some (.int x2), some (.int s0), some (.int 0), none] [] (81, pt_G, I, L) := pm_blk_to hF (pm_stp 1266 [0, 5, 18, 22, 26, 60, 91, 100]) 71 rfl
set_option maxRecDepth 20000 in
theorem e1266_26 (hF : pm_fix pt_me pt_Sg (pt_R L0 xs) F) {x1 : Int32} {x2 : Int32} {x3 : Int32} {x4 : Int32} : F 1266 26 [some (.ref 49), some (.int x1), some (.int x2), some (.int x3), some (.int x4), none] [] (81, pt_G, I, L) =
    if x4 < (I 49 31) then
      if x2 ≤ 0 then
        bif pm_ib x4 8 then
          pm_k (F 1262 0 [some (.ref 49), some (.int (I 66 (Int32.toNatClampNeg x4))), some (.int x3), none, none] [] (81, pt_G, I, L)) (fun v S => F 1266 60 [some (.ref 49), some (.int x1), some (.int x2), some (.int x3), some (.int x4), none] (v.toList ++ []) S)
        else none
      else
        bif pm_ib x3 256 then
          F 1266 60 [some (.ref 49), some (.int x1), some (.int x2), some (.int x3), some (.int x4), none] [.int (I 69 (Int32.toNatClampNeg x3))] (81, pt_G, I, L)
        else none
    else
      F 1266 91 [some (.ref 49), some (.int x1), some (.int x2), some (.int x3), some (.int x4), none] [] (81, pt_G, I, L) := pm_blk_to hF (pm_stp 1266 [0, 5, 18, 22, 26, 60, 91, 100]) 71 rfl
set_option maxRecDepth 20000 in
theorem e1266_60 (hF : pm_fix pt_me pt_Sg (pt_R L0 xs) F) {x1 : Int32} {x2 : Int32} {x3 : Int32} {x4 : Int32} {s0 : Int32} : F 1266 60 [some (.ref 49), some (.int x1), some (.int x2), some (.int x3), some (.int x4), none] [.int s0] (81, pt_G, I, L) =
    bif pm_ib x4 8 then
      bif pm_ib s0 8 then
        F 1266 26 [some (.ref 49), some (.int x1), some (.int x2), some (.int (x3 &&& (((1 : Int32) <<< (s0 &&& 31)) ^^^ (-1)))), some (.int (x4 + 1)), none] [] (81, pt_G, (pm_ui I 70 (Int32.toNatClampNeg s0) (I 66 (Int32.toNatClampNeg x4))), L)
      else none
    else none := pm_blk_to hF (pm_stp 1266 [0, 5, 18, 22, 26, 60, 91, 100]) 71 rfl
set_option maxRecDepth 20000 in
theorem e1266_91 (hF : pm_fix pt_me pt_Sg (pt_R L0 xs) F) {x1 : Int32} {x2 : Int32} {x3 : Int32} {x4 : Int32} : F 1266 91 [some (.ref 49), some (.int x1), some (.int x2), some (.int x3), some (.int x4), none] [] (81, pt_G, I, L) =
    if x2 = 2 then
      pm_k (F 1265 0 [some (.ref 49), none, none] [] (81, pt_G, I, L)) (fun v S => F 1266 100 [some (.ref 49), some (.int x1), some (.int x2), some (.int x3), some (.int x4), none] (v.toList ++ []) S)
    else
      some (none, (81, pt_G, I, L)) := pm_blk_to hF (pm_stp 1266 [0, 5, 18, 22, 26, 60, 91, 100]) 71 rfl
set_option maxRecDepth 20000 in
theorem e1266_100 (hF : pm_fix pt_me pt_Sg (pt_R L0 xs) F) {x1 : Int32} {x2 : Int32} {x3 : Int32} {x4 : Int32} {s0 : Int32} : F 1266 100 [some (.ref 49), some (.int x1), some (.int x2), some (.int x3), some (.int x4), none] [.int s0] (81, pt_G, I, L) =
    if s0 = 0 then
      some (none, (81, pt_G, I, L))
    else
      F 1266 91 [some (.ref 49), some (.int x1), some (.int x2), some (.int x3), some (.int x4), none] [] (81, pt_G, (pm_ui I 49 51 ((I 49 51) + 1)), L) := pm_blk_to hF (pm_stp 1266 [0, 5, 18, 22, 26, 60, 91, 100]) 71 rfl
-- TurnCabinetModel.ownedBy(I)I 49
set_option maxRecDepth 20000 in
theorem e1267_0 (hF : pm_fix pt_me pt_Sg (pt_R L0 xs) F) {x1 : Int32} : F 1267 0 [some (.ref 49), some (.int x1), none, none] [] (81, pt_G, I, L) =
    F 1267 4 [some (.ref 49), some (.int x1), some (.int 0), some (.int 0)] [] (81, pt_G, I, L) := pm_blk_to hF (pm_stp 1267 [0, 4, 29]) 32 rfl
set_option maxRecDepth 20000 in
theorem e1267_4 (hF : pm_fix pt_me pt_Sg (pt_R L0 xs) F) {x1 : Int32} {x2 : Int32} {x3 : Int32} : F 1267 4 [some (.ref 49), some (.int x1), some (.int x2), some (.int x3)] [] (81, pt_G, I, L) =
    if x3 < (I 49 31) then
      bif pm_ib x3 8 then
        if (I 70 (Int32.toNatClampNeg x3)) = x1 then
          pm_k (F 1249 0 [some (.ref 49), some (.int x1), some (.int x3)] [] (81, pt_G, I, L)) (fun v S => F 1267 29 [some (.ref 49), some (.int x1), some (.int x2), some (.int x3)] (v.toList ++ [.int x2]) S)
        else
          F 1267 4 [some (.ref 49), some (.int x1), some (.int (x2 + 0)), some (.int (x3 + 1))] [] (81, pt_G, I, L)
      else none
    else
      some (some (.int x2), (81, pt_G, I, L)) := pm_blk_to hF (pm_stp 1267 [0, 4, 29]) 32 rfl
set_option maxRecDepth 20000 in
theorem e1267_29 (hF : pm_fix pt_me pt_Sg (pt_R L0 xs) F) {x1 : Int32} {x2 : Int32} {x3 : Int32} {s0 : Int32} {s1 : Int32} : F 1267 29 [some (.ref 49), some (.int x1), some (.int x2), some (.int x3)] [.int s0, .int s1] (81, pt_G, I, L) =
    F 1267 4 [some (.ref 49), some (.int x1), some (.int (s1 + s0)), some (.int (x3 + 1))] [] (81, pt_G, I, L) := pm_blk_to hF (pm_stp 1267 [0, 4, 29]) 32 rfl
-- TurnCabinetModel.gets(III)I 49
set_option maxRecDepth 20000 in
theorem e1268_0 (hF : pm_fix pt_me pt_Sg (pt_R L0 xs) F) {x1 : Int32} {x2 : Int32} {x3 : Int32} : F 1268 0 [some (.ref 49), some (.int x1), some (.int x2), some (.int x3)] [] (81, pt_G, I, L) =
    pm_k (F 1248 0 [some (.ref 49), some (.int x1)] [] (81, pt_G, I, L)) (fun v S => F 1268 5 [some (.ref 49), some (.int x1), some (.int x2), some (.int x3)] (v.toList ++ []) S) := pm_blk_to hF (pm_stp 1268 [0, 5, 17, 25, 36]) 30 rfl
set_option maxRecDepth 20000 in
theorem e1268_5 (hF : pm_fix pt_me pt_Sg (pt_R L0 xs) F) {x1 : Int32} {x2 : Int32} {x3 : Int32} {s0 : Int32} : F 1268 5 [some (.ref 49), some (.int x1), some (.int x2), some (.int x3)] [.int s0] (81, pt_G, I, L) =
    if s0 = 0 then
      some (some (.int (-1)), (81, pt_G, I, L))
    else
      pm_k (F 1202 0 [some (.long (Int32.toInt64 x2)), none, some (.long 0), none, some (.long 2), none] [] (81, pt_G, I, L)) (fun v S => F 1268 17 [some (.ref 49), some (.int x1), some (.int x2), some (.int x3)] (v.toList ++ []) S) := pm_blk_to hF (pm_stp 1268 [0, 5, 17, 25, 36]) 30 rfl
set_option maxRecDepth 20000 in
theorem e1268_17 (hF : pm_fix pt_me pt_Sg (pt_R L0 xs) F) {x1 : Int32} {x2 : Int32} {x3 : Int32} {s0 : Int32} : F 1268 17 [some (.ref 49), some (.int x1), some (.int x2), some (.int x3)] [.int s0] (81, pt_G, I, L) =
    if s0 = 0 then
      some (some (.int (-1)), (81, pt_G, I, L))
    else
      pm_k (F 1247 0 [some (.ref 49), some (.int x3)] [] (81, pt_G, I, L)) (fun v S => F 1268 25 [some (.ref 49), some (.int x1), some (.int x2), some (.int x3)] (v.toList ++ []) S) := pm_blk_to hF (pm_stp 1268 [0, 5, 17, 25, 36]) 30 rfl
set_option maxRecDepth 20000 in
theorem e1268_25 (hF : pm_fix pt_me pt_Sg (pt_R L0 xs) F) {x1 : Int32} {x2 : Int32} {x3 : Int32} {s0 : Int32} : F 1268 25 [some (.ref 49), some (.int x1), some (.int x2), some (.int x3)] [.int s0] (81, pt_G, I, L) =
    if s0 = 0 then
      some (some (.int (-1)), (81, pt_G, I, L))
    else
      pm_k (F 1266 0 [some (.ref 49), some (.int x1), some (.int x2), none, none, none] [] (81, pt_G, I, L)) (fun v S => F 1268 36 [some (.ref 49), some (.int x1), some (.int x2), some (.int x3)] (v.toList ++ []) S) := pm_blk_to hF (pm_stp 1268 [0, 5, 17, 25, 36]) 30 rfl
set_option maxRecDepth 20000 in
theorem e1268_36 (hF : pm_fix pt_me pt_Sg (pt_R L0 xs) F) {x1 : Int32} {x2 : Int32} {x3 : Int32} : F 1268 36 [some (.ref 49), some (.int x1), some (.int x2), some (.int x3)] [] (81, pt_G, I, L) =
    bif pm_ib x3 8 then
      some (some (.int (I 70 (Int32.toNatClampNeg x3))), (81, pt_G, I, L))
    else none := pm_blk_to hF (pm_stp 1268 [0, 5, 17, 25, 36]) 30 rfl
-- TurnCabinetModel.has(III)I 49
set_option maxRecDepth 20000 in
theorem e1269_0 (hF : pm_fix pt_me pt_Sg (pt_R L0 xs) F) {x1 : Int32} {x2 : Int32} {x3 : Int32} : F 1269 0 [some (.ref 49), some (.int x1), some (.int x2), some (.int x3)] [] (81, pt_G, I, L) =
    pm_k (F 1248 0 [some (.ref 49), some (.int x1)] [] (81, pt_G, I, L)) (fun v S => F 1269 5 [some (.ref 49), some (.int x1), some (.int x2), some (.int x3)] (v.toList ++ []) S) := pm_blk_to hF (pm_stp 1269 [0, 5, 17, 25, 36, 41]) 29 rfl
set_option maxRecDepth 20000 in
theorem e1269_5 (hF : pm_fix pt_me pt_Sg (pt_R L0 xs) F) {x1 : Int32} {x2 : Int32} {x3 : Int32} {s0 : Int32} : F 1269 5 [some (.ref 49), some (.int x1), some (.int x2), some (.int x3)] [.int s0] (81, pt_G, I, L) =
    if s0 = 0 then
      some (some (.int (-1)), (81, pt_G, I, L))
    else
      pm_k (F 1202 0 [some (.long (Int32.toInt64 x2)), none, some (.long 0), none, some (.long 2), none] [] (81, pt_G, I, L)) (fun v S => F 1269 17 [some (.ref 49), some (.int x1), some (.int x2), some (.int x3)] (v.toList ++ []) S) := pm_blk_to hF (pm_stp 1269 [0, 5, 17, 25, 36, 41]) 29 rfl
set_option maxRecDepth 20000 in
theorem e1269_17 (hF : pm_fix pt_me pt_Sg (pt_R L0 xs) F) {x1 : Int32} {x2 : Int32} {x3 : Int32} {s0 : Int32} : F 1269 17 [some (.ref 49), some (.int x1), some (.int x2), some (.int x3)] [.int s0] (81, pt_G, I, L) =
    if s0 = 0 then
      some (some (.int (-1)), (81, pt_G, I, L))
    else
      pm_k (F 1246 0 [some (.ref 49), some (.int x3)] [] (81, pt_G, I, L)) (fun v S => F 1269 25 [some (.ref 49), some (.int x1), some (.int x2), some (.int x3)] (v.toList ++ []) S) := pm_blk_to hF (pm_stp 1269 [0, 5, 17, 25, 36, 41]) 29 rfl
set_option maxRecDepth 20000 in
theorem e1269_25 (hF : pm_fix pt_me pt_Sg (pt_R L0 xs) F) {x1 : Int32} {x2 : Int32} {x3 : Int32} {s0 : Int32} : F 1269 25 [some (.ref 49), some (.int x1), some (.int x2), some (.int x3)] [.int s0] (81, pt_G, I, L) =
    if s0 = 0 then
      some (some (.int (-1)), (81, pt_G, I, L))
    else
      pm_k (F 1266 0 [some (.ref 49), some (.int x1), some (.int x2), none, none, none] [] (81, pt_G, I, L)) (fun v S => F 1269 36 [some (.ref 49), some (.int x1), some (.int x2), some (.int x3)] (v.toList ++ []) S) := pm_blk_to hF (pm_stp 1269 [0, 5, 17, 25, 36, 41]) 29 rfl
set_option maxRecDepth 20000 in
theorem e1269_36 (hF : pm_fix pt_me pt_Sg (pt_R L0 xs) F) {x1 : Int32} {x2 : Int32} {x3 : Int32} : F 1269 36 [some (.ref 49), some (.int x1), some (.int x2), some (.int x3)] [] (81, pt_G, I, L) =
    pm_k (F 1267 0 [some (.ref 49), some (.int x3), none, none] [] (81, pt_G, I, L)) (fun v S => F 1269 41 [some (.ref 49), some (.int x1), some (.int x2), some (.int x3)] (v.toList ++ []) S) := pm_blk_to hF (pm_stp 1269 [0, 5, 17, 25, 36, 41]) 29 rfl
set_option maxRecDepth 20000 in
theorem e1269_41 (hF : pm_fix pt_me pt_Sg (pt_R L0 xs) F) {x1 : Int32} {x2 : Int32} {x3 : Int32} {s0 : Int32} : F 1269 41 [some (.ref 49), some (.int x1), some (.int x2), some (.int x3)] [.int s0] (81, pt_G, I, L) =
    some (some (.int s0), (81, pt_G, I, L)) := pm_blk_to hF (pm_stp 1269 [0, 5, 17, 25, 36, 41]) 29 rfl
end
