/-! ===== printed by gen/qeqs.py: what the law's and the library's methods do between cuts ===== -/
section
variable {O : qm_O} {F : qm_F} {J L0 : Nat} {xs : List Int32} {S : qm_S}
-- TurnCabinetLaw.office(LTurnCabinet;LTurnCabinetLaw$World;)Z 0 1
set_option maxRecDepth 20000 in
theorem q7_0 (hF : qm_fix O qt_me qt_qs (qt_C L0 xs) J F) {a0 : Nat} {a1 : Nat} : F 7 0 [some (.inr (0, a0)), some (.inr (1, a1)), none, none, none] [] S =
    qm_o O J 138 [.inr (0, a0), .inl (-1)] S (fun v S => F 7 5 [some (.inr (0, a0)), some (.inr (1, a1)), none, none, none] (v.toList ++ []) S) := qm_blk_to hF (pm_stp 7 [0, 5, 8, 21]) 39 rfl
set_option maxRecDepth 20000 in
theorem q7_5 (hF : qm_fix O qt_me qt_qs (qt_C L0 xs) J F) {a0 : Nat} {a1 : Nat} {s0 : Int32} : F 7 5 [some (.inr (0, a0)), some (.inr (1, a1)), none, none, none] [.inl s0] S =
    F 7 8 [some (.inr (0, a0)), some (.inr (1, a1)), some (.inl s0), some (.inl 0), none] [] S := qm_blk_to hF (pm_stp 7 [0, 5, 8, 21]) 39 rfl
set_option maxRecDepth 20000 in
theorem q7_8 (hF : qm_fix O qt_me qt_qs (qt_C L0 xs) J F) {a0 : Nat} {a1 : Nat} {x2 : Int32} {x3 : Int32} : F 7 8 [some (.inr (0, a0)), some (.inr (1, a1)), some (.inl x2), some (.inl x3), none] [] S =
    if x3 < (qr_i S 1 a1 1) then
      qm_o O J 138 [.inr (0, a0), .inl x3] S (fun v S => F 7 21 [some (.inr (0, a0)), some (.inr (1, a1)), some (.inl x2), some (.inl x3), none] (v.toList ++ []) S)
    else
      some (some (.inl 1), S) := qm_blk_to hF (pm_stp 7 [0, 5, 8, 21]) 39 rfl
set_option maxRecDepth 20000 in
theorem q7_21 (hF : qm_fix O qt_me qt_qs (qt_C L0 xs) J F) {a0 : Nat} {a1 : Nat} {x2 : Int32} {x3 : Int32} {s0 : Int32} : F 7 21 [some (.inr (0, a0)), some (.inr (1, a1)), some (.inl x2), some (.inl x3), none] [.inl s0] S =
    if x2 = 0 then
      if s0 = (-1) then
        F 7 8 [some (.inr (0, a0)), some (.inr (1, a1)), some (.inl x2), some (.inl (x3 + 1)), none] [] S
      else
        some (some (.inl 0), S)
    else
      if s0 < 0 then
        some (some (.inl 0), S)
      else
        if (((x2 : Int32) >>> (s0 &&& 31)) &&& 1) = 0 then
          some (some (.inl 0), S)
        else
          F 7 8 [some (.inr (0, a0)), some (.inr (1, a1)), some (.inl x2), some (.inl (x3 + 1)), none] [] S := qm_blk_to hF (pm_stp 7 [0, 5, 8, 21]) 39 rfl
-- TurnCabinetLaw.law([I)Z 2
set_option maxRecDepth 20000 in
theorem q6_0 (hF : qm_fix O qt_me qt_qs (qt_C L0 xs) J F) {a0 : Nat} : F 6 0 [some (.inr (2, a0)), none, none, none, none, none, none, none, none] [] S =
    qm_k (F 1202 0 [some (.inr (1, S.1)), some (.inr (2, a0)), none, none, none, none, none, none, none, none] [] (qm_mk S 1 17)) (fun v S => F 6 8 [some (.inr (2, a0)), none, none, none, none, none, none, none, none] (v.toList ++ [.inr (1, S.1)]) S) := qm_blk_to hF (pm_stp 6 [0, 8, 16, 22, 32, 40, 52, 59, 73, 80, 91, 109, 124, 146, 184, 193, 209, 218, 254, 287, 310, 320, 337, 346, 364, 369, 401, 410, 420, 431]) 225 rfl
set_option maxRecDepth 20000 in
theorem q6_8 (hF : qm_fix O qt_me qt_qs (qt_C L0 xs) J F) {a0 : Nat} {b0 : Nat} : F 6 8 [some (.inr (2, a0)), none, none, none, none, none, none, none, none] [.inr (1, b0)] S =
    bif (Nat.beq S.1 (1001 + J) && Nat.beq S.2.2.2.2.2.2.1 0) then
      qm_o O J 101 [.inr (0, 6)] (qu_o S) (fun v S => F 6 16 [some (.inr (2, a0)), some (.inr (1, b0)), none, none, none, none, none, none, none] (v.toList ++ [.inr (0, 6)]) S)
    else none := qm_blk_to hF (pm_stp 6 [0, 8, 16, 22, 32, 40, 52, 59, 73, 80, 91, 109, 124, 146, 184, 193, 209, 218, 254, 287, 310, 320, 337, 346, 364, 369, 401, 410, 420, 431]) 225 rfl
set_option maxRecDepth 20000 in
theorem q6_16 (hF : qm_fix O qt_me qt_qs (qt_C L0 xs) J F) {a0 : Nat} {a1 : Nat} {b0 : Nat} : F 6 16 [some (.inr (2, a0)), some (.inr (1, a1)), none, none, none, none, none, none, none] [.inr (0, b0)] S =
    qm_o O J 121 [.inr (0, b0), .inl 1] S (fun v S => F 6 22 [some (.inr (2, a0)), some (.inr (1, a1)), some (.inr (0, b0)), none, none, none, none, none, none] (v.toList ++ []) S) := qm_blk_to hF (pm_stp 6 [0, 8, 16, 22, 32, 40, 52, 59, 73, 80, 91, 109, 124, 146, 184, 193, 209, 218, 254, 287, 310, 320, 337, 346, 364, 369, 401, 410, 420, 431]) 225 rfl
set_option maxRecDepth 20000 in
theorem q6_22 (hF : qm_fix O qt_me qt_qs (qt_C L0 xs) J F) {a0 : Nat} {a1 : Nat} {a2 : Nat} {s0 : Int32} : F 6 22 [some (.inr (2, a0)), some (.inr (1, a1)), some (.inr (0, a2)), none, none, none, none, none, none] [.inl s0] S =
    if s0 = (-1) then
      qm_o O J 137 [.inr (0, a2), .inl 1, .inl 0] S (fun v S => F 6 32 [some (.inr (2, a0)), some (.inr (1, a1)), some (.inr (0, a2)), none, none, none, none, none, none] (v.toList ++ []) S)
    else
      some (some (.inl 0), S) := qm_blk_to hF (pm_stp 6 [0, 8, 16, 22, 32, 40, 52, 59, 73, 80, 91, 109, 124, 146, 184, 193, 209, 218, 254, 287, 310, 320, 337, 346, 364, 369, 401, 410, 420, 431]) 225 rfl
set_option maxRecDepth 20000 in
theorem q6_32 (hF : qm_fix O qt_me qt_qs (qt_C L0 xs) J F) {a0 : Nat} {a1 : Nat} {a2 : Nat} {s0 : Int32} : F 6 32 [some (.inr (2, a0)), some (.inr (1, a1)), some (.inr (0, a2)), none, none, none, none, none, none] [.inl s0] S =
    if s0 = (-1) then
      qm_o O J 145 [.inr (0, a2)] S (fun v S => F 6 40 [some (.inr (2, a0)), some (.inr (1, a1)), some (.inr (0, a2)), none, none, none, none, none, none] (v.toList ++ []) S)
    else
      some (some (.inl 0), S) := qm_blk_to hF (pm_stp 6 [0, 8, 16, 22, 32, 40, 52, 59, 73, 80, 91, 109, 124, 146, 184, 193, 209, 218, 254, 287, 310, 320, 337, 346, 364, 369, 401, 410, 420, 431]) 225 rfl
set_option maxRecDepth 20000 in
theorem q6_40 (hF : qm_fix O qt_me qt_qs (qt_C L0 xs) J F) {a0 : Nat} {a1 : Nat} {a2 : Nat} {s0 : Int32} : F 6 40 [some (.inr (2, a0)), some (.inr (1, a1)), some (.inr (0, a2)), none, none, none, none, none, none] [.inl s0] S =
    if s0 = (-1) then
      bif Nat.blt 0 (qr_g S 1 a1 14) then
        qm_k (F 4 0 [some (.inr (0, a2)), some (.inr (13, (qr_g S 1 a1 14))), none, none, none, none] [] S) (fun v S => F 6 52 [some (.inr (2, a0)), some (.inr (1, a1)), some (.inr (0, a2)), none, none, none, none, none, none] (v.toList ++ []) S)
      else none
    else
      some (some (.inl 0), S) := qm_blk_to hF (pm_stp 6 [0, 8, 16, 22, 32, 40, 52, 59, 73, 80, 91, 109, 124, 146, 184, 193, 209, 218, 254, 287, 310, 320, 337, 346, 364, 369, 401, 410, 420, 431]) 225 rfl
set_option maxRecDepth 20000 in
theorem q6_52 (hF : qm_fix O qt_me qt_qs (qt_C L0 xs) J F) {a0 : Nat} {a1 : Nat} {a2 : Nat} {s0 : Int32} : F 6 52 [some (.inr (2, a0)), some (.inr (1, a1)), some (.inr (0, a2)), none, none, none, none, none, none] [.inl s0] S =
    if s0 = 0 then
      some (some (.inl 0), S)
    else
      qm_o O J 104 [.inr (0, a2)] S (fun v S => F 6 59 [some (.inr (2, a0)), some (.inr (1, a1)), some (.inr (0, a2)), none, none, none, none, none, none] (v.toList ++ []) S) := qm_blk_to hF (pm_stp 6 [0, 8, 16, 22, 32, 40, 52, 59, 73, 80, 91, 109, 124, 146, 184, 193, 209, 218, 254, 287, 310, 320, 337, 346, 364, 369, 401, 410, 420, 431]) 225 rfl
set_option maxRecDepth 20000 in
theorem q6_59 (hF : qm_fix O qt_me qt_qs (qt_C L0 xs) J F) {a0 : Nat} {a1 : Nat} {a2 : Nat} {s0 : Int32} : F 6 59 [some (.inr (2, a0)), some (.inr (1, a1)), some (.inr (0, a2)), none, none, none, none, none, none] [.inl s0] S =
    if s0 = (qr_i S 1 a1 0) then
      qm_k (F 5 0 [some (.inr (0, a2)), some (.inr (1, a1)), none, none, none] [] S) (fun v S => F 6 73 [some (.inr (2, a0)), some (.inr (1, a1)), some (.inr (0, a2)), none, none, none, none, none, none] (v.toList ++ []) S)
    else
      some (some (.inl 0), S) := qm_blk_to hF (pm_stp 6 [0, 8, 16, 22, 32, 40, 52, 59, 73, 80, 91, 109, 124, 146, 184, 193, 209, 218, 254, 287, 310, 320, 337, 346, 364, 369, 401, 410, 420, 431]) 225 rfl
set_option maxRecDepth 20000 in
theorem q6_73 (hF : qm_fix O qt_me qt_qs (qt_C L0 xs) J F) {a0 : Nat} {a1 : Nat} {a2 : Nat} {b0 : Nat} : F 6 73 [some (.inr (2, a0)), some (.inr (1, a1)), some (.inr (0, a2)), none, none, none, none, none, none] [.inr (22, b0)] S =
    F 6 80 [some (.inr (2, a0)), some (.inr (1, a1)), some (.inr (0, a2)), some (.inr (22, b0)), some (.inl 0), some (.inl 0), none, none, none] [] S := qm_blk_to hF (pm_stp 6 [0, 8, 16, 22, 32, 40, 52, 59, 73, 80, 91, 109, 124, 146, 184, 193, 209, 218, 254, 287, 310, 320, 337, 346, 364, 369, 401, 410, 420, 431]) 225 rfl
set_option maxRecDepth 20000 in
theorem q6_80 (hF : qm_fix O qt_me qt_qs (qt_C L0 xs) J F) {a0 : Nat} {a1 : Nat} {a2 : Nat} {a3 : Nat} {x4 : Int32} {x5 : Int32} : F 6 80 [some (.inr (2, a0)), some (.inr (1, a1)), some (.inr (0, a2)), some (.inr (22, a3)), some (.inl x4), some (.inl x5), none, none, none] [] S =
    if x5 < 5 then
      qm_k (F 8 0 [some (.inr (0, a2)), some (.inr (1, a1)), none, none, none, none, none, none, none, none] [] S) (fun v S => F 6 91 [some (.inr (2, a0)), some (.inr (1, a1)), some (.inr (0, a2)), some (.inr (22, a3)), some (.inl x4), some (.inl x5), none, none, none] (v.toList ++ []) S)
    else
      F 6 337 [some (.inr (2, a0)), some (.inr (1, a1)), some (.inr (0, a2)), some (.inr (22, a3)), some (.inl x4), some (.inl (x4 - 1)), none, none, none] [] S := qm_blk_to hF (pm_stp 6 [0, 8, 16, 22, 32, 40, 52, 59, 73, 80, 91, 109, 124, 146, 184, 193, 209, 218, 254, 287, 310, 320, 337, 346, 364, 369, 401, 410, 420, 431]) 225 rfl
set_option maxRecDepth 20000 in
theorem q6_91 (hF : qm_fix O qt_me qt_qs (qt_C L0 xs) J F) {a0 : Nat} {a1 : Nat} {a2 : Nat} {a3 : Nat} {x4 : Int32} {x5 : Int32} {s0 : Int32} : F 6 91 [some (.inr (2, a0)), some (.inr (1, a1)), some (.inr (0, a2)), some (.inr (22, a3)), some (.inl x4), some (.inl x5), none, none, none] [.inl s0] S =
    if s0 = 0 then
      some (some (.inl 0), S)
    else
      qm_k (F 3 0 [some (.inr (2, a0)), some (.inl (300 + x5)), some (.inl 1000)] [] S) (fun v S => F 6 109 [some (.inr (2, a0)), some (.inr (1, a1)), some (.inr (0, a2)), some (.inr (22, a3)), some (.inl x4), some (.inl x5), none, none, none] (v.toList ++ []) S) := qm_blk_to hF (pm_stp 6 [0, 8, 16, 22, 32, 40, 52, 59, 73, 80, 91, 109, 124, 146, 184, 193, 209, 218, 254, 287, 310, 320, 337, 346, 364, 369, 401, 410, 420, 431]) 225 rfl
set_option maxRecDepth 20000 in
theorem q6_109 (hF : qm_fix O qt_me qt_qs (qt_C L0 xs) J F) {a0 : Nat} {a1 : Nat} {a2 : Nat} {a3 : Nat} {x4 : Int32} {x5 : Int32} {s0 : Int32} : F 6 109 [some (.inr (2, a0)), some (.inr (1, a1)), some (.inr (0, a2)), some (.inr (22, a3)), some (.inl x4), some (.inl x5), none, none, none] [.inl s0] S =
    qm_k (F 3 0 [some (.inr (2, a0)), some (.inl (310 + x5)), some (.inl 1000)] [] S) (fun v S => F 6 124 [some (.inr (2, a0)), some (.inr (1, a1)), some (.inr (0, a2)), some (.inr (22, a3)), some (.inl x4), some (.inl x5), some (.inl s0), none, none] (v.toList ++ []) S) := qm_blk_to hF (pm_stp 6 [0, 8, 16, 22, 32, 40, 52, 59, 73, 80, 91, 109, 124, 146, 184, 193, 209, 218, 254, 287, 310, 320, 337, 346, 364, 369, 401, 410, 420, 431]) 225 rfl
set_option maxRecDepth 20000 in
theorem q6_124 (hF : qm_fix O qt_me qt_qs (qt_C L0 xs) J F) {a0 : Nat} {a1 : Nat} {a2 : Nat} {a3 : Nat} {x4 : Int32} {x5 : Int32} {x6 : Int32} {s0 : Int32} : F 6 124 [some (.inr (2, a0)), some (.inr (1, a1)), some (.inr (0, a2)), some (.inr (22, a3)), some (.inl x4), some (.inl x5), some (.inl x6), none, none] [.inl s0] S =
    if x5 = 0 then
      F 6 146 [some (.inr (2, a0)), some (.inr (1, a1)), some (.inr (0, a2)), some (.inr (22, a3)), some (.inl x4), some (.inl x5), some (.inl x6), some (.inl s0), none] [.inl 0] S
    else
      qm_k (F 3 0 [some (.inr (2, a0)), some (.inl (320 + x5)), some (.inl 5)] [] S) (fun v S => F 6 146 [some (.inr (2, a0)), some (.inr (1, a1)), some (.inr (0, a2)), some (.inr (22, a3)), some (.inl x4), some (.inl x5), some (.inl x6), some (.inl s0), none] (v.toList ++ []) S) := qm_blk_to hF (pm_stp 6 [0, 8, 16, 22, 32, 40, 52, 59, 73, 80, 91, 109, 124, 146, 184, 193, 209, 218, 254, 287, 310, 320, 337, 346, 364, 369, 401, 410, 420, 431]) 225 rfl
set_option maxRecDepth 20000 in
theorem q6_146 (hF : qm_fix O qt_me qt_qs (qt_C L0 xs) J F) {a0 : Nat} {a1 : Nat} {a2 : Nat} {a3 : Nat} {x4 : Int32} {x5 : Int32} {x6 : Int32} {x7 : Int32} {s0 : Int32} : F 6 146 [some (.inr (2, a0)), some (.inr (1, a1)), some (.inr (0, a2)), some (.inr (22, a3)), some (.inl x4), some (.inl x5), some (.inl x6), some (.inl x7), none] [.inl s0] S =
    if s0 = nI 0 then
      qm_k (F 1203 0 [some (.inr (1, a1))] [] S) (fun v S => F 6 184 [some (.inr (2, a0)), some (.inr (1, a1)), some (.inr (0, a2)), some (.inr (22, a3)), some (.inl x4), some (.inl x5), some (.inl x6), some (.inl x7), none] (v.toList ++ [.inl x6, .inl 1, .inr (0, a2)]) S)
    else
    if s0 = nI 1 then
      bif !(decide ((qr_i S 1 a1 0) = 0)) then
        qm_o O J 139 [.inr (0, a2), .inl (x6 - x6 / (qr_i S 1 a1 0) * (qr_i S 1 a1 0))] S (fun v S => F 6 209 [some (.inr (2, a0)), some (.inr (1, a1)), some (.inr (0, a2)), some (.inr (22, a3)), some (.inl x4), some (.inl x5), some (.inl x6), some (.inl x7), none] (v.toList ++ []) S)
      else none
    else
    if s0 = nI 2 then
      qm_o O J 141 [.inr (0, a2)] S (fun v S => F 6 218 [some (.inr (2, a0)), some (.inr (1, a1)), some (.inr (0, a2)), some (.inr (22, a3)), some (.inl x4), some (.inl x5), some (.inl x6), some (.inl x7), none] (v.toList ++ []) S)
    else
    if s0 = nI 3 then
      if (qr_i S 1 a1 1) = 0 then
        if ((-1) : Int32) < 0 then
          qm_o O J 108 [.inr (0, a2), .inl 7] S (fun v S => F 6 310 [some (.inr (2, a0)), some (.inr (1, a1)), some (.inr (0, a2)), some (.inr (22, a3)), some (.inl (x4 + 0)), some (.inl x5), some (.inl x6), some (.inl x7), some (.inl (-1))] (v.toList ++ []) S)
        else
          qm_o O J 108 [.inr (0, a2), .inl 7] S (fun v S => F 6 310 [some (.inr (2, a0)), some (.inr (1, a1)), some (.inr (0, a2)), some (.inr (22, a3)), some (.inl (x4 + 1)), some (.inl x5), some (.inl x6), some (.inl x7), some (.inl (-1))] (v.toList ++ []) S)
      else
        bif !(decide ((qr_i S 1 a1 1) = 0)) then
          bif !(decide ((qr_i S 1 a1 1) = 0)) then
            qm_o O J 142 [.inr (0, a2), .inl (x6 - x6 / (qr_i S 1 a1 1) * (qr_i S 1 a1 1)), .inl (x7 - x7 / (qr_i S 1 a1 1) * (qr_i S 1 a1 1))] S (fun v S => F 6 254 [some (.inr (2, a0)), some (.inr (1, a1)), some (.inr (0, a2)), some (.inr (22, a3)), some (.inl x4), some (.inl x5), some (.inl x6), some (.inl x7), none] (v.toList ++ []) S)
          else none
        else none
    else
    bif !(decide ((qr_i S 1 a1 0) = 0)) then
      qm_o O J 143 [.inr (0, a2), .inl (x6 - x6 / (qr_i S 1 a1 0) * (qr_i S 1 a1 0)), .inl (1 + (x7 - x7 / 50 * 50))] S (fun v S => F 6 287 [some (.inr (2, a0)), some (.inr (1, a1)), some (.inr (0, a2)), some (.inr (22, a3)), some (.inl x4), some (.inl x5), some (.inl x6), some (.inl x7), none] (v.toList ++ []) S)
    else none := qm_blk_to hF (pm_stp 6 [0, 8, 16, 22, 32, 40, 52, 59, 73, 80, 91, 109, 124, 146, 184, 193, 209, 218, 254, 287, 310, 320, 337, 346, 364, 369, 401, 410, 420, 431]) 225 rfl
set_option maxRecDepth 20000 in
theorem q6_184 (hF : qm_fix O qt_me qt_qs (qt_C L0 xs) J F) {a0 : Nat} {a1 : Nat} {a2 : Nat} {a3 : Nat} {x4 : Int32} {x5 : Int32} {x6 : Int32} {x7 : Int32} {s0 : Int32} {s1 : Int32} {s2 : Int32} {b3 : Nat} : F 6 184 [some (.inr (2, a0)), some (.inr (1, a1)), some (.inr (0, a2)), some (.inr (22, a3)), some (.inl x4), some (.inl x5), some (.inl x6), some (.inl x7), none] [.inl s0, .inl s1, .inl s2, .inr (0, b3)] S =
    bif !(decide (s0 = 0)) then
      qm_o O J 137 [.inr (0, b3), .inl (s2 + (s1 - s1 / s0 * s0)), .inl (x7 - x7 / 3 * 3)] S (fun v S => F 6 193 [some (.inr (2, a0)), some (.inr (1, a1)), some (.inr (0, a2)), some (.inr (22, a3)), some (.inl x4), some (.inl x5), some (.inl x6), some (.inl x7), none] (v.toList ++ []) S)
    else none := qm_blk_to hF (pm_stp 6 [0, 8, 16, 22, 32, 40, 52, 59, 73, 80, 91, 109, 124, 146, 184, 193, 209, 218, 254, 287, 310, 320, 337, 346, 364, 369, 401, 410, 420, 431]) 225 rfl
set_option maxRecDepth 20000 in
theorem q6_193 (hF : qm_fix O qt_me qt_qs (qt_C L0 xs) J F) {a0 : Nat} {a1 : Nat} {a2 : Nat} {a3 : Nat} {x4 : Int32} {x5 : Int32} {x6 : Int32} {x7 : Int32} {s0 : Int32} : F 6 193 [some (.inr (2, a0)), some (.inr (1, a1)), some (.inr (0, a2)), some (.inr (22, a3)), some (.inl x4), some (.inl x5), some (.inl x6), some (.inl x7), none] [.inl s0] S =
    if s0 < 0 then
      qm_o O J 108 [.inr (0, a2), .inl 7] S (fun v S => F 6 310 [some (.inr (2, a0)), some (.inr (1, a1)), some (.inr (0, a2)), some (.inr (22, a3)), some (.inl (x4 + 0)), some (.inl x5), some (.inl x6), some (.inl x7), some (.inl s0)] (v.toList ++ []) S)
    else
      qm_o O J 108 [.inr (0, a2), .inl 7] S (fun v S => F 6 310 [some (.inr (2, a0)), some (.inr (1, a1)), some (.inr (0, a2)), some (.inr (22, a3)), some (.inl (x4 + 1)), some (.inl x5), some (.inl x6), some (.inl x7), some (.inl s0)] (v.toList ++ []) S) := qm_blk_to hF (pm_stp 6 [0, 8, 16, 22, 32, 40, 52, 59, 73, 80, 91, 109, 124, 146, 184, 193, 209, 218, 254, 287, 310, 320, 337, 346, 364, 369, 401, 410, 420, 431]) 225 rfl
set_option maxRecDepth 20000 in
theorem q6_209 (hF : qm_fix O qt_me qt_qs (qt_C L0 xs) J F) {a0 : Nat} {a1 : Nat} {a2 : Nat} {a3 : Nat} {x4 : Int32} {x5 : Int32} {x6 : Int32} {x7 : Int32} {s0 : Int32} : F 6 209 [some (.inr (2, a0)), some (.inr (1, a1)), some (.inr (0, a2)), some (.inr (22, a3)), some (.inl x4), some (.inl x5), some (.inl x6), some (.inl x7), none] [.inl s0] S =
    if s0 < 0 then
      qm_o O J 108 [.inr (0, a2), .inl 7] S (fun v S => F 6 310 [some (.inr (2, a0)), some (.inr (1, a1)), some (.inr (0, a2)), some (.inr (22, a3)), some (.inl (x4 + 0)), some (.inl x5), some (.inl x6), some (.inl x7), some (.inl s0)] (v.toList ++ []) S)
    else
      qm_o O J 108 [.inr (0, a2), .inl 7] S (fun v S => F 6 310 [some (.inr (2, a0)), some (.inr (1, a1)), some (.inr (0, a2)), some (.inr (22, a3)), some (.inl (x4 + 1)), some (.inl x5), some (.inl x6), some (.inl x7), some (.inl s0)] (v.toList ++ []) S) := qm_blk_to hF (pm_stp 6 [0, 8, 16, 22, 32, 40, 52, 59, 73, 80, 91, 109, 124, 146, 184, 193, 209, 218, 254, 287, 310, 320, 337, 346, 364, 369, 401, 410, 420, 431]) 225 rfl
set_option maxRecDepth 20000 in
theorem q6_218 (hF : qm_fix O qt_me qt_qs (qt_C L0 xs) J F) {a0 : Nat} {a1 : Nat} {a2 : Nat} {a3 : Nat} {x4 : Int32} {x5 : Int32} {x6 : Int32} {x7 : Int32} {s0 : Int32} : F 6 218 [some (.inr (2, a0)), some (.inr (1, a1)), some (.inr (0, a2)), some (.inr (22, a3)), some (.inl x4), some (.inl x5), some (.inl x6), some (.inl x7), none] [.inl s0] S =
    if (s0 - 1) < 0 then
      qm_o O J 108 [.inr (0, a2), .inl 7] S (fun v S => F 6 310 [some (.inr (2, a0)), some (.inr (1, a1)), some (.inr (0, a2)), some (.inr (22, a3)), some (.inl (x4 + 0)), some (.inl x5), some (.inl x6), some (.inl x7), some (.inl (s0 - 1))] (v.toList ++ []) S)
    else
      qm_o O J 108 [.inr (0, a2), .inl 7] S (fun v S => F 6 310 [some (.inr (2, a0)), some (.inr (1, a1)), some (.inr (0, a2)), some (.inr (22, a3)), some (.inl (x4 + 1)), some (.inl x5), some (.inl x6), some (.inl x7), some (.inl (s0 - 1))] (v.toList ++ []) S) := qm_blk_to hF (pm_stp 6 [0, 8, 16, 22, 32, 40, 52, 59, 73, 80, 91, 109, 124, 146, 184, 193, 209, 218, 254, 287, 310, 320, 337, 346, 364, 369, 401, 410, 420, 431]) 225 rfl
set_option maxRecDepth 20000 in
theorem q6_254 (hF : qm_fix O qt_me qt_qs (qt_C L0 xs) J F) {a0 : Nat} {a1 : Nat} {a2 : Nat} {a3 : Nat} {x4 : Int32} {x5 : Int32} {x6 : Int32} {x7 : Int32} {s0 : Int32} : F 6 254 [some (.inr (2, a0)), some (.inr (1, a1)), some (.inr (0, a2)), some (.inr (22, a3)), some (.inl x4), some (.inl x5), some (.inl x6), some (.inl x7), none] [.inl s0] S =
    if s0 = (-1000000) then
      if ((-1) : Int32) < 0 then
        qm_o O J 108 [.inr (0, a2), .inl 7] S (fun v S => F 6 310 [some (.inr (2, a0)), some (.inr (1, a1)), some (.inr (0, a2)), some (.inr (22, a3)), some (.inl (x4 + 0)), some (.inl x5), some (.inl x6), some (.inl x7), some (.inl (-1))] (v.toList ++ []) S)
      else
        qm_o O J 108 [.inr (0, a2), .inl 7] S (fun v S => F 6 310 [some (.inr (2, a0)), some (.inr (1, a1)), some (.inr (0, a2)), some (.inr (22, a3)), some (.inl (x4 + 1)), some (.inl x5), some (.inl x6), some (.inl x7), some (.inl (-1))] (v.toList ++ []) S)
    else
      if (0 : Int32) < 0 then
        qm_o O J 108 [.inr (0, a2), .inl 7] S (fun v S => F 6 310 [some (.inr (2, a0)), some (.inr (1, a1)), some (.inr (0, a2)), some (.inr (22, a3)), some (.inl (x4 + 0)), some (.inl x5), some (.inl x6), some (.inl x7), some (.inl 0)] (v.toList ++ []) S)
      else
        qm_o O J 108 [.inr (0, a2), .inl 7] S (fun v S => F 6 310 [some (.inr (2, a0)), some (.inr (1, a1)), some (.inr (0, a2)), some (.inr (22, a3)), some (.inl (x4 + 1)), some (.inl x5), some (.inl x6), some (.inl x7), some (.inl 0)] (v.toList ++ []) S) := qm_blk_to hF (pm_stp 6 [0, 8, 16, 22, 32, 40, 52, 59, 73, 80, 91, 109, 124, 146, 184, 193, 209, 218, 254, 287, 310, 320, 337, 346, 364, 369, 401, 410, 420, 431]) 225 rfl
set_option maxRecDepth 20000 in
theorem q6_287 (hF : qm_fix O qt_me qt_qs (qt_C L0 xs) J F) {a0 : Nat} {a1 : Nat} {a2 : Nat} {a3 : Nat} {x4 : Int32} {x5 : Int32} {x6 : Int32} {x7 : Int32} {s0 : Int32} : F 6 287 [some (.inr (2, a0)), some (.inr (1, a1)), some (.inr (0, a2)), some (.inr (22, a3)), some (.inl x4), some (.inl x5), some (.inl x6), some (.inl x7), none] [.inl s0] S =
    if s0 < 0 then
      qm_o O J 108 [.inr (0, a2), .inl 7] S (fun v S => F 6 310 [some (.inr (2, a0)), some (.inr (1, a1)), some (.inr (0, a2)), some (.inr (22, a3)), some (.inl (x4 + 0)), some (.inl x5), some (.inl x6), some (.inl x7), some (.inl s0)] (v.toList ++ []) S)
    else
      qm_o O J 108 [.inr (0, a2), .inl 7] S (fun v S => F 6 310 [some (.inr (2, a0)), some (.inr (1, a1)), some (.inr (0, a2)), some (.inr (22, a3)), some (.inl (x4 + 1)), some (.inl x5), some (.inl x6), some (.inl x7), some (.inl s0)] (v.toList ++ []) S) := qm_blk_to hF (pm_stp 6 [0, 8, 16, 22, 32, 40, 52, 59, 73, 80, 91, 109, 124, 146, 184, 193, 209, 218, 254, 287, 310, 320, 337, 346, 364, 369, 401, 410, 420, 431]) 225 rfl
set_option maxRecDepth 20000 in
theorem q6_310 (hF : qm_fix O qt_me qt_qs (qt_C L0 xs) J F) {a0 : Nat} {a1 : Nat} {a2 : Nat} {a3 : Nat} {x4 : Int32} {x5 : Int32} {x6 : Int32} {x7 : Int32} {x8 : Int32} {s0 : Int32} : F 6 310 [some (.inr (2, a0)), some (.inr (1, a1)), some (.inr (0, a2)), some (.inr (22, a3)), some (.inl x4), some (.inl x5), some (.inl x6), some (.inl x7), some (.inl x8)] [.inl s0] S =
    if s0 = x4 then
      qm_k (F 7 0 [some (.inr (0, a2)), some (.inr (1, a1)), none, none, none] [] S) (fun v S => F 6 320 [some (.inr (2, a0)), some (.inr (1, a1)), some (.inr (0, a2)), some (.inr (22, a3)), some (.inl x4), some (.inl x5), some (.inl x6), some (.inl x7), some (.inl x8)] (v.toList ++ []) S)
    else
      some (some (.inl 0), S) := qm_blk_to hF (pm_stp 6 [0, 8, 16, 22, 32, 40, 52, 59, 73, 80, 91, 109, 124, 146, 184, 193, 209, 218, 254, 287, 310, 320, 337, 346, 364, 369, 401, 410, 420, 431]) 225 rfl
set_option maxRecDepth 20000 in
theorem q6_320 (hF : qm_fix O qt_me qt_qs (qt_C L0 xs) J F) {a0 : Nat} {a1 : Nat} {a2 : Nat} {a3 : Nat} {x4 : Int32} {x5 : Int32} {x6 : Int32} {x7 : Int32} {x8 : Int32} {s0 : Int32} : F 6 320 [some (.inr (2, a0)), some (.inr (1, a1)), some (.inr (0, a2)), some (.inr (22, a3)), some (.inl x4), some (.inl x5), some (.inl x6), some (.inl x7), some (.inl x8)] [.inl s0] S =
    if s0 = 0 then
      some (some (.inl 0), S)
    else
      F 6 80 [some (.inr (2, a0)), some (.inr (1, a1)), some (.inr (0, a2)), some (.inr (22, a3)), some (.inl x4), some (.inl (x5 + 1)), none, none, none] [] S := qm_blk_to hF (pm_stp 6 [0, 8, 16, 22, 32, 40, 52, 59, 73, 80, 91, 109, 124, 146, 184, 193, 209, 218, 254, 287, 310, 320, 337, 346, 364, 369, 401, 410, 420, 431]) 225 rfl
set_option maxRecDepth 20000 in
theorem q6_337 (hF : qm_fix O qt_me qt_qs (qt_C L0 xs) J F) {a0 : Nat} {a1 : Nat} {a2 : Nat} {a3 : Nat} {x4 : Int32} {x5 : Int32} : F 6 337 [some (.inr (2, a0)), some (.inr (1, a1)), some (.inr (0, a2)), some (.inr (22, a3)), some (.inl x4), some (.inl x5), none, none, none] [] S =
    if x5 < 0 then
      qm_k (F 5 0 [some (.inr (0, a2)), some (.inr (1, a1)), none, none, none] [] S) (fun v S => F 6 364 [some (.inr (2, a0)), some (.inr (1, a1)), some (.inr (0, a2)), some (.inr (22, a3)), some (.inl x4), some (.inl x5), none, none, none] (v.toList ++ []) S)
    else
      qm_o O J 145 [.inr (0, a2)] S (fun v S => F 6 346 [some (.inr (2, a0)), some (.inr (1, a1)), some (.inr (0, a2)), some (.inr (22, a3)), some (.inl x4), some (.inl x5), none, none, none] (v.toList ++ []) S) := qm_blk_to hF (pm_stp 6 [0, 8, 16, 22, 32, 40, 52, 59, 73, 80, 91, 109, 124, 146, 184, 193, 209, 218, 254, 287, 310, 320, 337, 346, 364, 369, 401, 410, 420, 431]) 225 rfl
set_option maxRecDepth 20000 in
theorem q6_346 (hF : qm_fix O qt_me qt_qs (qt_C L0 xs) J F) {a0 : Nat} {a1 : Nat} {a2 : Nat} {a3 : Nat} {x4 : Int32} {x5 : Int32} {s0 : Int32} : F 6 346 [some (.inr (2, a0)), some (.inr (1, a1)), some (.inr (0, a2)), some (.inr (22, a3)), some (.inl x4), some (.inl x5), none, none, none] [.inl s0] S =
    if s0 = x5 then
      F 6 337 [some (.inr (2, a0)), some (.inr (1, a1)), some (.inr (0, a2)), some (.inr (22, a3)), some (.inl x4), some (.inl (x5 + (-1))), none, none, none] [] S
    else
      some (some (.inl 0), S) := qm_blk_to hF (pm_stp 6 [0, 8, 16, 22, 32, 40, 52, 59, 73, 80, 91, 109, 124, 146, 184, 193, 209, 218, 254, 287, 310, 320, 337, 346, 364, 369, 401, 410, 420, 431]) 225 rfl
set_option maxRecDepth 20000 in
theorem q6_364 (hF : qm_fix O qt_me qt_qs (qt_C L0 xs) J F) {a0 : Nat} {a1 : Nat} {a2 : Nat} {a3 : Nat} {x4 : Int32} {x5 : Int32} {b0 : Nat} : F 6 364 [some (.inr (2, a0)), some (.inr (1, a1)), some (.inr (0, a2)), some (.inr (22, a3)), some (.inl x4), some (.inl x5), none, none, none] [.inr (22, b0)] S =
    F 6 369 [some (.inr (2, a0)), some (.inr (1, a1)), some (.inr (0, a2)), some (.inr (22, a3)), some (.inl x4), some (.inr (22, b0)), some (.inl 0), none, none] [] S := qm_blk_to hF (pm_stp 6 [0, 8, 16, 22, 32, 40, 52, 59, 73, 80, 91, 109, 124, 146, 184, 193, 209, 218, 254, 287, 310, 320, 337, 346, 364, 369, 401, 410, 420, 431]) 225 rfl
set_option maxRecDepth 20000 in
theorem q6_369 (hF : qm_fix O qt_me qt_qs (qt_C L0 xs) J F) {a0 : Nat} {a1 : Nat} {a2 : Nat} {a3 : Nat} {x4 : Int32} {a5 : Nat} {x6 : Int32} : F 6 369 [some (.inr (2, a0)), some (.inr (1, a1)), some (.inr (0, a2)), some (.inr (22, a3)), some (.inl x4), some (.inr (22, a5)), some (.inl x6), none, none] [] S =
    if x6 < (nI (qr_n S a5)) then
      bif pm_ib x6 (qr_n S a5) then
        bif pm_ib x6 (qr_n S a3) then
          if (qr_i S 22 a5 (Int32.toNatClampNeg x6)) = (qr_i S 22 a3 (Int32.toNatClampNeg x6)) then
            F 6 369 [some (.inr (2, a0)), some (.inr (1, a1)), some (.inr (0, a2)), some (.inr (22, a3)), some (.inl x4), some (.inr (22, a5)), some (.inl (x6 + 1)), none, none] [] S
          else
            some (some (.inl 0), S)
        else none
      else none
    else
      qm_o O J 145 [.inr (0, a2)] S (fun v S => F 6 401 [some (.inr (2, a0)), some (.inr (1, a1)), some (.inr (0, a2)), some (.inr (22, a3)), some (.inl x4), some (.inr (22, a5)), some (.inl x6), none, none] (v.toList ++ []) S) := qm_blk_to hF (pm_stp 6 [0, 8, 16, 22, 32, 40, 52, 59, 73, 80, 91, 109, 124, 146, 184, 193, 209, 218, 254, 287, 310, 320, 337, 346, 364, 369, 401, 410, 420, 431]) 225 rfl
set_option maxRecDepth 20000 in
theorem q6_401 (hF : qm_fix O qt_me qt_qs (qt_C L0 xs) J F) {a0 : Nat} {a1 : Nat} {a2 : Nat} {a3 : Nat} {x4 : Int32} {a5 : Nat} {x6 : Int32} {s0 : Int32} : F 6 401 [some (.inr (2, a0)), some (.inr (1, a1)), some (.inr (0, a2)), some (.inr (22, a3)), some (.inl x4), some (.inr (22, a5)), some (.inl x6), none, none] [.inl s0] S =
    if s0 = (-1) then
      qm_o O J 139 [.inr (0, a2), .inl (-1)] S (fun v S => F 6 410 [some (.inr (2, a0)), some (.inr (1, a1)), some (.inr (0, a2)), some (.inr (22, a3)), some (.inl x4), some (.inr (22, a5)), some (.inl x6), none, none] (v.toList ++ []) S)
    else
      some (some (.inl 0), S) := qm_blk_to hF (pm_stp 6 [0, 8, 16, 22, 32, 40, 52, 59, 73, 80, 91, 109, 124, 146, 184, 193, 209, 218, 254, 287, 310, 320, 337, 346, 364, 369, 401, 410, 420, 431]) 225 rfl
set_option maxRecDepth 20000 in
theorem q6_410 (hF : qm_fix O qt_me qt_qs (qt_C L0 xs) J F) {a0 : Nat} {a1 : Nat} {a2 : Nat} {a3 : Nat} {x4 : Int32} {a5 : Nat} {x6 : Int32} {s0 : Int32} : F 6 410 [some (.inr (2, a0)), some (.inr (1, a1)), some (.inr (0, a2)), some (.inr (22, a3)), some (.inl x4), some (.inr (22, a5)), some (.inl x6), none, none] [.inl s0] S =
    if s0 = (-1) then
      qm_o O J 142 [.inr (0, a2), .inl 0, .inl 0] S (fun v S => F 6 420 [some (.inr (2, a0)), some (.inr (1, a1)), some (.inr (0, a2)), some (.inr (22, a3)), some (.inl x4), some (.inr (22, a5)), some (.inl x6), none, none] (v.toList ++ []) S)
    else
      some (some (.inl 0), S) := qm_blk_to hF (pm_stp 6 [0, 8, 16, 22, 32, 40, 52, 59, 73, 80, 91, 109, 124, 146, 184, 193, 209, 218, 254, 287, 310, 320, 337, 346, 364, 369, 401, 410, 420, 431]) 225 rfl
set_option maxRecDepth 20000 in
theorem q6_420 (hF : qm_fix O qt_me qt_qs (qt_C L0 xs) J F) {a0 : Nat} {a1 : Nat} {a2 : Nat} {a3 : Nat} {x4 : Int32} {a5 : Nat} {x6 : Int32} {s0 : Int32} : F 6 420 [some (.inr (2, a0)), some (.inr (1, a1)), some (.inr (0, a2)), some (.inr (22, a3)), some (.inl x4), some (.inr (22, a5)), some (.inl x6), none, none] [.inl s0] S =
    if s0 = (-1000000) then
      qm_o O J 143 [.inr (0, a2), .inl 0, .inl 0] S (fun v S => F 6 431 [some (.inr (2, a0)), some (.inr (1, a1)), some (.inr (0, a2)), some (.inr (22, a3)), some (.inl x4), some (.inr (22, a5)), some (.inl x6), none, none] (v.toList ++ []) S)
    else
      some (some (.inl 0), S) := qm_blk_to hF (pm_stp 6 [0, 8, 16, 22, 32, 40, 52, 59, 73, 80, 91, 109, 124, 146, 184, 193, 209, 218, 254, 287, 310, 320, 337, 346, 364, 369, 401, 410, 420, 431]) 225 rfl
set_option maxRecDepth 20000 in
theorem q6_431 (hF : qm_fix O qt_me qt_qs (qt_C L0 xs) J F) {a0 : Nat} {a1 : Nat} {a2 : Nat} {a3 : Nat} {x4 : Int32} {a5 : Nat} {x6 : Int32} {s0 : Int32} : F 6 431 [some (.inr (2, a0)), some (.inr (1, a1)), some (.inr (0, a2)), some (.inr (22, a3)), some (.inl x4), some (.inr (22, a5)), some (.inl x6), none, none] [.inl s0] S =
    if s0 = (-1) then
      some (some (.inl 1), S)
    else
      some (some (.inl 0), S) := qm_blk_to hF (pm_stp 6 [0, 8, 16, 22, 32, 40, 52, 59, 73, 80, 91, 109, 124, 146, 184, 193, 209, 218, 254, 287, 310, 320, 337, 346, 364, 369, 401, 410, 420, 431]) 225 rfl
end
