/-! ===== the making: printed by gen/g100.py ===== -/
section
variable {F : pm_F} {L0 : Nat} {xs : Nat → Int32}
def kG0 : Nat → Nat → Nat := fun _ _ => 0
def kI0 : Nat → Nat → Int32 := fun _ _ => 0
def kL0 : Nat → Nat → Int64 := fun _ _ => 0
def kZ (f : Nat → Nat → Nat) : Prop := ∀ r k, (50 ≤ r ∨ 80 ≤ k) → f r k = 0
theorem kZ0 : kZ kG0 := fun _ _ _ => rfl
theorem kZcg {f : Nat → Nat → Nat} {a : Nat} (h : kZ f) : kZ (pm_cg f a) := by
  intro r k z
  show (bif Nat.beq r a then 0 else f r k) = 0
  rw [h r k z]
  cases Nat.beq r a <;> rfl
theorem kZug {f : Nat → Nat → Nat} {a b v : Nat} (h : kZ f) (ha : a < 50) (hb : b < 80) : kZ (pm_ug f a b v) := by
  intro r k z
  show (bif Nat.beq r a && Nat.beq k b then v else f r k) = 0
  rw [h r k z]
  rcases z with z | z
  · rw [show Nat.beq r a = false from beq_f (by omega)]; rfl
  · rw [show Nat.beq k b = false from beq_f (by omega), Bool.and_false]; rfl

def kG1 : Nat → Nat → Nat := (pm_cg kG0 0)
theorem kZ1 : kZ kG1 := (kZcg kZ0)
def kI1 : Nat → Nat → Int32 := (pm_ci kI0 0)
def kL1 : Nat → Nat → Int64 := (pm_cl kL0 0)
def kG2 : Nat → Nat → Nat := (pm_cg kG1 1)
theorem kZ2 : kZ kG2 := (kZcg kZ1)
def kI2 : Nat → Nat → Int32 := (pm_ci kI1 1)
def kL2 : Nat → Nat → Int64 := (pm_cl kL1 1)
set_option maxRecDepth 20000 in
theorem km101_1_0 (hF : pm_fix pt_me pt_Sg (pt_R L0 xs) F) : F 101 0 [some (.ref 0)] [] (1, kG1, kI1, kL1) = pm_k (F 1001 0 [some (.ref 1)] [] (2, kG2, kI2, kL2)) (fun v S => F 101 12 [some (.ref 0)] (v.toList ++ [.ref 1, .ref 0]) S) := pm_blk_to hF (pm_stp 101 [12, 15, 23, 26, 38, 41, 53, 56, 68, 71, 87, 90, 106, 109, 121, 124]) 64 rfl
def kG3 : Nat → Nat → Nat := (pm_ug (pm_cg kG2 2) 1 0 3)
theorem kZ3 : kZ kG3 := (kZug (kZcg kZ2) (by decide) (by decide))
def kI3 : Nat → Nat → Int32 := (pm_ci kI2 2)
def kL3 : Nat → Nat → Int64 := (pm_cl kL2 2)
set_option maxRecDepth 20000 in
theorem km1001_2_0 (hF : pm_fix pt_me pt_Sg (pt_R L0 xs) F) : F 1001 0 [some (.ref 1)] [] (2, kG2, kI2, kL2) = F 1001 13 [some (.ref 1)] [] (3, kG3, kI3, kL3) := pm_blk_to hF (pm_stp 1001 [13]) 12 rfl
set_option maxRecDepth 20000 in
theorem km1001_2_1 (hF : pm_fix pt_me pt_Sg (pt_R L0 xs) F) : F 1001 13 [some (.ref 1)] [] (3, kG3, kI3, kL3) = some (none, (3, kG3, kI3, kL3)) := pm_blk_to hF (pm_stp 1001 [13]) 12 rfl
theorem km1001_2 (hF : pm_fix pt_me pt_Sg (pt_R L0 xs) F) : F 1001 0 [some (.ref 1)] [] (2, kG2, kI2, kL2) = some (none, (3, kG3, kI3, kL3)) := by
  rw [km1001_2_0 hF]
  show F 1001 13 [some (.ref 1)] [] (3, kG3, kI3, kL3) = _
  rw [km1001_2_1 hF]
def kG4 : Nat → Nat → Nat := (pm_ug kG3 0 0 2)
theorem kZ4 : kZ kG4 := (kZug kZ3 (by decide) (by decide))
set_option maxRecDepth 20000 in
theorem km101_1_1 (hF : pm_fix pt_me pt_Sg (pt_R L0 xs) F) : F 101 12 [some (.ref 0)] [.ref 1, .ref 0] (3, kG3, kI3, kL3) = F 101 15 [some (.ref 0)] [] (3, kG4, kI3, kL3) := pm_blk_to hF (pm_stp 101 [12, 15, 23, 26, 38, 41, 53, 56, 68, 71, 87, 90, 106, 109, 121, 124]) 64 rfl
def kG5 : Nat → Nat → Nat := (pm_cg kG4 3)
theorem kZ5 : kZ kG5 := (kZcg kZ4)
def kI4 : Nat → Nat → Int32 := (pm_ci kI3 3)
def kL4 : Nat → Nat → Int64 := (pm_cl kL3 3)
set_option maxRecDepth 20000 in
theorem km101_1_2 (hF : pm_fix pt_me pt_Sg (pt_R L0 xs) F) : F 101 15 [some (.ref 0)] [] (3, kG4, kI3, kL3) = pm_k (F 501 0 [some (.ref 3)] [] (4, kG5, kI4, kL4)) (fun v S => F 101 23 [some (.ref 0)] (v.toList ++ [.ref 3, .ref 0]) S) := pm_blk_to hF (pm_stp 101 [12, 15, 23, 26, 38, 41, 53, 56, 68, 71, 87, 90, 106, 109, 121, 124]) 64 rfl
def kG6 : Nat → Nat → Nat := (pm_ug (pm_cg kG5 4) 3 10 5)
theorem kZ6 : kZ kG6 := (kZug (kZcg kZ5) (by decide) (by decide))
def kI5 : Nat → Nat → Int32 := (pm_ci kI4 4)
def kL5 : Nat → Nat → Int64 := (pm_cl kL4 4)
set_option maxRecDepth 20000 in
theorem km501_3_0 (hF : pm_fix pt_me pt_Sg (pt_R L0 xs) F) : F 501 0 [some (.ref 3)] [] (4, kG5, kI4, kL4) = F 501 12 [some (.ref 3)] [] (5, kG6, kI5, kL5) := pm_blk_to hF (pm_stp 501 [12, 20, 28, 36, 44, 52, 57, 62, 67]) 41 rfl
def kG7 : Nat → Nat → Nat := (pm_ug (pm_cg kG6 5) 3 11 6)
theorem kZ7 : kZ kG7 := (kZug (kZcg kZ6) (by decide) (by decide))
def kI6 : Nat → Nat → Int32 := (pm_ci kI5 5)
def kL6 : Nat → Nat → Int64 := (pm_cl kL5 5)
set_option maxRecDepth 20000 in
theorem km501_3_1 (hF : pm_fix pt_me pt_Sg (pt_R L0 xs) F) : F 501 12 [some (.ref 3)] [] (5, kG6, kI5, kL5) = F 501 20 [some (.ref 3)] [] (6, kG7, kI6, kL6) := pm_blk_to hF (pm_stp 501 [12, 20, 28, 36, 44, 52, 57, 62, 67]) 41 rfl
def kG8 : Nat → Nat → Nat := (pm_ug (pm_cg kG7 6) 3 12 7)
theorem kZ8 : kZ kG8 := (kZug (kZcg kZ7) (by decide) (by decide))
def kI7 : Nat → Nat → Int32 := (pm_ci kI6 6)
def kL7 : Nat → Nat → Int64 := (pm_cl kL6 6)
set_option maxRecDepth 20000 in
theorem km501_3_2 (hF : pm_fix pt_me pt_Sg (pt_R L0 xs) F) : F 501 20 [some (.ref 3)] [] (6, kG7, kI6, kL6) = F 501 28 [some (.ref 3)] [] (7, kG8, kI7, kL7) := pm_blk_to hF (pm_stp 501 [12, 20, 28, 36, 44, 52, 57, 62, 67]) 41 rfl
def kG9 : Nat → Nat → Nat := (pm_ug (pm_cg kG8 7) 3 13 8)
theorem kZ9 : kZ kG9 := (kZug (kZcg kZ8) (by decide) (by decide))
def kI8 : Nat → Nat → Int32 := (pm_ci kI7 7)
def kL8 : Nat → Nat → Int64 := (pm_cl kL7 7)
set_option maxRecDepth 20000 in
theorem km501_3_3 (hF : pm_fix pt_me pt_Sg (pt_R L0 xs) F) : F 501 28 [some (.ref 3)] [] (7, kG8, kI7, kL7) = F 501 36 [some (.ref 3)] [] (8, kG9, kI8, kL8) := pm_blk_to hF (pm_stp 501 [12, 20, 28, 36, 44, 52, 57, 62, 67]) 41 rfl
def kG10 : Nat → Nat → Nat := (pm_ug (pm_cg kG9 8) 3 14 9)
theorem kZ10 : kZ kG10 := (kZug (kZcg kZ9) (by decide) (by decide))
def kI9 : Nat → Nat → Int32 := (pm_ci kI8 8)
def kL9 : Nat → Nat → Int64 := (pm_cl kL8 8)
set_option maxRecDepth 20000 in
theorem km501_3_4 (hF : pm_fix pt_me pt_Sg (pt_R L0 xs) F) : F 501 36 [some (.ref 3)] [] (8, kG9, kI8, kL8) = F 501 44 [some (.ref 3)] [] (9, kG10, kI9, kL9) := pm_blk_to hF (pm_stp 501 [12, 20, 28, 36, 44, 52, 57, 62, 67]) 41 rfl
def kG11 : Nat → Nat → Nat := (pm_ug (pm_cg kG10 9) 3 15 10)
theorem kZ11 : kZ kG11 := (kZug (kZcg kZ10) (by decide) (by decide))
def kI10 : Nat → Nat → Int32 := (pm_ci kI9 9)
def kL10 : Nat → Nat → Int64 := (pm_cl kL9 9)
set_option maxRecDepth 20000 in
theorem km501_3_5 (hF : pm_fix pt_me pt_Sg (pt_R L0 xs) F) : F 501 44 [some (.ref 3)] [] (9, kG10, kI9, kL9) = F 501 52 [some (.ref 3)] [] (10, kG11, kI10, kL10) := pm_blk_to hF (pm_stp 501 [12, 20, 28, 36, 44, 52, 57, 62, 67]) 41 rfl
def kI11 : Nat → Nat → Int32 := (pm_ui kI10 3 2 1)
set_option maxRecDepth 20000 in
theorem km501_3_6 (hF : pm_fix pt_me pt_Sg (pt_R L0 xs) F) : F 501 52 [some (.ref 3)] [] (10, kG11, kI10, kL10) = F 501 57 [some (.ref 3)] [] (10, kG11, kI11, kL10) := pm_blk_to hF (pm_stp 501 [12, 20, 28, 36, 44, 52, 57, 62, 67]) 41 rfl
def kI12 : Nat → Nat → Int32 := (pm_ui kI11 3 3 1)
set_option maxRecDepth 20000 in
theorem km501_3_7 (hF : pm_fix pt_me pt_Sg (pt_R L0 xs) F) : F 501 57 [some (.ref 3)] [] (10, kG11, kI11, kL10) = F 501 62 [some (.ref 3)] [] (10, kG11, kI12, kL10) := pm_blk_to hF (pm_stp 501 [12, 20, 28, 36, 44, 52, 57, 62, 67]) 41 rfl
def kI13 : Nat → Nat → Int32 := (pm_ui kI12 3 6 1)
set_option maxRecDepth 20000 in
theorem km501_3_8 (hF : pm_fix pt_me pt_Sg (pt_R L0 xs) F) : F 501 62 [some (.ref 3)] [] (10, kG11, kI12, kL10) = F 501 67 [some (.ref 3)] [] (10, kG11, kI13, kL10) := pm_blk_to hF (pm_stp 501 [12, 20, 28, 36, 44, 52, 57, 62, 67]) 41 rfl
set_option maxRecDepth 20000 in
theorem km501_3_9 (hF : pm_fix pt_me pt_Sg (pt_R L0 xs) F) : F 501 67 [some (.ref 3)] [] (10, kG11, kI13, kL10) = some (none, (10, kG11, kI13, kL10)) := pm_blk_to hF (pm_stp 501 [12, 20, 28, 36, 44, 52, 57, 62, 67]) 41 rfl
theorem km501_3 (hF : pm_fix pt_me pt_Sg (pt_R L0 xs) F) : F 501 0 [some (.ref 3)] [] (4, kG5, kI4, kL4) = some (none, (10, kG11, kI13, kL10)) := by
  rw [km501_3_0 hF]
  show F 501 12 [some (.ref 3)] [] (5, kG6, kI5, kL5) = _
  rw [km501_3_1 hF]
  show F 501 20 [some (.ref 3)] [] (6, kG7, kI6, kL6) = _
  rw [km501_3_2 hF]
  show F 501 28 [some (.ref 3)] [] (7, kG8, kI7, kL7) = _
  rw [km501_3_3 hF]
  show F 501 36 [some (.ref 3)] [] (8, kG9, kI8, kL8) = _
  rw [km501_3_4 hF]
  show F 501 44 [some (.ref 3)] [] (9, kG10, kI9, kL9) = _
  rw [km501_3_5 hF]
  show F 501 52 [some (.ref 3)] [] (10, kG11, kI10, kL10) = _
  rw [km501_3_6 hF]
  show F 501 57 [some (.ref 3)] [] (10, kG11, kI11, kL10) = _
  rw [km501_3_7 hF]
  show F 501 62 [some (.ref 3)] [] (10, kG11, kI12, kL10) = _
  rw [km501_3_8 hF]
  show F 501 67 [some (.ref 3)] [] (10, kG11, kI13, kL10) = _
  rw [km501_3_9 hF]
def kG12 : Nat → Nat → Nat := (pm_ug kG11 0 1 4)
theorem kZ12 : kZ kG12 := (kZug kZ11 (by decide) (by decide))
set_option maxRecDepth 20000 in
theorem km101_1_3 (hF : pm_fix pt_me pt_Sg (pt_R L0 xs) F) : F 101 23 [some (.ref 0)] [.ref 3, .ref 0] (10, kG11, kI13, kL10) = F 101 26 [some (.ref 0)] [] (10, kG12, kI13, kL10) := pm_blk_to hF (pm_stp 101 [12, 15, 23, 26, 38, 41, 53, 56, 68, 71, 87, 90, 106, 109, 121, 124]) 64 rfl
def kG13 : Nat → Nat → Nat := (pm_cg kG12 10)
theorem kZ13 : kZ kG13 := (kZcg kZ12)
def kI14 : Nat → Nat → Int32 := (pm_ci kI13 10)
def kL11 : Nat → Nat → Int64 := (pm_cl kL10 10)
set_option maxRecDepth 20000 in
theorem km101_1_4 (hF : pm_fix pt_me pt_Sg (pt_R L0 xs) F) : F 101 26 [some (.ref 0)] [] (10, kG12, kI13, kL10) = pm_k (F 701 0 [some (.ref 10), some (.ref 1), none, none, none] [] (11, kG13, kI14, kL11)) (fun v S => F 101 38 [some (.ref 0)] (v.toList ++ [.ref 10, .ref 0]) S) := pm_blk_to hF (pm_stp 101 [12, 15, 23, 26, 38, 41, 53, 56, 68, 71, 87, 90, 106, 109, 121, 124]) 64 rfl
def kG14 : Nat → Nat → Nat := (pm_cg kG13 11)
theorem kZ14 : kZ kG14 := (kZcg kZ13)
def kI15 : Nat → Nat → Int32 := (pm_ci kI14 11)
def kL12 : Nat → Nat → Int64 := (pm_cl kL11 11)
set_option maxRecDepth 20000 in
theorem km701_4_0 (hF : pm_fix pt_me pt_Sg (pt_R L0 xs) F) : F 701 0 [some (.ref 10), some (.ref 1), none, none, none] [] (11, kG13, kI14, kL11) = pm_k (F 501 0 [some (.ref 11)] [] (12, kG14, kI15, kL12)) (fun v S => F 701 12 [some (.ref 10), some (.ref 1), none, none, none] (v.toList ++ [.ref 11, .ref 10]) S) := pm_blk_to hF (pm_stp 701 [12, 15, 23, 31, 39, 47, 55, 60, 65, 70, 74, 80, 95, 126]) 74 rfl
def kG15 : Nat → Nat → Nat := (pm_ug (pm_cg kG14 12) 11 10 13)
theorem kZ15 : kZ kG15 := (kZug (kZcg kZ14) (by decide) (by decide))
def kI16 : Nat → Nat → Int32 := (pm_ci kI15 12)
def kL13 : Nat → Nat → Int64 := (pm_cl kL12 12)
set_option maxRecDepth 20000 in
theorem km501_5_0 (hF : pm_fix pt_me pt_Sg (pt_R L0 xs) F) : F 501 0 [some (.ref 11)] [] (12, kG14, kI15, kL12) = F 501 12 [some (.ref 11)] [] (13, kG15, kI16, kL13) := pm_blk_to hF (pm_stp 501 [12, 20, 28, 36, 44, 52, 57, 62, 67]) 41 rfl
def kG16 : Nat → Nat → Nat := (pm_ug (pm_cg kG15 13) 11 11 14)
theorem kZ16 : kZ kG16 := (kZug (kZcg kZ15) (by decide) (by decide))
def kI17 : Nat → Nat → Int32 := (pm_ci kI16 13)
def kL14 : Nat → Nat → Int64 := (pm_cl kL13 13)
set_option maxRecDepth 20000 in
theorem km501_5_1 (hF : pm_fix pt_me pt_Sg (pt_R L0 xs) F) : F 501 12 [some (.ref 11)] [] (13, kG15, kI16, kL13) = F 501 20 [some (.ref 11)] [] (14, kG16, kI17, kL14) := pm_blk_to hF (pm_stp 501 [12, 20, 28, 36, 44, 52, 57, 62, 67]) 41 rfl
def kG17 : Nat → Nat → Nat := (pm_ug (pm_cg kG16 14) 11 12 15)
theorem kZ17 : kZ kG17 := (kZug (kZcg kZ16) (by decide) (by decide))
def kI18 : Nat → Nat → Int32 := (pm_ci kI17 14)
def kL15 : Nat → Nat → Int64 := (pm_cl kL14 14)
set_option maxRecDepth 20000 in
theorem km501_5_2 (hF : pm_fix pt_me pt_Sg (pt_R L0 xs) F) : F 501 20 [some (.ref 11)] [] (14, kG16, kI17, kL14) = F 501 28 [some (.ref 11)] [] (15, kG17, kI18, kL15) := pm_blk_to hF (pm_stp 501 [12, 20, 28, 36, 44, 52, 57, 62, 67]) 41 rfl
def kG18 : Nat → Nat → Nat := (pm_ug (pm_cg kG17 15) 11 13 16)
theorem kZ18 : kZ kG18 := (kZug (kZcg kZ17) (by decide) (by decide))
def kI19 : Nat → Nat → Int32 := (pm_ci kI18 15)
def kL16 : Nat → Nat → Int64 := (pm_cl kL15 15)
set_option maxRecDepth 20000 in
theorem km501_5_3 (hF : pm_fix pt_me pt_Sg (pt_R L0 xs) F) : F 501 28 [some (.ref 11)] [] (15, kG17, kI18, kL15) = F 501 36 [some (.ref 11)] [] (16, kG18, kI19, kL16) := pm_blk_to hF (pm_stp 501 [12, 20, 28, 36, 44, 52, 57, 62, 67]) 41 rfl
def kG19 : Nat → Nat → Nat := (pm_ug (pm_cg kG18 16) 11 14 17)
theorem kZ19 : kZ kG19 := (kZug (kZcg kZ18) (by decide) (by decide))
def kI20 : Nat → Nat → Int32 := (pm_ci kI19 16)
def kL17 : Nat → Nat → Int64 := (pm_cl kL16 16)
set_option maxRecDepth 20000 in
theorem km501_5_4 (hF : pm_fix pt_me pt_Sg (pt_R L0 xs) F) : F 501 36 [some (.ref 11)] [] (16, kG18, kI19, kL16) = F 501 44 [some (.ref 11)] [] (17, kG19, kI20, kL17) := pm_blk_to hF (pm_stp 501 [12, 20, 28, 36, 44, 52, 57, 62, 67]) 41 rfl
def kG20 : Nat → Nat → Nat := (pm_ug (pm_cg kG19 17) 11 15 18)
theorem kZ20 : kZ kG20 := (kZug (kZcg kZ19) (by decide) (by decide))
def kI21 : Nat → Nat → Int32 := (pm_ci kI20 17)
def kL18 : Nat → Nat → Int64 := (pm_cl kL17 17)
set_option maxRecDepth 20000 in
theorem km501_5_5 (hF : pm_fix pt_me pt_Sg (pt_R L0 xs) F) : F 501 44 [some (.ref 11)] [] (17, kG19, kI20, kL17) = F 501 52 [some (.ref 11)] [] (18, kG20, kI21, kL18) := pm_blk_to hF (pm_stp 501 [12, 20, 28, 36, 44, 52, 57, 62, 67]) 41 rfl
def kI22 : Nat → Nat → Int32 := (pm_ui kI21 11 2 1)
set_option maxRecDepth 20000 in
theorem km501_5_6 (hF : pm_fix pt_me pt_Sg (pt_R L0 xs) F) : F 501 52 [some (.ref 11)] [] (18, kG20, kI21, kL18) = F 501 57 [some (.ref 11)] [] (18, kG20, kI22, kL18) := pm_blk_to hF (pm_stp 501 [12, 20, 28, 36, 44, 52, 57, 62, 67]) 41 rfl
def kI23 : Nat → Nat → Int32 := (pm_ui kI22 11 3 1)
set_option maxRecDepth 20000 in
theorem km501_5_7 (hF : pm_fix pt_me pt_Sg (pt_R L0 xs) F) : F 501 57 [some (.ref 11)] [] (18, kG20, kI22, kL18) = F 501 62 [some (.ref 11)] [] (18, kG20, kI23, kL18) := pm_blk_to hF (pm_stp 501 [12, 20, 28, 36, 44, 52, 57, 62, 67]) 41 rfl
def kI24 : Nat → Nat → Int32 := (pm_ui kI23 11 6 1)
set_option maxRecDepth 20000 in
theorem km501_5_8 (hF : pm_fix pt_me pt_Sg (pt_R L0 xs) F) : F 501 62 [some (.ref 11)] [] (18, kG20, kI23, kL18) = F 501 67 [some (.ref 11)] [] (18, kG20, kI24, kL18) := pm_blk_to hF (pm_stp 501 [12, 20, 28, 36, 44, 52, 57, 62, 67]) 41 rfl
set_option maxRecDepth 20000 in
theorem km501_5_9 (hF : pm_fix pt_me pt_Sg (pt_R L0 xs) F) : F 501 67 [some (.ref 11)] [] (18, kG20, kI24, kL18) = some (none, (18, kG20, kI24, kL18)) := pm_blk_to hF (pm_stp 501 [12, 20, 28, 36, 44, 52, 57, 62, 67]) 41 rfl
theorem km501_5 (hF : pm_fix pt_me pt_Sg (pt_R L0 xs) F) : F 501 0 [some (.ref 11)] [] (12, kG14, kI15, kL12) = some (none, (18, kG20, kI24, kL18)) := by
  rw [km501_5_0 hF]
  show F 501 12 [some (.ref 11)] [] (13, kG15, kI16, kL13) = _
  rw [km501_5_1 hF]
  show F 501 20 [some (.ref 11)] [] (14, kG16, kI17, kL14) = _
  rw [km501_5_2 hF]
  show F 501 28 [some (.ref 11)] [] (15, kG17, kI18, kL15) = _
  rw [km501_5_3 hF]
  show F 501 36 [some (.ref 11)] [] (16, kG18, kI19, kL16) = _
  rw [km501_5_4 hF]
  show F 501 44 [some (.ref 11)] [] (17, kG19, kI20, kL17) = _
  rw [km501_5_5 hF]
  show F 501 52 [some (.ref 11)] [] (18, kG20, kI21, kL18) = _
  rw [km501_5_6 hF]
  show F 501 57 [some (.ref 11)] [] (18, kG20, kI22, kL18) = _
  rw [km501_5_7 hF]
  show F 501 62 [some (.ref 11)] [] (18, kG20, kI23, kL18) = _
  rw [km501_5_8 hF]
  show F 501 67 [some (.ref 11)] [] (18, kG20, kI24, kL18) = _
  rw [km501_5_9 hF]
def kG21 : Nat → Nat → Nat := (pm_ug kG20 10 1 12)
theorem kZ21 : kZ kG21 := (kZug kZ20 (by decide) (by decide))
set_option maxRecDepth 20000 in
theorem km701_4_1 (hF : pm_fix pt_me pt_Sg (pt_R L0 xs) F) : F 701 12 [some (.ref 10), some (.ref 1), none, none, none] [.ref 11, .ref 10] (18, kG20, kI24, kL18) = F 701 15 [some (.ref 10), some (.ref 1), none, none, none] [] (18, kG21, kI24, kL18) := pm_blk_to hF (pm_stp 701 [12, 15, 23, 31, 39, 47, 55, 60, 65, 70, 74, 80, 95, 126]) 74 rfl
def kG22 : Nat → Nat → Nat := (pm_ug (pm_cg kG21 18) 10 2 19)
theorem kZ22 : kZ kG22 := (kZug (kZcg kZ21) (by decide) (by decide))
def kI25 : Nat → Nat → Int32 := (pm_ci kI24 18)
def kL19 : Nat → Nat → Int64 := (pm_cl kL18 18)
set_option maxRecDepth 20000 in
theorem km701_4_2 (hF : pm_fix pt_me pt_Sg (pt_R L0 xs) F) : F 701 15 [some (.ref 10), some (.ref 1), none, none, none] [] (18, kG21, kI24, kL18) = F 701 23 [some (.ref 10), some (.ref 1), none, none, none] [] (19, kG22, kI25, kL19) := pm_blk_to hF (pm_stp 701 [12, 15, 23, 31, 39, 47, 55, 60, 65, 70, 74, 80, 95, 126]) 74 rfl
def kG23 : Nat → Nat → Nat := (pm_ug (pm_cg kG22 19) 10 3 20)
theorem kZ23 : kZ kG23 := (kZug (kZcg kZ22) (by decide) (by decide))
def kI26 : Nat → Nat → Int32 := (pm_ci kI25 19)
def kL20 : Nat → Nat → Int64 := (pm_cl kL19 19)
set_option maxRecDepth 20000 in
theorem km701_4_3 (hF : pm_fix pt_me pt_Sg (pt_R L0 xs) F) : F 701 23 [some (.ref 10), some (.ref 1), none, none, none] [] (19, kG22, kI25, kL19) = F 701 31 [some (.ref 10), some (.ref 1), none, none, none] [] (20, kG23, kI26, kL20) := pm_blk_to hF (pm_stp 701 [12, 15, 23, 31, 39, 47, 55, 60, 65, 70, 74, 80, 95, 126]) 74 rfl
def kG24 : Nat → Nat → Nat := (pm_ug (pm_cg kG23 20) 10 4 21)
theorem kZ24 : kZ kG24 := (kZug (kZcg kZ23) (by decide) (by decide))
def kI27 : Nat → Nat → Int32 := (pm_ci kI26 20)
def kL21 : Nat → Nat → Int64 := (pm_cl kL20 20)
set_option maxRecDepth 20000 in
theorem km701_4_4 (hF : pm_fix pt_me pt_Sg (pt_R L0 xs) F) : F 701 31 [some (.ref 10), some (.ref 1), none, none, none] [] (20, kG23, kI26, kL20) = F 701 39 [some (.ref 10), some (.ref 1), none, none, none] [] (21, kG24, kI27, kL21) := pm_blk_to hF (pm_stp 701 [12, 15, 23, 31, 39, 47, 55, 60, 65, 70, 74, 80, 95, 126]) 74 rfl
def kG25 : Nat → Nat → Nat := (pm_ug (pm_cg kG24 21) 10 5 22)
theorem kZ25 : kZ kG25 := (kZug (kZcg kZ24) (by decide) (by decide))
def kI28 : Nat → Nat → Int32 := (pm_ci kI27 21)
def kL22 : Nat → Nat → Int64 := (pm_cl kL21 21)
set_option maxRecDepth 20000 in
theorem km701_4_5 (hF : pm_fix pt_me pt_Sg (pt_R L0 xs) F) : F 701 39 [some (.ref 10), some (.ref 1), none, none, none] [] (21, kG24, kI27, kL21) = F 701 47 [some (.ref 10), some (.ref 1), none, none, none] [] (22, kG25, kI28, kL22) := pm_blk_to hF (pm_stp 701 [12, 15, 23, 31, 39, 47, 55, 60, 65, 70, 74, 80, 95, 126]) 74 rfl
def kG26 : Nat → Nat → Nat := (pm_ug (pm_cg kG25 22) 10 6 23)
theorem kZ26 : kZ kG26 := (kZug (kZcg kZ25) (by decide) (by decide))
def kI29 : Nat → Nat → Int32 := (pm_ci kI28 22)
def kL23 : Nat → Nat → Int64 := (pm_cl kL22 22)
set_option maxRecDepth 20000 in
theorem km701_4_6 (hF : pm_fix pt_me pt_Sg (pt_R L0 xs) F) : F 701 47 [some (.ref 10), some (.ref 1), none, none, none] [] (22, kG25, kI28, kL22) = F 701 55 [some (.ref 10), some (.ref 1), none, none, none] [] (23, kG26, kI29, kL23) := pm_blk_to hF (pm_stp 701 [12, 15, 23, 31, 39, 47, 55, 60, 65, 70, 74, 80, 95, 126]) 74 rfl
def kI30 : Nat → Nat → Int32 := (pm_ui kI29 10 9 (-1))
set_option maxRecDepth 20000 in
theorem km701_4_7 (hF : pm_fix pt_me pt_Sg (pt_R L0 xs) F) : F 701 55 [some (.ref 10), some (.ref 1), none, none, none] [] (23, kG26, kI29, kL23) = F 701 60 [some (.ref 10), some (.ref 1), none, none, none] [] (23, kG26, kI30, kL23) := pm_blk_to hF (pm_stp 701 [12, 15, 23, 31, 39, 47, 55, 60, 65, 70, 74, 80, 95, 126]) 74 rfl
def kI31 : Nat → Nat → Int32 := (pm_ui kI30 10 15 (-1))
set_option maxRecDepth 20000 in
theorem km701_4_8 (hF : pm_fix pt_me pt_Sg (pt_R L0 xs) F) : F 701 60 [some (.ref 10), some (.ref 1), none, none, none] [] (23, kG26, kI30, kL23) = F 701 65 [some (.ref 10), some (.ref 1), none, none, none] [] (23, kG26, kI31, kL23) := pm_blk_to hF (pm_stp 701 [12, 15, 23, 31, 39, 47, 55, 60, 65, 70, 74, 80, 95, 126]) 74 rfl
def kG27 : Nat → Nat → Nat := (pm_ug kG26 10 0 2)
theorem kZ27 : kZ kG27 := (kZug kZ26 (by decide) (by decide))
set_option maxRecDepth 20000 in
theorem km701_4_9 (hF : pm_fix pt_me pt_Sg (pt_R L0 xs) F) : F 701 65 [some (.ref 10), some (.ref 1), none, none, none] [] (23, kG26, kI31, kL23) = F 701 70 [some (.ref 10), some (.ref 1), none, none, none] [] (23, kG27, kI31, kL23) := pm_blk_to hF (pm_stp 701 [12, 15, 23, 31, 39, 47, 55, 60, 65, 70, 74, 80, 95, 126]) 74 rfl
set_option maxRecDepth 20000 in
theorem km701_4_10 (hF : pm_fix pt_me pt_Sg (pt_R L0 xs) F) : F 701 70 [some (.ref 10), some (.ref 1), none, none, none] [] (23, kG27, kI31, kL23) = F 701 74 [some (.ref 10), some (.ref 1), some (.int 0), some (.int 0), none] [] (23, kG27, kI31, kL23) := pm_blk_to hF (pm_stp 701 [12, 15, 23, 31, 39, 47, 55, 60, 65, 70, 74, 80, 95, 126]) 74 rfl
def kst (k : Nat) (a : Nat × (Nat → Nat → Int64)) : Nat × (Nat → Nat → Int64) := if pt_txt k = 32 then (a.1 + 1, a.2) else (a.1, pm_ul a.2 18 a.1 (32 * a.2 18 a.1 + Int32.toInt64 (pt_txt k - 97 + 1)))
abbrev kGR : Nat → Nat → Nat := kG27
abbrev kIR : Nat → Nat → Int32 := kI31
abbrev kLR : Nat → Nat → Int64 := kL23
-- java/lang/String.length()I 201
set_option maxRecDepth 20000 in
theorem k1501_0 {I : Nat → Nat → Int32} {L : Nat → Nat → Int64} (hF : pm_fix pt_me pt_Sg (pt_R L0 xs) F) : F 1501 0 [some (.ref 201)] [] (23, kGR, I, L) =
    pm_k (F 1502 0 [some (.ref 201)] [] (23, kGR, I, L)) (fun v S => F 1501 9 [some (.ref 201)] (v.toList ++ [.int (nI 74)]) S) := pm_blk_to hF (pm_stp 1501 [0, 9]) 12 rfl
set_option maxRecDepth 20000 in
theorem k1501_9 {I : Nat → Nat → Int32} {L : Nat → Nat → Int64} (hF : pm_fix pt_me pt_Sg (pt_R L0 xs) F) {s0 : Int32} {s1 : Int32} : F 1501 9 [some (.ref 201)] [.int s0, .int s1] (23, kGR, I, L) =
    some (some (.int ((s1 : Int32) >>> (s0 &&& 31))), (23, kGR, I, L)) := pm_blk_to hF (pm_stp 1501 [0, 9]) 12 rfl
-- java/lang/String.coder()B 201
set_option maxRecDepth 20000 in
theorem k1502_0 {I : Nat → Nat → Int32} {L : Nat → Nat → Int64} (hF : pm_fix pt_me pt_Sg (pt_R L0 xs) F) : F 1502 0 [some (.ref 201)] [] (23, kGR, I, L) =
    if (1 : Int32) = 0 then
      bif decide (Int8.toInt32 (Int32.toInt8 1) = 1) then some (some (.int 1), (23, kGR, I, L)) else none
    else
      bif decide (Int8.toInt32 (Int32.toInt8 0) = 0) then some (some (.int 0), (23, kGR, I, L)) else none := pm_blk_to hF (pm_stp 1502 [0]) 12 rfl
-- java/lang/String.charAt(I)C 201
set_option maxRecDepth 20000 in
theorem k1503_0 {I : Nat → Nat → Int32} {L : Nat → Nat → Int64} (hF : pm_fix pt_me pt_Sg (pt_R L0 xs) F) {x1 : Int32} : F 1503 0 [some (.ref 201), some (.int x1)] [] (23, kGR, I, L) =
    pm_k (F 1504 0 [some (.ref 201)] [] (23, kGR, I, L)) (fun v S => F 1503 4 [some (.ref 201), some (.int x1)] (v.toList ++ []) S) := pm_blk_to hF (pm_stp 1503 [0, 4, 15]) 16 rfl
set_option maxRecDepth 20000 in
theorem k1503_4 {I : Nat → Nat → Int32} {L : Nat → Nat → Int64} (hF : pm_fix pt_me pt_Sg (pt_R L0 xs) F) {x1 : Int32} {s0 : Int32} : F 1503 4 [some (.ref 201), some (.int x1)] [.int s0] (23, kGR, I, L) =
    if s0 = 0 then
      none
    else
      pm_k (F 1505 0 [some (.ref 202), some (.int x1)] [] (23, kGR, I, L)) (fun v S => F 1503 15 [some (.ref 201), some (.int x1)] (v.toList ++ []) S) := pm_blk_to hF (pm_stp 1503 [0, 4, 15]) 16 rfl
set_option maxRecDepth 20000 in
theorem k1503_15 {I : Nat → Nat → Int32} {L : Nat → Nat → Int64} (hF : pm_fix pt_me pt_Sg (pt_R L0 xs) F) {x1 : Int32} {s0 : Int32} : F 1503 15 [some (.ref 201), some (.int x1)] [.int s0] (23, kGR, I, L) =
    bif decide (UInt32.toInt32 (Int32.toUInt32 s0 % 65536) = s0) then some (some (.int s0), (23, kGR, I, L)) else none := pm_blk_to hF (pm_stp 1503 [0, 4, 15]) 16 rfl
-- java/lang/String.isLatin1()Z 201
set_option maxRecDepth 20000 in
theorem k1504_0 {I : Nat → Nat → Int32} {L : Nat → Nat → Int64} (hF : pm_fix pt_me pt_Sg (pt_R L0 xs) F) : F 1504 0 [some (.ref 201)] [] (23, kGR, I, L) =
    if (1 : Int32) = 0 then
      some (some (.int 0), (23, kGR, I, L))
    else
      if (0 : Int32) = 0 then
        some (some (.int 1), (23, kGR, I, L))
      else
        some (some (.int 0), (23, kGR, I, L)) := pm_blk_to hF (pm_stp 1504 [0]) 14 rfl
-- java/lang/StringLatin1.charAt([BI)C 202
set_option maxRecDepth 20000 in
theorem k1505_0 {I : Nat → Nat → Int32} {L : Nat → Nat → Int64} (hF : pm_fix pt_me pt_Sg (pt_R L0 xs) F) {x1 : Int32} : F 1505 0 [some (.ref 202), some (.int x1)] [] (23, kGR, I, L) =
    pm_k (F 1506 0 [some (.int x1), some (.int (nI 74))] [] (23, kGR, I, L)) (fun v S => F 1505 6 [some (.ref 202), some (.int x1)] (v.toList ++ []) S) := pm_blk_to hF (pm_stp 1505 [0, 6]) 16 rfl
set_option maxRecDepth 20000 in
theorem k1505_6 {I : Nat → Nat → Int32} {L : Nat → Nat → Int64} (hF : pm_fix pt_me pt_Sg (pt_R L0 xs) F) {x1 : Int32} : F 1505 6 [some (.ref 202), some (.int x1)] [] (23, kGR, I, L) =
    bif pm_ib x1 74 then
      bif decide (UInt32.toInt32 (Int32.toUInt32 (UInt32.toInt32 (Int32.toUInt32 ((pt_txt (Int32.toNatClampNeg x1)) &&& 255) % 65536)) % 65536) = (UInt32.toInt32 (Int32.toUInt32 ((pt_txt (Int32.toNatClampNeg x1)) &&& 255) % 65536))) then some (some (.int (UInt32.toInt32 (Int32.toUInt32 ((pt_txt (Int32.toNatClampNeg x1)) &&& 255) % 65536))), (23, kGR, I, L)) else none
    else none := pm_blk_to hF (pm_stp 1505 [0, 6]) 16 rfl
-- java/lang/String.checkIndex(II)V 
set_option maxRecDepth 20000 in
theorem k1506_0 {I : Nat → Nat → Int32} {L : Nat → Nat → Int64} (hF : pm_fix pt_me pt_Sg (pt_R L0 xs) F) {x0 : Int32} {x1 : Int32} : F 1506 0 [some (.int x0), some (.int x1)] [] (23, kGR, I, L) =
    pm_k (F 1507 0 [some (.int x0), some (.int x1), some (.ref 204)] [] (23, kGR, I, L)) (fun v S => F 1506 8 [some (.int x0), some (.int x1)] (v.toList ++ []) S) := pm_blk_to hF (pm_stp 1506 [0, 8]) 11 rfl
set_option maxRecDepth 20000 in
theorem k1506_8 {I : Nat → Nat → Int32} {L : Nat → Nat → Int64} (hF : pm_fix pt_me pt_Sg (pt_R L0 xs) F) {x0 : Int32} {x1 : Int32} {s0 : Int32} : F 1506 8 [some (.int x0), some (.int x1)] [.int s0] (23, kGR, I, L) =
    some (none, (23, kGR, I, L)) := pm_blk_to hF (pm_stp 1506 [0, 8]) 11 rfl
-- jdk/internal/util/Preconditions.checkIndex(IILjava/util/function/BiFunction;)I 204
set_option maxRecDepth 20000 in
theorem k1507_0 {I : Nat → Nat → Int32} {L : Nat → Nat → Int64} (hF : pm_fix pt_me pt_Sg (pt_R L0 xs) F) {x0 : Int32} {x1 : Int32} : F 1507 0 [some (.int x0), some (.int x1), some (.ref 204)] [] (23, kGR, I, L) =
    if x0 < 0 then
      none
    else
      if x0 < x1 then
        some (some (.int x0), (23, kGR, I, L))
      else
        none := pm_blk_to hF (pm_stp 1507 [0]) 15 rfl
-- TurnCabinet$Reader.<init>(LTurnCabinet$Tape;)V 10 1
set_option maxRecDepth 20000 in
theorem k701_74 {I : Nat → Nat → Int32} {L : Nat → Nat → Int64} (hF : pm_fix pt_me pt_Sg (pt_R L0 xs) F) {x2 : Int32} {x3 : Int32} : F 701 74 [some (.ref 10), some (.ref 1), some (.int x2), some (.int x3), none] [] (23, kGR, I, L) =
    pm_k (F 1501 0 [some (.ref 201)] [] (23, kGR, I, L)) (fun v S => F 701 80 [some (.ref 10), some (.ref 1), some (.int x2), some (.int x3), none] (v.toList ++ [.int x3]) S) := pm_blk_to hF (pm_stp 701 [0, 12, 74, 80, 95, 126]) 74 rfl
set_option maxRecDepth 20000 in
theorem k701_80 {I : Nat → Nat → Int32} {L : Nat → Nat → Int64} (hF : pm_fix pt_me pt_Sg (pt_R L0 xs) F) {x2 : Int32} {x3 : Int32} {s0 : Int32} {s1 : Int32} : F 701 80 [some (.ref 10), some (.ref 1), some (.int x2), some (.int x3), none] [.int s0, .int s1] (23, kGR, I, L) =
    if s1 < s0 then
      if x2 < 13 then
        pm_k (F 1503 0 [some (.ref 201), some (.int x3)] [] (23, kGR, I, L)) (fun v S => F 701 95 [some (.ref 10), some (.ref 1), some (.int x2), some (.int x3), none] (v.toList ++ []) S)
      else
        some (none, (23, kGR, I, L))
    else
      some (none, (23, kGR, I, L)) := pm_blk_to hF (pm_stp 701 [0, 12, 74, 80, 95, 126]) 74 rfl
set_option maxRecDepth 20000 in
theorem k701_95 {I : Nat → Nat → Int32} {L : Nat → Nat → Int64} (hF : pm_fix pt_me pt_Sg (pt_R L0 xs) F) {x2 : Int32} {x3 : Int32} {s0 : Int32} : F 701 95 [some (.ref 10), some (.ref 1), some (.int x2), some (.int x3), none] [.int s0] (23, kGR, I, L) =
    if s0 = 32 then
      F 701 74 [some (.ref 10), some (.ref 1), some (.int (x2 + 1)), some (.int (x3 + 1)), none] [] (23, kGR, I, L)
    else
      bif pm_ib x2 13 then
        pm_k (F 724 0 [some (.long (L 18 (Int32.toNatClampNeg x2))), none, some (.int s0)] [] (23, kGR, I, L)) (fun v S => F 701 126 [some (.ref 10), some (.ref 1), some (.int x2), some (.int x3), some (.int s0)] (v.toList ++ [.int x2, .ref 18]) S)
      else none := pm_blk_to hF (pm_stp 701 [0, 12, 74, 80, 95, 126]) 74 rfl
set_option maxRecDepth 20000 in
theorem k701_126 {I : Nat → Nat → Int32} {L : Nat → Nat → Int64} (hF : pm_fix pt_me pt_Sg (pt_R L0 xs) F) {x2 : Int32} {x3 : Int32} {x4 : Int32} {s0 : Int64} {s1 : Int32} : F 701 126 [some (.ref 10), some (.ref 1), some (.int x2), some (.int x3), some (.int x4)] [.long s0, .int s1, .ref 18] (23, kGR, I, L) =
    bif pm_ib s1 13 then
      F 701 74 [some (.ref 10), some (.ref 1), some (.int x2), some (.int (x3 + 1)), none] [] (23, kGR, I, (pm_ul L 18 (Int32.toNatClampNeg s1) s0))
    else none := pm_blk_to hF (pm_stp 701 [0, 12, 74, 80, 95, 126]) 74 rfl
-- TurnCabinet$Reader.withLetter(JI)J 
set_option maxRecDepth 20000 in
theorem k724_0 {I : Nat → Nat → Int32} {L : Nat → Nat → Int64} (hF : pm_fix pt_me pt_Sg (pt_R L0 xs) F) {y0 : Int64} {x2 : Int32} : F 724 0 [some (.long y0), none, some (.int x2)] [] (23, kGR, I, L) =
    some (some (.long ((32 * y0) + (Int32.toInt64 ((x2 - 97) + 1)))), (23, kGR, I, L)) := pm_blk_to hF (pm_stp 724 [0]) 16 rfl
theorem k_len {I : Nat → Nat → Int32} {L : Nat → Nat → Int64} (hF : pm_fix pt_me pt_Sg (pt_R L0 xs) F) : F 1501 0 [some (.ref 201)] [] (23, kGR, I, L) = some (some (.int (nI 74)), (23, kGR, I, L)) := by
  have d1 : decide (Int8.toInt32 (Int32.toInt8 0) = 0) = true := by decide +kernel
  have d2 : (nI 74 : Int32) >>> ((0 : Int32) &&& 31) = nI 74 := by decide +kernel
  rw [k1501_0 hF, k1502_0 hF, if_neg (by decide), d1]
  show F 1501 9 [some (.ref 201)] [.int 0, .int (nI 74)] (23, kGR, I, L) = _
  rw [k1501_9 hF, d2]
theorem k_tx : ∀ k, k < 74 → UInt32.toInt32 (Int32.toUInt32 ((pt_txt k) &&& 255) % 65536) = pt_txt k ∧ UInt32.toInt32 (Int32.toUInt32 (pt_txt k) % 65536) = pt_txt k := by decide +kernel
theorem k_char {I : Nat → Nat → Int32} {L : Nat → Nat → Int64} (hF : pm_fix pt_me pt_Sg (pt_R L0 xs) F) {k : Nat} (hk : k < 74) : F 1503 0 [some (.ref 201), some (.int (nI k))] [] (23, kGR, I, L) = some (some (.int (pt_txt k)), (23, kGR, I, L)) := by
  obtain ⟨t1, t2⟩ := k_tx k hk
  have d3 : decide (pt_txt k = pt_txt k) = true := decide_eq_true rfl
  rw [k1503_0 hF, k1504_0 hF, if_neg (by decide), if_pos rfl]
  show F 1503 4 [some (.ref 201), some (.int (nI k))] [.int 1] (23, kGR, I, L) = _
  rw [k1503_4 hF, if_neg (by decide), k1505_0 hF, k1506_0 hF, k1507_0 hF, if_neg (by rw [z_lt0 (by omega)]; exact fun z => z), if_pos (by rw [z_lt (by omega) (by omega)]; exact hk)]
  show pm_k (pm_k (F 1506 8 [some (.int (nI k)), some (.int (nI 74))] [.int (nI k)] (23, kGR, I, L)) (fun v S => F 1505 6 [some (.ref 202), some (.int (nI k))] (v.toList ++ []) S)) _ = _
  rw [k1506_8 hF]
  show pm_k (F 1505 6 [some (.ref 202), some (.int (nI k))] [] (23, kGR, I, L)) _ = _
  rw [k1505_6 hF, z_ib hk (by omega), z_cl (by omega), t1, t2, d3]
  show F 1503 15 [some (.ref 201), some (.int (nI k))] [.int (pt_txt k)] (23, kGR, I, L) = _
  rw [k1503_15 hF, t2, d3]
  rfl
def kn (k : Nat) : Nat := (lp kst k (0, kLR)).1
theorem kn_lt : ∀ k, k < 75 → kn k < 14 ∧ (k < 74 → kn k < 13) := by decide +kernel
theorem kloop (hF : pm_fix pt_me pt_Sg (pt_R L0 xs) F) : F 701 74 [some (.ref 10), some (.ref 1), some (.int 0), some (.int 0), none] [] (23, kGR, kIR, kLR) = some (none, (23, kGR, kIR, (lp kst 74 (0, kLR)).2)) := by
  refine (stE (G := fun k => F 701 74 [some (.ref 10), some (.ref 1), some (.int (nI (kn k))), some (.int (nI k)), none] [] (23, kGR, kIR, (lp kst k (0, kLR)).2)) (n := 74) (fun k hk => ?_)).trans ?_
  · try dsimp only
    have b1 := (kn_lt k (by omega)).1
    have b2 := (kn_lt k (by omega)).2 hk
    have s1 : ∀ m : Nat, nI m + (1 : Int32) = nI (m + 1) := fun m => nI_add m 1
    have e1 : lp kst (k + 1) (0, kLR) = kst k (lp kst k (0, kLR)) := rfl
    rw [k701_74 hF, k_len hF]
    show F 701 80 [some (.ref 10), some (.ref 1), some (.int (nI (kn k))), some (.int (nI k)), none] [.int (nI 74), .int (nI k)] (23, kGR, kIR, (lp kst k (0, kLR)).2) = _
    rw [k701_80 hF, if_pos (by rw [z_lt (by omega) (by omega)]; exact hk), if_pos (by rw [show (13 : Int32) = nI 13 from rfl, z_lt (by omega) (by omega)]; exact b2), k_char hF hk]
    show F 701 95 [some (.ref 10), some (.ref 1), some (.int (nI (kn k))), some (.int (nI k)), none] [.int (pt_txt k)] (23, kGR, kIR, (lp kst k (0, kLR)).2) = _
    rw [k701_95 hF]
    by_cases c : pt_txt k = 32
    · have e2 : kst k (lp kst k (0, kLR)) = ((lp kst k (0, kLR)).1 + 1, (lp kst k (0, kLR)).2) := if_pos c
      have e3 : kn (k + 1) = kn k + 1 := (congrArg Prod.fst e1).trans (congrArg Prod.fst e2)
      rw [if_pos c, e3, e1, e2, s1, s1]
    · have e2 : kst k (lp kst k (0, kLR)) = ((lp kst k (0, kLR)).1, pm_ul (lp kst k (0, kLR)).2 18 (lp kst k (0, kLR)).1 (32 * (lp kst k (0, kLR)).2 18 (lp kst k (0, kLR)).1 + Int32.toInt64 (pt_txt k - 97 + 1))) := if_neg c
      have e3 : kn (k + 1) = kn k := by
        have h1 := congrArg Prod.fst e1
        have h2 := congrArg Prod.fst e2
        exact h1.trans h2
      rw [if_neg c, z_ib b2 (by omega), z_cl (by omega)]
      show pm_k (F 724 0 [some (.long ((lp kst k (0, kLR)).2 18 (kn k))), none, some (.int (pt_txt k))] [] (23, kGR, kIR, (lp kst k (0, kLR)).2)) _ = _
      rw [k724_0 hF]
      show F 701 126 [some (.ref 10), some (.ref 1), some (.int (nI (kn k))), some (.int (nI k)), some (.int (pt_txt k))] [.long _, .int (nI (kn k)), .ref 18] (23, kGR, kIR, (lp kst k (0, kLR)).2) = _
      rw [k701_126 hF, z_ib b2 (by omega), z_cl (by omega), e3, e1, e2, s1]
      rfl
  · try dsimp only
    have b1 := (kn_lt 74 (by omega)).1
    rw [k701_74 hF, k_len hF]
    show F 701 80 [some (.ref 10), some (.ref 1), some (.int (nI (kn 74))), some (.int (nI 74)), none] [.int (nI 74), .int (nI 74)] (23, kGR, kIR, (lp kst 74 (0, kLR)).2) = _
    rw [k701_80 hF, if_neg (by rw [z_lt (by omega) (by omega)]; omega)]

def kL24 : Nat → Nat → Int64 := (lp kst 74 (0, kLR)).2
theorem km701_loop (hF : pm_fix pt_me pt_Sg (pt_R L0 xs) F) : F 701 74 [some (.ref 10), some (.ref 1), some (.int 0), some (.int 0), none] [] (23, kG27, kI31, kL23) = some (none, (23, kG27, kI31, kL24)) := kloop hF
theorem km701_4 (hF : pm_fix pt_me pt_Sg (pt_R L0 xs) F) : F 701 0 [some (.ref 10), some (.ref 1), none, none, none] [] (11, kG13, kI14, kL11) = some (none, (23, kG27, kI31, kL24)) := by
  rw [km701_4_0 hF]
  rw [km501_5 hF]
  show F 701 12 [some (.ref 10), some (.ref 1), none, none, none] [.ref 11, .ref 10] (18, kG20, kI24, kL18) = _
  rw [km701_4_1 hF]
  show F 701 15 [some (.ref 10), some (.ref 1), none, none, none] [] (18, kG21, kI24, kL18) = _
  rw [km701_4_2 hF]
  show F 701 23 [some (.ref 10), some (.ref 1), none, none, none] [] (19, kG22, kI25, kL19) = _
  rw [km701_4_3 hF]
  show F 701 31 [some (.ref 10), some (.ref 1), none, none, none] [] (20, kG23, kI26, kL20) = _
  rw [km701_4_4 hF]
  show F 701 39 [some (.ref 10), some (.ref 1), none, none, none] [] (21, kG24, kI27, kL21) = _
  rw [km701_4_5 hF]
  show F 701 47 [some (.ref 10), some (.ref 1), none, none, none] [] (22, kG25, kI28, kL22) = _
  rw [km701_4_6 hF]
  show F 701 55 [some (.ref 10), some (.ref 1), none, none, none] [] (23, kG26, kI29, kL23) = _
  rw [km701_4_7 hF]
  show F 701 60 [some (.ref 10), some (.ref 1), none, none, none] [] (23, kG26, kI30, kL23) = _
  rw [km701_4_8 hF]
  show F 701 65 [some (.ref 10), some (.ref 1), none, none, none] [] (23, kG26, kI31, kL23) = _
  rw [km701_4_9 hF]
  show F 701 70 [some (.ref 10), some (.ref 1), none, none, none] [] (23, kG27, kI31, kL23) = _
  rw [km701_4_10 hF]
  rw [km701_loop hF]
def kG28 : Nat → Nat → Nat := (pm_ug kG27 0 2 11)
theorem kZ28 : kZ kG28 := (kZug kZ27 (by decide) (by decide))
set_option maxRecDepth 20000 in
theorem km101_1_5 (hF : pm_fix pt_me pt_Sg (pt_R L0 xs) F) : F 101 38 [some (.ref 0)] [.ref 10, .ref 0] (23, kG27, kI31, kL24) = F 101 41 [some (.ref 0)] [] (23, kG28, kI31, kL24) := pm_blk_to hF (pm_stp 101 [12, 15, 23, 26, 38, 41, 53, 56, 68, 71, 87, 90, 106, 109, 121, 124]) 64 rfl
def kG29 : Nat → Nat → Nat := (pm_cg kG28 23)
theorem kZ29 : kZ kG29 := (kZcg kZ28)
def kI32 : Nat → Nat → Int32 := (pm_ci kI31 23)
def kL25 : Nat → Nat → Int64 := (pm_cl kL24 23)
set_option maxRecDepth 20000 in
theorem km101_1_6 (hF : pm_fix pt_me pt_Sg (pt_R L0 xs) F) : F 101 41 [some (.ref 0)] [] (23, kG28, kI31, kL24) = pm_k (F 601 0 [some (.ref 23), some (.ref 3)] [] (24, kG29, kI32, kL25)) (fun v S => F 101 53 [some (.ref 0)] (v.toList ++ [.ref 23, .ref 0]) S) := pm_blk_to hF (pm_stp 101 [12, 15, 23, 26, 38, 41, 53, 56, 68, 71, 87, 90, 106, 109, 121, 124]) 64 rfl
def kG30 : Nat → Nat → Nat := (pm_ug (pm_cg kG29 24) 23 1 25)
theorem kZ30 : kZ kG30 := (kZug (kZcg kZ29) (by decide) (by decide))
def kI33 : Nat → Nat → Int32 := (pm_ci kI32 24)
def kL26 : Nat → Nat → Int64 := (pm_cl kL25 24)
set_option maxRecDepth 20000 in
theorem km601_6_0 (hF : pm_fix pt_me pt_Sg (pt_R L0 xs) F) : F 601 0 [some (.ref 23), some (.ref 3)] [] (24, kG29, kI32, kL25) = F 601 13 [some (.ref 23), some (.ref 3)] [] (25, kG30, kI33, kL26) := pm_blk_to hF (pm_stp 601 [13, 22, 30, 35, 40]) 26 rfl
def kG31 : Nat → Nat → Nat := (pm_ug (pm_cg kG30 25) 23 2 26)
theorem kZ31 : kZ kG31 := (kZug (kZcg kZ30) (by decide) (by decide))
def kI34 : Nat → Nat → Int32 := (pm_ci kI33 25)
def kL27 : Nat → Nat → Int64 := (pm_cl kL26 25)
set_option maxRecDepth 20000 in
theorem km601_6_1 (hF : pm_fix pt_me pt_Sg (pt_R L0 xs) F) : F 601 13 [some (.ref 23), some (.ref 3)] [] (25, kG30, kI33, kL26) = F 601 22 [some (.ref 23), some (.ref 3)] [] (26, kG31, kI34, kL27) := pm_blk_to hF (pm_stp 601 [13, 22, 30, 35, 40]) 26 rfl
def kG32 : Nat → Nat → Nat := (pm_ug (pm_cg kG31 26) 23 3 27)
theorem kZ32 : kZ kG32 := (kZug (kZcg kZ31) (by decide) (by decide))
def kI35 : Nat → Nat → Int32 := (pm_ci kI34 26)
def kL28 : Nat → Nat → Int64 := (pm_cl kL27 26)
set_option maxRecDepth 20000 in
theorem km601_6_2 (hF : pm_fix pt_me pt_Sg (pt_R L0 xs) F) : F 601 22 [some (.ref 23), some (.ref 3)] [] (26, kG31, kI34, kL27) = F 601 30 [some (.ref 23), some (.ref 3)] [] (27, kG32, kI35, kL28) := pm_blk_to hF (pm_stp 601 [13, 22, 30, 35, 40]) 26 rfl
def kI36 : Nat → Nat → Int32 := (pm_ui kI35 23 5 (-1))
set_option maxRecDepth 20000 in
theorem km601_6_3 (hF : pm_fix pt_me pt_Sg (pt_R L0 xs) F) : F 601 30 [some (.ref 23), some (.ref 3)] [] (27, kG32, kI35, kL28) = F 601 35 [some (.ref 23), some (.ref 3)] [] (27, kG32, kI36, kL28) := pm_blk_to hF (pm_stp 601 [13, 22, 30, 35, 40]) 26 rfl
def kG33 : Nat → Nat → Nat := (pm_ug kG32 23 0 4)
theorem kZ33 : kZ kG33 := (kZug kZ32 (by decide) (by decide))
set_option maxRecDepth 20000 in
theorem km601_6_4 (hF : pm_fix pt_me pt_Sg (pt_R L0 xs) F) : F 601 35 [some (.ref 23), some (.ref 3)] [] (27, kG32, kI36, kL28) = F 601 40 [some (.ref 23), some (.ref 3)] [] (27, kG33, kI36, kL28) := pm_blk_to hF (pm_stp 601 [13, 22, 30, 35, 40]) 26 rfl
set_option maxRecDepth 20000 in
theorem km601_6_5 (hF : pm_fix pt_me pt_Sg (pt_R L0 xs) F) : F 601 40 [some (.ref 23), some (.ref 3)] [] (27, kG33, kI36, kL28) = some (none, (27, kG33, kI36, kL28)) := pm_blk_to hF (pm_stp 601 [13, 22, 30, 35, 40]) 26 rfl
theorem km601_6 (hF : pm_fix pt_me pt_Sg (pt_R L0 xs) F) : F 601 0 [some (.ref 23), some (.ref 3)] [] (24, kG29, kI32, kL25) = some (none, (27, kG33, kI36, kL28)) := by
  rw [km601_6_0 hF]
  show F 601 13 [some (.ref 23), some (.ref 3)] [] (25, kG30, kI33, kL26) = _
  rw [km601_6_1 hF]
  show F 601 22 [some (.ref 23), some (.ref 3)] [] (26, kG31, kI34, kL27) = _
  rw [km601_6_2 hF]
  show F 601 30 [some (.ref 23), some (.ref 3)] [] (27, kG32, kI35, kL28) = _
  rw [km601_6_3 hF]
  show F 601 35 [some (.ref 23), some (.ref 3)] [] (27, kG32, kI36, kL28) = _
  rw [km601_6_4 hF]
  show F 601 40 [some (.ref 23), some (.ref 3)] [] (27, kG33, kI36, kL28) = _
  rw [km601_6_5 hF]
def kG34 : Nat → Nat → Nat := (pm_ug kG33 0 3 24)
theorem kZ34 : kZ kG34 := (kZug kZ33 (by decide) (by decide))
set_option maxRecDepth 20000 in
theorem km101_1_7 (hF : pm_fix pt_me pt_Sg (pt_R L0 xs) F) : F 101 53 [some (.ref 0)] [.ref 23, .ref 0] (27, kG33, kI36, kL28) = F 101 56 [some (.ref 0)] [] (27, kG34, kI36, kL28) := pm_blk_to hF (pm_stp 101 [12, 15, 23, 26, 38, 41, 53, 56, 68, 71, 87, 90, 106, 109, 121, 124]) 64 rfl
def kG35 : Nat → Nat → Nat := (pm_cg kG34 27)
theorem kZ35 : kZ kG35 := (kZcg kZ34)
def kI37 : Nat → Nat → Int32 := (pm_ci kI36 27)
def kL29 : Nat → Nat → Int64 := (pm_cl kL28 27)
set_option maxRecDepth 20000 in
theorem km101_1_8 (hF : pm_fix pt_me pt_Sg (pt_R L0 xs) F) : F 101 56 [some (.ref 0)] [] (27, kG34, kI36, kL28) = pm_k (F 801 0 [some (.ref 27), some (.ref 3)] [] (28, kG35, kI37, kL29)) (fun v S => F 101 68 [some (.ref 0)] (v.toList ++ [.ref 27, .ref 0]) S) := pm_blk_to hF (pm_stp 101 [12, 15, 23, 26, 38, 41, 53, 56, 68, 71, 87, 90, 106, 109, 121, 124]) 64 rfl
def kG36 : Nat → Nat → Nat := (pm_ug (pm_cg kG35 28) 27 1 29)
theorem kZ36 : kZ kG36 := (kZug (kZcg kZ35) (by decide) (by decide))
def kI38 : Nat → Nat → Int32 := (pm_ci kI37 28)
def kL30 : Nat → Nat → Int64 := (pm_cl kL29 28)
set_option maxRecDepth 20000 in
theorem km801_7_0 (hF : pm_fix pt_me pt_Sg (pt_R L0 xs) F) : F 801 0 [some (.ref 27), some (.ref 3)] [] (28, kG35, kI37, kL29) = F 801 13 [some (.ref 27), some (.ref 3)] [] (29, kG36, kI38, kL30) := pm_blk_to hF (pm_stp 801 [13, 22, 27]) 19 rfl
def kG37 : Nat → Nat → Nat := (pm_ug (pm_cg kG36 29) 27 2 30)
theorem kZ37 : kZ kG37 := (kZug (kZcg kZ36) (by decide) (by decide))
def kI39 : Nat → Nat → Int32 := (pm_ci kI38 29)
def kL31 : Nat → Nat → Int64 := (pm_cl kL30 29)
set_option maxRecDepth 20000 in
theorem km801_7_1 (hF : pm_fix pt_me pt_Sg (pt_R L0 xs) F) : F 801 13 [some (.ref 27), some (.ref 3)] [] (29, kG36, kI38, kL30) = F 801 22 [some (.ref 27), some (.ref 3)] [] (30, kG37, kI39, kL31) := pm_blk_to hF (pm_stp 801 [13, 22, 27]) 19 rfl
def kG38 : Nat → Nat → Nat := (pm_ug kG37 27 0 4)
theorem kZ38 : kZ kG38 := (kZug kZ37 (by decide) (by decide))
set_option maxRecDepth 20000 in
theorem km801_7_2 (hF : pm_fix pt_me pt_Sg (pt_R L0 xs) F) : F 801 22 [some (.ref 27), some (.ref 3)] [] (30, kG37, kI39, kL31) = F 801 27 [some (.ref 27), some (.ref 3)] [] (30, kG38, kI39, kL31) := pm_blk_to hF (pm_stp 801 [13, 22, 27]) 19 rfl
set_option maxRecDepth 20000 in
theorem km801_7_3 (hF : pm_fix pt_me pt_Sg (pt_R L0 xs) F) : F 801 27 [some (.ref 27), some (.ref 3)] [] (30, kG38, kI39, kL31) = some (none, (30, kG38, kI39, kL31)) := pm_blk_to hF (pm_stp 801 [13, 22, 27]) 19 rfl
theorem km801_7 (hF : pm_fix pt_me pt_Sg (pt_R L0 xs) F) : F 801 0 [some (.ref 27), some (.ref 3)] [] (28, kG35, kI37, kL29) = some (none, (30, kG38, kI39, kL31)) := by
  rw [km801_7_0 hF]
  show F 801 13 [some (.ref 27), some (.ref 3)] [] (29, kG36, kI38, kL30) = _
  rw [km801_7_1 hF]
  show F 801 22 [some (.ref 27), some (.ref 3)] [] (30, kG37, kI39, kL31) = _
  rw [km801_7_2 hF]
  show F 801 27 [some (.ref 27), some (.ref 3)] [] (30, kG38, kI39, kL31) = _
  rw [km801_7_3 hF]
def kG39 : Nat → Nat → Nat := (pm_ug kG38 0 4 28)
theorem kZ39 : kZ kG39 := (kZug kZ38 (by decide) (by decide))
set_option maxRecDepth 20000 in
theorem km101_1_9 (hF : pm_fix pt_me pt_Sg (pt_R L0 xs) F) : F 101 68 [some (.ref 0)] [.ref 27, .ref 0] (30, kG38, kI39, kL31) = F 101 71 [some (.ref 0)] [] (30, kG39, kI39, kL31) := pm_blk_to hF (pm_stp 101 [12, 15, 23, 26, 38, 41, 53, 56, 68, 71, 87, 90, 106, 109, 121, 124]) 64 rfl
def kG40 : Nat → Nat → Nat := (pm_cg kG39 30)
theorem kZ40 : kZ kG40 := (kZcg kZ39)
def kI40 : Nat → Nat → Int32 := (pm_ci kI39 30)
def kL32 : Nat → Nat → Int64 := (pm_cl kL31 30)
set_option maxRecDepth 20000 in
theorem km101_1_10 (hF : pm_fix pt_me pt_Sg (pt_R L0 xs) F) : F 101 71 [some (.ref 0)] [] (30, kG39, kI39, kL31) = pm_k (F 301 0 [some (.ref 30), some (.ref 3), some (.ref 23)] [] (31, kG40, kI40, kL32)) (fun v S => F 101 87 [some (.ref 0)] (v.toList ++ [.ref 30, .ref 0]) S) := pm_blk_to hF (pm_stp 101 [12, 15, 23, 26, 38, 41, 53, 56, 68, 71, 87, 90, 106, 109, 121, 124]) 64 rfl
def kG41 : Nat → Nat → Nat := (pm_ug (pm_cg kG40 31) 30 2 32)
theorem kZ41 : kZ kG41 := (kZug (kZcg kZ40) (by decide) (by decide))
def kI41 : Nat → Nat → Int32 := (pm_ci kI40 31)
def kL33 : Nat → Nat → Int64 := (pm_cl kL32 31)
set_option maxRecDepth 20000 in
theorem km301_8_0 (hF : pm_fix pt_me pt_Sg (pt_R L0 xs) F) : F 301 0 [some (.ref 30), some (.ref 3), some (.ref 23)] [] (31, kG40, kI40, kL32) = F 301 13 [some (.ref 30), some (.ref 3), some (.ref 23)] [] (32, kG41, kI41, kL33) := pm_blk_to hF (pm_stp 301 [13, 22, 31, 40, 49, 58, 67, 76, 85, 94, 99, 104, 109, 114]) 60 rfl
def kG42 : Nat → Nat → Nat := (pm_ug (pm_cg kG41 32) 30 3 33)
theorem kZ42 : kZ kG42 := (kZug (kZcg kZ41) (by decide) (by decide))
def kI42 : Nat → Nat → Int32 := (pm_ci kI41 32)
def kL34 : Nat → Nat → Int64 := (pm_cl kL33 32)
set_option maxRecDepth 20000 in
theorem km301_8_1 (hF : pm_fix pt_me pt_Sg (pt_R L0 xs) F) : F 301 13 [some (.ref 30), some (.ref 3), some (.ref 23)] [] (32, kG41, kI41, kL33) = F 301 22 [some (.ref 30), some (.ref 3), some (.ref 23)] [] (33, kG42, kI42, kL34) := pm_blk_to hF (pm_stp 301 [13, 22, 31, 40, 49, 58, 67, 76, 85, 94, 99, 104, 109, 114]) 60 rfl
def kG43 : Nat → Nat → Nat := (pm_ug (pm_cg kG42 33) 30 4 34)
theorem kZ43 : kZ kG43 := (kZug (kZcg kZ42) (by decide) (by decide))
def kI43 : Nat → Nat → Int32 := (pm_ci kI42 33)
def kL35 : Nat → Nat → Int64 := (pm_cl kL34 33)
set_option maxRecDepth 20000 in
theorem km301_8_2 (hF : pm_fix pt_me pt_Sg (pt_R L0 xs) F) : F 301 22 [some (.ref 30), some (.ref 3), some (.ref 23)] [] (33, kG42, kI42, kL34) = F 301 31 [some (.ref 30), some (.ref 3), some (.ref 23)] [] (34, kG43, kI43, kL35) := pm_blk_to hF (pm_stp 301 [13, 22, 31, 40, 49, 58, 67, 76, 85, 94, 99, 104, 109, 114]) 60 rfl
def kG44 : Nat → Nat → Nat := (pm_ug (pm_cg kG43 34) 30 5 35)
theorem kZ44 : kZ kG44 := (kZug (kZcg kZ43) (by decide) (by decide))
def kI44 : Nat → Nat → Int32 := (pm_ci kI43 34)
def kL36 : Nat → Nat → Int64 := (pm_cl kL35 34)
set_option maxRecDepth 20000 in
theorem km301_8_3 (hF : pm_fix pt_me pt_Sg (pt_R L0 xs) F) : F 301 31 [some (.ref 30), some (.ref 3), some (.ref 23)] [] (34, kG43, kI43, kL35) = F 301 40 [some (.ref 30), some (.ref 3), some (.ref 23)] [] (35, kG44, kI44, kL36) := pm_blk_to hF (pm_stp 301 [13, 22, 31, 40, 49, 58, 67, 76, 85, 94, 99, 104, 109, 114]) 60 rfl
def kG45 : Nat → Nat → Nat := (pm_ug (pm_cg kG44 35) 30 6 36)
theorem kZ45 : kZ kG45 := (kZug (kZcg kZ44) (by decide) (by decide))
def kI45 : Nat → Nat → Int32 := (pm_ci kI44 35)
def kL37 : Nat → Nat → Int64 := (pm_cl kL36 35)
set_option maxRecDepth 20000 in
theorem km301_8_4 (hF : pm_fix pt_me pt_Sg (pt_R L0 xs) F) : F 301 40 [some (.ref 30), some (.ref 3), some (.ref 23)] [] (35, kG44, kI44, kL36) = F 301 49 [some (.ref 30), some (.ref 3), some (.ref 23)] [] (36, kG45, kI45, kL37) := pm_blk_to hF (pm_stp 301 [13, 22, 31, 40, 49, 58, 67, 76, 85, 94, 99, 104, 109, 114]) 60 rfl
def kG46 : Nat → Nat → Nat := (pm_ug (pm_cg kG45 36) 30 7 37)
theorem kZ46 : kZ kG46 := (kZug (kZcg kZ45) (by decide) (by decide))
def kI46 : Nat → Nat → Int32 := (pm_ci kI45 36)
def kL38 : Nat → Nat → Int64 := (pm_cl kL37 36)
set_option maxRecDepth 20000 in
theorem km301_8_5 (hF : pm_fix pt_me pt_Sg (pt_R L0 xs) F) : F 301 49 [some (.ref 30), some (.ref 3), some (.ref 23)] [] (36, kG45, kI45, kL37) = F 301 58 [some (.ref 30), some (.ref 3), some (.ref 23)] [] (37, kG46, kI46, kL38) := pm_blk_to hF (pm_stp 301 [13, 22, 31, 40, 49, 58, 67, 76, 85, 94, 99, 104, 109, 114]) 60 rfl
def kG47 : Nat → Nat → Nat := (pm_ug (pm_cg kG46 37) 30 8 38)
theorem kZ47 : kZ kG47 := (kZug (kZcg kZ46) (by decide) (by decide))
def kI47 : Nat → Nat → Int32 := (pm_ci kI46 37)
def kL39 : Nat → Nat → Int64 := (pm_cl kL38 37)
set_option maxRecDepth 20000 in
theorem km301_8_6 (hF : pm_fix pt_me pt_Sg (pt_R L0 xs) F) : F 301 58 [some (.ref 30), some (.ref 3), some (.ref 23)] [] (37, kG46, kI46, kL38) = F 301 67 [some (.ref 30), some (.ref 3), some (.ref 23)] [] (38, kG47, kI47, kL39) := pm_blk_to hF (pm_stp 301 [13, 22, 31, 40, 49, 58, 67, 76, 85, 94, 99, 104, 109, 114]) 60 rfl
def kG48 : Nat → Nat → Nat := (pm_ug (pm_cg kG47 38) 30 9 39)
theorem kZ48 : kZ kG48 := (kZug (kZcg kZ47) (by decide) (by decide))
def kI48 : Nat → Nat → Int32 := (pm_ci kI47 38)
def kL40 : Nat → Nat → Int64 := (pm_cl kL39 38)
set_option maxRecDepth 20000 in
theorem km301_8_7 (hF : pm_fix pt_me pt_Sg (pt_R L0 xs) F) : F 301 67 [some (.ref 30), some (.ref 3), some (.ref 23)] [] (38, kG47, kI47, kL39) = F 301 76 [some (.ref 30), some (.ref 3), some (.ref 23)] [] (39, kG48, kI48, kL40) := pm_blk_to hF (pm_stp 301 [13, 22, 31, 40, 49, 58, 67, 76, 85, 94, 99, 104, 109, 114]) 60 rfl
def kG49 : Nat → Nat → Nat := (pm_ug (pm_cg kG48 39) 30 10 40)
theorem kZ49 : kZ kG49 := (kZug (kZcg kZ48) (by decide) (by decide))
def kI49 : Nat → Nat → Int32 := (pm_ci kI48 39)
def kL41 : Nat → Nat → Int64 := (pm_cl kL40 39)
set_option maxRecDepth 20000 in
theorem km301_8_8 (hF : pm_fix pt_me pt_Sg (pt_R L0 xs) F) : F 301 76 [some (.ref 30), some (.ref 3), some (.ref 23)] [] (39, kG48, kI48, kL40) = F 301 85 [some (.ref 30), some (.ref 3), some (.ref 23)] [] (40, kG49, kI49, kL41) := pm_blk_to hF (pm_stp 301 [13, 22, 31, 40, 49, 58, 67, 76, 85, 94, 99, 104, 109, 114]) 60 rfl
def kG50 : Nat → Nat → Nat := (pm_ug (pm_cg kG49 40) 30 11 41)
theorem kZ50 : kZ kG50 := (kZug (kZcg kZ49) (by decide) (by decide))
def kI50 : Nat → Nat → Int32 := (pm_ci kI49 40)
def kL42 : Nat → Nat → Int64 := (pm_cl kL41 40)
set_option maxRecDepth 20000 in
theorem km301_8_9 (hF : pm_fix pt_me pt_Sg (pt_R L0 xs) F) : F 301 85 [some (.ref 30), some (.ref 3), some (.ref 23)] [] (40, kG49, kI49, kL41) = F 301 94 [some (.ref 30), some (.ref 3), some (.ref 23)] [] (41, kG50, kI50, kL42) := pm_blk_to hF (pm_stp 301 [13, 22, 31, 40, 49, 58, 67, 76, 85, 94, 99, 104, 109, 114]) 60 rfl
def kI51 : Nat → Nat → Int32 := (pm_ui kI50 30 13 (-1))
set_option maxRecDepth 20000 in
theorem km301_8_10 (hF : pm_fix pt_me pt_Sg (pt_R L0 xs) F) : F 301 94 [some (.ref 30), some (.ref 3), some (.ref 23)] [] (41, kG50, kI50, kL42) = F 301 99 [some (.ref 30), some (.ref 3), some (.ref 23)] [] (41, kG50, kI51, kL42) := pm_blk_to hF (pm_stp 301 [13, 22, 31, 40, 49, 58, 67, 76, 85, 94, 99, 104, 109, 114]) 60 rfl
def kI52 : Nat → Nat → Int32 := (pm_ui kI51 30 14 (-1))
set_option maxRecDepth 20000 in
theorem km301_8_11 (hF : pm_fix pt_me pt_Sg (pt_R L0 xs) F) : F 301 99 [some (.ref 30), some (.ref 3), some (.ref 23)] [] (41, kG50, kI51, kL42) = F 301 104 [some (.ref 30), some (.ref 3), some (.ref 23)] [] (41, kG50, kI52, kL42) := pm_blk_to hF (pm_stp 301 [13, 22, 31, 40, 49, 58, 67, 76, 85, 94, 99, 104, 109, 114]) 60 rfl
def kG51 : Nat → Nat → Nat := (pm_ug kG50 30 0 4)
theorem kZ51 : kZ kG51 := (kZug kZ50 (by decide) (by decide))
set_option maxRecDepth 20000 in
theorem km301_8_12 (hF : pm_fix pt_me pt_Sg (pt_R L0 xs) F) : F 301 104 [some (.ref 30), some (.ref 3), some (.ref 23)] [] (41, kG50, kI52, kL42) = F 301 109 [some (.ref 30), some (.ref 3), some (.ref 23)] [] (41, kG51, kI52, kL42) := pm_blk_to hF (pm_stp 301 [13, 22, 31, 40, 49, 58, 67, 76, 85, 94, 99, 104, 109, 114]) 60 rfl
def kG52 : Nat → Nat → Nat := (pm_ug kG51 30 1 24)
theorem kZ52 : kZ kG52 := (kZug kZ51 (by decide) (by decide))
set_option maxRecDepth 20000 in
theorem km301_8_13 (hF : pm_fix pt_me pt_Sg (pt_R L0 xs) F) : F 301 109 [some (.ref 30), some (.ref 3), some (.ref 23)] [] (41, kG51, kI52, kL42) = F 301 114 [some (.ref 30), some (.ref 3), some (.ref 23)] [] (41, kG52, kI52, kL42) := pm_blk_to hF (pm_stp 301 [13, 22, 31, 40, 49, 58, 67, 76, 85, 94, 99, 104, 109, 114]) 60 rfl
set_option maxRecDepth 20000 in
theorem km301_8_14 (hF : pm_fix pt_me pt_Sg (pt_R L0 xs) F) : F 301 114 [some (.ref 30), some (.ref 3), some (.ref 23)] [] (41, kG52, kI52, kL42) = some (none, (41, kG52, kI52, kL42)) := pm_blk_to hF (pm_stp 301 [13, 22, 31, 40, 49, 58, 67, 76, 85, 94, 99, 104, 109, 114]) 60 rfl
theorem km301_8 (hF : pm_fix pt_me pt_Sg (pt_R L0 xs) F) : F 301 0 [some (.ref 30), some (.ref 3), some (.ref 23)] [] (31, kG40, kI40, kL32) = some (none, (41, kG52, kI52, kL42)) := by
  rw [km301_8_0 hF]
  show F 301 13 [some (.ref 30), some (.ref 3), some (.ref 23)] [] (32, kG41, kI41, kL33) = _
  rw [km301_8_1 hF]
  show F 301 22 [some (.ref 30), some (.ref 3), some (.ref 23)] [] (33, kG42, kI42, kL34) = _
  rw [km301_8_2 hF]
  show F 301 31 [some (.ref 30), some (.ref 3), some (.ref 23)] [] (34, kG43, kI43, kL35) = _
  rw [km301_8_3 hF]
  show F 301 40 [some (.ref 30), some (.ref 3), some (.ref 23)] [] (35, kG44, kI44, kL36) = _
  rw [km301_8_4 hF]
  show F 301 49 [some (.ref 30), some (.ref 3), some (.ref 23)] [] (36, kG45, kI45, kL37) = _
  rw [km301_8_5 hF]
  show F 301 58 [some (.ref 30), some (.ref 3), some (.ref 23)] [] (37, kG46, kI46, kL38) = _
  rw [km301_8_6 hF]
  show F 301 67 [some (.ref 30), some (.ref 3), some (.ref 23)] [] (38, kG47, kI47, kL39) = _
  rw [km301_8_7 hF]
  show F 301 76 [some (.ref 30), some (.ref 3), some (.ref 23)] [] (39, kG48, kI48, kL40) = _
  rw [km301_8_8 hF]
  show F 301 85 [some (.ref 30), some (.ref 3), some (.ref 23)] [] (40, kG49, kI49, kL41) = _
  rw [km301_8_9 hF]
  show F 301 94 [some (.ref 30), some (.ref 3), some (.ref 23)] [] (41, kG50, kI50, kL42) = _
  rw [km301_8_10 hF]
  show F 301 99 [some (.ref 30), some (.ref 3), some (.ref 23)] [] (41, kG50, kI51, kL42) = _
  rw [km301_8_11 hF]
  show F 301 104 [some (.ref 30), some (.ref 3), some (.ref 23)] [] (41, kG50, kI52, kL42) = _
  rw [km301_8_12 hF]
  show F 301 109 [some (.ref 30), some (.ref 3), some (.ref 23)] [] (41, kG51, kI52, kL42) = _
  rw [km301_8_13 hF]
  show F 301 114 [some (.ref 30), some (.ref 3), some (.ref 23)] [] (41, kG52, kI52, kL42) = _
  rw [km301_8_14 hF]
def kG53 : Nat → Nat → Nat := (pm_ug kG52 0 5 31)
theorem kZ53 : kZ kG53 := (kZug kZ52 (by decide) (by decide))
set_option maxRecDepth 20000 in
theorem km101_1_11 (hF : pm_fix pt_me pt_Sg (pt_R L0 xs) F) : F 101 87 [some (.ref 0)] [.ref 30, .ref 0] (41, kG52, kI52, kL42) = F 101 90 [some (.ref 0)] [] (41, kG53, kI52, kL42) := pm_blk_to hF (pm_stp 101 [12, 15, 23, 26, 38, 41, 53, 56, 68, 71, 87, 90, 106, 109, 121, 124]) 64 rfl
def kG54 : Nat → Nat → Nat := (pm_cg kG53 41)
theorem kZ54 : kZ kG54 := (kZcg kZ53)
def kI53 : Nat → Nat → Int32 := (pm_ci kI52 41)
def kL43 : Nat → Nat → Int64 := (pm_cl kL42 41)
set_option maxRecDepth 20000 in
theorem km101_1_12 (hF : pm_fix pt_me pt_Sg (pt_R L0 xs) F) : F 101 90 [some (.ref 0)] [] (41, kG53, kI52, kL42) = pm_k (F 401 0 [some (.ref 41), some (.ref 3), some (.ref 30)] [] (42, kG54, kI53, kL43)) (fun v S => F 101 106 [some (.ref 0)] (v.toList ++ [.ref 41, .ref 0]) S) := pm_blk_to hF (pm_stp 101 [12, 15, 23, 26, 38, 41, 53, 56, 68, 71, 87, 90, 106, 109, 121, 124]) 64 rfl
def kG55 : Nat → Nat → Nat := (pm_ug (pm_cg kG54 42) 41 2 43)
theorem kZ55 : kZ kG55 := (kZug (kZcg kZ54) (by decide) (by decide))
def kI54 : Nat → Nat → Int32 := (pm_ci kI53 42)
def kL44 : Nat → Nat → Int64 := (pm_cl kL43 42)
set_option maxRecDepth 20000 in
theorem km401_9_0 (hF : pm_fix pt_me pt_Sg (pt_R L0 xs) F) : F 401 0 [some (.ref 41), some (.ref 3), some (.ref 30)] [] (42, kG54, kI53, kL43) = F 401 13 [some (.ref 41), some (.ref 3), some (.ref 30)] [] (43, kG55, kI54, kL44) := pm_blk_to hF (pm_stp 401 [13, 22, 27, 32, 37]) 25 rfl
def kG56 : Nat → Nat → Nat := (pm_ug (pm_cg kG55 43) 41 3 44)
theorem kZ56 : kZ kG56 := (kZug (kZcg kZ55) (by decide) (by decide))
def kI55 : Nat → Nat → Int32 := (pm_ci kI54 43)
def kL45 : Nat → Nat → Int64 := (pm_cl kL44 43)
set_option maxRecDepth 20000 in
theorem km401_9_1 (hF : pm_fix pt_me pt_Sg (pt_R L0 xs) F) : F 401 13 [some (.ref 41), some (.ref 3), some (.ref 30)] [] (43, kG55, kI54, kL44) = F 401 22 [some (.ref 41), some (.ref 3), some (.ref 30)] [] (44, kG56, kI55, kL45) := pm_blk_to hF (pm_stp 401 [13, 22, 27, 32, 37]) 25 rfl
def kI56 : Nat → Nat → Int32 := (pm_ui kI55 41 7 (-1))
set_option maxRecDepth 20000 in
theorem km401_9_2 (hF : pm_fix pt_me pt_Sg (pt_R L0 xs) F) : F 401 22 [some (.ref 41), some (.ref 3), some (.ref 30)] [] (44, kG56, kI55, kL45) = F 401 27 [some (.ref 41), some (.ref 3), some (.ref 30)] [] (44, kG56, kI56, kL45) := pm_blk_to hF (pm_stp 401 [13, 22, 27, 32, 37]) 25 rfl
def kG57 : Nat → Nat → Nat := (pm_ug kG56 41 0 4)
theorem kZ57 : kZ kG57 := (kZug kZ56 (by decide) (by decide))
set_option maxRecDepth 20000 in
theorem km401_9_3 (hF : pm_fix pt_me pt_Sg (pt_R L0 xs) F) : F 401 27 [some (.ref 41), some (.ref 3), some (.ref 30)] [] (44, kG56, kI56, kL45) = F 401 32 [some (.ref 41), some (.ref 3), some (.ref 30)] [] (44, kG57, kI56, kL45) := pm_blk_to hF (pm_stp 401 [13, 22, 27, 32, 37]) 25 rfl
def kG58 : Nat → Nat → Nat := (pm_ug kG57 41 1 31)
theorem kZ58 : kZ kG58 := (kZug kZ57 (by decide) (by decide))
set_option maxRecDepth 20000 in
theorem km401_9_4 (hF : pm_fix pt_me pt_Sg (pt_R L0 xs) F) : F 401 32 [some (.ref 41), some (.ref 3), some (.ref 30)] [] (44, kG57, kI56, kL45) = F 401 37 [some (.ref 41), some (.ref 3), some (.ref 30)] [] (44, kG58, kI56, kL45) := pm_blk_to hF (pm_stp 401 [13, 22, 27, 32, 37]) 25 rfl
set_option maxRecDepth 20000 in
theorem km401_9_5 (hF : pm_fix pt_me pt_Sg (pt_R L0 xs) F) : F 401 37 [some (.ref 41), some (.ref 3), some (.ref 30)] [] (44, kG58, kI56, kL45) = some (none, (44, kG58, kI56, kL45)) := pm_blk_to hF (pm_stp 401 [13, 22, 27, 32, 37]) 25 rfl
theorem km401_9 (hF : pm_fix pt_me pt_Sg (pt_R L0 xs) F) : F 401 0 [some (.ref 41), some (.ref 3), some (.ref 30)] [] (42, kG54, kI53, kL43) = some (none, (44, kG58, kI56, kL45)) := by
  rw [km401_9_0 hF]
  show F 401 13 [some (.ref 41), some (.ref 3), some (.ref 30)] [] (43, kG55, kI54, kL44) = _
  rw [km401_9_1 hF]
  show F 401 22 [some (.ref 41), some (.ref 3), some (.ref 30)] [] (44, kG56, kI55, kL45) = _
  rw [km401_9_2 hF]
  show F 401 27 [some (.ref 41), some (.ref 3), some (.ref 30)] [] (44, kG56, kI56, kL45) = _
  rw [km401_9_3 hF]
  show F 401 32 [some (.ref 41), some (.ref 3), some (.ref 30)] [] (44, kG57, kI56, kL45) = _
  rw [km401_9_4 hF]
  show F 401 37 [some (.ref 41), some (.ref 3), some (.ref 30)] [] (44, kG58, kI56, kL45) = _
  rw [km401_9_5 hF]
def kG59 : Nat → Nat → Nat := (pm_ug kG58 0 6 42)
theorem kZ59 : kZ kG59 := (kZug kZ58 (by decide) (by decide))
set_option maxRecDepth 20000 in
theorem km101_1_13 (hF : pm_fix pt_me pt_Sg (pt_R L0 xs) F) : F 101 106 [some (.ref 0)] [.ref 41, .ref 0] (44, kG58, kI56, kL45) = F 101 109 [some (.ref 0)] [] (44, kG59, kI56, kL45) := pm_blk_to hF (pm_stp 101 [12, 15, 23, 26, 38, 41, 53, 56, 68, 71, 87, 90, 106, 109, 121, 124]) 64 rfl
def kG60 : Nat → Nat → Nat := (pm_cg kG59 44)
theorem kZ60 : kZ kG60 := (kZcg kZ59)
def kI57 : Nat → Nat → Int32 := (pm_ci kI56 44)
def kL46 : Nat → Nat → Int64 := (pm_cl kL45 44)
set_option maxRecDepth 20000 in
theorem km101_1_14 (hF : pm_fix pt_me pt_Sg (pt_R L0 xs) F) : F 101 109 [some (.ref 0)] [] (44, kG59, kI56, kL45) = pm_k (F 201 0 [some (.ref 44), some (.ref 3)] [] (45, kG60, kI57, kL46)) (fun v S => F 101 121 [some (.ref 0)] (v.toList ++ [.ref 44, .ref 0]) S) := pm_blk_to hF (pm_stp 101 [12, 15, 23, 26, 38, 41, 53, 56, 68, 71, 87, 90, 106, 109, 121, 124]) 64 rfl
def kG61 : Nat → Nat → Nat := (pm_ug (pm_cg kG60 45) 44 1 46)
theorem kZ61 : kZ kG61 := (kZug (kZcg kZ60) (by decide) (by decide))
def kI58 : Nat → Nat → Int32 := (pm_ci kI57 45)
def kL47 : Nat → Nat → Int64 := (pm_cl kL46 45)
set_option maxRecDepth 20000 in
theorem km201_10_0 (hF : pm_fix pt_me pt_Sg (pt_R L0 xs) F) : F 201 0 [some (.ref 44), some (.ref 3)] [] (45, kG60, kI57, kL46) = F 201 12 [some (.ref 44), some (.ref 3)] [] (46, kG61, kI58, kL47) := pm_blk_to hF (pm_stp 201 [12, 20, 28, 36, 41]) 27 rfl
def kG62 : Nat → Nat → Nat := (pm_ug (pm_cg kG61 46) 44 2 47)
theorem kZ62 : kZ kG62 := (kZug (kZcg kZ61) (by decide) (by decide))
def kI59 : Nat → Nat → Int32 := (pm_ci kI58 46)
def kL48 : Nat → Nat → Int64 := (pm_cl kL47 46)
set_option maxRecDepth 20000 in
theorem km201_10_1 (hF : pm_fix pt_me pt_Sg (pt_R L0 xs) F) : F 201 12 [some (.ref 44), some (.ref 3)] [] (46, kG61, kI58, kL47) = F 201 20 [some (.ref 44), some (.ref 3)] [] (47, kG62, kI59, kL48) := pm_blk_to hF (pm_stp 201 [12, 20, 28, 36, 41]) 27 rfl
def kG63 : Nat → Nat → Nat := (pm_ug (pm_cg kG62 47) 44 3 48)
theorem kZ63 : kZ kG63 := (kZug (kZcg kZ62) (by decide) (by decide))
def kI60 : Nat → Nat → Int32 := (pm_ci kI59 47)
def kL49 : Nat → Nat → Int64 := (pm_cl kL48 47)
set_option maxRecDepth 20000 in
theorem km201_10_2 (hF : pm_fix pt_me pt_Sg (pt_R L0 xs) F) : F 201 20 [some (.ref 44), some (.ref 3)] [] (47, kG62, kI59, kL48) = F 201 28 [some (.ref 44), some (.ref 3)] [] (48, kG63, kI60, kL49) := pm_blk_to hF (pm_stp 201 [12, 20, 28, 36, 41]) 27 rfl
def kG64 : Nat → Nat → Nat := (pm_ug (pm_cg kG63 48) 44 4 49)
theorem kZ64 : kZ kG64 := (kZug (kZcg kZ63) (by decide) (by decide))
def kI61 : Nat → Nat → Int32 := (pm_ci kI60 48)
def kL50 : Nat → Nat → Int64 := (pm_cl kL49 48)
set_option maxRecDepth 20000 in
theorem km201_10_3 (hF : pm_fix pt_me pt_Sg (pt_R L0 xs) F) : F 201 28 [some (.ref 44), some (.ref 3)] [] (48, kG63, kI60, kL49) = F 201 36 [some (.ref 44), some (.ref 3)] [] (49, kG64, kI61, kL50) := pm_blk_to hF (pm_stp 201 [12, 20, 28, 36, 41]) 27 rfl
def kG65 : Nat → Nat → Nat := (pm_ug kG64 44 0 4)
theorem kZ65 : kZ kG65 := (kZug kZ64 (by decide) (by decide))
set_option maxRecDepth 20000 in
theorem km201_10_4 (hF : pm_fix pt_me pt_Sg (pt_R L0 xs) F) : F 201 36 [some (.ref 44), some (.ref 3)] [] (49, kG64, kI61, kL50) = F 201 41 [some (.ref 44), some (.ref 3)] [] (49, kG65, kI61, kL50) := pm_blk_to hF (pm_stp 201 [12, 20, 28, 36, 41]) 27 rfl
set_option maxRecDepth 20000 in
theorem km201_10_5 (hF : pm_fix pt_me pt_Sg (pt_R L0 xs) F) : F 201 41 [some (.ref 44), some (.ref 3)] [] (49, kG65, kI61, kL50) = some (none, (49, kG65, kI61, kL50)) := pm_blk_to hF (pm_stp 201 [12, 20, 28, 36, 41]) 27 rfl
theorem km201_10 (hF : pm_fix pt_me pt_Sg (pt_R L0 xs) F) : F 201 0 [some (.ref 44), some (.ref 3)] [] (45, kG60, kI57, kL46) = some (none, (49, kG65, kI61, kL50)) := by
  rw [km201_10_0 hF]
  show F 201 12 [some (.ref 44), some (.ref 3)] [] (46, kG61, kI58, kL47) = _
  rw [km201_10_1 hF]
  show F 201 20 [some (.ref 44), some (.ref 3)] [] (47, kG62, kI59, kL48) = _
  rw [km201_10_2 hF]
  show F 201 28 [some (.ref 44), some (.ref 3)] [] (48, kG63, kI60, kL49) = _
  rw [km201_10_3 hF]
  show F 201 36 [some (.ref 44), some (.ref 3)] [] (49, kG64, kI61, kL50) = _
  rw [km201_10_4 hF]
  show F 201 41 [some (.ref 44), some (.ref 3)] [] (49, kG65, kI61, kL50) = _
  rw [km201_10_5 hF]
def kG66 : Nat → Nat → Nat := (pm_ug kG65 0 7 45)
theorem kZ66 : kZ kG66 := (kZug kZ65 (by decide) (by decide))
set_option maxRecDepth 20000 in
theorem km101_1_15 (hF : pm_fix pt_me pt_Sg (pt_R L0 xs) F) : F 101 121 [some (.ref 0)] [.ref 44, .ref 0] (49, kG65, kI61, kL50) = F 101 124 [some (.ref 0)] [] (49, kG66, kI61, kL50) := pm_blk_to hF (pm_stp 101 [12, 15, 23, 26, 38, 41, 53, 56, 68, 71, 87, 90, 106, 109, 121, 124]) 64 rfl
set_option maxRecDepth 20000 in
theorem km101_1_16 (hF : pm_fix pt_me pt_Sg (pt_R L0 xs) F) : F 101 124 [some (.ref 0)] [] (49, kG66, kI61, kL50) = some (none, (49, kG66, kI61, kL50)) := pm_blk_to hF (pm_stp 101 [12, 15, 23, 26, 38, 41, 53, 56, 68, 71, 87, 90, 106, 109, 121, 124]) 64 rfl
theorem km101_1 (hF : pm_fix pt_me pt_Sg (pt_R L0 xs) F) : F 101 0 [some (.ref 0)] [] (1, kG1, kI1, kL1) = some (none, (49, kG66, kI61, kL50)) := by
  rw [km101_1_0 hF]
  rw [km1001_2 hF]
  show F 101 12 [some (.ref 0)] [.ref 1, .ref 0] (3, kG3, kI3, kL3) = _
  rw [km101_1_1 hF]
  show F 101 15 [some (.ref 0)] [] (3, kG4, kI3, kL3) = _
  rw [km101_1_2 hF]
  rw [km501_3 hF]
  show F 101 23 [some (.ref 0)] [.ref 3, .ref 0] (10, kG11, kI13, kL10) = _
  rw [km101_1_3 hF]
  show F 101 26 [some (.ref 0)] [] (10, kG12, kI13, kL10) = _
  rw [km101_1_4 hF]
  rw [km701_4 hF]
  show F 101 38 [some (.ref 0)] [.ref 10, .ref 0] (23, kG27, kI31, kL24) = _
  rw [km101_1_5 hF]
  show F 101 41 [some (.ref 0)] [] (23, kG28, kI31, kL24) = _
  rw [km101_1_6 hF]
  rw [km601_6 hF]
  show F 101 53 [some (.ref 0)] [.ref 23, .ref 0] (27, kG33, kI36, kL28) = _
  rw [km101_1_7 hF]
  show F 101 56 [some (.ref 0)] [] (27, kG34, kI36, kL28) = _
  rw [km101_1_8 hF]
  rw [km801_7 hF]
  show F 101 68 [some (.ref 0)] [.ref 27, .ref 0] (30, kG38, kI39, kL31) = _
  rw [km101_1_9 hF]
  show F 101 71 [some (.ref 0)] [] (30, kG39, kI39, kL31) = _
  rw [km101_1_10 hF]
  rw [km301_8 hF]
  show F 101 87 [some (.ref 0)] [.ref 30, .ref 0] (41, kG52, kI52, kL42) = _
  rw [km101_1_11 hF]
  show F 101 90 [some (.ref 0)] [] (41, kG53, kI52, kL42) = _
  rw [km101_1_12 hF]
  rw [km401_9 hF]
  show F 101 106 [some (.ref 0)] [.ref 41, .ref 0] (44, kG58, kI56, kL45) = _
  rw [km101_1_13 hF]
  show F 101 109 [some (.ref 0)] [] (44, kG59, kI56, kL45) = _
  rw [km101_1_14 hF]
  rw [km201_10 hF]
  show F 101 121 [some (.ref 0)] [.ref 44, .ref 0] (49, kG65, kI61, kL50) = _
  rw [km101_1_15 hF]
  show F 101 124 [some (.ref 0)] [] (49, kG66, kI61, kL50) = _
  rw [km101_1_16 hF]
theorem kgl : pt_gl.length = 5 ∧ ∀ a, a < 5 → ∀ c, c < 10 → ((pt_gl.getD a []).getD c []).length ≤ 80 ∧ (pt_gl.getD a []).length ≤ 10 := by decide +kernel
theorem kgd {α : Type} {l : List α} {m : Nat} {d : α} (z : l.length ≤ m) : l.getD m d = d := by
  rw [List.getD_eq_getElem?_getD, List.getElem?_eq_none z]
  rfl
theorem kZpt : kZ pt_G := by
  intro r k z
  show ((pt_gl.getD (r / 10) []).getD (r % 10) []).getD k 0 = 0
  obtain ⟨g1, g2⟩ := kgl
  by_cases c : 50 ≤ r
  · rw [kgd (l := pt_gl) (by omega)]
    rfl
  · exact kgd (by have := (g2 (r / 10) (by omega) (r % 10) (by omega)).1; omega)
theorem kG_in : ∀ r, r < 50 → ∀ k, k < 80 → kG66 r k = pt_G r k := by decide +kernel
theorem kG_pt : kG66 = pt_G := by
  funext r k
  by_cases z : 50 ≤ r ∨ 80 ≤ k
  · rw [kZ66 r k z, kZpt r k z]
  · exact kG_in r (by omega) k (by omega)
abbrev kIZ : Nat → Nat → Int32 := kI61
abbrev kLZ : Nat → Nat → Int64 := kL50
theorem k_made (hF : pm_fix pt_me pt_Sg (pt_R L0 xs) F) : F 101 0 [some (.ref 0)] [] (1, kG1, kI1, kL1) = some (none, (49, pt_G, kIZ, kLZ)) := by
  rw [km101_1 hF, kG_pt]
end
