/-! ===== printed by gen/eqs.py: what the methods do between cuts ===== -/
section
variable {F : pm_F} {L0 : Nat} {xs : Nat → Int32} {I : Nat → Nat → Int32} {L : Nat → Nat → Int64}
-- java/lang/Integer.bitCount(I)I 
set_option maxRecDepth 20000 in
theorem e1508_0 (hF : pm_fix pt_me pt_Sg (pt_R L0 xs) F) {x0 : Int32} : F 1508 0 [some (.int x0)] [] (49, pt_G, I, L) =
    some (some (.int ((((((((x0 - ((pm_us x0 1) &&& 1431655765)) &&& 858993459) + ((pm_us (x0 - ((pm_us x0 1) &&& 1431655765)) 2) &&& 858993459)) + (pm_us (((x0 - ((pm_us x0 1) &&& 1431655765)) &&& 858993459) + ((pm_us (x0 - ((pm_us x0 1) &&& 1431655765)) 2) &&& 858993459)) 4)) &&& 252645135) + (pm_us (((((x0 - ((pm_us x0 1) &&& 1431655765)) &&& 858993459) + ((pm_us (x0 - ((pm_us x0 1) &&& 1431655765)) 2) &&& 858993459)) + (pm_us (((x0 - ((pm_us x0 1) &&& 1431655765)) &&& 858993459) + ((pm_us (x0 - ((pm_us x0 1) &&& 1431655765)) 2) &&& 858993459)) 4)) &&& 252645135) 8)) + (pm_us ((((((x0 - ((pm_us x0 1) &&& 1431655765)) &&& 858993459) + ((pm_us (x0 - ((pm_us x0 1) &&& 1431655765)) 2) &&& 858993459)) + (pm_us (((x0 - ((pm_us x0 1) &&& 1431655765)) &&& 858993459) + ((pm_us (x0 - ((pm_us x0 1) &&& 1431655765)) 2) &&& 858993459)) 4)) &&& 252645135) + (pm_us (((((x0 - ((pm_us x0 1) &&& 1431655765)) &&& 858993459) + ((pm_us (x0 - ((pm_us x0 1) &&& 1431655765)) 2) &&& 858993459)) + (pm_us (((x0 - ((pm_us x0 1) &&& 1431655765)) &&& 858993459) + ((pm_us (x0 - ((pm_us x0 1) &&& 1431655765)) 2) &&& 858993459)) 4)) &&& 252645135) 8)) 16)) &&& 63)), (49, pt_G, I, L)) := pm_blk_to hF (pm_stp 1508 [0]) 47 rfl
-- java/lang/Integer.numberOfTrailingZeros(I)I 
set_option maxRecDepth 20000 in
theorem e1509_0 (hF : pm_fix pt_me pt_Sg (pt_R L0 xs) F) {x0 : Int32} : F 1509 0 [some (.int x0), none] [] (49, pt_G, I, L) =
    if ((x0 ^^^ (-1)) &&& (x0 - 1)) ≤ 0 then
      some (some (.int (((x0 ^^^ (-1)) &&& (x0 - 1)) &&& 32)), (49, pt_G, I, L))
    else
      if ((x0 ^^^ (-1)) &&& (x0 - 1)) ≤ 65536 then
        if ((x0 ^^^ (-1)) &&& (x0 - 1)) ≤ 256 then
          if ((x0 ^^^ (-1)) &&& (x0 - 1)) ≤ 16 then
            if ((x0 ^^^ (-1)) &&& (x0 - 1)) ≤ 4 then
              some (some (.int (1 + (pm_us ((x0 ^^^ (-1)) &&& (x0 - 1)) 1))), (49, pt_G, I, L))
            else
              some (some (.int ((1 + 2) + (pm_us (pm_us ((x0 ^^^ (-1)) &&& (x0 - 1)) 2) 1))), (49, pt_G, I, L))
          else
            if (pm_us ((x0 ^^^ (-1)) &&& (x0 - 1)) 4) ≤ 4 then
              some (some (.int ((1 + 4) + (pm_us (pm_us ((x0 ^^^ (-1)) &&& (x0 - 1)) 4) 1))), (49, pt_G, I, L))
            else
              some (some (.int (((1 + 4) + 2) + (pm_us (pm_us (pm_us ((x0 ^^^ (-1)) &&& (x0 - 1)) 4) 2) 1))), (49, pt_G, I, L))
        else
          if (pm_us ((x0 ^^^ (-1)) &&& (x0 - 1)) 8) ≤ 16 then
            if (pm_us ((x0 ^^^ (-1)) &&& (x0 - 1)) 8) ≤ 4 then
              some (some (.int ((1 + 8) + (pm_us (pm_us ((x0 ^^^ (-1)) &&& (x0 - 1)) 8) 1))), (49, pt_G, I, L))
            else
              some (some (.int (((1 + 8) + 2) + (pm_us (pm_us (pm_us ((x0 ^^^ (-1)) &&& (x0 - 1)) 8) 2) 1))), (49, pt_G, I, L))
          else
            if (pm_us (pm_us ((x0 ^^^ (-1)) &&& (x0 - 1)) 8) 4) ≤ 4 then
              some (some (.int (((1 + 8) + 4) + (pm_us (pm_us (pm_us ((x0 ^^^ (-1)) &&& (x0 - 1)) 8) 4) 1))), (49, pt_G, I, L))
            else
              some (some (.int ((((1 + 8) + 4) + 2) + (pm_us (pm_us (pm_us (pm_us ((x0 ^^^ (-1)) &&& (x0 - 1)) 8) 4) 2) 1))), (49, pt_G, I, L))
      else
        if (pm_us ((x0 ^^^ (-1)) &&& (x0 - 1)) 16) ≤ 256 then
          if (pm_us ((x0 ^^^ (-1)) &&& (x0 - 1)) 16) ≤ 16 then
            if (pm_us ((x0 ^^^ (-1)) &&& (x0 - 1)) 16) ≤ 4 then
              some (some (.int ((1 + 16) + (pm_us (pm_us ((x0 ^^^ (-1)) &&& (x0 - 1)) 16) 1))), (49, pt_G, I, L))
            else
              some (some (.int (((1 + 16) + 2) + (pm_us (pm_us (pm_us ((x0 ^^^ (-1)) &&& (x0 - 1)) 16) 2) 1))), (49, pt_G, I, L))
          else
            if (pm_us (pm_us ((x0 ^^^ (-1)) &&& (x0 - 1)) 16) 4) ≤ 4 then
              some (some (.int (((1 + 16) + 4) + (pm_us (pm_us (pm_us ((x0 ^^^ (-1)) &&& (x0 - 1)) 16) 4) 1))), (49, pt_G, I, L))
            else
              some (some (.int ((((1 + 16) + 4) + 2) + (pm_us (pm_us (pm_us (pm_us ((x0 ^^^ (-1)) &&& (x0 - 1)) 16) 4) 2) 1))), (49, pt_G, I, L))
        else
          if (pm_us (pm_us ((x0 ^^^ (-1)) &&& (x0 - 1)) 16) 8) ≤ 16 then
            if (pm_us (pm_us ((x0 ^^^ (-1)) &&& (x0 - 1)) 16) 8) ≤ 4 then
              some (some (.int (((1 + 16) + 8) + (pm_us (pm_us (pm_us ((x0 ^^^ (-1)) &&& (x0 - 1)) 16) 8) 1))), (49, pt_G, I, L))
            else
              some (some (.int ((((1 + 16) + 8) + 2) + (pm_us (pm_us (pm_us (pm_us ((x0 ^^^ (-1)) &&& (x0 - 1)) 16) 8) 2) 1))), (49, pt_G, I, L))
          else
            if (pm_us (pm_us (pm_us ((x0 ^^^ (-1)) &&& (x0 - 1)) 16) 8) 4) ≤ 4 then
              some (some (.int ((((1 + 16) + 8) + 4) + (pm_us (pm_us (pm_us (pm_us ((x0 ^^^ (-1)) &&& (x0 - 1)) 16) 8) 4) 1))), (49, pt_G, I, L))
            else
              some (some (.int (((((1 + 16) + 8) + 4) + 2) + (pm_us (pm_us (pm_us (pm_us (pm_us ((x0 ^^^ (-1)) &&& (x0 - 1)) 16) 8) 4) 2) 1))), (49, pt_G, I, L)) := pm_blk_to hF (pm_stp 1509 [0]) 59 rfl
-- java/lang/Math.abs(I)I 
set_option maxRecDepth 20000 in
theorem e1510_0 (hF : pm_fix pt_me pt_Sg (pt_R L0 xs) F) {x0 : Int32} : F 1510 0 [some (.int x0)] [] (49, pt_G, I, L) =
    if x0 < 0 then
      some (some (.int (-x0)), (49, pt_G, I, L))
    else
      some (some (.int x0), (49, pt_G, I, L)) := pm_blk_to hF (pm_stp 1510 [0]) 12 rfl
-- java/lang/Math.min(II)I 
set_option maxRecDepth 20000 in
theorem e1511_0 (hF : pm_fix pt_me pt_Sg (pt_R L0 xs) F) {x0 : Int32} {x1 : Int32} : F 1511 0 [some (.int x0), some (.int x1)] [] (49, pt_G, I, L) =
    if x0 ≤ x1 then
      some (some (.int x0), (49, pt_G, I, L))
    else
      some (some (.int x1), (49, pt_G, I, L)) := pm_blk_to hF (pm_stp 1511 [0]) 12 rfl
-- java/lang/Math.max(II)I 
set_option maxRecDepth 20000 in
theorem e1512_0 (hF : pm_fix pt_me pt_Sg (pt_R L0 xs) F) {x0 : Int32} {x1 : Int32} : F 1512 0 [some (.int x0), some (.int x1)] [] (49, pt_G, I, L) =
    if x0 < x1 then
      some (some (.int x1), (49, pt_G, I, L))
    else
      some (some (.int x0), (49, pt_G, I, L)) := pm_blk_to hF (pm_stp 1512 [0]) 12 rfl
end
