/-! ===== the tables that nobody writes ===== -/
def pt_R (L : Nat) (xs : Nat → Int32) : pm_T := fun r => match r with
  | 200 => some (0, 8, pt_ord)
  | 202 => some (2, 74, pt_txt)
  | 203 => some (0, L, xs)
  | _ => none
