/-! ===== one call: holding and trading ===== -/
section
variable {h : Nat → Nat → Nat} {I I' I0 : Nat → Nat → Int32} {L L' : Nat → Nat → Int64}
variable {q n C C' a a' c : Nat} {b w w' : Nat → Nat} {fa pl : Int32} {sn sn' : Nat → SN} {e v : Nat}
variable {F : pm_F} {L0 : Nat} {xs : Nat → Int32}
theorem z_1p (k : Nat) : (1 : Int32) + nI k = nI (1 + k) := nI_add 1 k
theorem z_9p (k : Nat) : (9 : Int32) + nI k = nI (9 + k) := nI_add 9 k
theorem c_holderOf (hF : pm_fix pt_me pt_Sg (pt_R L0 xs) F) (W : WF h) (H : CH h I) (hc : CAB h C w) (h45 : I 44 5 = nI C) (h46 : C ≠ 0 → I 44 6 = nI (hp w)) (x : Int32) : (F 204 0 [some (.ref 44), some (.int x)] [] (49, pt_G, I, L)) = some (some (.int (if C = 0 then -1 else bif vP (h 0 1) x then nI (w x.toNatClampNeg) else -1)), (49, pt_G, I, L)) := by
  have hO := W.O
  have hE := ev_lt W
  have hc1 := hc.1
  rw [e204_0 hF, h45]
  by_cases z : C = 0
  · rw [z, if_pos (show nI 0 = 0 from rfl), if_pos rfl]
  · have k := (hc.2 z).1
    have g := hp_lt k.1
    rw [if_neg (show ¬ nI C = 0 by rw [z_eq0 (by omega)]; exact z), if_neg z, c_hasOffice hF W H]
    cases hv : vP (h 0 1) x with
    | false => simp (disch := omega) only [pm_k_i, Option.toList_some, Option.toList_none, List.cons_append, List.nil_append, cond_true, cond_false, ↓reduceIte, reduceCtorEq, z_1, nI_add, z_cl, z_ib, z_lt, z_le, z_eq, z_eq0, z_le0, z_lt0, z_b0, z_b1, z_m1, z_and7, Int32.add_zero, e204_15 hF]
    | true =>
      obtain ⟨o, ol, rfl⟩ := vP_of (by omega) hv
      simp (disch := omega) only [pm_k_i, Option.toList_some, Option.toList_none, List.cons_append, List.nil_append, cond_true, cond_false, ↓reduceIte, reduceCtorEq, z_1, nI_add, z_cl, z_ib, z_lt, z_le, z_eq, z_eq0, z_le0, z_lt0, z_b0, z_b1, z_m1, z_and7, Int32.add_zero, e204_15 hF, h46 z, c_get hF, e204_26 hF, gs_hp k.1]
      try rw [if_neg (by decide)]
theorem z_trade {x y p q r s : Nat} (h : x + r + s = y + p + q) : nI x - nI y = nI q + nI p - nI r - nI s := by
  have e : nI x + nI r + nI s = nI y + nI p + nI q := by rw [nI_add, nI_add, nI_add, nI_add, h]
  have e2 : nI x = nI y + nI p + nI q - nI s - nI r := by rw [← e]; grind
  rw [e2]
  grind
end
