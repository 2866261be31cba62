/-! ===== one call: turns, an office instead, turns that are kept, seats enough ===== -/
section
variable {h : Nat → Nat → Nat} {I I' : Nat → Nat → Int32} {L L' : Nat → Nat → Int64}
variable {q n C a : Nat} {b w : Nat → Nat} {fa pl : Int32} {sn : Nat → SN} {e v : Nat}
variable {F : pm_F} {L0 : Nat} {xs : Nat → Int32}
theorem hdn_ud (f s v u C : Nat) : ∀ i, hdn (ud (ud h 0 2 v) 0 3 u) f s C i = hdn h f s C i := by
  intro i
  induction i with
  | zero => rfl
  | succ i ih =>
    have e : ∀ g : Nat → Nat → Nat, hdn g f s C (i + 1) = inc (hdn g f s C i) ((nxt g f s (hdn g f s C i) C).getD 0) := fun _ => rfl
    rw [e, e, ih]
    rfl
theorem tw_ud (f s v u C i : Nat) : tw (ud (ud h 0 2 v) 0 3 u) f s C i = tw h f s C i := by
  unfold tw
  rw [hdn_ud]
  rfl
theorem c_turnBy (hF : pm_fix pt_me pt_Sg (pt_R L0 xs) F) (W : WF h) (H : CH h I) {x f s i : Int32} {k u : Nat} (hk : f = nI k) (hu : s = nI u) (k1 : 1 ≤ k) (k9 : k ≤ 99) (u1 : 1 ≤ u) (u9 : u ≤ 99) : (F 110 0 [some (.ref 0), some (.int x), some (.int f), some (.int s), some (.int i)] [] (49, pt_G, I, L)) = some (some (.int (bif vC h x && vP (h 0 1) i then nI (tw h k u x.toNatClampNeg i.toNatClampNeg) else -1)), (49, pt_G, I, L)) := by
  have hP := W.P
  have hO := W.O
  have hE := ev_lt W
  subst hk
  subst hu
  have d1 : vD (nI k) = true := by unfold vD; rw [nI_toInt (by omega)]; exact decide_eq_true (by omega)
  have d2 : vD (nI u) = true := by unfold vD; rw [nI_toInt (by omega)]; exact decide_eq_true (by omega)
  rw [e110_0 hF, c_hasCoalition hF W H]
  simp (disch := omega) only [pm_k_i, Option.toList_some, Option.toList_none, List.cons_append, List.nil_append, cond_true, cond_false, ↓reduceIte, reduceCtorEq, z_1, nI_add, z_cl, z_ib, z_lt, z_le, z_eq, z_eq0, z_le0, z_lt0, z_b0, z_b1, z_m1, z_and7, Int32.add_zero, e110_8 hF, H.O, g_vP, c_isDivisor hF, d1, d2, e110_34 hF, e110_41 hF, Bool.toNat_true]
  try rw [if_neg (show ¬ nI 1 = 0 from by decide)]
  cases hv : vC h x with
  | false => rfl
  | true =>
    cases hi : vP (h 0 1) i with
    | false => rfl
    | true =>
      obtain ⟨c, c0, cl, rfl⟩ := vC_of W hv
      obtain ⟨j, jl, rfl⟩ := vP_of (by omega) hi
      have mem := mem_ex W c0 cl
      obtain ⟨p, p1, p2⟩ := mem
      have K := tq_K8 W (f := k) (s := u) p1 p2 W.O
      have K : K8 (tq h k u c) := K
      have g := hp_lt K
      have e : tq h k u c j = tw h k u c j := by unfold tq; rw [show Nat.blt j (h 0 1) = true from Nat.ble_eq_true_of_le jl]; rfl
      simp (disch := omega) only [pm_k_i, Option.toList_some, Option.toList_none, List.cons_append, List.nil_append, cond_true, cond_false, ↓reduceIte, reduceCtorEq, z_1, nI_add, z_cl, z_ib, z_lt, z_le, z_eq, z_eq0, z_le0, z_lt0, z_b0, z_b1, z_m1, z_and7, Int32.add_zero, c_turnsOf hF W H c0 cl k9 u9, e110_56 hF, c_get hF, gs_hp K, e110_61 hF, e, Bool.true_and]
theorem vD_i {x : Int32} (hx : vD x = false) : ¬ (1 ≤ x.toInt ∧ x.toInt ≤ 99) := of_decide_eq_false hx
end
