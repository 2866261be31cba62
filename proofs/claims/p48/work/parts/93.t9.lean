/-! ===== one instruction of the law's machine ===== -/
section
variable {p : Program} {l : Launch} {e : Env} {R : Room} {s : State} {m : MethodId} {args : Array Value} {below : List Frame} {meth : Method} {c : Code} {Q : State → Prop}
variable {me : Nat → pm_Me} {D : va_G} {cl : List vw_C} {cA : Nat → ClassId} {qs : Nat → qm_K} {T : qm_T} {J base : Nat} {so : Nat → Nat → Prop} {sx : qm_X} {Rt : pm_T} {st : Nat → Nat → Nat} {fv : Value} {ρ : Nat → Nat} {tx : String} {mi c0 : Nat}
theorem qm_ty_ref {t : Nat} (h1 : 4 ≤ t) (h2 : t ≤ 6) : (qm_ty t).isReference = true := by
  rcases (show t = 4 ∨ t = 5 ∨ t = 6 by omega) with rfl | rfl | rfl <;> rfl
set_option maxHeartbeats 4000000 in
theorem qm_next (h1 : qm_E1 me qs T sx cl) (h2 : qm_E2 me mi p s m args meth c R D cl cA qs T so sx Rt st ρ fv base tx c0) (h3 : qm_E3 qs T so base J st fv ρ) {q : pm_Q} (hq : qm_chk cl qs sx me mi q = true) {pl pl' : qm_L} {sk sk' : List qm_V} {S S' : qm_S} {pc' m0 : Nat}
    (h : qm_x qs T J (me mi).2.2.2.1 q pl sk S = some (true, .inl (pc', pl', sk', S'))) {H : Heap} {locs : List Loc} {ls : Array Slot} (hc0 : c0 ≤ S.1) (hm0 : m0 ≤ S.2.1) (hok : qm_ok qs T so J S) (hsv : qm_sv so J S sk) (hI : qm_I D cl cA qs st ρ fv base J S s H locs) (hL : qm_LH st base fv (me mi).2.2.1 ls pl) (hR1 : S'.1 - c0 ≤ R.cells) (hR2 : S'.2.1 - m0 ≤ R.slots)
    (kk : ∀ (H' : Heap) (locs' : List Loc) (ls' : Array Slot), qm_I D cl cA qs st ρ fv base J S' s H' locs' → qm_LH st base fv (me mi).2.2.1 ls' pl' → W p l e R s m args below meth c H' locs' (S'.1 - c0) (S'.2.1 - m0) Q (F0 m pc' ls' (sk'.map (qm_rl st base fv)))) :
    W p l e R s m args below meth c H locs (S.1 - c0) (S.2.1 - m0) Q (F0 m q.1 ls (sk.map (qm_rl st base fv))) := by
  have h1' := h1
  have h2' := h2
  obtain ⟨pc, ins, nx, w, xs, ci, cj⟩ := q
  show W p l e R s m args below meth c H locs (S.1 - c0) (S.2.1 - m0) Q (F0 m pc ls (sk.map (qm_rl st base fv)))
  obtain ⟨hx, hb, hml, hown, hmn, hts, hfr, hlo, hK, hZ, hN, hsz, h1001⟩ := h2
  obtain ⟨⟨hρ, hfv, h06⟩, e2, e3, ⟨e4, e4'⟩, e5, e6, e7, ⟨t14, t15, q14, q15, q0, so06⟩, e9⟩ := id h3
  obtain ⟨hP, hS⟩ := id hI
  have hD := qm_ws_D (qs := qs) (cA := cA) (st := st) (base := base) (J := J) (ρ := ρ) (fv := fv) (S := S)
  cases ins
  case iload_n n =>
    simp only [qm_chk, Bool.and_eq_true] at hq
    obtain ⟨hd0, hi⟩ := hq
    obtain ⟨hd, rfl⟩ := pm_d_of hd0
    simp only [qm_x] at h
    split at h
    · rename_i x hx'
      obtain ⟨-, rfl, rfl, rfl, rfl⟩ := qm_n_inj h
      exact lv_iload_n hx hb hd (Nat.eq_of_beq_eq_true hi) (hL.get hx') (kk H locs ls hI hL)
    · cases h
  case iload n =>
    simp only [qm_chk, Bool.and_eq_true] at hq
    obtain ⟨hd0, hi⟩ := hq
    obtain ⟨hd, rfl⟩ := pm_d_of hd0
    have hi := Nat.eq_of_beq_eq_true hi
    subst hi
    simp only [qm_x] at h
    split at h
    · rename_i x hx'
      obtain ⟨-, rfl, rfl, rfl, rfl⟩ := qm_n_inj h
      exact lv_iload hx hb hd (hL.get hx') (kk H locs ls hI hL)
    · cases h
  case aload_n n =>
    simp only [qm_chk, Bool.and_eq_true] at hq
    obtain ⟨hd0, hi⟩ := hq
    obtain ⟨hd, rfl⟩ := pm_d_of hd0
    simp only [qm_x] at h
    split at h
    · rename_i s0 a hx'
      replace h := pm_cond h
      obtain ⟨h30, h⟩ := h
      have h30 : s0 < 30 := by simpa [Nat.blt_eq] using h30
      obtain ⟨-, rfl, rfl, rfl, rfl⟩ := qm_n_inj h
      have g1 := hL.get hx'
      have g2 := kk H locs ls hI hL
      rw [qm_rl_lt h30] at g1
      rw [List.map_cons, qm_rl_lt h30] at g2
      exact lv_aload_n hx hb hd (Nat.eq_of_beq_eq_true hi) g1 g2
    · cases h
  case aload n =>
    simp only [qm_chk, Bool.and_eq_true] at hq
    obtain ⟨hd0, hi⟩ := hq
    obtain ⟨hd, rfl⟩ := pm_d_of hd0
    have hi := Nat.eq_of_beq_eq_true hi
    subst hi
    simp only [qm_x] at h
    split at h
    · rename_i s0 a hx'
      replace h := pm_cond h
      obtain ⟨h30, h⟩ := h
      have h30 : s0 < 30 := by simpa [Nat.blt_eq] using h30
      obtain ⟨-, rfl, rfl, rfl, rfl⟩ := qm_n_inj h
      have g1 := hL.get hx'
      have g2 := kk H locs ls hI hL
      rw [qm_rl_lt h30] at g1
      rw [List.map_cons, qm_rl_lt h30] at g2
      exact lv_aload hx hb hd g1 g2
    · cases h
  case istore_n n =>
    simp only [qm_chk, Bool.and_eq_true] at hq
    obtain ⟨hd0, hi⟩ := hq
    obtain ⟨hd, rfl⟩ := pm_d_of hd0
    simp only [qm_x] at h
    split at h
    · rename_i x r
      split at h
      · rename_i ls2 hs
        obtain ⟨-, rfl, rfl, rfl, rfl⟩ := qm_n_inj h
        have hlt : xs.getD 0 0 < (me mi).2.2.1 := by rw [← hL.2.1]; exact (qm_st1_lt hs).1
        exact lv_istore_n hx hb hd (Nat.eq_of_beq_eq_true hi) hL.has hlt rfl (fun ls' hl => kk H locs ls' hI (hL.st1 hfv hs hl).2)
      · cases h
    · cases h
  case istore n =>
    simp only [qm_chk, Bool.and_eq_true] at hq
    obtain ⟨hd0, hi⟩ := hq
    obtain ⟨hd, rfl⟩ := pm_d_of hd0
    have hi := Nat.eq_of_beq_eq_true hi
    subst hi
    simp only [qm_x] at h
    split at h
    · rename_i x r
      split at h
      · rename_i ls2 hs
        obtain ⟨-, rfl, rfl, rfl, rfl⟩ := qm_n_inj h
        have hlt : xs.getD 0 0 < (me mi).2.2.1 := by rw [← hL.2.1]; exact (qm_st1_lt hs).1
        exact lv_istore hx hb hd hL.has hlt rfl (fun ls' hl => kk H locs ls' hI (hL.st1 hfv hs hl).2)
      · cases h
    · cases h
  case astore_n n =>
    simp only [qm_chk, Bool.and_eq_true] at hq
    obtain ⟨hd0, hi⟩ := hq
    obtain ⟨hd, rfl⟩ := pm_d_of hd0
    simp only [qm_x] at h
    split at h
    · rename_i s0 a r
      replace h := pm_cond h
      obtain ⟨h30, h⟩ := h
      have h30 : s0 < 30 := by simpa [Nat.blt_eq] using h30
      split at h
      · rename_i ls2 hs
        obtain ⟨-, rfl, rfl, rfl, rfl⟩ := qm_n_inj h
        have hlt : xs.getD 0 0 < (me mi).2.2.1 := by rw [← hL.2.1]; exact (qm_st1_lt hs).1
        rw [List.map_cons, qm_rl_lt h30]
        exact lv_astore_n hx hb hd (Nat.eq_of_beq_eq_true hi) hL.has hlt rfl (fun ls' hl => kk H locs ls' hI (hL.st1 hfv hs (by rw [qm_rl_lt h30]; exact hl)).2)
      · cases h
    · cases h
  case astore n =>
    simp only [qm_chk, Bool.and_eq_true] at hq
    obtain ⟨hd0, hi⟩ := hq
    obtain ⟨hd, rfl⟩ := pm_d_of hd0
    have hi := Nat.eq_of_beq_eq_true hi
    subst hi
    simp only [qm_x] at h
    split at h
    · rename_i s0 a r
      replace h := pm_cond h
      obtain ⟨h30, h⟩ := h
      have h30 : s0 < 30 := by simpa [Nat.blt_eq] using h30
      split at h
      · rename_i ls2 hs
        obtain ⟨-, rfl, rfl, rfl, rfl⟩ := qm_n_inj h
        have hlt : xs.getD 0 0 < (me mi).2.2.1 := by rw [← hL.2.1]; exact (qm_st1_lt hs).1
        rw [List.map_cons, qm_rl_lt h30]
        exact lv_astore hx hb hd hL.has hlt rfl (fun ls' hl => kk H locs ls' hI (hL.st1 hfv hs (by rw [qm_rl_lt h30]; exact hl)).2)
      · cases h
    · cases h
  case iinc i n =>
    simp only [qm_chk, Bool.and_eq_true] at hq
    obtain ⟨hd0, hi, hcv⟩ := hq
    obtain ⟨hd, rfl⟩ := pm_d_of hd0
    have hi := Nat.eq_of_beq_eq_true hi
    subst hi
    have hcv := of_decide_eq_true hcv
    subst hcv
    simp only [qm_x] at h
    split at h
    · rename_i x hx'
      split at h
      · rename_i ls2 hs
        obtain ⟨-, rfl, rfl, rfl, rfl⟩ := qm_n_inj h
        have hlt : xs.getD 0 0 < (me mi).2.2.1 := by rw [← hL.2.1]; exact (qm_st1_lt hs).1
        have hmem : (xs.getD 0 0, Value.int x) ∈ qm_pr st base fv pl := qm_pr_mem (v := .inl x) (qm_gd hx')
        obtain ⟨k, hk⟩ := List.getElem?_of_mem hmem
        exact lv_iinc hx hb hd hL.has hk rfl hlt rfl (fun ls' hl => kk H locs ls' hI (hL.st1 hfv hs hl).2)
      · cases h
    · cases h
  case iconst n =>
    simp only [qm_chk, Bool.and_eq_true] at hq
    obtain ⟨hd0, hi⟩ := hq
    obtain ⟨hd, rfl⟩ := pm_d_of hd0
    have hi := of_decide_eq_true hi
    simp only [qm_x] at h
    obtain ⟨-, rfl, rfl, rfl, rfl⟩ := qm_n_inj h
    exact lv_iconst hx hb hd hi (kk H locs ls hI hL)
  case bipush n =>
    simp only [qm_chk, Bool.and_eq_true] at hq
    obtain ⟨hd0, hi⟩ := hq
    obtain ⟨hd, rfl⟩ := pm_d_of hd0
    have hi := of_decide_eq_true hi
    simp only [qm_x] at h
    obtain ⟨-, rfl, rfl, rfl, rfl⟩ := qm_n_inj h
    exact lv_bipush hx hb hd hi (kk H locs ls hI hL)
  case sipush n =>
    simp only [qm_chk, Bool.and_eq_true] at hq
    obtain ⟨hd0, hi⟩ := hq
    obtain ⟨hd, rfl⟩ := pm_d_of hd0
    have hi := of_decide_eq_true hi
    simp only [qm_x] at h
    obtain ⟨-, rfl, rfl, rfl, rfl⟩ := qm_n_inj h
    exact lv_sipush hx hb hd hi (kk H locs ls hI hL)
  case ldc_w idx =>
    simp only [qm_chk, Bool.and_eq_true] at hq
    obtain ⟨hd0, hi⟩ := hq
    obtain ⟨hd, rfl⟩ := pm_d_of hd0
    simp only [qm_x] at h
    obtain ⟨-, rfl, rfl, rfl, rfl⟩ := qm_n_inj h
    exact lv_ldcw hx hb hown (hts _ (qm_wk_of hi)) hd (kk H locs ls hI hL)
  case ldc idx =>
    simp only [qm_chk, Bool.and_eq_true] at hq
    obtain ⟨hd0, hi⟩ := hq
    obtain ⟨hd, rfl⟩ := pm_d_of hd0
    simp only [qm_x] at h
    split at h
    · obtain ⟨-, rfl, rfl, rfl, rfl⟩ := qm_n_inj h
      exact lv_ldc hx hb hown (hts _ (qm_wk_of hi)) hd (kk H locs ls hI hL)
    · rename_i a _
      replace h := pm_cond h
      obtain ⟨hg, h⟩ := h
      rw [Bool.and_eq_true] at hg
      have g1 := Nat.le_of_ble_eq_true hg.1
      have g2 : a < 29 := by simpa [Nat.blt_eq] using hg.2
      obtain ⟨-, rfl, rfl, rfl, rfl⟩ := qm_n_inj h
      have hi : (match sx[a - 11]? with | some (o, i, _) => decide (o = (me mi).1.cls) && Nat.beq i idx | none => false) = true := hi
      split at hi
      · rename_i o i t hsx
        rw [Bool.and_eq_true] at hi
        have q1 := of_decide_eq_true hi.1
        have q2 := Nat.eq_of_beq_eq_true hi.2
        subst q1 q2
        have hr := (hN.2.1 _ _ _ _ hsx).2
        have hk := kk H locs ls hI hL
        rw [List.map_cons, qm_rl_so (by omega) (by decide)] at hk
        rw [show a - 11 + 11 = a by omega] at hr
        exact va_ldcS hx hb hown hr hd hk
      · cases hi
  case aconst_null =>
    obtain ⟨hd, rfl⟩ := pm_d_of (show pm_d _ _ _ _ 1 = true from hq)
    simp only [qm_x] at h
    obtain ⟨-, rfl, rfl, rfl, rfl⟩ := qm_n_inj h
    exact lv_null hx hb hd (kk H locs ls hI hL)
  case iadd =>
    obtain ⟨hd, rfl⟩ := pm_d_of (show pm_d _ _ _ _ 1 = true from hq)
    simp only [qm_x] at h
    split at h
    · obtain ⟨hg, rfl, rfl, rfl, rfl⟩ := qm_n_inj h
      exact lv_iadd hx hb hd (kk H locs ls hI hL)
    · cases h
  case isub =>
    obtain ⟨hd, rfl⟩ := pm_d_of (show pm_d _ _ _ _ 1 = true from hq)
    simp only [qm_x] at h
    split at h
    · obtain ⟨hg, rfl, rfl, rfl, rfl⟩ := qm_n_inj h
      exact lv_isub hx hb hd (kk H locs ls hI hL)
    · cases h
  case imul =>
    obtain ⟨hd, rfl⟩ := pm_d_of (show pm_d _ _ _ _ 1 = true from hq)
    simp only [qm_x] at h
    split at h
    · obtain ⟨hg, rfl, rfl, rfl, rfl⟩ := qm_n_inj h
      exact lv_imul hx hb hd (kk H locs ls hI hL)
    · cases h
  case iand =>
    obtain ⟨hd, rfl⟩ := pm_d_of (show pm_d _ _ _ _ 1 = true from hq)
    simp only [qm_x] at h
    split at h
    · obtain ⟨hg, rfl, rfl, rfl, rfl⟩ := qm_n_inj h
      exact lv_iand hx hb hd (kk H locs ls hI hL)
    · cases h
  case ior =>
    obtain ⟨hd, rfl⟩ := pm_d_of (show pm_d _ _ _ _ 1 = true from hq)
    simp only [qm_x] at h
    split at h
    · obtain ⟨hg, rfl, rfl, rfl, rfl⟩ := qm_n_inj h
      exact lv_ior hx hb hd (kk H locs ls hI hL)
    · cases h
  case ishl =>
    obtain ⟨hd, rfl⟩ := pm_d_of (show pm_d _ _ _ _ 1 = true from hq)
    simp only [qm_x] at h
    split at h
    · obtain ⟨hg, rfl, rfl, rfl, rfl⟩ := qm_n_inj h
      exact lv_ishl hx hb hd (kk H locs ls hI hL)
    · cases h
  case ishr =>
    obtain ⟨hd, rfl⟩ := pm_d_of (show pm_d _ _ _ _ 1 = true from hq)
    simp only [qm_x] at h
    split at h
    · obtain ⟨hg, rfl, rfl, rfl, rfl⟩ := qm_n_inj h
      exact lv_ishr hx hb hd (kk H locs ls hI hL)
    · cases h
  case ineg =>
    obtain ⟨hd, rfl⟩ := pm_d_of (show pm_d _ _ _ _ 1 = true from hq)
    simp only [qm_x] at h
    split at h
    · obtain ⟨hg, rfl, rfl, rfl, rfl⟩ := qm_n_inj h
      exact lv_ineg hx hb hd (kk H locs ls hI hL)
    · cases h
  case idiv =>
    obtain ⟨hd, rfl⟩ := pm_d_of (show pm_d _ _ _ _ 1 = true from hq)
    simp only [qm_x] at h
    split at h
    · obtain ⟨hg, rfl, rfl, rfl, rfl⟩ := qm_n_inj h
      exact lv_idiv hx hb hd (by simpa using hg) (kk H locs ls hI hL)
    · cases h
  case irem =>
    obtain ⟨hd, rfl⟩ := pm_d_of (show pm_d _ _ _ _ 1 = true from hq)
    simp only [qm_x] at h
    split at h
    · obtain ⟨hg, rfl, rfl, rfl, rfl⟩ := qm_n_inj h
      exact lv_irem hx hb hd (by simpa using hg) (kk H locs ls hI hL)
    · cases h
  case iushr =>
    obtain ⟨hd, rfl⟩ := pm_d_of (show pm_d _ _ _ _ 1 = true from hq)
    simp only [qm_x] at h
    split at h
    · obtain ⟨hg, rfl, rfl, rfl, rfl⟩ := qm_n_inj h
      exact lv_iushr hx hb hd rfl (kk H locs ls hI hL)
    · cases h
  case i2b =>
    obtain ⟨hd, rfl⟩ := pm_d_of (show pm_d _ _ _ _ 1 = true from hq)
    simp only [qm_x] at h
    split at h
    · obtain ⟨hg, rfl, rfl, rfl, rfl⟩ := qm_n_inj h
      exact lv_i2b hx hb hd rfl (kk H locs ls hI hL)
    · cases h
  case i2c =>
    obtain ⟨hd, rfl⟩ := pm_d_of (show pm_d _ _ _ _ 1 = true from hq)
    simp only [qm_x] at h
    split at h
    · obtain ⟨hg, rfl, rfl, rfl, rfl⟩ := qm_n_inj h
      exact lv_i2c hx hb hd rfl (kk H locs ls hI hL)
    · cases h
  case dup =>
    obtain ⟨hd, rfl⟩ := pm_d_of (show pm_d _ _ _ _ 1 = true from hq)
    simp only [qm_x] at h
    split at h
    · obtain ⟨hg, rfl, rfl, rfl, rfl⟩ := qm_n_inj h
      exact lv_dup hx hb hd (qm_rl_cat hfv _) (kk H locs ls hI hL)
    · cases h
  case dup_x1 =>
    obtain ⟨hd, rfl⟩ := pm_d_of (show pm_d _ _ _ _ 1 = true from hq)
    simp only [qm_x] at h
    split at h
    · obtain ⟨hg, rfl, rfl, rfl, rfl⟩ := qm_n_inj h
      exact lv_dup_x1 hx hb hd (qm_rl_cat hfv _) (qm_rl_cat hfv _) (kk H locs ls hI hL)
    · cases h
  case dup2 =>
    obtain ⟨hd, rfl⟩ := pm_d_of (show pm_d _ _ _ _ 1 = true from hq)
    simp only [qm_x] at h
    split at h
    · obtain ⟨hg, rfl, rfl, rfl, rfl⟩ := qm_n_inj h
      exact lv_dup2_11 hx hb hd (qm_rl_cat hfv _) (qm_rl_cat hfv _) (kk H locs ls hI hL)
    · cases h
  case pop =>
    obtain ⟨hd, rfl⟩ := pm_d_of (show pm_d _ _ _ _ 1 = true from hq)
    simp only [qm_x] at h
    split at h
    · obtain ⟨hg, rfl, rfl, rfl, rfl⟩ := qm_n_inj h
      exact lv_pop hx hb hd (qm_rl_cat hfv _) (kk H locs ls hI hL)
    · cases h
  case ifnonnull o =>
    simp only [qm_chk, Bool.and_eq_true] at hq
    obtain ⟨hd0, hi⟩ := hq
    obtain ⟨hd, rfl⟩ := pm_d_of hd0
    simp only [qm_x] at h
    split at h
    · rename_i s0 a r
      replace h := pm_cond h
      obtain ⟨h30, h⟩ := h
      have h30 : s0 < 30 := by simpa [Nat.blt_eq] using h30
      obtain ⟨-, rfl, rfl, rfl, rfl⟩ := qm_n_inj h
      rw [List.map_cons, qm_rl_lt h30]
      exact lv_ifnonnull hx hb hd (of_decide_eq_true hi) (kk H locs ls hI hL)
    · cases h
  case goto o =>
    simp only [qm_chk, Bool.and_eq_true] at hq
    obtain ⟨hd0, hi⟩ := hq
    obtain ⟨hd, rfl⟩ := pm_d_of hd0
    simp only [qm_x] at h
    obtain ⟨-, rfl, rfl, rfl, rfl⟩ := qm_n_inj h
    exact lv_goto hx hb hd (of_decide_eq_true hi) (kk H locs ls hI (hL.clr qm_clr_at.1 qm_clr_at.2))
  case if_acmp cnd o =>
    cases cnd
    case eq =>
      simp only [qm_chk, Bool.and_eq_true] at hq
      obtain ⟨hd0, hi⟩ := hq
      obtain ⟨hd, rfl⟩ := pm_d_of hd0
      simp only [qm_x] at h
      split at h
      · rename_i s0 b t0 a r
        rw [qm_sv_c, qm_sv_c] at hsv
        replace h := pm_cond h
        obtain ⟨hc, h⟩ := h
        rw [Bool.and_eq_true] at hc
        have g1 := Nat.eq_of_beq_eq_true hc.1
        have g2 := Nat.eq_of_beq_eq_true hc.2
        subst g1 g2
        obtain ⟨-, rfl, rfl, rfl, rfl⟩ := qm_n_inj h
        simp only [List.map_cons]
        rw [qm_rl_lt (a := a) (by decide), qm_rl_lt (a := b) (by decide)]
        have hst24 : st 24 2 < base := by
          obtain ⟨cell, -, -, -, -, -, -, hA⟩ := hZ.2.2.2.2.2.2.2.2.1
          exact Nat.not_le.mp hA
        have hcs : ∀ x, qm_vr so J S 24 x → (x = 2 ∧ qm_ad st base 24 x = st 24 2) ∨ (1001 ≤ x ∧ qm_ad st base 24 x = base + (x - 1001)) := by
          intro x hx
          rcases hx with hx | hx
          · obtain ⟨-, e⟩ := qm_so24 h3 hx e4
            exact Or.inl ⟨e, by rw [e]; rfl⟩
          · refine Or.inr ⟨hx.1, ?_⟩
            unfold qm_ad
            rw [if_neg (by have := hx.1; omega)]
        have hinj : qm_ad st base 24 a = qm_ad st base 24 b → a = b := by
          intro he
          rcases hcs a (qm_vr_of hsv.2.1 (by decide)) with ⟨x1, x2⟩ | ⟨x1, x2⟩ <;> rcases hcs b (qm_vr_of hsv.1 (by decide)) with ⟨y1, y2⟩ | ⟨y1, y2⟩ <;> omega
        have hk := kk H locs ls hI hL
        refine lv_acmp_eq (rx := some (qm_ad st base 24 a)) (ry := some (qm_ad st base 24 b)) hx hb hd (of_decide_eq_true hi) (fun he => ?_) (fun hne => ?_)
        · have : a = b := hinj (Option.some.inj he)
          subst this
          rw [pm_bt] at hk
          exact hk
        · have : Nat.beq a b = false := pm_bf (fun e => hne (by rw [e]))
          rw [this] at hk
          exact hk
      · cases h
    all_goals (simp only [qm_x] at h; cases h)
  case getstatic idx =>
    simp only [qm_chk, Bool.and_eq_true] at hq
    obtain ⟨hd0, hi⟩ := hq
    obtain ⟨hd, rfl⟩ := pm_d_of hd0
    simp only [qm_x] at h
    split at h
    · rename_i hk
      obtain ⟨hg, rfl, rfl, rfl, rfl⟩ := qm_n_inj h
      rw [hk] at hi
      exact va_gets hx hb hZ.1.2.1 hS hown (hts _ (qm_wk_of hi)) (fun _ h => h) hd (kk H locs ls hI hL)
    · rename_i hk
      obtain ⟨hg, rfl, rfl, rfl, rfl⟩ := qm_n_inj h
      rw [hk] at hi
      exact va_gets hx hb hZ.1.2.2.1 hS hown (hts _ (qm_wk_of hi)) (fun _ h => h) hd (kk H locs ls hI hL)
    · rename_i hk
      obtain ⟨hg, rfl, rfl, rfl, rfl⟩ := qm_n_inj h
      rw [hk] at hi
      exact va_gets hx hb hZ.2.1 hS hown (hts _ (qm_wk_of hi)) (fun _ h => h) hd (kk H locs ls hI hL)
    · rename_i hk
      obtain ⟨hg, rfl, rfl, rfl, rfl⟩ := qm_n_inj h
      rw [hk] at hi
      exact va_gets hx hb hZ.2.2.1 hS hown (hts _ (qm_wk_of hi)) (fun _ h => h) hd (kk H locs ls hI hL)
    · rename_i hk
      obtain ⟨hg, rfl, rfl, rfl, rfl⟩ := qm_n_inj h
      rw [hk] at hi
      exact va_gets hx hb hZ.2.2.2.1 hS hown (hts _ (qm_wk_of hi)) (fun _ h => h) hd (kk H locs ls hI hL)
    · rename_i hk
      obtain ⟨hg, rfl, rfl, rfl, rfl⟩ := qm_n_inj h
      rw [hk] at hi
      exact va_gets hx hb hZ.2.2.2.2.1 hS hown (hts _ (qm_wk_of hi)) (fun _ h => h) hd (kk H locs ls hI hL)
    · rename_i hk
      obtain ⟨hg, rfl, rfl, rfl, rfl⟩ := qm_n_inj h
      rw [hk] at hi
      exact va_gets hx hb hZ.2.2.2.2.2.1 hS hown (hts _ (qm_wk_of hi)) (fun _ h => h) hd (kk H locs ls hI hL)
    · cases h
  case iaload =>
    obtain ⟨hd, rfl⟩ := pm_d_of (show pm_d _ _ _ _ 1 = true from hq)
    simp only [qm_x] at h
    split at h
    · rename_i i s0 a r
      simp only [qm_sv_c, qm_vv_i, true_and] at hsv
      split at h
      · rename_i u hqs
        obtain ⟨hg, rfl, rfl, rfl, rfl⟩ := qm_n_inj h
        have hin := pm_ib_of hg
        obtain ⟨h30, hcase⟩ := qm_arr h3 hok hsv.1 hqs (by decide)
        have hk := kk H locs ls hI hL
        rw [List.map_cons] at hk
        rw [List.map_cons, List.map_cons]
        rcases hcase with ⟨hT, h0, hrl⟩ | ⟨-, hT, -, -⟩ | ⟨hT, h0, hrl⟩
        · rw [qm_len_s hT] at hin
          rw [qm_rd_s hT] at hk
          rw [hrl]
          exact va_ti hx hb (hZ.2.2.2.2.2.2.1 s0 a 0 _ h0 hqs hT (by decide)) hS hin rfl hd hk
        · rw [hT, e4'] at hqs; cases hqs
        · rw [qm_len_d hT h0] at hin
          rw [qm_rd_d hT] at hk
          have hat := qm_at_dv (qs := qs) (cA := cA) (st := st) (base := base) (ρ := ρ) (fv := fv) h0
          have hlc : qm_lc qs cA st base S s0 a = .inl (cA 0, S.2.2.2.1 a, .inl (S.2.2.2.2.2.1 s0 a)) := by
            unfold qm_lc
            rw [hqs]
            rfl
          rw [hlc] at hat
          rw [hrl]
          exact va_iald hx hb hK hP (a - 1001) 0 hat (qm_tys_at (t := 0) (by decide)) hin hd hk
      · cases h
    · cases h
  case baload =>
    obtain ⟨hd, rfl⟩ := pm_d_of (show pm_d _ _ _ _ 1 = true from hq)
    simp only [qm_x] at h
    split at h
    · rename_i i s0 a r
      simp only [qm_sv_c, qm_vv_i, true_and] at hsv
      split at h
      · rename_i u hqs
        obtain ⟨hg, rfl, rfl, rfl, rfl⟩ := qm_n_inj h
        have hin := pm_ib_of hg
        obtain ⟨h30, hcase⟩ := qm_arr h3 hok hsv.1 hqs (by decide)
        have hk := kk H locs ls hI hL
        rw [List.map_cons] at hk
        rw [List.map_cons, List.map_cons]
        rcases hcase with ⟨hT, h0, hrl⟩ | ⟨-, hT, -, -⟩ | ⟨hT, h0, hrl⟩
        · rw [qm_len_s hT] at hin
          rw [qm_rd_s hT] at hk
          rw [hrl]
          exact va_tb hx hb (hZ.2.2.2.2.2.2.1 s0 a 2 _ h0 hqs hT (by decide)) hS hin rfl hd hk
        · rw [hT, e4'] at hqs; cases hqs
        · rw [qm_len_d hT h0] at hin
          rw [qm_rd_d hT] at hk
          have hat := qm_at_dv (qs := qs) (cA := cA) (st := st) (base := base) (ρ := ρ) (fv := fv) h0
          have hlc : qm_lc qs cA st base S s0 a = .inl (cA 2, S.2.2.2.1 a, .inl (S.2.2.2.2.2.1 s0 a)) := by
            unfold qm_lc
            rw [hqs]
            rfl
          rw [hlc] at hat
          rw [hrl]
          exact va_bald hx hb hK hP (a - 1001) 2 hat (qm_tys_at (t := 2) (by decide)) hin hd hk
      · cases h
    · cases h
  case iastore =>
    obtain ⟨hd, rfl⟩ := pm_d_of (show pm_d _ _ _ _ 1 = true from hq)
    simp only [qm_x] at h
    split at h
    · rename_i x i s0 a r
      simp only [qm_sv_c, qm_vv_i, true_and] at hsv
      cases hT : T.2.2 s0 with
      | true => rw [hT] at h; cases h
      | false =>
        rw [hT] at h
        simp only [cond_false] at h
        split at h
        · rename_i u hqs
          obtain ⟨hg, rfl, rfl, rfl, rfl⟩ := qm_n_inj h
          have hin := pm_ib_of hg
          obtain ⟨h30, hcase⟩ := qm_arr h3 hok hsv.1 hqs (by decide)
          rcases hcase with ⟨hT', -, -⟩ | ⟨-, hT', -, -⟩ | ⟨-, h0, hrl⟩
          · rw [hT] at hT'; cases hT'
          · rw [hT', e4'] at hqs; cases hqs
          rw [qm_len_d hT h0] at hin
          have hat := qm_at_dv (qs := qs) (cA := cA) (st := st) (base := base) (ρ := ρ) (fv := fv) h0
          have hlc : ∀ S1 : qm_S, qm_lc qs cA st base S1 s0 a = .inl (cA 0, S1.2.2.2.1 a, .inl (S1.2.2.2.2.2.1 s0 a)) := by
            intro S1
            unfold qm_lc
            rw [hqs]
            rfl
          rw [hlc] at hat
          simp only [List.map_cons]
          rw [hrl]
          refine va_iast hx hb hK hP hD hS (a - 1001) 0 hat (qm_tys_at (t := 0) (by decide)) hin hd (fun H1 locs1 hP1 hD1 hS1 => kk H1 locs1 ls ⟨?_, hS1⟩ hL)
          rw [← qm_wsI (qs := qs) (cA := cA) (st := st) (base := base) (ρ := ρ) (fv := fv) (I' := qm_ui S.2.2.2.2.2.1 s0 a i.toNatClampNeg x) h0 (fun b hb s' => qm_ui_at hb s'), hlc]
          show va_P D cl ((qm_ws qs cA st base J ρ fv S).set (a - 1001) (base + (a - 1001), .inl (cA 0, S.2.2.2.1 a, .inl (qm_ui S.2.2.2.2.2.1 s0 a i.toNatClampNeg x s0 a)))) H1
          rw [qm_ui_row]
          exact hP1
        · cases h
    · cases h
  case bastore =>
    obtain ⟨hd, rfl⟩ := pm_d_of (show pm_d _ _ _ _ 1 = true from hq)
    simp only [qm_x] at h
    split at h
    · rename_i x i s0 a r
      simp only [qm_sv_c, qm_vv_i, true_and] at hsv
      cases hT : T.2.2 s0 with
      | true => rw [hT] at h; cases h
      | false =>
        rw [hT] at h
        simp only [cond_false] at h
        split at h
        · rename_i u hqs
          obtain ⟨hg, rfl, rfl, rfl, rfl⟩ := qm_n_inj h
          have hin := pm_ib_of hg
          obtain ⟨h30, hcase⟩ := qm_arr h3 hok hsv.1 hqs (by decide)
          rcases hcase with ⟨hT', -, -⟩ | ⟨-, hT', -, -⟩ | ⟨-, h0, hrl⟩
          · rw [hT] at hT'; cases hT'
          · rw [hT', e4'] at hqs; cases hqs
          rw [qm_len_d hT h0] at hin
          have hat := qm_at_dv (qs := qs) (cA := cA) (st := st) (base := base) (ρ := ρ) (fv := fv) h0
          have hlc : ∀ S1 : qm_S, qm_lc qs cA st base S1 s0 a = .inl (cA 2, S1.2.2.2.1 a, .inl (S1.2.2.2.2.2.1 s0 a)) := by
            intro S1
            unfold qm_lc
            rw [hqs]
            rfl
          rw [hlc] at hat
          simp only [List.map_cons]
          rw [hrl]
          refine va_bast hx hb hK hP hD hS (a - 1001) 2 hat (qm_tys_at (t := 2) (by decide)) hin hd (fun H1 locs1 hP1 hD1 hS1 => kk H1 locs1 ls ⟨?_, hS1⟩ hL)
          rw [← qm_wsI (qs := qs) (cA := cA) (st := st) (base := base) (ρ := ρ) (fv := fv) (I' := qm_ui S.2.2.2.2.2.1 s0 a i.toNatClampNeg (vp_nar .byte x)) h0 (fun b hb s' => qm_ui_at hb s'), hlc]
          show va_P D cl ((qm_ws qs cA st base J ρ fv S).set (a - 1001) (base + (a - 1001), .inl (cA 2, S.2.2.2.1 a, .inl (qm_ui S.2.2.2.2.2.1 s0 a i.toNatClampNeg (vp_nar .byte x) s0 a)))) H1
          rw [qm_ui_row]
          exact hP1
        · rename_i u hqs
          obtain ⟨hg, rfl, rfl, rfl, rfl⟩ := qm_n_inj h
          have hin := pm_ib_of hg
          obtain ⟨h30, hcase⟩ := qm_arr h3 hok hsv.1 hqs (by decide)
          rcases hcase with ⟨hT', -, -⟩ | ⟨-, hT', -, -⟩ | ⟨-, h0, hrl⟩
          · rw [hT] at hT'; cases hT'
          · rw [hT', e4'] at hqs; cases hqs
          rw [qm_len_d hT h0] at hin
          have hat := qm_at_dv (qs := qs) (cA := cA) (st := st) (base := base) (ρ := ρ) (fv := fv) h0
          have hlc : ∀ S1 : qm_S, qm_lc qs cA st base S1 s0 a = .inl (cA 3, S1.2.2.2.1 a, .inl (S1.2.2.2.2.2.1 s0 a)) := by
            intro S1
            unfold qm_lc
            rw [hqs]
            rfl
          rw [hlc] at hat
          simp only [List.map_cons]
          rw [hrl]
          refine va_zast hx hb hK hP hD hS (a - 1001) 3 hat (qm_tys_at (t := 3) (by decide)) hin hd (fun H1 locs1 hP1 hD1 hS1 => kk H1 locs1 ls ⟨?_, hS1⟩ hL)
          rw [← qm_wsI (qs := qs) (cA := cA) (st := st) (base := base) (ρ := ρ) (fv := fv) (I' := qm_ui S.2.2.2.2.2.1 s0 a i.toNatClampNeg (vp_nar .boolean x)) h0 (fun b hb s' => qm_ui_at hb s'), hlc]
          show va_P D cl ((qm_ws qs cA st base J ρ fv S).set (a - 1001) (base + (a - 1001), .inl (cA 3, S.2.2.2.1 a, .inl (qm_ui S.2.2.2.2.2.1 s0 a i.toNatClampNeg (vp_nar .boolean x) s0 a)))) H1
          rw [qm_ui_row]
          exact hP1
        · cases h
    · cases h
  case aaload =>
    obtain ⟨hd, rfl⟩ := pm_d_of (show pm_d _ _ _ _ 1 = true from hq)
    simp only [qm_x] at h
    split at h
    · rename_i i s0 a r
      simp only [qm_sv_c, qm_vv_i, true_and] at hsv
      split at h
      · rename_i t u hqs
        replace h := pm_cond h
        obtain ⟨ht, h⟩ := h
        rw [Bool.and_eq_true] at ht
        have ht7 := Nat.le_of_ble_eq_true ht.2
        have ht4 := Nat.le_of_ble_eq_true ht.1
        obtain ⟨h30, hcase⟩ := qm_arr h3 hok hsv.1 hqs ht7
        simp only [List.map_cons]
        cases hT : T.2.2 s0 with
        | true =>
          rw [hT] at h
          simp only [cond_true] at h
          obtain ⟨hg, rfl, rfl, rfl, rfl⟩ := qm_n_inj h
          rcases hcase with ⟨-, h0, hrl⟩ | ⟨hT', -, -, -⟩ | ⟨hT', -, -⟩
          rotate_left
          · rw [hT] at hT'; cases hT'
          · rw [hT] at hT'; cases hT'
          have hin := pm_ib_of hg
          rw [qm_len_s hT] at hin
          have hk := kk H locs ls hI hL
          rcases e3 s0 a t u h0 hT hqs with g | g | ⟨g1, g2, g3, g4⟩
          · omega
          · omega
          · rw [g2, g4] at hin
            have hi : i.toNatClampNeg < 256 := Nat.not_le.mp fun q => hin (Or.inr q)
            rw [List.map_cons, qm_rl_so (by omega) (by omega)] at hk
            rw [hrl]
            exact vb_tq hx hb (hZ.2.2.2.2.2.2.2.1 s0 a t u h0 hqs hT ht4) hS (by rw [g2, g4]; exact hin) rfl hd hk
        | false =>
          rw [hT] at h
          simp only [cond_false] at h
          obtain ⟨hg, rfl, rfl, rfl, rfl⟩ := qm_n_inj h
          rw [Bool.and_eq_true] at hg
          have hin := pm_ib_of hg.1
          rcases hcase with ⟨hT', -, -⟩ | ⟨-, g1, g2, -⟩ | ⟨-, h0, hrl⟩
          · rw [hT] at hT'; cases hT'
          · rw [g1, g2, qm_len_e e4] at hin
            exact absurd (Or.inr (Nat.zero_le _)) hin
          rw [qm_len_d hT h0] at hin
          have h8 := (e7 s0 hT).2.2
          rw [hqs] at h8
          have hu := h8.2.2 ht4
          have hk := kk H locs ls hI hL
          rw [List.map_cons, qm_rl_lt hu] at hk
          have hat := qm_at_dv (qs := qs) (cA := cA) (st := st) (base := base) (ρ := ρ) (fv := fv) h0
          have hlc : qm_lc qs cA st base S s0 a = .inl (cA t, S.2.2.2.1 a, .inr (.inr (.inr (.inr fun j => qm_rf st base u (S.2.2.2.2.1 s0 a j))))) := by
            unfold qm_lc
            rw [hqs]
            show Sum.inl (cA t, S.2.2.2.1 a, qm_con st base S s0 a t u) = _
            unfold qm_con
            rw [if_pos ht4]
          rw [hlc] at hat
          rw [hrl]
          have hlt : i.toNatClampNeg < S.2.2.2.1 a := Nat.not_le.mp fun q => hin (Or.inr q)
          have hty : (qm_ty t).isReference = true := qm_ty_ref ht4 h8.1
          have hv : va_rf (qm_rf st base u (S.2.2.2.2.1 s0 a i.toNatClampNeg)) = .ref (qm_ad st base u (S.2.2.2.2.1 s0 a i.toNatClampNeg)) := by
            unfold qm_rf
            rw [if_neg (fun e => by rw [e] at hg; cases hg.2)]
            rfl
          have hc := hP _ _ hat
          refine W.aald (v := .ref (qm_ad st base u (S.2.2.2.2.1 s0 a i.toNatClampNeg))) (ty := qm_ty t) hx hb hc ?_ hty (fun q => by cases q) ?_ ?_ rfl rfl hd hk
          · rw [vp_cell_q]
            exact (hK.2 t _ (qm_tys_at h8.1)).1 _ _
          · rw [vp_cell_q]
            show ¬ (i < 0 ∨ (arrV _ _ _).slots.size ≤ _)
            rw [arrV_size]
            exact hin
          · rw [vp_cell_q, arrV_read _ _ hlt, hv]
      · cases h
    · cases h
  case arraylength =>
    obtain ⟨hd, rfl⟩ := pm_d_of (show pm_d _ _ _ _ 1 = true from hq)
    simp only [qm_x] at h
    split at h
    · rename_i s0 a r
      rw [qm_sv_c] at hsv
      split at h
      · rename_i t u hqs
        replace h := pm_cond h
        obtain ⟨ht7, h⟩ := h
        have ht7 := Nat.le_of_ble_eq_true ht7
        obtain ⟨hg, rfl, rfl, rfl, rfl⟩ := qm_n_inj h
        obtain ⟨h30, hcase⟩ := qm_arr h3 hok hsv.1 hqs ht7
        have hk := kk H locs ls hI hL
        rw [List.map_cons] at hk ⊢
        rcases hcase with ⟨hT, h0, hrl⟩ | ⟨hT, g1, g2, hrl⟩ | ⟨hT, h0, hrl⟩
        · rw [qm_len_s hT] at hk
          rw [hrl]
          by_cases ht4 : 4 ≤ t
          · exact va_tlen hx hb (hZ.2.2.2.2.2.2.2.1 s0 a t u h0 hqs hT ht4) hS rfl hd hk
          · exact va_tlen hx hb (hZ.2.2.2.2.2.2.1 s0 a t u h0 hqs hT (by omega)) hS rfl hd hk
        · rw [g1, g2, qm_len_e e4] at hk
          rw [hrl]
          exact va_tlen hx hb hZ.2.2.2.2.2.2.2.2.1 hS rfl hd hk
        · rw [qm_len_d hT h0] at hk
          have h8 := (e7 s0 hT).2.2
          rw [hqs] at h8
          have hat := qm_at_dv (qs := qs) (cA := cA) (st := st) (base := base) (ρ := ρ) (fv := fv) h0
          have hlc : qm_lc qs cA st base S s0 a = .inl (cA t, S.2.2.2.1 a, qm_con st base S s0 a t u) := by
            unfold qm_lc
            rw [hqs]
          rw [hlc] at hat
          rw [hrl]
          exact va_alen (x := (S.2.2.2.1 a, qm_con st base S s0 a t u)) hx hb hK hP (a - 1001) t hat (qm_tys_at h8.1) rfl hd hk
      · cases h
    · cases h
  case checkcast idx =>
    simp only [qm_chk, Bool.and_eq_true] at hq
    obtain ⟨hd0, hi⟩ := hq
    obtain ⟨hd, rfl⟩ := pm_d_of hd0
    simp only [qm_x] at h
    split at h
    · rename_i s0 a r
      rw [qm_sv_c] at hsv
      replace h := pm_cond h
      obtain ⟨hc, h⟩ := h
      have hs0 := Nat.eq_of_beq_eq_true hc
      obtain ⟨hg, rfl, rfl, rfl, rfl⟩ := qm_n_inj h
      have hk := kk H locs ls hI hL
      rw [List.map_cons] at hk ⊢
      split at hi
      · rename_i hx0
        have hs25 : s0 = 25 := by
          rw [hs0]
          cases xs with
          | nil => cases hx0
          | cons x0 xt => exact hx0
        subst hs25
        obtain ⟨t25, n25⟩ := h1.2.2.1
        have hso : so 25 a := by
          rcases qm_vr_of hsv.1 (by decide) with h | h
          · exact h
          · have := qm_dvs hok h
            rw [t25] at this; cases this
        have hr : ∃ cellV : Cell, H[st 25 a]? = some cellV ∧ cellV.vm.isStatics = false ∧ s.vm.findClass "java/lang/Integer" = some cellV.cls := by
          have hc25 := n25
          unfold qm_cn at hc25
          split at hc25
          · rename_i c2 ks hq25
            split at hc25
            · rename_i C T' N hcl
              obtain ⟨g, -⟩ := hZ.2.2.2.2.2.2.2.2.2 25 a _ ks C T' N hso (by decide) t25 hq25 hcl
              have hc25 : C = "java/lang/Integer" := hc25
              obtain ⟨cell, q1, q2, q3, -⟩ := g.kept hS.2.1
              rw [hc25] at q3
              exact ⟨cell, q1, q2, q3⟩
            · exact absurd (show ("" : String) = "java/lang/Integer" from hc25) (by decide)
          · exact absurd (show ("" : String) = "java/lang/Integer" from hc25) (by decide)
        rw [qm_rl_so (e2 _ _ hso).2.1 (by decide)] at hk ⊢
        exact va_castE hx hb hown (hts _ (qm_wk_of hi)) hr hd hk
      · rename_i hx0
        have hs15 : s0 = 15 := by
          rw [hs0]
          cases xs with
          | nil => cases hx0
          | cons x0 xt => exact hx0
        subst hs15
        obtain ⟨h30, hcase⟩ := qm_arr h3 hok hsv.1 q15 (by decide)
        rcases hcase with ⟨hT', -, -⟩ | ⟨-, g1, -, -⟩ | ⟨hT, h0, hrl⟩
        · rw [t15] at hT'; cases hT'
        · cases g1
        have hat := qm_at_dv (qs := qs) (cA := cA) (st := st) (base := base) (ρ := ρ) (fv := fv) h0
        have hlc : qm_lc qs cA st base S 15 a = .inl (cA 2, S.2.2.2.1 a, .inl (S.2.2.2.2.2.1 15 a)) := by
          unfold qm_lc
          rw [q15]
          rfl
        rw [hlc] at hat
        rw [hrl] at hk ⊢
        exact va_castA hx hb hown (hts _ (qm_wk_of hi)) hP (a - 1001) hat (hK.2 2 _ (qm_tys_at (t := 2) (by decide))).2 hd hk
      · cases hi
    · cases h
  case getfield idx =>
    have hx2 := qm_s_getfield (cells := S.1 - c0) (slots := S.2.1 - m0) (Q := Q) (l := l) (e := e) (below := below) h1 h2' h3 hq h (H := H) (locs := locs) (ls := ls) hok hsv hI
    obtain ⟨rfl, rfl, -⟩ := qm_s_getfield (cells := 0) (slots := 0) (Q := fun _ => True) (l := l) (e := e) (below := below) (p := p) h1 h2' h3 hq h (H := H) (locs := locs) (ls := ls) hok hsv hI (fun T hT X => ⟨_, Steps.refl _, trivial⟩)
    exact (hx2 (kk H locs ls hI hL)).2.2
  case putfield idx =>
    have hx2 := qm_s_putfield (cells := S.1 - c0) (slots := S.2.1 - m0) (Q := Q) (l := l) (e := e) (below := below) h1 h2' h3 hq h (H := H) (locs := locs) (ls := ls) hok hsv hI
    obtain ⟨g1, g2, rfl, -⟩ := qm_s_putfield (cells := 0) (slots := 0) (Q := fun _ => True) (l := l) (e := e) (below := below) (p := p) h1 h2' h3 hq h (H := H) (locs := locs) (ls := ls) hok hsv hI (fun H' locs' hI' T hT X => ⟨_, Steps.refl _, trivial⟩)
    refine (hx2 fun H' locs' hI' => ?_).2.2.2
    have := kk H' locs' ls hI' hL
    rw [g1, g2] at this
    exact this
  case newarray a =>
    obtain ⟨rfl, -⟩ := qm_s_newarray (Q := fun _ => True) (l := l) (e := e) (below := below) (p := p) h1 h2' h3 hq h (H := H) (locs := locs) (ls := ls) hc0 hm0 hok hsv hI hL.1 hR1 hR2 (fun H' locs' hI' T hT X => ⟨_, Steps.refl _, trivial⟩)
    exact (qm_s_newarray h1 h2' h3 hq h hc0 hm0 hok hsv hI hL.1 hR1 hR2 (fun H' locs' hI' => kk H' locs' ls hI' hL)).2
  case anewarray idx =>
    obtain ⟨rfl, -⟩ := qm_s_anewarray (Q := fun _ => True) (l := l) (e := e) (below := below) (p := p) h1 h2' h3 hq h (H := H) (locs := locs) (ls := ls) hc0 hm0 hok hsv hI hL.1 hR1 hR2 (fun H' locs' hI' T hT X => ⟨_, Steps.refl _, trivial⟩)
    exact (qm_s_anewarray h1 h2' h3 hq h hc0 hm0 hok hsv hI hL.1 hR1 hR2 (fun H' locs' hI' => kk H' locs' ls hI' hL)).2
  case multianewarray idx n =>
    obtain ⟨rfl, -⟩ := qm_s_multi (Q := fun _ => True) (l := l) (e := e) (below := below) (p := p) h1 h2' h3 hq h (H := H) (locs := locs) (ls := ls) hc0 hm0 hok hsv hI hL.1 hR1 hR2 (fun H' locs' hI' T hT X => ⟨_, Steps.refl _, trivial⟩)
    exact (qm_s_multi h1 h2' h3 hq h hc0 hm0 hok hsv hI hL.1 hR1 hR2 (fun H' locs' hI' => kk H' locs' ls hI' hL)).2
  case new idx =>
    obtain ⟨rfl, -⟩ := qm_s_new (Q := fun _ => True) (l := l) (e := e) (below := below) (p := p) h1 h2' h3 hq h (H := H) (locs := locs) (ls := ls) hc0 hm0 hok hsv hI hL.1 hR1 hR2 (fun H' locs' hI' T hT X => ⟨_, Steps.refl _, trivial⟩)
    exact (qm_s_new h1 h2' h3 hq h hc0 hm0 hok hsv hI hL.1 hR1 hR2 (fun H' locs' hI' => kk H' locs' ls hI' hL)).2
  case aastore =>
    obtain ⟨rfl, -⟩ := qm_s_aastore (Q := fun _ => True) (l := l) (e := e) (below := below) (p := p) h1 h2' h3 hq h (H := H) (locs := locs) (ls := ls) hc0 hm0 hok hsv hI hL.1 hR1 hR2 (fun H' locs' hI' T hT X => ⟨_, Steps.refl _, trivial⟩)
    exact (qm_s_aastore h1 h2' h3 hq h hc0 hm0 hok hsv hI hL.1 hR1 hR2 (fun H' locs' hI' => kk H' locs' ls hI' hL)).2
  case invokevirtual idx =>
    obtain ⟨rfl, -⟩ := qm_s_clone (Q := fun _ => True) (l := l) (e := e) (below := below) (p := p) h1 h2' h3 hq h (H := H) (locs := locs) (ls := ls) hc0 hm0 hok hsv hI hL.1 hR1 hR2 (fun H' locs' hI' T hT X => ⟨_, Steps.refl _, trivial⟩)
    exact (qm_s_clone h1 h2' h3 hq h hc0 hm0 hok hsv hI hL.1 hR1 hR2 (fun H' locs' hI' => kk H' locs' ls hI' hL)).2
  case invokestatic idx =>
    obtain ⟨rfl, -⟩ := qm_s_copy (Q := fun _ => True) (l := l) (e := e) (below := below) (p := p) h1 h2' h3 hq h (H := H) (locs := locs) (ls := ls) hc0 hm0 hok hsv hI hL.1 hR1 hR2 (fun H' locs' hI' T hT X => ⟨_, Steps.refl _, trivial⟩)
    exact (qm_s_copy h1 h2' h3 hq h hc0 hm0 hok hsv hI hL.1 hR1 hR2 (fun H' locs' hI' => kk H' locs' ls hI' hL)).2
  case invokespecial idx =>
    simp only [qm_chk, Bool.and_eq_true] at hq
    obtain ⟨hd0, hq⟩ := hq
    obtain ⟨hd, rfl⟩ := pm_d_of hd0
    simp only [qm_x] at h
    split at h
    · split at h
      · rename_i s0 a r
        replace h := pm_cond h
        obtain ⟨hg1, h⟩ := h
        rw [Bool.and_eq_true] at hg1
        have h8 := Nat.le_of_ble_eq_true hg1.1
        have h30 : s0 < 30 := by simpa [Nat.blt_eq] using hg1.2
        obtain ⟨hg, rfl, rfl, rfl, rfl⟩ := qm_n_inj h
        simp only [Bool.and_eq_true] at hq
        obtain ⟨q1, q2, q3, q4, q5⟩ := hq
        rw [List.map_cons, qm_rl_lt h30]
        have hsize : ls.size = c.maxLocals := hL.1.trans hml.symm
        have hwd : ((r.map (qm_rl st base fv)).map fun v => v.category).sum = r.length := by
          rw [List.map_map]
          have : ((fun v => v.category) ∘ qm_rl st base fv) = fun _ => 1 := funext fun v => qm_rl_cat hfv v
          rw [this]
          exact qm_wd1 r
        have q4 := Nat.le_of_ble_eq_true q4
        have q5 := Nat.le_of_ble_eq_true q5
        have hmr : 2 * (F0 m pc ls (Value.ref (qm_ad st base s0 a) :: r.map (qm_rl st base fv))).monitorRoom + ((r.map (qm_rl st base fv)).map fun v => v.category).sum ≤ 8 := lv_room (by rw [hwd]; exact h8)
        exact W.objInit hx hb hown (hts _ (qm_wk_of q1)) (hts _ (qm_ct_of q2)) (hts _ (qm_ct_of q3)) rfl hsize rfl hd (Nat.le_trans q4 hfr) (by omega) (kk H locs ls hI hL)
      · cases h
    · exact (qm_callV_ne h).elim
  case invokeinterface idx n =>
    simp only [qm_x] at h
    exact (qm_callV_ne h).elim
  case tableswitch d lo hi offs =>
    simp only [qm_x] at h
    split at h
    · exact (qm_w_ne h).elim
    · cases h
  case ifCond cnd o => cases cnd <;> (simp only [qm_x] at h; split at h <;> first | exact (qm_b_ne h).elim | cases h)
  case if_icmp cnd o => cases cnd <;> (simp only [qm_x] at h; split at h <;> first | exact (qm_b_ne h).elim | cases h)
  case ireturn =>
    simp only [qm_x] at h
    split at h
    · try simp only [Bool.cond_eq_ite] at h
      (repeat' split at h) <;> first | exact (qm_e_ne h).elim | cases h
    · cases h
  case areturn =>
    simp only [qm_x] at h
    split at h
    · try simp only [Bool.cond_eq_ite] at h
      (repeat' split at h) <;> first | exact (qm_e_ne h).elim | cases h
    · cases h
  case return_ =>
    simp only [qm_x] at h
    split at h
    · try simp only [Bool.cond_eq_ite] at h
      (repeat' split at h) <;> first | exact (qm_e_ne h).elim | cases h
    · cases h
  all_goals (simp only [qm_x] at h; cases h)
end
