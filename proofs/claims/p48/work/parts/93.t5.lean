/-! ===== one instruction of the law's machine: no call ===== -/
section
variable {p : Program} {l : Launch} {e : Env} {R : Room} {s : State} {m : MethodId} {args : Array Value} {below : List Frame} {meth : Method} {c : Code} {Q : State → Prop}
variable {me : Nat → pm_Me} {D : va_G} {cl : List vw_C} {cA : Nat → ClassId} {qs : Nat → qm_K} {T : qm_T} {J base : Nat} {so : Nat → Nat → Prop} {sx : qm_X} {Rt : pm_T} {st : Nat → Nat → Nat} {fv : Value} {ρ : Nat → Nat} {tx : String} {mi c0 : Nat}
theorem qm_getD_none {ks : List (Nat × Nat)} {k : Nat} (h : ks[k]? = none) : ks.getD k (9, 9) = (9, 9) := by
  rw [List.getD_eq_getElem?_getD, h]
  rfl
set_option maxHeartbeats 2000000 in
theorem qm_s_getfield (h1 : qm_E1 me qs T sx cl) (h2 : qm_E2 me mi p s m args meth c R D cl cA qs T so sx Rt st ρ fv base tx c0) (h3 : qm_E3 qs T so base J st fv ρ) {pc nx w : Nat} {idx : Nat} {xs : List Nat} {ci : Int32} {cj : Int64} (hq : qm_chk cl qs sx me mi (pc, .getfield idx, nx, w, xs, ci, cj) = true) {pl pl' : qm_L} {sk sk' : List qm_V} {S S' : qm_S} {pc' : Nat} {cells slots : Nat}
    (h : qm_x qs T J (me mi).2.2.2.1 (pc, .getfield idx, nx, w, xs, ci, cj) pl sk S = some (true, .inl (pc', pl', sk', S'))) {H : Heap} {locs : List Loc} {ls : Array Slot} (hok : qm_ok qs T so J S) (hsv : qm_sv so J S sk) (hI : qm_I D cl cA qs st ρ fv base J S s H locs)
    (kk : W p l e R s m args below meth c H locs cells slots Q (F0 m pc' ls (sk'.map (qm_rl st base fv)))) : S' = S ∧ pl' = pl ∧ W p l e R s m args below meth c H locs cells slots Q (F0 m pc ls (sk.map (qm_rl st base fv))) := by
  obtain ⟨hx, hb, hml, hown, hmn, hts, hfr, hlo, hK, hZ, hN, hsz, h1001⟩ := h2
  obtain ⟨⟨hρ, hfv, h06⟩, e2, e3, ⟨e4, e4'⟩, e5, e6, e7, ⟨t14, t15, q14, q15, q0, so06⟩, e9⟩ := id h3
  obtain ⟨hP, hS⟩ := id hI
  simp only [qm_chk, Bool.and_eq_true] at hq
  obtain ⟨hd0, hcv⟩ := hq
  obtain ⟨hd, rfl⟩ := pm_d_of hd0
  simp only [qm_x] at h
  split at h
  · rename_i s0 a r
    rw [qm_sv_c] at hsv
    split at h
    · rename_i c2 ks hqs
      replace h := pm_cond h
      obtain ⟨hc2, h⟩ := h
      have hc2 := Nat.eq_of_beq_eq_true hc2
      subst hc2
      split at h
      · rename_i g v hv
        obtain ⟨hg, rfl, rfl, rfl, rfl⟩ := qm_n_inj h
        refine ⟨rfl, rfl, ?_⟩
        split at hcv
        · rename_i t hfk
          obtain ⟨C, T', N, hcl, hkN, rfl⟩ := qm_fk_of hfk
          obtain ⟨ty, hin, hnm, hty, -⟩ := h1.2.1 _ _ _ _ hcl
          have hor : (∃ ref, (Cond.fieldLink (me mi).1.cls idx ref (T' (xs.getD 2 0)).2.1 (T' (xs.getD 2 0)).2.2.1).before args s = true ∧ ∀ x, s.fieldFound? (T' (xs.getD 2 0)).1 (T' (xs.getD 2 0)).2.1 (T' (xs.getD 2 0)).2.2.1 = some x → s.fieldFound? ref (T' (xs.getD 2 0)).2.1 (T' (xs.getD 2 0)).2.2.1 = some x) ∨ (Cond.fieldLinkNest (me mi).1.cls idx (T' (xs.getD 2 0)).1 (T' (xs.getD 2 0)).2.1 (T' (xs.getD 2 0)).2.2.1 "java/util/ArrayList").before args s = true ∧ (T' (xs.getD 2 0)).1 = "java/util/ArrayList" := by
            unfold qm_flg at hcv
            cases h3 : Nat.beq (xs.getD 0 9) 3 with
            | true =>
              rw [h3, cond_true, Bool.and_eq_true] at hcv
              exact Or.inr ⟨va_Nw.use rfl (hN.1.1 _ (pm_wn_of hcv.1) rfl), of_decide_eq_true hcv.2⟩
            | false =>
              rw [h3, cond_false] at hcv
              unfold qm_flk at hcv
              split at hcv
              · rw [Bool.and_eq_true] at hcv
                exact Or.inl ⟨_, hts _ (qm_wk_of hcv.1), fun x hx => u_same (hts _ (qm_wk_of hcv.2)) x hx⟩
              · exact Or.inl ⟨_, hts _ (qm_wk_of hcv), fun _ h => h⟩
          obtain ⟨h30, hcase⟩ := qm_obj h3 hok hsv.1 hqs
          have hks : ∃ kd, ks[xs.getD 2 0]? = some kd ∧ ks.getD (xs.getD 2 0) (9, 9) = kd := by
            cases hk : ks[xs.getD 2 0]? with
            | some kd => exact ⟨kd, rfl, by rw [List.getD_eq_getElem?_getD, hk]; rfl⟩
            | none =>
              rw [qm_getD_none hk] at hv
              cases hv
          obtain ⟨kd, hk1, hk2⟩ := hks
          rw [hk2] at hv
          rw [List.map_cons]
          rw [List.map_cons] at kk
          rcases hcase with ⟨hT, h0, hrl⟩ | ⟨hT, h0, hrl⟩
          · have hs0 : s0 ≠ 0 := by
              intro e
              subst e
              rw [q0] at hqs
              have hq2 : ks = [] := (Prod.mk.inj (Sum.inr.inj hqs)).2.symm
              rw [hq2] at hk1
              cases hk1
            obtain ⟨-, hf⟩ := hZ.2.2.2.2.2.2.2.2.2 s0 a _ ks C T' N h0 hs0 hT hqs hcl
            have hf := hf _ _ hk1
            have hval : qm_rl st base fv v = (if kd.1 = 3 then .ref (st kd.2 (a + 20)) else .int (T.1 s0 a (xs.getD 2 0))) := by
              unfold qm_fv at hv
              split at hv
              · rename_i hk; cases hv; rw [qm_rd_s hT, if_neg (by omega)]; rfl
              · rename_i hk; cases hv; rw [qm_rd_s hT, if_neg (by omega)]; rfl
              · rename_i hk; cases hv; rw [qm_rd_s hT, if_neg (by omega)]; rfl
              · rename_i hk
                rw [hT] at hv
                cases hv
                rw [if_pos hk]
                obtain ⟨a1, a2⟩ := kd
                have hk : a1 = 3 := hk
                subst hk
                obtain ⟨g1, g2⟩ := e5 s0 a _ ks _ _ h0 hqs hk1
                exact qm_rl_so (e2 _ _ g2).2.1 g1
              · cases hv
            rw [hrl]
            rw [← hval] at hf
            rcases hor with ⟨ref, hlink, hsame⟩ | ⟨-, hlink⟩
            · exact vk_getf hx hb hf hS hown hlink hsame hd kk
            · exact absurd hlink (h1.2.2.2.2 _ _ _ _ _ _ hqs hT hcl _)
          · have hat := qm_at_dv (qs := qs) (cA := cA) (st := st) (base := base) (ρ := ρ) (fv := fv) h0
            have hlc : qm_lc qs cA st base S s0 a = .inr (xs.getD 1 0, ks.mapIdx fun k kd => qm_val st base S s0 a k kd) := by
              unfold qm_lc
              rw [hqs]
            rw [hlc] at hat
            have hf2 : (ks.mapIdx fun k kd => qm_val st base S s0 a k kd)[xs.getD 2 0]? = some (qm_rl st base fv v) := by
              rw [List.getElem?_mapIdx, hk1]
              show some (qm_val st base S s0 a (xs.getD 2 0) kd) = _
              refine congrArg some ?_
              unfold qm_val
              unfold qm_fv at hv
              split at hv
              · rename_i hk; cases hv; rw [qm_rd_d hT, if_neg (by omega)]; rfl
              · rename_i hk; cases hv; rw [qm_rd_d hT, if_neg (by omega)]; rfl
              · rename_i hk; cases hv; rw [qm_rd_d hT, if_neg (by omega)]; rfl
              · rename_i hk
                rw [hT] at hv
                cases hv
                rw [if_pos hk]
                obtain ⟨a1, a2⟩ := kd
                have hk : a1 = 3 := hk
                subst hk
                have hne : S.2.2.2.2.1 s0 a (xs.getD 2 0) ≠ 0 := by
                  intro e
                  rw [e] at hg
                  cases hg
                have h8 := (e7 s0 hT).2.2
                rw [hqs] at h8
                have hu := h8 _ _ hk1
                unfold qm_rf
                rw [if_neg hne, qm_rl_lt hu]
                rfl
              · cases hv
            rw [hrl]
            rcases hor with ⟨ref, hlink, hsame⟩ | ⟨hlink, -⟩
            · exact va_get hx hb hts hin hown hK hP (a - 1001) hat hcl (xs.getD 2 0) hkN hlink hsame hf2 hd kk
            · exact va_getN hx hb hts hin hown hK hP (a - 1001) hat hcl (xs.getD 2 0) hkN hlink (fun _ h => h) hf2 hd kk
        · cases hcv
      · cases h
    · cases h
  · cases h
set_option maxHeartbeats 2000000 in
theorem qm_s_putfield (h1 : qm_E1 me qs T sx cl) (h2 : qm_E2 me mi p s m args meth c R D cl cA qs T so sx Rt st ρ fv base tx c0) (h3 : qm_E3 qs T so base J st fv ρ) {pc nx w : Nat} {idx : Nat} {xs : List Nat} {ci : Int32} {cj : Int64} (hq : qm_chk cl qs sx me mi (pc, .putfield idx, nx, w, xs, ci, cj) = true) {pl pl' : qm_L} {sk sk' : List qm_V} {S S' : qm_S} {pc' : Nat} {cells slots : Nat}
    (h : qm_x qs T J (me mi).2.2.2.1 (pc, .putfield idx, nx, w, xs, ci, cj) pl sk S = some (true, .inl (pc', pl', sk', S'))) {H : Heap} {locs : List Loc} {ls : Array Slot} (hok : qm_ok qs T so J S) (hsv : qm_sv so J S sk) (hI : qm_I D cl cA qs st ρ fv base J S s H locs)
    (kk : ∀ (H' : Heap) (locs' : List Loc), qm_I D cl cA qs st ρ fv base J S' s H' locs' → W p l e R s m args below meth c H' locs' cells slots Q (F0 m pc' ls (sk'.map (qm_rl st base fv)))) : S'.1 = S.1 ∧ S'.2.1 = S.2.1 ∧ pl' = pl ∧ W p l e R s m args below meth c H locs cells slots Q (F0 m pc ls (sk.map (qm_rl st base fv))) := by
  obtain ⟨hx, hb, hml, hown, hmn, hts, hfr, hlo, hK, hZ, hN, hsz, h1001⟩ := h2
  obtain ⟨⟨hρ, hfv, h06⟩, e2, e3, ⟨e4, e4'⟩, e5, e6, e7, ⟨t14, t15, q14, q15, q0, so06⟩, e9⟩ := id h3
  obtain ⟨hP, hS⟩ := id hI
  have hD := qm_ws_D (qs := qs) (cA := cA) (st := st) (base := base) (J := J) (ρ := ρ) (fv := fv) (S := S)
  simp only [qm_chk, Bool.and_eq_true] at hq
  obtain ⟨hd0, hcv⟩ := hq
  obtain ⟨hd, rfl⟩ := pm_d_of hd0
  split at hcv
  · rename_i t hfk
    obtain ⟨C, T', N, hcl, hkN, rfl⟩ := qm_fk_of hfk
    obtain ⟨ty, hin, hnm, hty, hkt, -⟩ := h1.2.1 _ _ _ _ hcl
    rw [Bool.and_eq_true] at hcv
    obtain ⟨hcv, hfin⟩ := hcv
    obtain ⟨ref, hlink, hsame⟩ : ∃ ref, (Cond.fieldLink (me mi).1.cls idx ref (T' (xs.getD 2 0)).2.1 (T' (xs.getD 2 0)).2.2.1).before args s = true ∧ ∀ x, s.fieldFound? (T' (xs.getD 2 0)).1 (T' (xs.getD 2 0)).2.1 (T' (xs.getD 2 0)).2.2.1 = some x → s.fieldFound? ref (T' (xs.getD 2 0)).2.1 (T' (xs.getD 2 0)).2.2.1 = some x := by
      unfold qm_flk at hcv
      split at hcv
      · rw [Bool.and_eq_true] at hcv
        exact ⟨_, hts _ (qm_wk_of hcv.1), fun x hx => u_same (hts _ (qm_wk_of hcv.2)) x hx⟩
      · exact ⟨_, hts _ (qm_wk_of hcv), fun _ h => h⟩
    -- the row, whatever is put
    have put : ∀ (s0 a : Nat) (ks : List (Nat × Nat)) (r : List qm_V) (v : Value) (S1 : qm_S), qs s0 = .inr (xs.getD 1 0, ks) → qm_dv J S s0 a → T.2.2 s0 = false → qm_rl st base fv (.inr (s0, a)) = .ref (base + (a - 1001)) →
        (qm_ws qs cA st base J ρ fv S).set (a - 1001) (base + (a - 1001), qm_lc qs cA st base S1 s0 a) = qm_ws qs cA st base J ρ fv S1 → qm_lc qs cA st base S1 s0 a = .inr (xs.getD 1 0, (ks.mapIdx fun k kd => qm_val st base S s0 a k kd).set (xs.getD 2 0) v) →
        narrow (ty (xs.getD 2 0)) v = v → fits (ty (xs.getD 2 0)) v = true →
        (∀ (H' : Heap) (locs' : List Loc), qm_I D cl cA qs st ρ fv base J S1 s H' locs' → W p l e R s m args below meth c H' locs' cells slots Q (F0 m (pc + 3) ls (r.map (qm_rl st base fv)))) →
        W p l e R s m args below meth c H locs cells slots Q (F0 m pc ls (v :: qm_rl st base fv (.inr (s0, a)) :: r.map (qm_rl st base fv))) := by
      intro s0 a ks r v S1 hqs h0 hT hrl hws hlc1 hnar hfit kk
      obtain ⟨hlen, -⟩ := hkt _ _ hqs hT
      have hat := qm_at_dv (qs := qs) (cA := cA) (st := st) (base := base) (ρ := ρ) (fv := fv) h0
      have hlc : qm_lc qs cA st base S s0 a = .inr (xs.getD 1 0, ks.mapIdx fun k kd => qm_val st base S s0 a k kd) := by
        unfold qm_lc
        rw [hqs]
      rw [hlc] at hat
      rw [hlc1] at hws
      rw [hrl]
      have kk2 := fun (H1 : Heap) (locs1 : List Loc) (hP1 : va_P D cl ((qm_ws qs cA st base J ρ fv S).set (a - 1001) (base + (a - 1001), .inr (xs.getD 1 0, (ks.mapIdx fun k kd => qm_val st base S s0 a k kd).set (xs.getD 2 0) v))) H1) (_ : va_D (fun q : Nat => base ≤ q) ((qm_ws qs cA st base J ρ fv S).set (a - 1001) (base + (a - 1001), .inr (xs.getD 1 0, (ks.mapIdx fun k kd => qm_val st base S s0 a k kd).set (xs.getD 2 0) v)))) (hS1 : va_S (fun q : Nat => base ≤ q) s.heap H1 locs1) => kk H1 locs1 ⟨hws ▸ hP1, hS1⟩
      have hkl : xs.getD 2 0 < (ks.mapIdx fun k kd => qm_val st base S s0 a k kd).length := by rw [List.length_mapIdx, hlen]; exact hkN
      cases hf : (T' (xs.getD 2 0)).2.2.2 with
      | false => exact va_put hx hb hts hin ty hty hnm hown hK hP hD hS (a - 1001) hat hcl (xs.getD 2 0) hkN hlink hsame hf (hty _ hkN) hnar hfit hkl hd kk2
      | true =>
        rw [hf] at hfin
        simp only [cond_true, Bool.and_eq_true] at hfin
        exact va_putF hx hb hts hin ty hty hnm hown hK hP hD hS (a - 1001) hat hcl (xs.getD 2 0) hkN hlink hsame hf (hmn (of_decide_eq_true hfin.1)) (of_decide_eq_true hfin.2) (hty _ hkN) hnar hfit hkl hd kk2
    have val_i : ∀ (s0 a : Nat) (ks : List (Nat × Nat)) (x : Int32), qs s0 = .inr (xs.getD 1 0, ks) → T.2.2 s0 = false → (ks.getD (xs.getD 2 0) (9, 9)).1 ≠ 3 → qm_lc qs cA st base (qm_sI S (qm_ui S.2.2.2.2.2.1 s0 a (xs.getD 2 0) x)) s0 a = .inr (xs.getD 1 0, (ks.mapIdx fun k kd => qm_val st base S s0 a k kd).set (xs.getD 2 0) (.int x)) := by
      intro s0 a ks x hqs hT hk3
      obtain ⟨hlen, -⟩ := hkt _ _ hqs hT
      unfold qm_lc
      rw [hqs]
      refine congrArg (fun z => Sum.inr (xs.getD 1 0, z)) (qm_fields (by rw [hlen]; exact hkN) ?_ fun j kd hj => ?_).symm
      · unfold qm_val
        rw [if_neg hk3]
        show Value.int (qm_ui S.2.2.2.2.2.1 s0 a (xs.getD 2 0) x s0 a (xs.getD 2 0)) = _
        rw [qm_ui_row, pk_us]
      · unfold qm_val
        by_cases e : kd.1 = 3
        · rw [if_pos e, if_pos e]; rfl
        · rw [if_neg e, if_neg e]
          show Value.int (qm_ui S.2.2.2.2.2.1 s0 a (xs.getD 2 0) x s0 a j) = _
          rw [qm_ui_row, pk_un hj]
    simp only [qm_x] at h
    split at h
    · rename_i x s0 a r
      rw [qm_sv_c, qm_sv_c] at hsv
      cases hT : T.2.2 s0 with
      | true => rw [hT] at h; cases h
      | false =>
        rw [hT] at h
        simp only [cond_false] at h
        split at h
        · rename_i c2 ks hqs
          replace h := pm_cond h
          obtain ⟨hc2, h⟩ := h
          have hc2 := Nat.eq_of_beq_eq_true hc2
          subst hc2
          obtain ⟨-, hkt⟩ := hkt _ _ hqs hT
          have hk0 := hkt _ hkN
          obtain ⟨h30, hcase⟩ := qm_obj h3 hok hsv.2.1 hqs
          rcases hcase with ⟨hT', -, -⟩ | ⟨-, h0, hrl⟩
          · rw [hT'] at hT; cases hT
          rw [List.map_cons, List.map_cons]
          have hwI := qm_wsI (qs := qs) (cA := cA) (st := st) (base := base) (ρ := ρ) (fv := fv) (I' := qm_ui S.2.2.2.2.2.1 s0 a (xs.getD 2 0) x) h0 (fun b hb s' => qm_ui_at hb s')
          split at h
          · rename_i hkd
            obtain ⟨hg, rfl, rfl, rfl, rfl⟩ := qm_n_inj h
            rw [hkd] at hk0
            have hk0 : ty (xs.getD 2 0) = .int := hk0
            exact ⟨rfl, rfl, rfl, put s0 a ks r (.int x) _ hqs h0 hT hrl hwI (val_i s0 a ks x hqs hT (by omega)) (by rw [hk0]; exact rfl) (by rw [hk0]; exact rfl) kk⟩
          · rename_i hkd
            obtain ⟨hg, rfl, rfl, rfl, rfl⟩ := qm_n_inj h
            rw [hkd] at hk0
            have hk0 : ty (xs.getD 2 0) = .boolean := hk0
            exact ⟨rfl, rfl, rfl, put s0 a ks r (.int x) _ hqs h0 hT hrl hwI (val_i s0 a ks x hqs hT (by omega)) (by rw [hk0]; exact pm_nz x (of_decide_eq_true hg)) (by rw [hk0]; exact pm_fz x (of_decide_eq_true hg)) kk⟩
          · rename_i hkd
            obtain ⟨hg, rfl, rfl, rfl, rfl⟩ := qm_n_inj h
            rw [hkd] at hk0
            have hk0 : ty (xs.getD 2 0) = .byte := hk0
            have hg := of_decide_eq_true hg
            exact ⟨rfl, rfl, rfl, put s0 a ks r (.int x) _ hqs h0 hT hrl hwI (val_i s0 a ks x hqs hT (by omega)) (by rw [hk0]; exact congrArg Value.int hg) (by rw [hk0, ← hg]; exact pk_fb _) kk⟩
          · cases h
        · cases h
    · rename_i t b s0 a r
      rw [qm_sv_c, qm_sv_c] at hsv
      cases hT : T.2.2 s0 with
      | true => rw [hT] at h; cases h
      | false =>
        rw [hT] at h
        simp only [cond_false] at h
        split at h
        · rename_i c2 ks hqs
          replace h := pm_cond h
          obtain ⟨hc2, h⟩ := h
          simp only [Bool.and_eq_true] at hc2
          obtain ⟨hc2, ht30, hk3, hkt2⟩ := hc2
          have hc2 := Nat.eq_of_beq_eq_true hc2
          subst hc2
          have ht30 : t < 30 := by simpa [Nat.blt_eq] using ht30
          have hk3 := Nat.eq_of_beq_eq_true hk3
          have hkt2 := Nat.eq_of_beq_eq_true hkt2
          obtain ⟨hg, rfl, rfl, rfl, rfl⟩ := qm_n_inj h
          obtain ⟨hlen, hkt⟩ := hkt _ _ hqs hT
          have hk0 := hkt _ hkN
          rw [hk3] at hk0
          have hk0 : (∃ n, ty (xs.getD 2 0) = .object n) ∨ ∃ t, ty (xs.getD 2 0) = .array t := hk0
          obtain ⟨h30, hcase⟩ := qm_obj h3 hok hsv.2.1 hqs
          rcases hcase with ⟨hT', -, -⟩ | ⟨-, h0, hrl⟩
          · rw [hT'] at hT; cases hT
          have hb0 : b ≠ 0 := by
            rcases qm_vr_of hsv.1 ht30 with g | g
            · have := (e2 _ _ g).1; omega
            · have := g.1; omega
          rw [List.map_cons, List.map_cons]
          have hwG := qm_wsG (qs := qs) (cA := cA) (st := st) (base := base) (ρ := ρ) (fv := fv) (G' := qm_ug S.2.2.2.2.1 s0 a (xs.getD 2 0) b) h0 (fun b hb s' => qm_ug_at hb s')
          refine ⟨rfl, rfl, rfl, put s0 a ks r _ _ hqs h0 hT hrl hwG ?_ ?_ ?_ kk⟩
          · unfold qm_lc
            rw [hqs]
            refine congrArg (fun z => Sum.inr (xs.getD 1 0, z)) (qm_fields (by rw [hlen]; exact hkN) ?_ fun j kd hj => ?_).symm
            · unfold qm_val
              rw [if_pos hk3, hkt2]
              show va_rf (qm_rf st base t (qm_ug S.2.2.2.2.1 s0 a (xs.getD 2 0) b s0 a (xs.getD 2 0))) = _
              rw [qm_ug_row, if_pos rfl, qm_rl_lt ht30]
              unfold qm_rf
              rw [if_neg hb0]
              rfl
            · unfold qm_val
              by_cases e : kd.1 = 3
              · rw [if_pos e, if_pos e]
                show va_rf (qm_rf st base kd.2 (qm_ug S.2.2.2.2.1 s0 a (xs.getD 2 0) b s0 a j)) = _
                rw [qm_ug_row, if_neg hj]
              · rw [if_neg e, if_neg e]; rfl
          · rw [qm_rl_lt ht30]
            rcases hk0 with ⟨n, hn⟩ | ⟨n, hn⟩ <;> rw [hn] <;> rfl
          · rw [qm_rl_lt ht30]
            rcases hk0 with ⟨n, hn⟩ | ⟨n, hn⟩ <;> rw [hn] <;> rfl
        · cases h
    · cases h
  · cases hcv
end
