/-! ===== one instruction of the law's machine: all but calls ===== -/
section
variable {p : Program} {l : Launch} {e : Env} {R : Room} {s : State} {m : MethodId} {args : Array Value} {below : List Frame} {meth : Method} {c : Code} {Q : State → Prop}
variable {me : Nat → pm_Me} {D : va_G} {cl : List vw_C} {cA : Nat → ClassId} {qs : Nat → qm_K} {T : qm_T} {J base : Nat} {so : Nat → Nat → Prop} {sx : qm_X} {Rt : pm_T} {st : Nat → Nat → Nat} {fv : Value} {ρ : Nat → Nat} {tx : String} {mi c0 : Nat}
theorem qm_mn_at {f : Nat → Nat} {a n v b : Nat} (h : b ≤ a) : qm_mn f a n v b = f b := by
  unfold qm_mn
  rw [show Nat.blt a b = false from by
    cases hb : Nat.blt a b with
    | false => rfl
    | true => have : a < b := by simpa [Nat.blt_eq] using hb
              omega]
  rfl
theorem qm_mn_in {f : Nat → Nat} {a n v b : Nat} (h1 : a < b) (h2 : b ≤ a + n) : qm_mn f a n v b = v := by
  unfold qm_mn
  rw [qm_bwf.mpr ⟨h1, h2⟩]
  rfl
set_option maxHeartbeats 2000000 in
theorem qm_s_multi (h1 : qm_E1 me qs T sx cl) (h2 : qm_E2 me mi p s m args meth c R D cl cA qs T so sx Rt st ρ fv base tx c0) (h3 : qm_E3 qs T so base J st fv ρ) {pc nx w : Nat} {idx dims : Nat} {xs : List Nat} {ci : Int32} {cj : Int64} (hq : qm_chk cl qs sx me mi (pc, .multianewarray idx dims, nx, w, xs, ci, cj) = true) {pl pl' : qm_L} {sk sk' : List qm_V} {S S' : qm_S} {pc' m0 : Nat}
    (h : qm_x qs T J (me mi).2.2.2.1 (pc, .multianewarray idx dims, nx, w, xs, ci, cj) pl sk S = some (true, .inl (pc', pl', sk', S'))) {H : Heap} {locs : List Loc} {ls : Array Slot} (hc0 : c0 ≤ S.1) (hm0 : m0 ≤ S.2.1) (hok : qm_ok qs T so J S) (hsv : qm_sv so J S sk) (hI : qm_I D cl cA qs st ρ fv base J S s H locs) (hlsz : ls.size = (me mi).2.2.1) (hR1 : S'.1 - c0 ≤ R.cells) (hR2 : S'.2.1 - m0 ≤ R.slots)
    (kk : ∀ (H' : Heap) (locs' : List Loc), qm_I D cl cA qs st ρ fv base J S' s H' locs' → W p l e R s m args below meth c H' locs' (S'.1 - c0) (S'.2.1 - m0) Q (F0 m pc' ls (sk'.map (qm_rl st base fv)))) : pl' = pl ∧ W p l e R s m args below meth c H locs (S.1 - c0) (S.2.1 - m0) Q (F0 m pc ls (sk.map (qm_rl st base fv))) := by
  obtain ⟨hx, hb, hml, hown, hmn, hts, hfr, hlo, hK, hZ, hN, hsz, h1001⟩ := h2
  obtain ⟨⟨hρ, hfv, h06⟩, e2, e3, ⟨e4, e4'⟩, e5, e6, e7, ⟨t14, t15, q14, q15, q0, so06⟩, e9⟩ := id h3
  obtain ⟨hP, hS⟩ := id hI
  have hD := qm_ws_D (qs := qs) (cA := cA) (st := st) (base := base) (J := J) (ρ := ρ) (fv := fv) (S := S)
  simp only [qm_chk, Bool.and_eq_true] at hq
  obtain ⟨hd0, hdm, hcv⟩ := hq
  obtain ⟨hd, rfl⟩ := pm_d_of hd0
  have hdm := Nat.eq_of_beq_eq_true hdm
  subst hdm
  simp only [qm_x] at h
  split at h
  · rename_i y x r
    simp only [qm_sv_c, qm_vv_i, true_and] at hsv
    split at h
    · rename_i t u t' u' hqs hqs'
      replace h := pm_cond h
      obtain ⟨hc, h⟩ := h
      simp only [Bool.and_eq_true] at hc
      obtain ⟨c1, c2, c3, c4, c5, c6⟩ := hc
      have c1 := Nat.eq_of_beq_eq_true c1
      have c2 := Nat.eq_of_beq_eq_true c2
      have hT : T.2.2 (xs.getD 0 99) = false := by simpa using c4
      have hT' : T.2.2 (xs.getD 1 99) = false := by simpa using c5
      have hne : xs.getD 0 99 ≠ xs.getD 1 99 := by
        intro e
        rw [e, pm_bt] at c6
        cases c6
      have ht' : t' < 4 := by simpa [Nat.blt_eq] using c3.2
      have c3 := Nat.eq_of_beq_eq_true c3.1
      obtain ⟨hg, rfl, rfl, rfl, rfl⟩ := qm_n_inj h
      refine ⟨rfl, ?_⟩
      simp only [Bool.and_eq_true] at hg
      obtain ⟨g1, g2, g3, g4⟩ := hg
      have g1 : ¬ x < 0 := by simpa using g1
      have g2 : ¬ y < 0 := by simpa using g2
      have g3 := Nat.le_of_ble_eq_true g3
      have g4 := Nat.le_of_ble_eq_true g4
      obtain ⟨k1, k2, k3⟩ := hok.mm (s := xs.getD 0 99) (t := xs.getD 1 99) (n := x.toNatClampNeg) (k := y.toNatClampNeg) hT hT' (by rw [hqs, c1]) hqs' ht' hne
      have hR1 : S.1 + 1 + x.toNatClampNeg - c0 ≤ R.cells := hR1
      have hR2 : S.2.1 + (x.toNatClampNeg + x.toNatClampNeg * y.toNatClampNeg) - m0 ≤ R.slots := hR2
      refine qm_siz hsz h1001 hc0 hI fun hz => ?_
      simp only [List.map_cons]
      show W p l e R s m args below meth c H locs (S.1 - c0) (S.2.1 - m0) Q (F0 m pc ls (.int y :: .int x :: r.map (qm_rl st base fv)))
      -- whatever the type
      have key : ∀ (ty0 : FieldType) (nm : String), qm_wk w (.classLink (me mi).1.cls idx nm) = true → s.vm.findClass nm = some (cA t) → (∃ k, s.vm.classes[cA t]? = some k ∧ k.kind = .array (cA t') (.array ty0)) → (∃ k cc, s.vm.classes[cA t']? = some k ∧ k.kind = .array cc ty0) → componentBytes ty0 ≤ 8 → fits ty0 (defaultValue ty0) = true → (defaultValue ty0).isDefault = true → defaultValue ty0 = .int 0 → 4 ≤ t →
          W p l e R s m args below meth c H locs (S.1 - c0) (S.2.1 - m0) Q (F0 m pc ls (.int y :: .int x :: r.map (qm_rl st base fv))) := by
        intro ty0 nm hw hnm hkA hkC hby hf hdf hdv ht4
        obtain ⟨kc, cc, hkc1, hkc2⟩ := hkC
        refine qm_multi (ty := ty0) hx hown (hts _ (qm_wk_of hw)) hnm hkA ⟨kc, hkc1, hkc2⟩ (by rw [hb]; exact hd) g1 g2 g3 g4 hby hf hdf (by omega) (by omega) fun H1 z1 w1 w2 w3 => ?_
        have hcell0 : qm_cell qs cA st base J ρ fv (qm_mm S (xs.getD 0 99) (xs.getD 1 99) x.toNatClampNeg y.toNatClampNeg) S.1 = .inl (cA t, x.toNatClampNeg, .inr (.inr (.inr (.inr fun j => if j < x.toNatClampNeg then some (base + (S.1 - 1001) + 1 + j) else none)))) := by
          refine (qm_cell_dv k3).trans ?_
          unfold qm_lc
          rw [hqs]
          show Sum.inl (cA t, qm_mn (qm_un S.2.2.2.1 S.1 x.toNatClampNeg) S.1 x.toNatClampNeg y.toNatClampNeg S.1, _) = _
          rw [qm_mn_at (Nat.le_refl _), qm_un_s]
          unfold qm_con
          rw [if_pos ht4]
          refine congrArg (fun z => Sum.inl (cA t, x.toNatClampNeg, Sum.inr (Sum.inr (Sum.inr (Sum.inr z))))) (funext fun j => ?_)
          show qm_rf st base u (qm_mg S.2.2.2.2.1 (xs.getD 0 99) S.1 x.toNatClampNeg (xs.getD 0 99) S.1 j) = _
          unfold qm_mg
          rw [pm_bt, pm_bt]
          simp only [Bool.and_self, cond_true]
          by_cases hj : j < x.toNatClampNeg
          · rw [show Nat.blt j x.toNatClampNeg = true from by simp [Nat.blt_eq, hj], if_pos hj]
            unfold qm_rf qm_ad
            have := hok.1
            simp only [cond_true]
            rw [if_neg (by omega), if_neg (by omega)]
            refine congrArg some ?_
            omega
          · have hbf : Nat.blt j x.toNatClampNeg = false := by
              cases hb9 : Nat.blt j x.toNatClampNeg with
              | false => rfl
              | true => exact absurd (by simpa [Nat.blt_eq] using hb9) hj
            rw [hbf, if_neg hj]
            rfl
        have hcell1 : ∀ j, j < x.toNatClampNeg → qm_cell qs cA st base J ρ fv (qm_mm S (xs.getD 0 99) (xs.getD 1 99) x.toNatClampNeg y.toNatClampNeg) (S.1 + 1 + j) = .inl (cA t', y.toNatClampNeg, .inl fun _ => 0) := by
          intro j hj
          have hdv1 : qm_dv J (qm_mm S (xs.getD 0 99) (xs.getD 1 99) x.toNatClampNeg y.toNatClampNeg) (xs.getD 1 99) (S.1 + 1 + j) := by
            refine ⟨by have := hok.1; omega, by show S.1 + 1 + j < S.1 + 1 + x.toNatClampNeg; omega, ?_, qm_mn_in (by omega) (by omega)⟩
            show (Nat.ble (1001 + J) (S.1 + 1 + j) && Nat.blt (S.1 + 1 + j) (1001 + J + S.2.2.2.2.2.2.1)) = false
            cases hb2 : Nat.ble (1001 + J) (S.1 + 1 + j) && Nat.blt (S.1 + 1 + j) (1001 + J + S.2.2.2.2.2.2.1) with
            | false => rfl
            | true =>
              rw [Bool.and_eq_true] at hb2
              have q2 : S.1 + 1 + j < 1001 + J + S.2.2.2.2.2.2.1 := by simpa [Nat.blt_eq] using hb2.2
              have q1 := Nat.le_of_ble_eq_true hb2.1
              by_cases h0 : 0 < S.2.2.2.2.2.2.1
              · have := hok.2.2.1 h0
                omega
              · omega
          refine (qm_cell_dv hdv1).trans ?_
          unfold qm_lc
          rw [hqs']
          show Sum.inl (cA t', qm_mn (qm_un S.2.2.2.1 S.1 x.toNatClampNeg) S.1 x.toNatClampNeg y.toNatClampNeg (S.1 + 1 + j), _) = _
          rw [qm_mn_in (by omega) (by omega)]
          unfold qm_con
          rw [if_neg (by omega)]
          refine congrArg (fun z => Sum.inl (cA t', y.toNatClampNeg, Sum.inl z)) (funext fun i => ?_)
          show qm_mi S.2.2.2.2.2.1 (xs.getD 1 99) S.1 x.toNatClampNeg (xs.getD 1 99) (S.1 + 1 + j) i = 0
          unfold qm_mi
          rw [pm_bt, qm_bwf.mpr ⟨by omega, by omega⟩]
          rfl
        have hold : ∀ b, b < S.1 → qm_cell qs cA st base J ρ fv (qm_mm S (xs.getD 0 99) (xs.getD 1 99) x.toNatClampNeg y.toNatClampNeg) b = qm_cell qs cA st base J ρ fv S b := by
          intro b hb2
          refine qm_cell_eq rfl (k2.2.2 b hb2).1 ?_ (fun s' => ?_) (fun s' => ?_)
          · show qm_mn (qm_un S.2.2.2.1 S.1 x.toNatClampNeg) S.1 x.toNatClampNeg y.toNatClampNeg b = _
            rw [qm_mn_at (by omega), qm_un_at (by omega)]
          · funext j
            show qm_mg S.2.2.2.2.1 (xs.getD 0 99) S.1 x.toNatClampNeg s' b j = _
            unfold qm_mg
            rw [pm_bf (show b ≠ S.1 by omega), Bool.and_false]
            rfl
          · funext j
            show qm_mi S.2.2.2.2.2.1 (xs.getD 1 99) S.1 x.toNatClampNeg s' b j = _
            unfold qm_mi
            rw [show Nat.blt S.1 b = false from by
              cases hb3 : Nat.blt S.1 b with
              | false => rfl
              | true => have : S.1 < b := by simpa [Nat.blt_eq] using hb3
                        omega, Bool.false_and, Bool.and_false]
            rfl
        have hP1 : va_P D cl (qm_ws qs cA st base J ρ fv (qm_mm S (xs.getD 0 99) (xs.getD 1 99) x.toNatClampNeg y.toNatClampNeg)) H1 := by
          intro k q hk
          obtain ⟨hk1, rfl⟩ := qm_ws_mem hk
          have hk1 : k < S.1 + 1 + x.toNatClampNeg - 1001 := hk1
          have h1001' := hok.1
          by_cases hlt : 1001 + k < S.1
          · rw [hold _ hlt]
            have h2 := hP k (base + k, qm_cell qs cA st base J ρ fv S (1001 + k)) (by
              have := qm_ws_at (qs := qs) (cA := cA) (st := st) (base := base) (J := J) (ρ := ρ) (fv := fv) (S := S) (a := 1001 + k) (by omega) hlt
              rwa [Nat.add_sub_cancel_left] at this)
            exact h2.kept (w3 _ h2.lt)
          · by_cases he : 1001 + k = S.1
            · rw [he, hcell0]
              show H1[base + k]? = some (vp_cell (cA t) (x.toNatClampNeg, _))
              rw [show base + k = H.size by omega, w1]
              rw [vp_cell_q]
              refine congrArg some (congrArg (arrV (cA t) x.toNatClampNeg) (funext fun j => ?_))
              unfold qm_row
              by_cases hj : j < x.toNatClampNeg
              · rw [if_pos hj, if_pos hj, hz]; rfl
              · rw [if_neg hj, if_neg hj]; rfl
            · have hj : k + 1001 - S.1 - 1 < x.toNatClampNeg := by omega
              have := hcell1 _ hj
              rw [show S.1 + 1 + (k + 1001 - S.1 - 1) = 1001 + k by omega] at this
              rw [this]
              show H1[base + k]? = some (vp_cell (cA t') (y.toNatClampNeg, _))
              have := w2 _ hj
              rw [show H.size + 1 + (k + 1001 - S.1 - 1) = base + k by omega] at this
              rw [this, hdv]
              rfl
        have hS1 : va_S (fun q : Nat => base ≤ q) s.heap H1 (locs ++ (List.range x.toNatClampNeg).map fun j => ⟨H.size, j⟩) := by
          refine ⟨Nat.le_trans hS.1 (by omega), fun a h1a h2a => (w3 a (Nat.lt_of_lt_of_le h1a hS.1)).trans (hS.2.1 a h1a h2a), fun lc hl => ?_⟩
          rcases List.mem_append.mp hl with hl | hl
          · exact hS.2.2 lc hl
          · obtain ⟨j, -, rfl⟩ := List.mem_map.mp hl
            show base ≤ H.size
            omega
        have hk := kk H1 _ ⟨hP1, hS1⟩
        rw [List.map_cons, qm_rl_dv k3 (e7 _ hT).2.1] at hk
        have hk : W p l e R s m args below meth c H1 (locs ++ (List.range x.toNatClampNeg).map fun j => ⟨H.size, j⟩) (S.1 + 1 + x.toNatClampNeg - c0) (S.2.1 + (x.toNatClampNeg + x.toNatClampNeg * y.toNatClampNeg) - m0) Q (F0 m (pc + 4) ls (.ref (base + (S.1 - 1001)) :: r.map (qm_rl st base fv))) := hk
        rw [show S.1 - c0 + (1 + x.toNatClampNeg) = S.1 + 1 + x.toNatClampNeg - c0 by omega, show S.2.1 - m0 + (x.toNatClampNeg + x.toNatClampNeg * y.toNatClampNeg) = S.2.1 + (x.toNatClampNeg + x.toNatClampNeg * y.toNatClampNeg) - m0 by omega]
        rw [← hz] at hk
        exact hk
      have hkin : ∀ {i : Nat} {ty : FieldType}, (qm_tys cA)[i]? = some (cA i, ty) → ∃ k cc, s.vm.classes[cA i]? = some k ∧ k.kind = .array cc ty := by
        intro i ty hi
        obtain ⟨-, kS, hkS, compS, hkindS⟩ := (hK.2 i _ hi).1 0 (fun _ => .null)
        exact ⟨kS, compS, hkS, hkindS⟩
      rw [← c2, ← c3] at hcv
      split at hcv
      · rename_i ht4
        simp only [Bool.and_eq_true] at hcv
        have h0 := Nat.eq_of_beq_eq_true hcv.2
        subst h0
        exact key .int "[[I" hcv.1 (hK.2 4 _ (qm_tys_at (t := 4) (by decide))).2 hN.2.2.2.1 (hkin (i := 0) rfl) (by decide) rfl rfl rfl (by decide)
      · rename_i ht5
        simp only [Bool.and_eq_true] at hcv
        have h0 := Nat.eq_of_beq_eq_true hcv.2
        subst h0
        exact key .boolean "[[Z" hcv.1 (hK.2 5 _ (qm_tys_at (t := 5) (by decide))).2 hN.2.2.2.2.1 (hkin (i := 3) rfl) (by decide) rfl rfl rfl (by decide)
      · cases hcv
    · cases h
  · cases h
end
