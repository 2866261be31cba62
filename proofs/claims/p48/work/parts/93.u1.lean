/-! ===== the class is asked ===== -/
theorem pm_x_49 {Sg : Nat → pm_K} {Rt : pm_T} {ret : Option FieldType} {q : pm_Q} {pl : pm_L} {st : List Value} {S : pm_S} {g : Bool} : ∀ {z : pm_C}, S.1 ≤ 49 → pm_x Sg Rt ret q pl st S = some (g, z) → (match z with
    | .inl (_, _, _, S') => S'
    | .inr (.inl (_, _, _, _, _, _, _, S')) => S'
    | .inr (.inr (.inl (_, _, _, _, _, S'))) => S'
    | .inr (.inr (.inr (.inl (_, _, _, _, _, S')))) => S'
    | .inr (.inr (.inr (.inr (_, S')))) => S').1 ≤ 49 := by
  intro z h49 h
  obtain ⟨pc, ins, nx, w, xs, ci, cj⟩ := q
  have hN : ∀ {g1 : Bool} {pc' : Nat} {ls' : pm_L} {st' : List Value} {S1 : pm_S}, S1.1 ≤ 49 → pm_n g1 pc' ls' st' S1 = some (g, z) → (match z with
    | .inl (_, _, _, S') => S'
    | .inr (.inl (_, _, _, _, _, _, _, S')) => S'
    | .inr (.inr (.inl (_, _, _, _, _, S'))) => S'
    | .inr (.inr (.inr (.inl (_, _, _, _, _, S')))) => S'
    | .inr (.inr (.inr (.inr (_, S')))) => S').1 ≤ 49 := fun hle h => by unfold pm_n at h; cases h; exact hle
  have hB : ∀ {o : Nat} {x y : Int32} {t e : Nat} {ls' : pm_L} {st' : List Value}, pm_b o x y t e ls' st' S = some (g, z) → (match z with
    | .inl (_, _, _, S') => S'
    | .inr (.inl (_, _, _, _, _, _, _, S')) => S'
    | .inr (.inr (.inl (_, _, _, _, _, S'))) => S'
    | .inr (.inr (.inr (.inl (_, _, _, _, _, S')))) => S'
    | .inr (.inr (.inr (.inr (_, S')))) => S').1 ≤ 49 := fun h => by unfold pm_b at h; cases h; exact h49
  have hW : ∀ {x : Int32} {d : Nat} {ts : List Nat} {ls' : pm_L} {st' : List Value}, pm_w x d ts ls' st' S = some (g, z) → (match z with
    | .inl (_, _, _, S') => S'
    | .inr (.inl (_, _, _, _, _, _, _, S')) => S'
    | .inr (.inr (.inl (_, _, _, _, _, S'))) => S'
    | .inr (.inr (.inr (.inl (_, _, _, _, _, S')))) => S'
    | .inr (.inr (.inr (.inr (_, S')))) => S').1 ≤ 49 := fun h => by unfold pm_w at h; cases h; exact h49
  have hJ : ∀ {mj nx : Nat} {as : List Value} {ls' : pm_L} {st' : List Value}, pm_j mj as nx ls' st' S = some (g, z) → (match z with
    | .inl (_, _, _, S') => S'
    | .inr (.inl (_, _, _, _, _, _, _, S')) => S'
    | .inr (.inr (.inl (_, _, _, _, _, S'))) => S'
    | .inr (.inr (.inr (.inl (_, _, _, _, _, S')))) => S'
    | .inr (.inr (.inr (.inr (_, S')))) => S').1 ≤ 49 := fun h => by unfold pm_j at h; cases h; exact h49
  have hE : ∀ {b : Bool} {v : Option Value}, pm_e b v S = some (g, z) → (match z with
    | .inl (_, _, _, S') => S'
    | .inr (.inl (_, _, _, _, _, _, _, S')) => S'
    | .inr (.inr (.inl (_, _, _, _, _, S'))) => S'
    | .inr (.inr (.inr (.inl (_, _, _, _, _, S')))) => S'
    | .inr (.inr (.inr (.inr (_, S')))) => S').1 ≤ 49 := fun h => by unfold pm_e at h; cases h; exact h49
  cases ins
  case ifCond cnd o => cases cnd <;> (simp only [pm_x] at h; split at h <;> first | exact hB h | cases h)
  case if_icmp cnd o => cases cnd <;> (simp only [pm_x] at h; split at h <;> first | exact hB h | cases h)
  case invokespecial idx =>
    simp only [pm_x] at h
    split at h
    · split at h
      · replace h := pm_cond h
        exact hN h49 h.2
      · cases h
    · unfold pm_callI at h
      split at h
      · exact hJ (pm_cond h).2
      · cases h
  case invokevirtual idx =>
    simp only [pm_x] at h
    unfold pm_callV at h
    split at h
    · exact hJ (pm_cond h).2
    · cases h
  case invokestatic idx =>
    simp only [pm_x] at h
    unfold pm_call at h
    split at h
    · exact hJ (pm_cond h).2
    · cases h
  all_goals simp only [pm_x, Bool.cond_eq_ite] at h
  all_goals (repeat' split at h)
  all_goals first
    | exact hN (by exact h49) h
    | exact hN (by show S.1 + 1 ≤ 49; simp_all [Nat.blt_eq]; omega) h
    | exact hE h
    | exact hW h
    | cases h
theorem pm_cnt49 {me : Nat → pm_Me} {Sg : Nat → pm_K} {Rt : pm_T} : ∀ (n : Nat) {mi pc : Nat} {pl : pm_L} {st : List Value} {S S' : pm_S} {v : Option Value}, pm_run me Sg Rt n mi pc pl st S = some (v, S') → S.1 ≤ 49 → S'.1 ≤ 49 := by
  intro n
  induction n with
  | zero => intro mi pc pl st S S' v h h49; cases h
  | succ n ih =>
    intro mi pc pl st S S' v h h49
    have h : pm_body me Sg Rt (pm_run me Sg Rt n) mi pc pl st S = some (v, S') := h
    unfold pm_body at h
    split at h
    · rename_i q hq
      cases hz : pm_x Sg Rt (me mi).2.2.2.1 q pl st S with
      | none => rw [hz] at h; cases h
      | some gc =>
        obtain ⟨g, c⟩ := gc
        rw [hz] at h
        have hle := pm_x_49 h49 hz
        replace h := pm_cond (show (bif g then pm_dc me (pm_run me Sg Rt n) mi c else none) = some (v, S') from h)
        obtain ⟨-, h⟩ := h
        rcases c with ⟨pc', ls', st', S1⟩ | ⟨o, x, y, t, e, ls', st', S1⟩ | ⟨x, d, ts, ls', st', S1⟩ | ⟨mj, as, nx, ls', st', S1⟩ | ⟨v1, S1⟩
        · exact ih h hle
        · unfold pm_dc at h
          dsimp only at h
          split at h <;> split at h <;> exact ih h hle
        · obtain ⟨t, h1, -⟩ := pm_sw_which (k := fun t => pm_run me Sg Rt n mi t ls' st' S1) (x := x) (d := d) ts 0
          exact ih (h1.symm.trans h) hle
        · obtain ⟨v1, S2, h1, h2⟩ := pm_k_some h
          obtain ⟨-, h3⟩ := pm_c_some h1
          exact ih h2 (ih h3 hle)
        · cases h
          exact hle
    · cases h

section
variable {l : Launch} {me : Nat → pm_Me} {Sg : Nat → pm_K} {Rt : pm_T} {cl : List vw_C} {D : va_G} {cA : Nat → ClassId} {ρ : Nat → Nat} {fv : Value} {base : pm_B} {tx : String}
theorem pm_Met (h1 : pm_E1 me Sg cl) (h3 : pm_E3 Rt ρ fv base) {n mj : Nat} {as : List Value} {S1 S2 : pm_S} {v1 : Option Value} (g3 : Nat.ble (pm_wd as) (me mj).2.2.1 = true) (g4 : pm_run me Sg Rt n mj 0 (pm_en (me mj).2.2.1 as) [] S1 = some (v1, S2)) (hpl : plainFor (me mj).1 = true) :
    Met l (me mj).1 (pm_wo (me mj)) (pm_rm Sg (me mj) S1 S2) (pm_Pc D cl cA Sg Rt ρ fv base tx as S1) (pm_Qc D cl cA Sg ρ fv base v1 S2) (S2.1 - S1.1) (pm_ss Sg S2.1 - pm_ss Sg S1.1) base.2.2 := by
  refine va_MetF (cc := (me mj).2.1) (maxL := (me mj).2.2.1) (ret := (me mj).2.2.2.1) hpl rfl ?_
  intro p e s m args below meth c s₁ B hml hv
  obtain ⟨rfl, hsz, hP, hK, hZ, hN, hn2⟩ := hv
  have hts := atoms_spec (ws := pm_wo (me mj)) B.pre
  have hE2 : pm_E2 me mj p s m (as.map (pm_rl ρ fv)).toArray meth c (headSpec (pm_wo (me mj)) (pm_rm Sg (me mj) S1 S2)).room D cl cA Rt ρ fv base tx S1.1 := ⟨B.exec, B.bytes, hml, findClass_of_methodNamed B.named, fun hn => (name_of_methodNamed B.named B.method).1.trans hn, fun w hw => hts w (List.mem_cons_of_mem _ hw), Nat.le_refl _, Nat.le_refl _, hK, hZ, hN, hsz⟩
  rw [lg_entry_eq]
  have := pm_W (l := l) (e := e) (Q := MQ below (pm_Qc D cl cA Sg ρ fv base v1 S2) (as.map (pm_rl ρ fv)).toArray s (S2.1 - S1.1) (pm_ss Sg S2.1 - pm_ss Sg S1.1) base.2.2) (below := below) h1 h3 n g4 hE2 (Nat.le_refl _) (Nat.le_refl _) (Nat.le_refl _) (fun H1 locs1 ls1 pc1 i hdi hrt hI1 => ?_) ⟨hP, va_S.rf, hn2⟩ (pm_entry h3.2.1 (Nat.le_of_ble_eq_true g3))
  · rw [Nat.sub_self, Nat.sub_self] at this
    exact this
  · obtain ⟨hP1, hS1, hn1⟩ := hI1
    have hq1 : ∀ t : State, t.heap = H1 → s.WarmedH t.vm → pm_Qc D cl cA Sg ρ fv base v1 S2 (as.map (pm_rl ρ fv)).toArray s (.returned (v1.map (pm_rl ρ fv))) t := fun t ht _ => ⟨rfl, by rw [ht]; exact hP1, hS1.F ht, hn1⟩
    rcases hrt with ⟨rfl, x, ty, rfl, hret, hnar⟩ | ⟨rfl, x, rfl, hret⟩ | ⟨rfl, rfl, hret⟩
    · exact W.zret B.exec B.bytes (B.returns.trans hret) hnar hq1 hS1.2.2 hdi
    · exact W.lret B.exec B.bytes (B.returns.trans hret) hq1 hS1.2.2 hdi
    · exact W.vret B.exec B.bytes (B.returns.trans hret) hq1 hS1.2.2 hdi
end
