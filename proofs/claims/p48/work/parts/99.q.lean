/-! ===== the world is made before the class: whatever the class' number ===== -/
section
variable {me : Nat → pm_Me} {qs : Nat → qm_K} {T : qm_T} {Jb J' base : Nat} {so : Nat → Nat → Prop} {st : Nat → Nat → Nat} {fv : Value} {ρ : Nat → Nat} {Rt : pm_T} {L0 : Nat} {xs : List Int32}
theorem qm_x_J {ret : Option FieldType} {q : pm_Q} {ls : qm_L} {sk : List qm_V} {S : qm_S} {z : qm_C} (h : qm_x qs T Jb ret q ls sk S = some (true, z)) (hS : S.1 < 1001 + Jb) : qm_x qs T J' ret q ls sk S = some (true, z) := by
  obtain ⟨pc, ins, nx, w, xs, ci, cj⟩ := q
  cases ins
  case new n =>
    simp only [qm_x] at h ⊢
    cases hb : Nat.beq (xs.getD 0 99) 0 with
    | true =>
      rw [hb] at h
      have g : (Nat.beq S.1 (1001 + Jb) && Nat.beq S.2.2.2.2.2.2.1 0) = true := congrArg Prod.fst (Option.some.inj h)
      rw [Bool.and_eq_true] at g
      have := Nat.eq_of_beq_eq_true g.1
      omega
    | false => rw [hb] at h; exact h
  case ifCond c o => cases c <;> exact h
  case if_icmp c o => cases c <;> exact h
  case if_acmp c o => cases c <;> exact h
  all_goals exact h
theorem qm_run_J {O : qm_O} (h3 : qm_E3 qs T so base Jb st fv ρ) (HO : qm_HO O Rt) : ∀ (n : Nat) {mi pc : Nat} {pl : qm_L} {sk : List qm_V} {S S' : qm_S} {v : Option qm_V}, qm_run O me qs T Jb n mi pc pl sk S = some (v, S') → qm_ok qs T so Jb S → qm_sv so Jb S sk → qm_lv so Jb S pl → S'.1 < 1001 + Jb → qm_run O me qs T J' n mi pc pl sk S = some (v, S') := by
  intro n
  induction n with
  | zero => intro mi pc pl sk S S' v h; cases h
  | succ n ih =>
    intro mi pc pl sk S S' v h hok hsv hlv hb
    have hlt : S.1 < 1001 + Jb := Nat.lt_of_le_of_lt (qm_run_ok h3 HO (n + 1) h hok hsv hlv).1.1 hb
    replace h : qm_body O me qs T Jb (qm_run O me qs T Jb n) mi pc pl sk S = some (v, S') := h
    show qm_body O me qs T J' (qm_run O me qs T J' n) mi pc pl sk S = some (v, S')
    unfold qm_body at h ⊢
    split at h
    · rename_i q hqa
      cases hz : qm_x qs T Jb (me mi).2.2.2.1 q pl sk S with
      | none => rw [hz] at h; cases h
      | some gc =>
        obtain ⟨g, k⟩ := gc
        rw [hz] at h
        replace h := pm_cond (show (bif g then qm_dc O Jb me (qm_run O me qs T Jb n) mi k else none) = some (v, S') from h)
        obtain ⟨rfl, h⟩ := h
        have hko := qm_x_ok h3 hok hsv hlv hz
        rw [qm_x_J hz hlt]
        show qm_dc O J' me (qm_run O me qs T J' n) mi k = some (v, S')
        rcases k with ⟨pc', ls', st', S1⟩ | ⟨o, x, y, t, e', ls', st', S1⟩ | ⟨x, d, ts, ls', st', S1⟩ | ⟨b, mj, as, nx, ls', st', S1⟩ | ⟨v1, S1⟩
        · obtain ⟨k1, k2, k3, k4⟩ := hko
          exact ih h k2 k3 k4 hb
        · obtain ⟨rfl, rfl, k3⟩ := hko
          unfold qm_dc at h ⊢
          dsimp only at h ⊢
          split at h <;> split at h <;> rename_i c1 <;> first | (rw [if_pos c1]; exact ih h hok k3 hlv hb) | (rw [if_neg c1]; exact ih h hok k3 hlv hb)
        · obtain ⟨rfl, rfl, k3⟩ := hko
          obtain ⟨t, h1, h2⟩ := qm_sw_which (k := fun t => qm_run O me qs T Jb n mi t ls' st' S1) (x := x) (d := d) ts 0
          exact (h2 (fun t => qm_run O me qs T J' n mi t ls' st' S1)).trans (ih (h1.symm.trans h) hok k3 hlv hb)
        · obtain ⟨rfl, rfl, k3, k4⟩ := hko
          cases b with
          | false =>
            obtain ⟨v1, S2, h1, h2⟩ := qm_k_some (show qm_k (qm_c me (qm_run O me qs T Jb n) mj as S1) (fun v S' => qm_run O me qs T Jb n mi nx ls' (v.toList ++ st') S') = some (v, S') from h)
            obtain ⟨h4, h5⟩ := qm_c_some h1
            obtain ⟨g1, g2, g3⟩ := qm_run_ok h3 HO n h5 hok (fun _ hv => by cases hv) (qm_en_lv k3)
            have hsv2 : qm_sv so Jb S2 (v1.toList ++ st') := by
              intro x hx
              rcases List.mem_append.mp hx with hx | hx
              · exact g3 x (Option.mem_toList.mp hx)
              · exact g1.vv (k4 x hx)
            obtain ⟨f1, f2, f3⟩ := qm_run_ok h3 HO n h2 g2 hsv2 (g1.lv hlv)
            have e1 := ih h5 hok (fun _ hv => by cases hv) (qm_en_lv k3) (Nat.lt_of_le_of_lt f1.1 hb)
            have e2 := ih h2 g2 hsv2 (g1.lv hlv) hb
            show qm_k (qm_c me (qm_run O me qs T J' n) mj as S1) (fun v S' => qm_run O me qs T J' n mi nx ls' (v.toList ++ st') S') = some (v, S')
            have e3 : qm_c me (qm_run O me qs T J' n) mj as S1 = some (v1, S2) := by unfold qm_c; rw [h4]; exact e1
            rw [e3]
            exact e2
          | true =>
            obtain ⟨h1, -⟩ := qm_o_some (k := fun v S' => qm_run O me qs T Jb n mi nx ls' (v.toList ++ st') S') (show qm_o O Jb mj as S1 _ = some (v, S') from h)
            exfalso
            rw [Bool.or_eq_true, Bool.and_eq_true] at h1
            rcases h1 with h1 | ⟨-, h1⟩
            · have h1 := Nat.eq_of_beq_eq_true h1
              have := hok.2.2.1 (by omega)
              omega
            · have h1 := Nat.eq_of_beq_eq_true h1
              omega
        · exact h
    · cases h
/-- what was there before -/
def qt_so (s a : Nat) : Prop := (s = 2 ∧ a = 1) ∨ (s = 16 ∧ 11 ≤ a ∧ a < 29) ∨ (s = 17 ∧ 31 ≤ a ∧ a < 49) ∨ (s = 24 ∧ a = 2) ∨ (s = 25 ∧ 101 ≤ a ∧ a < 357) ∨ (s = 26 ∧ a = 3) ∨ (s = 28 ∧ a = 4) ∨ (s = 29 ∧ a = 5) ∨ (s = 0 ∧ a = 6)
theorem qt_e7 : (List.range 30).all (fun s => qt_cs s || (!(Nat.beq s 0) && (match qt_qs s with
    | .inl (t, u) => Nat.ble t 6 && (!(Nat.beq t 1) && (!(Nat.ble 4 t) || Nat.blt u 30))
    | .inr (_, ks) => ks.all (fun kd => !(Nat.beq kd.1 3) || Nat.blt kd.2 30)))) = true := by decide +kernel
theorem qt_9 (s : Nat) (h : 30 ≤ s) : qt_qs s = .inl (9, 99) := by
  have h1 : qt_ql.length = 30 := rfl
  unfold qt_qs
  rw [List.getD_eq_getElem?_getD, List.getElem?_eq_none (by omega)]
  rfl
theorem qt_E3 {J : Nat} (hρ : ∀ a, a < 49 → ρ a = base + J + a) (hfv : fv = .null ∨ ∃ t, fv = .ref t) (h6 : st 0 6 = base + J) : qm_E3 qt_qs (qt_C L0 xs) qt_so base J st fv ρ := by
  refine ⟨⟨hρ, hfv, h6⟩, ?_, ?_, ⟨rfl, rfl⟩, ?_, ?_, ?_, ⟨rfl, rfl, rfl, rfl, rfl, ?_⟩, qt_9⟩
  · intro s a h
    rcases h with ⟨rfl, h⟩ | ⟨rfl, h⟩ | ⟨rfl, h⟩ | ⟨rfl, h⟩ | ⟨rfl, h⟩ | ⟨rfl, h⟩ | ⟨rfl, h⟩ | ⟨rfl, h⟩ | ⟨rfl, h⟩ <;> exact ⟨by omega, by omega, by omega, by first | exact Or.inl rfl | exact Or.inr ⟨rfl, h⟩⟩
  · intro s a t u h ht hq
    rcases h with ⟨rfl, h⟩ | ⟨rfl, h⟩ | ⟨rfl, h⟩ | ⟨rfl, h⟩ | ⟨rfl, h⟩ | ⟨rfl, h⟩ | ⟨rfl, h⟩ | ⟨rfl, h⟩ | ⟨rfl, h⟩ <;> first | (cases hq; exact Or.inl rfl) | (cases hq; exact Or.inr (Or.inl rfl)) | (cases hq; exact Or.inr (Or.inr ⟨rfl, rfl, rfl, rfl⟩)) | exact nomatch (show false = true from ht) | (cases hq; done)
  · intro s a c ks k u h hq hk
    rcases h with ⟨rfl, h⟩ | ⟨rfl, h⟩ | ⟨rfl, h⟩ | ⟨rfl, h⟩ | ⟨rfl, h⟩ | ⟨rfl, h⟩ | ⟨rfl, h⟩ | ⟨rfl, h⟩ | ⟨rfl, h⟩
    · cases hq
    · cases hq
      match k, hk with
      | 0, hk => cases hk; exact ⟨by decide, Or.inr (Or.inr (Or.inl ⟨rfl, by omega, by omega⟩))⟩
      | 1, hk => cases hk
      | k + 2, hk => cases hk
    · cases hq
    · cases hq
    · cases hq
      match k, hk with
      | 0, hk => cases hk
      | k + 1, hk => cases hk
    · cases hq
    · cases hq
    · cases hq
    · cases hq
      cases hk
  · refine ⟨?_, ?_, ?_, ?_, ?_, fun i hi => ?_, fun k hk => ?_⟩ <;> (unfold qt_so; omega)
  · intro s hs
    have h30 : s < 30 := by
      by_cases h : s < 30
      · exact h
      · have : (qt_C L0 xs).2.2 s = true := by show qt_cs s = true; unfold qt_cs; rw [Nat.ble_eq_true_of_le (by omega)]; rfl
        rw [this] at hs
        cases hs
    have h := List.all_eq_true.mp qt_e7 s (List.mem_range.mpr h30)
    have hs : qt_cs s = false := hs
    rw [hs, Bool.false_or, Bool.and_eq_true] at h
    obtain ⟨h0, h⟩ := h
    refine ⟨(fun z => by subst z; cases h0), h30, ?_⟩
    split
    · rename_i t u hq
      rw [hq] at h
      simp only [Bool.and_eq_true, Bool.or_eq_true, Bool.not_eq_true', Nat.blt_eq, Nat.ble_eq] at h
      obtain ⟨g1, g2, g3⟩ := h
      refine ⟨g1, (fun z => by subst z; cases g2), fun h4 => ?_⟩
      rcases g3 with g3 | g3
      · rw [Nat.ble_eq_true_of_le h4] at g3; cases g3
      · exact g3
    · rename_i c ks hq
      rw [hq] at h
      intro k u hk
      have h := List.all_eq_true.mp h _ (List.mem_of_getElem? hk)
      simpa using h
  · intro a h
    unfold qt_so at h
    omega
end
