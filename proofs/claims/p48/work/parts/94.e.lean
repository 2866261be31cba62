/-! ===== the tables are right ===== -/
def pm_ktb (kd : Nat) (ty : FieldType) : Bool := match kd with
  | 0 => decide (ty = .int)
  | 1 => decide (ty = .long)
  | 2 => decide (ty = .boolean)
  | 3 => match ty with
    | .object _ => true
    | .array _ => true
    | _ => false
  | _ => false
theorem pm_ktb_of {kd : Nat} {ty : FieldType} (h : pm_ktb kd ty = true) : pm_kt kd ty := by
  unfold pm_ktb at h
  split at h
  · show ty = .int; exact of_decide_eq_true h
  · show ty = .long; exact of_decide_eq_true h
  · show ty = .boolean; exact of_decide_eq_true h
  · split at h
    · exact Or.inl ⟨_, rfl⟩
    · exact Or.inr ⟨_, rfl⟩
    · cases h
  · cases h
def qm_ktb (kd : Nat) (ty : FieldType) : Bool := match kd with
  | 0 => decide (ty = .int)
  | 2 => decide (ty = .boolean)
  | 4 => decide (ty = .byte)
  | 3 => match ty with
    | .object _ => true
    | .array _ => true
    | _ => false
  | _ => false
theorem qm_ktb_of {kd : Nat} {ty : FieldType} (h : qm_ktb kd ty = true) : qm_kt kd ty := by
  unfold qm_ktb at h
  split at h
  · show ty = .int; exact of_decide_eq_true h
  · show ty = .boolean; exact of_decide_eq_true h
  · show ty = .byte; exact of_decide_eq_true h
  · split at h
    · exact Or.inl ⟨_, rfl⟩
    · exact Or.inr ⟨_, rfl⟩
    · cases h
  · cases h
theorem pt_sg1 : (List.range 50).all (fun r => match pt_Sg r with | .inr (c, ks) => decide (ks = pt_KS c) && Nat.ble c 8 | .inl (_, n) => decide (n < 100000)) = true := by decide +kernel
theorem pt_sg2 (r : Nat) (h : 50 ≤ r) : pt_Sg r = .inl (9, 0) := by
  have h1 : pt_sl.length = 5 := rfl
  unfold pt_Sg
  rw [List.getD_eq_getElem?_getD, List.getD_eq_getElem?_getD, List.getElem?_eq_none (by omega : pt_sl.length ≤ r / 10)]
  rfl
theorem pt_sgo (r c : Nat) (ks : List Nat) (h : pt_Sg r = .inr (c, ks)) : ks = pt_KS c ∧ c ≤ 8 := by
  by_cases hr : r < 50
  · have := List.all_eq_true.mp pt_sg1 r (List.mem_range.mpr hr)
    rw [h] at this
    have this := (Bool.and_eq_true _ _).mp this
    exact ⟨of_decide_eq_true this.1, Nat.le_of_ble_eq_true this.2⟩
  · rw [pt_sg2 r (by omega)] at h
    cases h
theorem pt_sga (r t n : Nat) (h : pt_Sg r = .inl (t, n)) : n < 100000 := by
  by_cases hr : r < 50
  · have := List.all_eq_true.mp pt_sg1 r (List.mem_range.mpr hr)
    rw [h] at this
    exact of_decide_eq_true this
  · rw [pt_sg2 r (by omega)] at h
    cases h
    decide
theorem qt_sg1 : (List.range 30).all (fun s => match qt_qs s with | .inr (c, ks) => qt_cs s || (decide (ks = qt_KS c) && Nat.ble 9 c) | .inl _ => true) = true := by decide +kernel
theorem qt_sgo (s c : Nat) (ks : List (Nat × Nat)) (h : qt_qs s = .inr (c, ks)) (hs : qt_cs s = false) : ks = qt_KS c ∧ 9 ≤ c := by
  by_cases hr : s < 30
  · have := List.all_eq_true.mp qt_sg1 s (List.mem_range.mpr hr)
    rw [h, hs] at this
    have this := (Bool.and_eq_true _ _).mp this
    exact ⟨of_decide_eq_true this.1, Nat.le_of_ble_eq_true this.2⟩
  · unfold qt_cs at hs
    rw [Nat.ble_eq_true_of_le (by omega)] at hs
    cases hs
theorem pt_lay {C : String} {T : u_T} {N : Nat} {il : List Nat} (h : (List.range N).all (fun k => pm_wk (il.getD k 0) (u_lay C T k)) = true) : ∀ w ∈ u_ws C T N, w ∈ pm_G := by
  intro w hw
  obtain ⟨k, h1, rfl⟩ := List.mem_map.mp hw
  exact pm_wk_of (List.all_eq_true.mp h k h1)
theorem pt_cw0 : (List.range 8).all (fun k => pm_wk (pt_il0.getD k 0) (u_lay "TurnCabinet" pt_T0 k)) = true := by decide +kernel
theorem pt_cn0 : ∀ a, a < 8 → ∀ b, b < 8 → a ≠ b → (pt_T0 a).2.1 ≠ (pt_T0 b).2.1 := by decide +kernel
theorem pt_ct0 : ∀ k, k < 8 → parseFieldDescriptor (pt_T0 k).2.2.1 = some (pt_tl0.getD k .int) := by decide +kernel
theorem pt_ck0 : ∀ k, k < 8 → pm_ktb ((pt_KS 0).getD k 9) (pt_tl0.getD k .int) = true := by decide +kernel
theorem pt_cw1 : (List.range 2).all (fun k => pm_wk (pt_il1.getD k 0) (u_lay "TurnCabinet$Tape" pt_T1 k)) = true := by decide +kernel
theorem pt_cn1 : ∀ a, a < 2 → ∀ b, b < 2 → a ≠ b → (pt_T1 a).2.1 ≠ (pt_T1 b).2.1 := by decide +kernel
theorem pt_ct1 : ∀ k, k < 2 → parseFieldDescriptor (pt_T1 k).2.2.1 = some (pt_tl1.getD k .int) := by decide +kernel
theorem pt_ck1 : ∀ k, k < 2 → pm_ktb ((pt_KS 1).getD k 9) (pt_tl1.getD k .int) = true := by decide +kernel
theorem pt_cw2 : (List.range 16).all (fun k => pm_wk (pt_il2.getD k 0) (u_lay "TurnCabinet$House" pt_T2 k)) = true := by decide +kernel
theorem pt_cn2 : ∀ a, a < 16 → ∀ b, b < 16 → a ≠ b → (pt_T2 a).2.1 ≠ (pt_T2 b).2.1 := by decide +kernel
theorem pt_ct2 : ∀ k, k < 16 → parseFieldDescriptor (pt_T2 k).2.2.1 = some (pt_tl2.getD k .int) := by decide +kernel
theorem pt_ck2 : ∀ k, k < 16 → pm_ktb ((pt_KS 2).getD k 9) (pt_tl2.getD k .int) = true := by decide +kernel
theorem pt_cw3 : (List.range 16).all (fun k => pm_wk (pt_il3.getD k 0) (u_lay "TurnCabinet$Reader" pt_T3 k)) = true := by decide +kernel
theorem pt_cn3 : ∀ a, a < 16 → ∀ b, b < 16 → a ≠ b → (pt_T3 a).2.1 ≠ (pt_T3 b).2.1 := by decide +kernel
theorem pt_ct3 : ∀ k, k < 16 → parseFieldDescriptor (pt_T3 k).2.2.1 = some (pt_tl3.getD k .int) := by decide +kernel
theorem pt_ck3 : ∀ k, k < 16 → pm_ktb ((pt_KS 3).getD k 9) (pt_tl3.getD k .int) = true := by decide +kernel
theorem pt_cw4 : (List.range 7).all (fun k => pm_wk (pt_il4.getD k 0) (u_lay "TurnCabinet$Picks" pt_T4 k)) = true := by decide +kernel
theorem pt_cn4 : ∀ a, a < 7 → ∀ b, b < 7 → a ≠ b → (pt_T4 a).2.1 ≠ (pt_T4 b).2.1 := by decide +kernel
theorem pt_ct4 : ∀ k, k < 7 → parseFieldDescriptor (pt_T4 k).2.2.1 = some (pt_tl4.getD k .int) := by decide +kernel
theorem pt_ck4 : ∀ k, k < 7 → pm_ktb ((pt_KS 4).getD k 9) (pt_tl4.getD k .int) = true := by decide +kernel
theorem pt_cw5 : (List.range 3).all (fun k => pm_wk (pt_il5.getD k 0) (u_lay "TurnCabinet$Shares" pt_T5 k)) = true := by decide +kernel
theorem pt_cn5 : ∀ a, a < 3 → ∀ b, b < 3 → a ≠ b → (pt_T5 a).2.1 ≠ (pt_T5 b).2.1 := by decide +kernel
theorem pt_ct5 : ∀ k, k < 3 → parseFieldDescriptor (pt_T5 k).2.2.1 = some (pt_tl5.getD k .int) := by decide +kernel
theorem pt_ck5 : ∀ k, k < 3 → pm_ktb ((pt_KS 5).getD k 9) (pt_tl5.getD k .int) = true := by decide +kernel
theorem pt_cw6 : (List.range 15).all (fun k => pm_wk (pt_il6.getD k 0) (u_lay "TurnCabinet$Coalitions" pt_T6 k)) = true := by decide +kernel
theorem pt_cn6 : ∀ a, a < 15 → ∀ b, b < 15 → a ≠ b → (pt_T6 a).2.1 ≠ (pt_T6 b).2.1 := by decide +kernel
theorem pt_ct6 : ∀ k, k < 15 → parseFieldDescriptor (pt_T6 k).2.2.1 = some (pt_tl6.getD k .int) := by decide +kernel
theorem pt_ck6 : ∀ k, k < 15 → pm_ktb ((pt_KS 6).getD k 9) (pt_tl6.getD k .int) = true := by decide +kernel
theorem pt_cw7 : (List.range 8).all (fun k => pm_wk (pt_il7.getD k 0) (u_lay "TurnCabinet$Forming" pt_T7 k)) = true := by decide +kernel
theorem pt_cn7 : ∀ a, a < 8 → ∀ b, b < 8 → a ≠ b → (pt_T7 a).2.1 ≠ (pt_T7 b).2.1 := by decide +kernel
theorem pt_ct7 : ∀ k, k < 8 → parseFieldDescriptor (pt_T7 k).2.2.1 = some (pt_tl7.getD k .int) := by decide +kernel
theorem pt_ck7 : ∀ k, k < 8 → pm_ktb ((pt_KS 7).getD k 9) (pt_tl7.getD k .int) = true := by decide +kernel
theorem pt_cw8 : (List.range 8).all (fun k => pm_wk (pt_il8.getD k 0) (u_lay "TurnCabinet$Cabinet" pt_T8 k)) = true := by decide +kernel
theorem pt_cn8 : ∀ a, a < 8 → ∀ b, b < 8 → a ≠ b → (pt_T8 a).2.1 ≠ (pt_T8 b).2.1 := by decide +kernel
theorem pt_ct8 : ∀ k, k < 8 → parseFieldDescriptor (pt_T8 k).2.2.1 = some (pt_tl8.getD k .int) := by decide +kernel
theorem pt_ck8 : ∀ k, k < 8 → pm_ktb ((pt_KS 8).getD k 9) (pt_tl8.getD k .int) = true := by decide +kernel
theorem pt_cw9 : (List.range 17).all (fun k => pm_wk (qt_il9.getD k 0) (u_lay "TurnCabinetLaw$World" qt_T9 k)) = true := by decide +kernel
theorem pt_cn9 : ∀ a, a < 17 → ∀ b, b < 17 → a ≠ b → (qt_T9 a).2.1 ≠ (qt_T9 b).2.1 := by decide +kernel
theorem pt_ct9 : ∀ k, k < 17 → parseFieldDescriptor (qt_T9 k).2.2.1 = some (qt_tl9.getD k .int) := by decide +kernel
theorem pt_ck9 : (qt_KS 9).length = 17 ∧ ∀ k, k < 17 → qm_ktb ((qt_KS 9).getD k (9, 9)).1 (qt_tl9.getD k .int) = true := by decide +kernel
theorem pt_cw10 : (List.range 4).all (fun k => pm_wk (qt_il10.getD k 0) (u_lay "java/lang/StringBuilder" qt_T10 k)) = true := by decide +kernel
theorem pt_cn10 : ∀ a, a < 4 → ∀ b, b < 4 → a ≠ b → (qt_T10 a).2.1 ≠ (qt_T10 b).2.1 := by decide +kernel
theorem pt_ct10 : ∀ k, k < 4 → parseFieldDescriptor (qt_T10 k).2.2.1 = some (qt_tl10.getD k .int) := by decide +kernel
theorem pt_ck10 : (qt_KS 10).length = 4 ∧ ∀ k, k < 4 → qm_ktb ((qt_KS 10).getD k (9, 9)).1 (qt_tl10.getD k .int) = true := by decide +kernel
theorem pt_cw11 : (List.range 4).all (fun k => pm_wk (qt_il11.getD k 0) (u_lay "java/lang/String" qt_T11 k)) = true := by decide +kernel
theorem pt_cn11 : ∀ a, a < 4 → ∀ b, b < 4 → a ≠ b → (qt_T11 a).2.1 ≠ (qt_T11 b).2.1 := by decide +kernel
theorem pt_ct11 : ∀ k, k < 4 → parseFieldDescriptor (qt_T11 k).2.2.1 = some (qt_tl11.getD k .int) := by decide +kernel
theorem pt_ck11 : (qt_KS 11).length = 4 ∧ ∀ k, k < 4 → qm_ktb ((qt_KS 11).getD k (9, 9)).1 (qt_tl11.getD k .int) = true := by decide +kernel
theorem pt_cw12 : (List.range 3).all (fun k => pm_wk (qt_il12.getD k 0) (u_lay "java/util/ArrayList" qt_T12 k)) = true := by decide +kernel
theorem pt_cn12 : ∀ a, a < 3 → ∀ b, b < 3 → a ≠ b → (qt_T12 a).2.1 ≠ (qt_T12 b).2.1 := by decide +kernel
theorem pt_ct12 : ∀ k, k < 3 → parseFieldDescriptor (qt_T12 k).2.2.1 = some (qt_tl12.getD k .int) := by decide +kernel
theorem pt_ck12 : (qt_KS 12).length = 3 ∧ ∀ k, k < 3 → qm_ktb ((qt_KS 12).getD k (9, 9)).1 (qt_tl12.getD k .int) = true := by decide +kernel
theorem pt_cw13 : (List.range 4).all (fun k => pm_wk (qt_il13.getD k 0) (u_lay "java/util/ArrayList$Itr" qt_T13 k)) = true := by decide +kernel
theorem pt_cn13 : ∀ a, a < 4 → ∀ b, b < 4 → a ≠ b → (qt_T13 a).2.1 ≠ (qt_T13 b).2.1 := by decide +kernel
theorem pt_ct13 : ∀ k, k < 4 → parseFieldDescriptor (qt_T13 k).2.2.1 = some (qt_tl13.getD k .int) := by decide +kernel
theorem pt_ck13 : (qt_KS 13).length = 4 ∧ ∀ k, k < 4 → qm_ktb ((qt_KS 13).getD k (9, 9)).1 (qt_tl13.getD k .int) = true := by decide +kernel
theorem pt_cw14 : (List.range 1).all (fun k => pm_wk (qt_il14.getD k 0) (u_lay "java/lang/Integer" qt_T14 k)) = true := by decide +kernel
theorem pt_cn14 : ∀ a, a < 1 → ∀ b, b < 1 → a ≠ b → (qt_T14 a).2.1 ≠ (qt_T14 b).2.1 := by decide +kernel
theorem pt_ct14 : ∀ k, k < 1 → parseFieldDescriptor (qt_T14 k).2.2.1 = some (qt_tl14.getD k .int) := by decide +kernel
theorem pt_ck14 : (qt_KS 14).length = 1 ∧ ∀ k, k < 1 → qm_ktb ((qt_KS 14).getD k (9, 9)).1 (qt_tl14.getD k .int) = true := by decide +kernel
theorem pt_E1 : pm_E1 pt_me pt_Sg qt_cl := by
  refine ⟨pt_all, ?_, fun r t n h _ => pt_sga r t n h⟩
  intro c C T N h
  match c, h with
  | 0, h => cases h; exact ⟨fun k => pt_tl0.getD k .int, pt_lay pt_cw0, pt_cn0, pt_ct0, fun r ks hr => by rw [(pt_sgo r _ ks hr).1]; exact ⟨rfl, fun k hk => pm_ktb_of (pt_ck0 k hk)⟩⟩
  | 1, h => cases h; exact ⟨fun k => pt_tl1.getD k .int, pt_lay pt_cw1, pt_cn1, pt_ct1, fun r ks hr => by rw [(pt_sgo r _ ks hr).1]; exact ⟨rfl, fun k hk => pm_ktb_of (pt_ck1 k hk)⟩⟩
  | 2, h => cases h; exact ⟨fun k => pt_tl2.getD k .int, pt_lay pt_cw2, pt_cn2, pt_ct2, fun r ks hr => by rw [(pt_sgo r _ ks hr).1]; exact ⟨rfl, fun k hk => pm_ktb_of (pt_ck2 k hk)⟩⟩
  | 3, h => cases h; exact ⟨fun k => pt_tl3.getD k .int, pt_lay pt_cw3, pt_cn3, pt_ct3, fun r ks hr => by rw [(pt_sgo r _ ks hr).1]; exact ⟨rfl, fun k hk => pm_ktb_of (pt_ck3 k hk)⟩⟩
  | 4, h => cases h; exact ⟨fun k => pt_tl4.getD k .int, pt_lay pt_cw4, pt_cn4, pt_ct4, fun r ks hr => by rw [(pt_sgo r _ ks hr).1]; exact ⟨rfl, fun k hk => pm_ktb_of (pt_ck4 k hk)⟩⟩
  | 5, h => cases h; exact ⟨fun k => pt_tl5.getD k .int, pt_lay pt_cw5, pt_cn5, pt_ct5, fun r ks hr => by rw [(pt_sgo r _ ks hr).1]; exact ⟨rfl, fun k hk => pm_ktb_of (pt_ck5 k hk)⟩⟩
  | 6, h => cases h; exact ⟨fun k => pt_tl6.getD k .int, pt_lay pt_cw6, pt_cn6, pt_ct6, fun r ks hr => by rw [(pt_sgo r _ ks hr).1]; exact ⟨rfl, fun k hk => pm_ktb_of (pt_ck6 k hk)⟩⟩
  | 7, h => cases h; exact ⟨fun k => pt_tl7.getD k .int, pt_lay pt_cw7, pt_cn7, pt_ct7, fun r ks hr => by rw [(pt_sgo r _ ks hr).1]; exact ⟨rfl, fun k hk => pm_ktb_of (pt_ck7 k hk)⟩⟩
  | 8, h => cases h; exact ⟨fun k => pt_tl8.getD k .int, pt_lay pt_cw8, pt_cn8, pt_ct8, fun r ks hr => by rw [(pt_sgo r _ ks hr).1]; exact ⟨rfl, fun k hk => pm_ktb_of (pt_ck8 k hk)⟩⟩
  | 9, h => cases h; exact ⟨fun k => qt_tl9.getD k .int, pt_lay pt_cw9, pt_cn9, pt_ct9, fun r ks hr => absurd (pt_sgo r _ ks hr).2 (by decide)⟩
  | 10, h => cases h; exact ⟨fun k => qt_tl10.getD k .int, pt_lay pt_cw10, pt_cn10, pt_ct10, fun r ks hr => absurd (pt_sgo r _ ks hr).2 (by decide)⟩
  | 11, h => cases h; exact ⟨fun k => qt_tl11.getD k .int, pt_lay pt_cw11, pt_cn11, pt_ct11, fun r ks hr => absurd (pt_sgo r _ ks hr).2 (by decide)⟩
  | 12, h => cases h; exact ⟨fun k => qt_tl12.getD k .int, pt_lay pt_cw12, pt_cn12, pt_ct12, fun r ks hr => absurd (pt_sgo r _ ks hr).2 (by decide)⟩
  | 13, h => cases h; exact ⟨fun k => qt_tl13.getD k .int, pt_lay pt_cw13, pt_cn13, pt_ct13, fun r ks hr => absurd (pt_sgo r _ ks hr).2 (by decide)⟩
  | 14, h => cases h; exact ⟨fun k => qt_tl14.getD k .int, pt_lay pt_cw14, pt_cn14, pt_ct14, fun r ks hr => absurd (pt_sgo r _ ks hr).2 (by decide)⟩
  | n + 15, h => cases h
theorem pt_own : ∀ k, (pt_T0 k).1 ≠ "java/util/ArrayList" := by
  intro k
  unfold pt_T0
  split <;> (show "TurnCabinet" ≠ "java/util/ArrayList"; decide)
theorem qt_own11 : ∀ k, (qt_T11 k).1 ≠ "java/util/ArrayList" := by
  intro k
  unfold qt_T11
  split <;> (show "java/lang/String" ≠ "java/util/ArrayList"; decide)
theorem qt_own14 : ∀ k, (qt_T14 k).1 ≠ "java/util/ArrayList" := by
  intro k
  unfold qt_T14
  show "java/lang/Integer" ≠ "java/util/ArrayList"
  decide
theorem qt_st1 : (List.range 30).all (fun s => match qt_qs s with | .inr (c, _) => !(qt_cs s) || (Nat.beq c 0 || (Nat.beq c 11 || Nat.beq c 14)) | .inl _ => true) = true := by decide +kernel
theorem qt_st2 (s : Nat) (h : 30 ≤ s) : qt_qs s = .inl (9, 99) := by
  have h1 : qt_ql.length = 30 := rfl
  unfold qt_qs
  rw [List.getD_eq_getElem?_getD, List.getElem?_eq_none (by omega : qt_ql.length ≤ s)]
  rfl
theorem qt_E1 (L0 : Nat) (xs : List Int32) : qm_E1 qt_me qt_qs (qt_C L0 xs) qt_sx qt_cl := by
  refine ⟨qt_all, ?_, ⟨rfl, by decide +kernel⟩, ⟨_, _, rfl⟩, ?_⟩
  · intro c C T N h
    match c, h with
    | 0, h => cases h; exact ⟨fun k => pt_tl0.getD k .int, fun w hw => pm_sub (pt_lay pt_cw0 w hw), pt_cn0, pt_ct0, fun s ks hr hs => absurd (qt_sgo s _ ks hr hs).2 (by decide), fun _ ks hr => by rw [(pt_sgo 0 _ ks hr).1]; exact ⟨rfl, fun k hk => pm_ktb_of (pt_ck0 k hk)⟩⟩
    | 1, h => cases h; exact ⟨fun k => pt_tl1.getD k .int, fun w hw => pm_sub (pt_lay pt_cw1 w hw), pt_cn1, pt_ct1, fun s ks hr hs => absurd (qt_sgo s _ ks hr hs).2 (by decide), fun h => absurd h (by decide)⟩
    | 2, h => cases h; exact ⟨fun k => pt_tl2.getD k .int, fun w hw => pm_sub (pt_lay pt_cw2 w hw), pt_cn2, pt_ct2, fun s ks hr hs => absurd (qt_sgo s _ ks hr hs).2 (by decide), fun h => absurd h (by decide)⟩
    | 3, h => cases h; exact ⟨fun k => pt_tl3.getD k .int, fun w hw => pm_sub (pt_lay pt_cw3 w hw), pt_cn3, pt_ct3, fun s ks hr hs => absurd (qt_sgo s _ ks hr hs).2 (by decide), fun h => absurd h (by decide)⟩
    | 4, h => cases h; exact ⟨fun k => pt_tl4.getD k .int, fun w hw => pm_sub (pt_lay pt_cw4 w hw), pt_cn4, pt_ct4, fun s ks hr hs => absurd (qt_sgo s _ ks hr hs).2 (by decide), fun h => absurd h (by decide)⟩
    | 5, h => cases h; exact ⟨fun k => pt_tl5.getD k .int, fun w hw => pm_sub (pt_lay pt_cw5 w hw), pt_cn5, pt_ct5, fun s ks hr hs => absurd (qt_sgo s _ ks hr hs).2 (by decide), fun h => absurd h (by decide)⟩
    | 6, h => cases h; exact ⟨fun k => pt_tl6.getD k .int, fun w hw => pm_sub (pt_lay pt_cw6 w hw), pt_cn6, pt_ct6, fun s ks hr hs => absurd (qt_sgo s _ ks hr hs).2 (by decide), fun h => absurd h (by decide)⟩
    | 7, h => cases h; exact ⟨fun k => pt_tl7.getD k .int, fun w hw => pm_sub (pt_lay pt_cw7 w hw), pt_cn7, pt_ct7, fun s ks hr hs => absurd (qt_sgo s _ ks hr hs).2 (by decide), fun h => absurd h (by decide)⟩
    | 8, h => cases h; exact ⟨fun k => pt_tl8.getD k .int, fun w hw => pm_sub (pt_lay pt_cw8 w hw), pt_cn8, pt_ct8, fun s ks hr hs => absurd (qt_sgo s _ ks hr hs).2 (by decide), fun h => absurd h (by decide)⟩
    | 9, h => cases h; exact ⟨fun k => qt_tl9.getD k .int, fun w hw => pm_sub (pt_lay pt_cw9 w hw), pt_cn9, pt_ct9, fun s ks hr hs => by rw [(qt_sgo s _ ks hr hs).1]; exact ⟨pt_ck9.1, fun k hk => qm_ktb_of (pt_ck9.2 k hk)⟩, fun h => absurd h (by decide)⟩
    | 10, h => cases h; exact ⟨fun k => qt_tl10.getD k .int, fun w hw => pm_sub (pt_lay pt_cw10 w hw), pt_cn10, pt_ct10, fun s ks hr hs => by rw [(qt_sgo s _ ks hr hs).1]; exact ⟨pt_ck10.1, fun k hk => qm_ktb_of (pt_ck10.2 k hk)⟩, fun h => absurd h (by decide)⟩
    | 11, h => cases h; exact ⟨fun k => qt_tl11.getD k .int, fun w hw => pm_sub (pt_lay pt_cw11 w hw), pt_cn11, pt_ct11, fun s ks hr hs => by rw [(qt_sgo s _ ks hr hs).1]; exact ⟨pt_ck11.1, fun k hk => qm_ktb_of (pt_ck11.2 k hk)⟩, fun h => absurd h (by decide)⟩
    | 12, h => cases h; exact ⟨fun k => qt_tl12.getD k .int, fun w hw => pm_sub (pt_lay pt_cw12 w hw), pt_cn12, pt_ct12, fun s ks hr hs => by rw [(qt_sgo s _ ks hr hs).1]; exact ⟨pt_ck12.1, fun k hk => qm_ktb_of (pt_ck12.2 k hk)⟩, fun h => absurd h (by decide)⟩
    | 13, h => cases h; exact ⟨fun k => qt_tl13.getD k .int, fun w hw => pm_sub (pt_lay pt_cw13 w hw), pt_cn13, pt_ct13, fun s ks hr hs => by rw [(qt_sgo s _ ks hr hs).1]; exact ⟨pt_ck13.1, fun k hk => qm_ktb_of (pt_ck13.2 k hk)⟩, fun h => absurd h (by decide)⟩
    | 14, h => cases h; exact ⟨fun k => qt_tl14.getD k .int, fun w hw => pm_sub (pt_lay pt_cw14 w hw), pt_cn14, pt_ct14, fun s ks hr hs => by rw [(qt_sgo s _ ks hr hs).1]; exact ⟨pt_ck14.1, fun k hk => qm_ktb_of (pt_ck14.2 k hk)⟩, fun h => absurd h (by decide)⟩
    | n + 15, h => cases h
  · intro s c ks C T' N hq hs hc
    by_cases hr : s < 30
    · have := List.all_eq_true.mp qt_st1 s (List.mem_range.mpr hr)
      rw [hq, show qt_cs s = true from hs] at this
      rcases (Bool.or_eq_true _ _).mp (show (Nat.beq c 0 || (Nat.beq c 11 || Nat.beq c 14)) = true from this) with h | h
      · have := Nat.eq_of_beq_eq_true h
        subst this
        cases hc
        exact pt_own
      · rcases (Bool.or_eq_true _ _).mp h with h | h
        · have := Nat.eq_of_beq_eq_true h
          subst this
          cases hc
          exact qt_own11
        · have := Nat.eq_of_beq_eq_true h
          subst this
          cases hc
          exact qt_own14
    · rw [qt_st2 s (by omega)] at hq
      cases hq
