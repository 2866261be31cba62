/-! ===== the law's tables say what the bytes and the words say ===== -/
theorem qm_ckS {cl : List vw_C} {qs : Nat → qm_K} {sx : qm_X} {me : Nat → pm_Me} {mi pc idx nx w : Nat} {xs : List Nat} {ci : Int32} {cj : Int64} (h0 : pm_d (me mi).2.1 pc (.invokestatic idx) nx 3 = true) (h1 : Nat.beq (xs.getD 0 0) 9001 = false) (h2 : xs.getD 2 99 = 5) (h3 : qm_wk w (.methodLink (me mi).1.cls idx (me (xs.getD 0 0)).1) = true) (h4 : qm_wk (xs.getD 6 0) (.static (me (xs.getD 0 0)).1) = true) (h5 : qm_cc me mi (xs.getD 0 0) (xs.getD 1 0) (xs.getD 3 0) (xs.getD 4 0) = true) : qm_chk cl qs sx me mi (pc, .invokestatic idx, nx, w, xs, ci, cj) = true := by
  simp only [qm_chk, h0, h1, cond_false, Bool.true_and]
  unfold qm_ck
  rw [h2]
  simp only [qm_kS, h3, h4, h5]
  rfl
theorem qm_ckI {cl : List vw_C} {qs : Nat → qm_K} {sx : qm_X} {me : Nat → pm_Me} {mi pc idx nx w x : Nat} {xs : List Nat} {ci : Int32} {cj : Int64} (h0 : pm_d (me mi).2.1 pc (.invokespecial idx) nx 3 = true) (h1 : (x :: xs).getD 0 0 = x) (h2 : (x :: xs).getD 2 99 = 7) (h3 : qm_wk w (.methodLink (me mi).1.cls idx (me ((x :: xs).getD 0 0)).1) = true) (h4 : qm_wk ((x :: xs).getD 6 0) (.instanceMethod (me ((x :: xs).getD 0 0)).1) = true) (h41 : decide ((me ((x :: xs).getD 0 0)).1.name = "<init>") = true) (h42 : decide ((me ((x :: xs).getD 0 0)).2.2.2.1 = none) = true) (h5 : qm_cc me mi ((x :: xs).getD 0 0) ((x :: xs).getD 1 0 - 1) ((x :: xs).getD 3 0) ((x :: xs).getD 4 0) = true) (h6 : qm_pl cl qs ((x :: xs).drop 7) = true) : qm_chk cl qs sx me mi (pc, .invokespecial idx, nx, w, x :: xs, ci, cj) = true := by
  simp only [qm_chk, h0, Bool.true_and]
  unfold qm_ck
  rw [h2]
  simp only [qm_kI, h3, h4, h41, h42, h5, h6]
  rfl
set_option maxRecDepth 100000 in
theorem qt_w1202 : qm_wk 981 (.code (qt_me 1202).1 (qt_me 1202).2.1 (qt_me 1202).2.2.1 (qt_me 1202).2.2.2.1) = true := by
  unfold qm_wk
  have h : qm_wn 981 (.code (qt_me 1202).1 (qt_me 1202).2.1 (qt_me 1202).2.2.1 (qt_me 1202).2.2.2.1) = true := by
    unfold qm_wn
    exact decide_eq_true rfl
  rw [h]
  rfl
theorem qt_cc1202 : qm_cc qt_me 6 1202 1 50 981 = true := by
  unfold qm_cc
  rw [qt_w1202, Bool.true_and]
  decide +kernel
set_option maxRecDepth 100000 in
theorem qt_ok6_1 : qt_q6_1.all (qm_chk qt_cl qt_qs qt_sx qt_me 6) = true := by
  unfold qt_q6_1
  rw [List.all_cons, List.all_nil, Bool.and_true]
  exact qm_ckI (by decide +kernel) rfl rfl (by decide +kernel) (by decide +kernel) (by decide +kernel) (by decide +kernel) qt_cc1202 (by decide +kernel)
set_option maxRecDepth 100000 in
theorem qt_w8 : qm_wk 1389 (.code (qt_me 8).1 (qt_me 8).2.1 (qt_me 8).2.2.1 (qt_me 8).2.2.2.1) = true := by
  unfold qm_wk
  have h : qm_wn 1389 (.code (qt_me 8).1 (qt_me 8).2.1 (qt_me 8).2.2.1 (qt_me 8).2.2.2.1) = true := by
    unfold qm_wn
    exact decide_eq_true rfl
  rw [h]
  rfl
theorem qt_cc8 : qm_cc qt_me 6 8 2 49 1389 = true := by
  unfold qm_cc
  rw [qt_w8, Bool.true_and]
  decide +kernel
set_option maxRecDepth 100000 in
theorem qt_ok6_3 : qt_q6_3.all (qm_chk qt_cl qt_qs qt_sx qt_me 6) = true := by
  unfold qt_q6_3
  rw [List.all_cons, List.all_nil, Bool.and_true]
  exact qm_ckS (by decide +kernel) rfl rfl (by decide +kernel) (by decide +kernel) qt_cc8
