/-! THE LAW'S HELPERS, by program (wip/whole/genlaw.py) -/
abbrev lw (X : cS) (Y : rS) (o : Nat → Int64) : mH := xw X (yw Y [.inl (2, 1, .inr (.inl o))])
theorem le_13 : Cond.classLink RL 13 xA ∈ mTW := m_in 137 (by decide +kernel) rfl
theorem le_15 : Cond.classLink RL 15 xI ∈ mTW := m_in 226 (by decide +kernel) rfl
theorem le_21 : Cond.classLink RL 21 xN ∈ mTW := m_in 259 (by decide +kernel) rfl
theorem le_33 : Cond.classLink RL 33 xU ∈ mTW := m_in 390 (by decide +kernel) rfl
theorem le_41 : Cond.classLink RL 41 xS ∈ mTW := m_in 417 (by decide +kernel) rfl
theorem le_43 : Cond.classLink RL 43 xD ∈ mTW := m_in 418 (by decide +kernel) rfl
set_option maxRecDepth 100000 in
set_option maxHeartbeats 4000000 in
theorem H_dig_r {S : Nat × (Nat → Int32)} {X X' : cS} {Y : rS} {o : Nat → Int64} {a1 a2 : Int32} {v : Int32} (hc : g_X0_dig X a1 a2 = some (.inl (some (.int v)), X')) : mF S ML_dig 0 (mEnt [.ref 0, .int a1, .int a2, .ref 17] 5) [] (lw X Y o) 0 0 (.inl (some (.int 0)), lw X' Y (vp_updL o 0 v.toInt64), 2, 16) := by
  refine mr_aload_n (pc := 0) (x := 17) rfl rfl ?_
  refine mr_iconst (pc := 1) (v := 0) rfl (by decide) ?_
  refine mr_aload_n (pc := 2) (x := 0) rfl rfl ?_
  refine mr_iload_n (pc := 3) rfl rfl ?_
  refine mr_iload_n (pc := 4) rfl rfl ?_
  refine mr_ret (mRunV (pc := 5) (q := 0) (As := [.int a1, .int a2]) (rest := [.int 0, .ref 17]) rfl lkRL_7 rfl rfl rfl (Nat.le_of_ble_eq_true rfl) (Nat.le_of_ble_eq_true rfl) (F_X0_dig (T := yw Y [.inl (2, 1, .inr (.inl o))]) hc)) rfl (Nat.le_of_ble_eq_true rfl) (Nat.le_of_ble_eq_true rfl) ?_
  refine mr_i2l (pc := 8) rfl ?_
  refine ms_lastore (pc := 9) (q := 17) (N := 1) (f := o) (h' := lw X' Y (vp_updL o 0 v.toInt64)) rfl rfl (by decide) rfl ?_
  refine mr_goto (pc := 10) 21 rfl (by decide) ?_
  refine mr_iconst (pc := 21) (v := 0) rfl (by decide) ?_
  exact mr_ireturn (pc := 22) rfl rfl (Nat.le_of_ble_eq_true rfl) (Nat.le_of_ble_eq_true rfl)
set_option maxRecDepth 100000 in
set_option maxHeartbeats 4000000 in
theorem H_dig_xA {S : Nat × (Nat → Int32)} {X X' : cS} {Y : rS} {o : Nat → Int64} {a1 a2 : Int32} (hc : g_X0_dig X a1 a2 = some (.inr xA, X')) : mF S ML_dig 0 (mEnt [.ref 0, .int a1, .int a2, .ref 17] 5) [] (lw X Y o) 0 0 (.inl (some (.int 1)), lw X' Y o, 2, 16) := by
  refine mr_aload_n (pc := 0) (x := 17) rfl rfl ?_
  refine mr_iconst (pc := 1) (v := 0) rfl (by decide) ?_
  refine mr_aload_n (pc := 2) (x := 0) rfl rfl ?_
  refine mr_iload_n (pc := 3) rfl rfl ?_
  refine mr_iload_n (pc := 4) rfl rfl ?_
  refine mr_caught (i := 4) (len := 2) [] (0, 10, 13, 13) [(0, 10, 17, 15)] (mRunV (pc := 5) (q := 0) (As := [.int a1, .int a2]) (rest := [.int 0, .ref 17]) rfl lkRL_7 rfl rfl rfl (Nat.le_of_ble_eq_true rfl) (Nat.le_of_ble_eq_true rfl) (F_X0_dig (T := yw Y [.inl (2, 1, .inr (.inl o))]) hc)) rfl rfl (Nat.le_of_ble_eq_true rfl) (Nat.le_of_ble_eq_true rfl) (fun z hz => by cases hz) (by decide) (by decide) le_13 (by decide +kernel) (by decide) rfl (Or.inl ⟨rfl, rfl⟩) ?_
  refine mr_iconst (pc := 15) (v := 1) rfl (by decide) ?_
  exact mr_ireturn (pc := 16) rfl rfl (Nat.le_of_ble_eq_true rfl) (Nat.le_of_ble_eq_true rfl)
set_option maxRecDepth 100000 in
set_option maxHeartbeats 4000000 in
theorem H_dig_xI {S : Nat × (Nat → Int32)} {X X' : cS} {Y : rS} {o : Nat → Int64} {a1 a2 : Int32} (hc : g_X0_dig X a1 a2 = some (.inr xI, X')) : mF S ML_dig 0 (mEnt [.ref 0, .int a1, .int a2, .ref 17] 5) [] (lw X Y o) 0 0 (.inl (some (.int 2)), lw X' Y o, 2, 16) := by
  refine mr_aload_n (pc := 0) (x := 17) rfl rfl ?_
  refine mr_iconst (pc := 1) (v := 0) rfl (by decide) ?_
  refine mr_aload_n (pc := 2) (x := 0) rfl rfl ?_
  refine mr_iload_n (pc := 3) rfl rfl ?_
  refine mr_iload_n (pc := 4) rfl rfl ?_
  refine mr_caught (i := 4) (len := 2) [(0, 10, 13, 13)] (0, 10, 17, 15) [] (mRunV (pc := 5) (q := 0) (As := [.int a1, .int a2]) (rest := [.int 0, .ref 17]) rfl lkRL_7 rfl rfl rfl (Nat.le_of_ble_eq_true rfl) (Nat.le_of_ble_eq_true rfl) (F_X0_dig (T := yw Y [.inl (2, 1, .inr (.inl o))]) hc)) rfl rfl (Nat.le_of_ble_eq_true rfl) (Nat.le_of_ble_eq_true rfl) (fun z hz => by
      simp only [List.mem_cons, List.not_mem_nil, or_false] at hz
      rcases hz with rfl
      · exact ⟨by decide, xA, le_13, by decide +kernel⟩) (by decide) (by decide) le_15 (by decide +kernel) (by decide) rfl (Or.inl ⟨rfl, rfl⟩) ?_
  refine mr_iconst (pc := 19) (v := 2) rfl (by decide) ?_
  exact mr_ireturn (pc := 20) rfl rfl (Nat.le_of_ble_eq_true rfl) (Nat.le_of_ble_eq_true rfl)
set_option maxRecDepth 100000 in
set_option maxHeartbeats 4000000 in
theorem H_fill_r {S : Nat × (Nat → Int32)} {X X' : cS} {Y : rS} {o : Nat → Int64} {a1 : Int32} {v : Int32} (hc : g_X0_fill X a1 = some (.inl (some (.int v)), X')) : mF S ML_fill 0 (mEnt [.ref 0, .int a1, .ref 17] 4) [] (lw X Y o) 0 0 (.inl (some (.int 0)), lw X' Y (vp_updL o 0 v.toInt64), 2, 16) := by
  refine mr_aload_n (pc := 0) (x := 17) rfl rfl ?_
  refine mr_iconst (pc := 1) (v := 0) rfl (by decide) ?_
  refine mr_aload_n (pc := 2) (x := 0) rfl rfl ?_
  refine mr_iload_n (pc := 3) rfl rfl ?_
  refine mr_ret (mRunV (pc := 4) (q := 0) (As := [.int a1]) (rest := [.int 0, .ref 17]) rfl lkRL_17 rfl rfl rfl (Nat.le_of_ble_eq_true rfl) (Nat.le_of_ble_eq_true rfl) (F_X0_fill (T := yw Y [.inl (2, 1, .inr (.inl o))]) hc)) rfl (Nat.le_of_ble_eq_true rfl) (Nat.le_of_ble_eq_true rfl) ?_
  refine mr_i2l (pc := 7) rfl ?_
  refine ms_lastore (pc := 8) (q := 17) (N := 1) (f := o) (h' := lw X' Y (vp_updL o 0 v.toInt64)) rfl rfl (by decide) rfl ?_
  refine mr_goto (pc := 9) 18 rfl (by decide) ?_
  refine mr_iconst (pc := 18) (v := 0) rfl (by decide) ?_
  exact mr_ireturn (pc := 19) rfl rfl (Nat.le_of_ble_eq_true rfl) (Nat.le_of_ble_eq_true rfl)
set_option maxRecDepth 100000 in
set_option maxHeartbeats 4000000 in
theorem H_fill_xA {S : Nat × (Nat → Int32)} {X X' : cS} {Y : rS} {o : Nat → Int64} {a1 : Int32} (hc : g_X0_fill X a1 = some (.inr xA, X')) : mF S ML_fill 0 (mEnt [.ref 0, .int a1, .ref 17] 4) [] (lw X Y o) 0 0 (.inl (some (.int 1)), lw X' Y o, 2, 16) := by
  refine mr_aload_n (pc := 0) (x := 17) rfl rfl ?_
  refine mr_iconst (pc := 1) (v := 0) rfl (by decide) ?_
  refine mr_aload_n (pc := 2) (x := 0) rfl rfl ?_
  refine mr_iload_n (pc := 3) rfl rfl ?_
  refine mr_caught (i := 3) (len := 1) [] (0, 9, 12, 13) [(0, 9, 15, 21)] (mRunV (pc := 4) (q := 0) (As := [.int a1]) (rest := [.int 0, .ref 17]) rfl lkRL_17 rfl rfl rfl (Nat.le_of_ble_eq_true rfl) (Nat.le_of_ble_eq_true rfl) (F_X0_fill (T := yw Y [.inl (2, 1, .inr (.inl o))]) hc)) rfl rfl (Nat.le_of_ble_eq_true rfl) (Nat.le_of_ble_eq_true rfl) (fun z hz => by cases hz) (by decide) (by decide) le_13 (by decide +kernel) (by decide) rfl (Or.inr ⟨3, rfl, rfl, rfl⟩) ?_
  refine mr_iconst (pc := 13) (v := 1) rfl (by decide) ?_
  exact mr_ireturn (pc := 14) rfl rfl (Nat.le_of_ble_eq_true rfl) (Nat.le_of_ble_eq_true rfl)
set_option maxRecDepth 100000 in
set_option maxHeartbeats 4000000 in
theorem H_fill_xN {S : Nat × (Nat → Int32)} {X X' : cS} {Y : rS} {o : Nat → Int64} {a1 : Int32} (hc : g_X0_fill X a1 = some (.inr xN, X')) : mF S ML_fill 0 (mEnt [.ref 0, .int a1, .ref 17] 4) [] (lw X Y o) 0 0 (.inl (some (.int 2)), lw X' Y o, 2, 16) := by
  refine mr_aload_n (pc := 0) (x := 17) rfl rfl ?_
  refine mr_iconst (pc := 1) (v := 0) rfl (by decide) ?_
  refine mr_aload_n (pc := 2) (x := 0) rfl rfl ?_
  refine mr_iload_n (pc := 3) rfl rfl ?_
  refine mr_caught (i := 3) (len := 1) [(0, 9, 12, 13)] (0, 9, 15, 21) [] (mRunV (pc := 4) (q := 0) (As := [.int a1]) (rest := [.int 0, .ref 17]) rfl lkRL_17 rfl rfl rfl (Nat.le_of_ble_eq_true rfl) (Nat.le_of_ble_eq_true rfl) (F_X0_fill (T := yw Y [.inl (2, 1, .inr (.inl o))]) hc)) rfl rfl (Nat.le_of_ble_eq_true rfl) (Nat.le_of_ble_eq_true rfl) (fun z hz => by
      simp only [List.mem_cons, List.not_mem_nil, or_false] at hz
      rcases hz with rfl
      · exact ⟨by decide, xA, le_13, by decide +kernel⟩) (by decide) (by decide) le_21 (by decide +kernel) (by decide) rfl (Or.inr ⟨3, rfl, rfl, rfl⟩) ?_
  refine mr_iconst (pc := 16) (v := 2) rfl (by decide) ?_
  exact mr_ireturn (pc := 17) rfl rfl (Nat.le_of_ble_eq_true rfl) (Nat.le_of_ble_eq_true rfl)
set_option maxRecDepth 100000 in
set_option maxHeartbeats 4000000 in
theorem H_pour_r {S : Nat × (Nat → Int32)} {X X' : cS} {Y : rS} {o : Nat → Int64} {a1 a2 : Int32} {v : Int32} (hc : g_X0_pour X a1 a2 = some (.inl (some (.int v)), X')) : mF S ML_pour 0 (mEnt [.ref 0, .int a1, .int a2, .ref 17] 5) [] (lw X Y o) 0 0 (.inl (some (.int 0)), lw X' Y (vp_updL o 0 v.toInt64), 3, 24) := by
  refine mr_aload_n (pc := 0) (x := 17) rfl rfl ?_
  refine mr_iconst (pc := 1) (v := 0) rfl (by decide) ?_
  refine mr_aload_n (pc := 2) (x := 0) rfl rfl ?_
  refine mr_iload_n (pc := 3) rfl rfl ?_
  refine mr_iload_n (pc := 4) rfl rfl ?_
  refine mr_ret (mRunV (pc := 5) (q := 0) (As := [.int a1, .int a2]) (rest := [.int 0, .ref 17]) rfl lkRL_23 rfl rfl rfl (Nat.le_of_ble_eq_true rfl) (Nat.le_of_ble_eq_true rfl) (F_X0_pour (T := yw Y [.inl (2, 1, .inr (.inl o))]) hc)) rfl (Nat.le_of_ble_eq_true rfl) (Nat.le_of_ble_eq_true rfl) ?_
  refine mr_i2l (pc := 8) rfl ?_
  refine ms_lastore (pc := 9) (q := 17) (N := 1) (f := o) (h' := lw X' Y (vp_updL o 0 v.toInt64)) rfl rfl (by decide) rfl ?_
  refine mr_goto (pc := 10) 25 rfl (by decide) ?_
  refine mr_iconst (pc := 25) (v := 0) rfl (by decide) ?_
  exact mr_ireturn (pc := 26) rfl rfl (Nat.le_of_ble_eq_true rfl) (Nat.le_of_ble_eq_true rfl)
set_option maxRecDepth 100000 in
set_option maxHeartbeats 4000000 in
theorem H_pour_xA {S : Nat × (Nat → Int32)} {X X' : cS} {Y : rS} {o : Nat → Int64} {a1 a2 : Int32} (hc : g_X0_pour X a1 a2 = some (.inr xA, X')) : mF S ML_pour 0 (mEnt [.ref 0, .int a1, .int a2, .ref 17] 5) [] (lw X Y o) 0 0 (.inl (some (.int 1)), lw X' Y o, 3, 24) := by
  refine mr_aload_n (pc := 0) (x := 17) rfl rfl ?_
  refine mr_iconst (pc := 1) (v := 0) rfl (by decide) ?_
  refine mr_aload_n (pc := 2) (x := 0) rfl rfl ?_
  refine mr_iload_n (pc := 3) rfl rfl ?_
  refine mr_iload_n (pc := 4) rfl rfl ?_
  refine mr_caught (i := 4) (len := 2) [] (0, 10, 13, 13) [(0, 10, 17, 15), (0, 10, 21, 21)] (mRunV (pc := 5) (q := 0) (As := [.int a1, .int a2]) (rest := [.int 0, .ref 17]) rfl lkRL_23 rfl rfl rfl (Nat.le_of_ble_eq_true rfl) (Nat.le_of_ble_eq_true rfl) (F_X0_pour (T := yw Y [.inl (2, 1, .inr (.inl o))]) hc)) rfl rfl (Nat.le_of_ble_eq_true rfl) (Nat.le_of_ble_eq_true rfl) (fun z hz => by cases hz) (by decide) (by decide) le_13 (by decide +kernel) (by decide) rfl (Or.inl ⟨rfl, rfl⟩) ?_
  refine mr_iconst (pc := 15) (v := 1) rfl (by decide) ?_
  exact mr_ireturn (pc := 16) rfl rfl (Nat.le_of_ble_eq_true rfl) (Nat.le_of_ble_eq_true rfl)
set_option maxRecDepth 100000 in
set_option maxHeartbeats 4000000 in
theorem H_pour_xI {S : Nat × (Nat → Int32)} {X X' : cS} {Y : rS} {o : Nat → Int64} {a1 a2 : Int32} (hc : g_X0_pour X a1 a2 = some (.inr xI, X')) : mF S ML_pour 0 (mEnt [.ref 0, .int a1, .int a2, .ref 17] 5) [] (lw X Y o) 0 0 (.inl (some (.int 2)), lw X' Y o, 3, 24) := by
  refine mr_aload_n (pc := 0) (x := 17) rfl rfl ?_
  refine mr_iconst (pc := 1) (v := 0) rfl (by decide) ?_
  refine mr_aload_n (pc := 2) (x := 0) rfl rfl ?_
  refine mr_iload_n (pc := 3) rfl rfl ?_
  refine mr_iload_n (pc := 4) rfl rfl ?_
  refine mr_caught (i := 4) (len := 2) [(0, 10, 13, 13)] (0, 10, 17, 15) [(0, 10, 21, 21)] (mRunV (pc := 5) (q := 0) (As := [.int a1, .int a2]) (rest := [.int 0, .ref 17]) rfl lkRL_23 rfl rfl rfl (Nat.le_of_ble_eq_true rfl) (Nat.le_of_ble_eq_true rfl) (F_X0_pour (T := yw Y [.inl (2, 1, .inr (.inl o))]) hc)) rfl rfl (Nat.le_of_ble_eq_true rfl) (Nat.le_of_ble_eq_true rfl) (fun z hz => by
      simp only [List.mem_cons, List.not_mem_nil, or_false] at hz
      rcases hz with rfl
      · exact ⟨by decide, xA, le_13, by decide +kernel⟩) (by decide) (by decide) le_15 (by decide +kernel) (by decide) rfl (Or.inl ⟨rfl, rfl⟩) ?_
  refine mr_iconst (pc := 19) (v := 2) rfl (by decide) ?_
  exact mr_ireturn (pc := 20) rfl rfl (Nat.le_of_ble_eq_true rfl) (Nat.le_of_ble_eq_true rfl)
set_option maxRecDepth 100000 in
set_option maxHeartbeats 4000000 in
theorem H_pour_xN {S : Nat × (Nat → Int32)} {X X' : cS} {Y : rS} {o : Nat → Int64} {a1 a2 : Int32} (hc : g_X0_pour X a1 a2 = some (.inr xN, X')) : mF S ML_pour 0 (mEnt [.ref 0, .int a1, .int a2, .ref 17] 5) [] (lw X Y o) 0 0 (.inl (some (.int 3)), lw X' Y o, 3, 24) := by
  refine mr_aload_n (pc := 0) (x := 17) rfl rfl ?_
  refine mr_iconst (pc := 1) (v := 0) rfl (by decide) ?_
  refine mr_aload_n (pc := 2) (x := 0) rfl rfl ?_
  refine mr_iload_n (pc := 3) rfl rfl ?_
  refine mr_iload_n (pc := 4) rfl rfl ?_
  refine mr_caught (i := 4) (len := 2) [(0, 10, 13, 13), (0, 10, 17, 15)] (0, 10, 21, 21) [] (mRunV (pc := 5) (q := 0) (As := [.int a1, .int a2]) (rest := [.int 0, .ref 17]) rfl lkRL_23 rfl rfl rfl (Nat.le_of_ble_eq_true rfl) (Nat.le_of_ble_eq_true rfl) (F_X0_pour (T := yw Y [.inl (2, 1, .inr (.inl o))]) hc)) rfl rfl (Nat.le_of_ble_eq_true rfl) (Nat.le_of_ble_eq_true rfl) (fun z hz => by
      simp only [List.mem_cons, List.not_mem_nil, or_false] at hz
      rcases hz with rfl | rfl
      · exact ⟨by decide, xA, le_13, by decide +kernel⟩
      · exact ⟨by decide, xI, le_15, by decide +kernel⟩) (by decide) (by decide) le_21 (by decide +kernel) (by decide) rfl (Or.inl ⟨rfl, rfl⟩) ?_
  refine mr_iconst (pc := 23) (v := 3) rfl (by decide) ?_
  exact mr_ireturn (pc := 24) rfl rfl (Nat.le_of_ble_eq_true rfl) (Nat.le_of_ble_eq_true rfl)
set_option maxRecDepth 100000 in
set_option maxHeartbeats 4000000 in
theorem H_draw_r {S : Nat × (Nat → Int32)} {X X' : cS} {Y : rS} {o : Nat → Int64} {a1 a2 : Int32} {v : Int32} (hc : g_X0_draw X a1 a2 = some (.inl (some (.int v)), X')) : mF S ML_draw 0 (mEnt [.ref 0, .int a1, .int a2, .ref 17] 5) [] (lw X Y o) 0 0 (.inl (some (.int 0)), lw X' Y (vp_updL o 0 v.toInt64), 3, 24) := by
  refine mr_aload_n (pc := 0) (x := 17) rfl rfl ?_
  refine mr_iconst (pc := 1) (v := 0) rfl (by decide) ?_
  refine mr_aload_n (pc := 2) (x := 0) rfl rfl ?_
  refine mr_iload_n (pc := 3) rfl rfl ?_
  refine mr_iload_n (pc := 4) rfl rfl ?_
  refine mr_ret (mRunV (pc := 5) (q := 0) (As := [.int a1, .int a2]) (rest := [.int 0, .ref 17]) rfl lkRL_26 rfl rfl rfl (Nat.le_of_ble_eq_true rfl) (Nat.le_of_ble_eq_true rfl) (F_X0_draw (T := yw Y [.inl (2, 1, .inr (.inl o))]) hc)) rfl (Nat.le_of_ble_eq_true rfl) (Nat.le_of_ble_eq_true rfl) ?_
  refine mr_i2l (pc := 8) rfl ?_
  refine ms_lastore (pc := 9) (q := 17) (N := 1) (f := o) (h' := lw X' Y (vp_updL o 0 v.toInt64)) rfl rfl (by decide) rfl ?_
  refine mr_goto (pc := 10) 25 rfl (by decide) ?_
  refine mr_iconst (pc := 25) (v := 0) rfl (by decide) ?_
  exact mr_ireturn (pc := 26) rfl rfl (Nat.le_of_ble_eq_true rfl) (Nat.le_of_ble_eq_true rfl)
set_option maxRecDepth 100000 in
set_option maxHeartbeats 4000000 in
theorem H_draw_xA {S : Nat × (Nat → Int32)} {X X' : cS} {Y : rS} {o : Nat → Int64} {a1 a2 : Int32} (hc : g_X0_draw X a1 a2 = some (.inr xA, X')) : mF S ML_draw 0 (mEnt [.ref 0, .int a1, .int a2, .ref 17] 5) [] (lw X Y o) 0 0 (.inl (some (.int 1)), lw X' Y o, 3, 24) := by
  refine mr_aload_n (pc := 0) (x := 17) rfl rfl ?_
  refine mr_iconst (pc := 1) (v := 0) rfl (by decide) ?_
  refine mr_aload_n (pc := 2) (x := 0) rfl rfl ?_
  refine mr_iload_n (pc := 3) rfl rfl ?_
  refine mr_iload_n (pc := 4) rfl rfl ?_
  refine mr_caught (i := 4) (len := 2) [] (0, 10, 13, 13) [(0, 10, 17, 15), (0, 10, 21, 21)] (mRunV (pc := 5) (q := 0) (As := [.int a1, .int a2]) (rest := [.int 0, .ref 17]) rfl lkRL_26 rfl rfl rfl (Nat.le_of_ble_eq_true rfl) (Nat.le_of_ble_eq_true rfl) (F_X0_draw (T := yw Y [.inl (2, 1, .inr (.inl o))]) hc)) rfl rfl (Nat.le_of_ble_eq_true rfl) (Nat.le_of_ble_eq_true rfl) (fun z hz => by cases hz) (by decide) (by decide) le_13 (by decide +kernel) (by decide) rfl (Or.inl ⟨rfl, rfl⟩) ?_
  refine mr_iconst (pc := 15) (v := 1) rfl (by decide) ?_
  exact mr_ireturn (pc := 16) rfl rfl (Nat.le_of_ble_eq_true rfl) (Nat.le_of_ble_eq_true rfl)
set_option maxRecDepth 100000 in
set_option maxHeartbeats 4000000 in
theorem H_draw_xI {S : Nat × (Nat → Int32)} {X X' : cS} {Y : rS} {o : Nat → Int64} {a1 a2 : Int32} (hc : g_X0_draw X a1 a2 = some (.inr xI, X')) : mF S ML_draw 0 (mEnt [.ref 0, .int a1, .int a2, .ref 17] 5) [] (lw X Y o) 0 0 (.inl (some (.int 2)), lw X' Y o, 3, 24) := by
  refine mr_aload_n (pc := 0) (x := 17) rfl rfl ?_
  refine mr_iconst (pc := 1) (v := 0) rfl (by decide) ?_
  refine mr_aload_n (pc := 2) (x := 0) rfl rfl ?_
  refine mr_iload_n (pc := 3) rfl rfl ?_
  refine mr_iload_n (pc := 4) rfl rfl ?_
  refine mr_caught (i := 4) (len := 2) [(0, 10, 13, 13)] (0, 10, 17, 15) [(0, 10, 21, 21)] (mRunV (pc := 5) (q := 0) (As := [.int a1, .int a2]) (rest := [.int 0, .ref 17]) rfl lkRL_26 rfl rfl rfl (Nat.le_of_ble_eq_true rfl) (Nat.le_of_ble_eq_true rfl) (F_X0_draw (T := yw Y [.inl (2, 1, .inr (.inl o))]) hc)) rfl rfl (Nat.le_of_ble_eq_true rfl) (Nat.le_of_ble_eq_true rfl) (fun z hz => by
      simp only [List.mem_cons, List.not_mem_nil, or_false] at hz
      rcases hz with rfl
      · exact ⟨by decide, xA, le_13, by decide +kernel⟩) (by decide) (by decide) le_15 (by decide +kernel) (by decide) rfl (Or.inl ⟨rfl, rfl⟩) ?_
  refine mr_iconst (pc := 19) (v := 2) rfl (by decide) ?_
  exact mr_ireturn (pc := 20) rfl rfl (Nat.le_of_ble_eq_true rfl) (Nat.le_of_ble_eq_true rfl)
set_option maxRecDepth 100000 in
set_option maxHeartbeats 4000000 in
theorem H_draw_xN {S : Nat × (Nat → Int32)} {X X' : cS} {Y : rS} {o : Nat → Int64} {a1 a2 : Int32} (hc : g_X0_draw X a1 a2 = some (.inr xN, X')) : mF S ML_draw 0 (mEnt [.ref 0, .int a1, .int a2, .ref 17] 5) [] (lw X Y o) 0 0 (.inl (some (.int 3)), lw X' Y o, 3, 24) := by
  refine mr_aload_n (pc := 0) (x := 17) rfl rfl ?_
  refine mr_iconst (pc := 1) (v := 0) rfl (by decide) ?_
  refine mr_aload_n (pc := 2) (x := 0) rfl rfl ?_
  refine mr_iload_n (pc := 3) rfl rfl ?_
  refine mr_iload_n (pc := 4) rfl rfl ?_
  refine mr_caught (i := 4) (len := 2) [(0, 10, 13, 13), (0, 10, 17, 15)] (0, 10, 21, 21) [] (mRunV (pc := 5) (q := 0) (As := [.int a1, .int a2]) (rest := [.int 0, .ref 17]) rfl lkRL_26 rfl rfl rfl (Nat.le_of_ble_eq_true rfl) (Nat.le_of_ble_eq_true rfl) (F_X0_draw (T := yw Y [.inl (2, 1, .inr (.inl o))]) hc)) rfl rfl (Nat.le_of_ble_eq_true rfl) (Nat.le_of_ble_eq_true rfl) (fun z hz => by
      simp only [List.mem_cons, List.not_mem_nil, or_false] at hz
      rcases hz with rfl | rfl
      · exact ⟨by decide, xA, le_13, by decide +kernel⟩
      · exact ⟨by decide, xI, le_15, by decide +kernel⟩) (by decide) (by decide) le_21 (by decide +kernel) (by decide) rfl (Or.inl ⟨rfl, rfl⟩) ?_
  refine mr_iconst (pc := 23) (v := 3) rfl (by decide) ?_
  exact mr_ireturn (pc := 24) rfl rfl (Nat.le_of_ble_eq_true rfl) (Nat.le_of_ble_eq_true rfl)
set_option maxRecDepth 100000 in
set_option maxHeartbeats 4000000 in
theorem H_boat_r {S : Nat × (Nat → Int32)} {X X' : cS} {Y : rS} {o : Nat → Int64} {a1 a2 a3 : Int32} {v : Int32} (hc : g_X0_boat X a1 a2 a3 = some (.inl (some (.int v)), X')) : mF S ML_boat 0 (mEnt [.ref 0, .int a1, .int a2, .int a3, .ref 17] 6) [] (lw X Y o) 0 0 (.inl (some (.int 0)), lw X' Y (vp_updL o 0 v.toInt64), 4, 32) := by
  refine mr_aload (pc := 0) (x := 17) rfl rfl ?_
  refine mr_iconst (pc := 2) (v := 0) rfl (by decide) ?_
  refine mr_aload_n (pc := 3) (x := 0) rfl rfl ?_
  refine mr_iload_n (pc := 4) rfl rfl ?_
  refine mr_iload_n (pc := 5) rfl rfl ?_
  refine mr_iload_n (pc := 6) rfl rfl ?_
  refine mr_ret (mRunV (pc := 7) (q := 0) (As := [.int a1, .int a2, .int a3]) (rest := [.int 0, .ref 17]) rfl lkRL_29 rfl rfl rfl (Nat.le_of_ble_eq_true rfl) (Nat.le_of_ble_eq_true rfl) (F_X0_boat (T := yw Y [.inl (2, 1, .inr (.inl o))]) hc)) rfl (Nat.le_of_ble_eq_true rfl) (Nat.le_of_ble_eq_true rfl) ?_
  refine mr_i2l (pc := 10) rfl ?_
  refine ms_lastore (pc := 11) (q := 17) (N := 1) (f := o) (h' := lw X' Y (vp_updL o 0 v.toInt64)) rfl rfl (by decide) rfl ?_
  refine mr_goto (pc := 12) 31 rfl (by decide) ?_
  refine mr_iconst (pc := 31) (v := 0) rfl (by decide) ?_
  exact mr_ireturn (pc := 32) rfl rfl (Nat.le_of_ble_eq_true rfl) (Nat.le_of_ble_eq_true rfl)
set_option maxRecDepth 100000 in
set_option maxHeartbeats 4000000 in
theorem H_boat_xA {S : Nat × (Nat → Int32)} {X X' : cS} {Y : rS} {o : Nat → Int64} {a1 a2 a3 : Int32} (hc : g_X0_boat X a1 a2 a3 = some (.inr xA, X')) : mF S ML_boat 0 (mEnt [.ref 0, .int a1, .int a2, .int a3, .ref 17] 6) [] (lw X Y o) 0 0 (.inl (some (.int 1)), lw X' Y o, 4, 32) := by
  refine mr_aload (pc := 0) (x := 17) rfl rfl ?_
  refine mr_iconst (pc := 2) (v := 0) rfl (by decide) ?_
  refine mr_aload_n (pc := 3) (x := 0) rfl rfl ?_
  refine mr_iload_n (pc := 4) rfl rfl ?_
  refine mr_iload_n (pc := 5) rfl rfl ?_
  refine mr_iload_n (pc := 6) rfl rfl ?_
  refine mr_caught (i := 5) (len := 2) [] (0, 12, 15, 13) [(0, 12, 19, 15), (0, 12, 23, 21), (0, 12, 27, 33)] (mRunV (pc := 7) (q := 0) (As := [.int a1, .int a2, .int a3]) (rest := [.int 0, .ref 17]) rfl lkRL_29 rfl rfl rfl (Nat.le_of_ble_eq_true rfl) (Nat.le_of_ble_eq_true rfl) (F_X0_boat (T := yw Y [.inl (2, 1, .inr (.inl o))]) hc)) rfl rfl (Nat.le_of_ble_eq_true rfl) (Nat.le_of_ble_eq_true rfl) (fun z hz => by cases hz) (by decide) (by decide) le_13 (by decide +kernel) (by decide) rfl (Or.inl ⟨rfl, rfl⟩) ?_
  refine mr_iconst (pc := 17) (v := 1) rfl (by decide) ?_
  exact mr_ireturn (pc := 18) rfl rfl (Nat.le_of_ble_eq_true rfl) (Nat.le_of_ble_eq_true rfl)
set_option maxRecDepth 100000 in
set_option maxHeartbeats 4000000 in
theorem H_boat_xI {S : Nat × (Nat → Int32)} {X X' : cS} {Y : rS} {o : Nat → Int64} {a1 a2 a3 : Int32} (hc : g_X0_boat X a1 a2 a3 = some (.inr xI, X')) : mF S ML_boat 0 (mEnt [.ref 0, .int a1, .int a2, .int a3, .ref 17] 6) [] (lw X Y o) 0 0 (.inl (some (.int 2)), lw X' Y o, 4, 32) := by
  refine mr_aload (pc := 0) (x := 17) rfl rfl ?_
  refine mr_iconst (pc := 2) (v := 0) rfl (by decide) ?_
  refine mr_aload_n (pc := 3) (x := 0) rfl rfl ?_
  refine mr_iload_n (pc := 4) rfl rfl ?_
  refine mr_iload_n (pc := 5) rfl rfl ?_
  refine mr_iload_n (pc := 6) rfl rfl ?_
  refine mr_caught (i := 5) (len := 2) [(0, 12, 15, 13)] (0, 12, 19, 15) [(0, 12, 23, 21), (0, 12, 27, 33)] (mRunV (pc := 7) (q := 0) (As := [.int a1, .int a2, .int a3]) (rest := [.int 0, .ref 17]) rfl lkRL_29 rfl rfl rfl (Nat.le_of_ble_eq_true rfl) (Nat.le_of_ble_eq_true rfl) (F_X0_boat (T := yw Y [.inl (2, 1, .inr (.inl o))]) hc)) rfl rfl (Nat.le_of_ble_eq_true rfl) (Nat.le_of_ble_eq_true rfl) (fun z hz => by
      simp only [List.mem_cons, List.not_mem_nil, or_false] at hz
      rcases hz with rfl
      · exact ⟨by decide, xA, le_13, by decide +kernel⟩) (by decide) (by decide) le_15 (by decide +kernel) (by decide) rfl (Or.inl ⟨rfl, rfl⟩) ?_
  refine mr_iconst (pc := 21) (v := 2) rfl (by decide) ?_
  exact mr_ireturn (pc := 22) rfl rfl (Nat.le_of_ble_eq_true rfl) (Nat.le_of_ble_eq_true rfl)
set_option maxRecDepth 100000 in
set_option maxHeartbeats 4000000 in
theorem H_boat_xN {S : Nat × (Nat → Int32)} {X X' : cS} {Y : rS} {o : Nat → Int64} {a1 a2 a3 : Int32} (hc : g_X0_boat X a1 a2 a3 = some (.inr xN, X')) : mF S ML_boat 0 (mEnt [.ref 0, .int a1, .int a2, .int a3, .ref 17] 6) [] (lw X Y o) 0 0 (.inl (some (.int 3)), lw X' Y o, 4, 32) := by
  refine mr_aload (pc := 0) (x := 17) rfl rfl ?_
  refine mr_iconst (pc := 2) (v := 0) rfl (by decide) ?_
  refine mr_aload_n (pc := 3) (x := 0) rfl rfl ?_
  refine mr_iload_n (pc := 4) rfl rfl ?_
  refine mr_iload_n (pc := 5) rfl rfl ?_
  refine mr_iload_n (pc := 6) rfl rfl ?_
  refine mr_caught (i := 5) (len := 2) [(0, 12, 15, 13), (0, 12, 19, 15)] (0, 12, 23, 21) [(0, 12, 27, 33)] (mRunV (pc := 7) (q := 0) (As := [.int a1, .int a2, .int a3]) (rest := [.int 0, .ref 17]) rfl lkRL_29 rfl rfl rfl (Nat.le_of_ble_eq_true rfl) (Nat.le_of_ble_eq_true rfl) (F_X0_boat (T := yw Y [.inl (2, 1, .inr (.inl o))]) hc)) rfl rfl (Nat.le_of_ble_eq_true rfl) (Nat.le_of_ble_eq_true rfl) (fun z hz => by
      simp only [List.mem_cons, List.not_mem_nil, or_false] at hz
      rcases hz with rfl | rfl
      · exact ⟨by decide, xA, le_13, by decide +kernel⟩
      · exact ⟨by decide, xI, le_15, by decide +kernel⟩) (by decide) (by decide) le_21 (by decide +kernel) (by decide) rfl (Or.inl ⟨rfl, rfl⟩) ?_
  refine mr_iconst (pc := 25) (v := 3) rfl (by decide) ?_
  exact mr_ireturn (pc := 26) rfl rfl (Nat.le_of_ble_eq_true rfl) (Nat.le_of_ble_eq_true rfl)
set_option maxRecDepth 100000 in
set_option maxHeartbeats 4000000 in
theorem H_boat_xU {S : Nat × (Nat → Int32)} {X X' : cS} {Y : rS} {o : Nat → Int64} {a1 a2 a3 : Int32} (hc : g_X0_boat X a1 a2 a3 = some (.inr xU, X')) : mF S ML_boat 0 (mEnt [.ref 0, .int a1, .int a2, .int a3, .ref 17] 6) [] (lw X Y o) 0 0 (.inl (some (.int 4)), lw X' Y o, 4, 32) := by
  refine mr_aload (pc := 0) (x := 17) rfl rfl ?_
  refine mr_iconst (pc := 2) (v := 0) rfl (by decide) ?_
  refine mr_aload_n (pc := 3) (x := 0) rfl rfl ?_
  refine mr_iload_n (pc := 4) rfl rfl ?_
  refine mr_iload_n (pc := 5) rfl rfl ?_
  refine mr_iload_n (pc := 6) rfl rfl ?_
  refine mr_caught (i := 5) (len := 2) [(0, 12, 15, 13), (0, 12, 19, 15), (0, 12, 23, 21)] (0, 12, 27, 33) [] (mRunV (pc := 7) (q := 0) (As := [.int a1, .int a2, .int a3]) (rest := [.int 0, .ref 17]) rfl lkRL_29 rfl rfl rfl (Nat.le_of_ble_eq_true rfl) (Nat.le_of_ble_eq_true rfl) (F_X0_boat (T := yw Y [.inl (2, 1, .inr (.inl o))]) hc)) rfl rfl (Nat.le_of_ble_eq_true rfl) (Nat.le_of_ble_eq_true rfl) (fun z hz => by
      simp only [List.mem_cons, List.not_mem_nil, or_false] at hz
      rcases hz with rfl | rfl | rfl
      · exact ⟨by decide, xA, le_13, by decide +kernel⟩
      · exact ⟨by decide, xI, le_15, by decide +kernel⟩
      · exact ⟨by decide, xN, le_21, by decide +kernel⟩) (by decide) (by decide) le_33 (by decide +kernel) (by decide) rfl (Or.inl ⟨rfl, rfl⟩) ?_
  refine mr_iconst (pc := 29) (v := 4) rfl (by decide) ?_
  exact mr_ireturn (pc := 30) rfl rfl (Nat.le_of_ble_eq_true rfl) (Nat.le_of_ble_eq_true rfl)
set_option maxRecDepth 100000 in
set_option maxHeartbeats 4000000 in
theorem H_gate_r {S : Nat × (Nat → Int32)} {X X' : cS} {Y : rS} {o : Nat → Int64} {a1 a2 : Int32} {v : Int32} (hc : g_X0_gate X a1 a2 = some (.inl (some (.int v)), X')) : mF S ML_gate 0 (mEnt [.ref 0, .int a1, .int a2, .ref 17] 5) [] (lw X Y o) 0 0 (.inl (some (.int 0)), lw X' Y (vp_updL o 0 v.toInt64), 2, 16) := by
  refine mr_aload_n (pc := 0) (x := 17) rfl rfl ?_
  refine mr_iconst (pc := 1) (v := 0) rfl (by decide) ?_
  refine mr_aload_n (pc := 2) (x := 0) rfl rfl ?_
  refine mr_iload_n (pc := 3) rfl rfl ?_
  refine mr_iload_n (pc := 4) rfl rfl ?_
  refine mr_ret (mRunV (pc := 5) (q := 0) (As := [.int a1, .int a2]) (rest := [.int 0, .ref 17]) rfl lkRL_35 rfl rfl rfl (Nat.le_of_ble_eq_true rfl) (Nat.le_of_ble_eq_true rfl) (F_X0_gate (T := yw Y [.inl (2, 1, .inr (.inl o))]) hc)) rfl (Nat.le_of_ble_eq_true rfl) (Nat.le_of_ble_eq_true rfl) ?_
  refine mr_i2l (pc := 8) rfl ?_
  refine ms_lastore (pc := 9) (q := 17) (N := 1) (f := o) (h' := lw X' Y (vp_updL o 0 v.toInt64)) rfl rfl (by decide) rfl ?_
  refine mr_goto (pc := 10) 21 rfl (by decide) ?_
  refine mr_iconst (pc := 21) (v := 0) rfl (by decide) ?_
  exact mr_ireturn (pc := 22) rfl rfl (Nat.le_of_ble_eq_true rfl) (Nat.le_of_ble_eq_true rfl)
set_option maxRecDepth 100000 in
set_option maxHeartbeats 4000000 in
theorem H_gate_xA {S : Nat × (Nat → Int32)} {X X' : cS} {Y : rS} {o : Nat → Int64} {a1 a2 : Int32} (hc : g_X0_gate X a1 a2 = some (.inr xA, X')) : mF S ML_gate 0 (mEnt [.ref 0, .int a1, .int a2, .ref 17] 5) [] (lw X Y o) 0 0 (.inl (some (.int 1)), lw X' Y o, 2, 16) := by
  refine mr_aload_n (pc := 0) (x := 17) rfl rfl ?_
  refine mr_iconst (pc := 1) (v := 0) rfl (by decide) ?_
  refine mr_aload_n (pc := 2) (x := 0) rfl rfl ?_
  refine mr_iload_n (pc := 3) rfl rfl ?_
  refine mr_iload_n (pc := 4) rfl rfl ?_
  refine mr_caught (i := 4) (len := 2) [] (0, 10, 13, 13) [(0, 10, 17, 15)] (mRunV (pc := 5) (q := 0) (As := [.int a1, .int a2]) (rest := [.int 0, .ref 17]) rfl lkRL_35 rfl rfl rfl (Nat.le_of_ble_eq_true rfl) (Nat.le_of_ble_eq_true rfl) (F_X0_gate (T := yw Y [.inl (2, 1, .inr (.inl o))]) hc)) rfl rfl (Nat.le_of_ble_eq_true rfl) (Nat.le_of_ble_eq_true rfl) (fun z hz => by cases hz) (by decide) (by decide) le_13 (by decide +kernel) (by decide) rfl (Or.inl ⟨rfl, rfl⟩) ?_
  refine mr_iconst (pc := 15) (v := 1) rfl (by decide) ?_
  exact mr_ireturn (pc := 16) rfl rfl (Nat.le_of_ble_eq_true rfl) (Nat.le_of_ble_eq_true rfl)
set_option maxRecDepth 100000 in
set_option maxHeartbeats 4000000 in
theorem H_gate_xI {S : Nat × (Nat → Int32)} {X X' : cS} {Y : rS} {o : Nat → Int64} {a1 a2 : Int32} (hc : g_X0_gate X a1 a2 = some (.inr xI, X')) : mF S ML_gate 0 (mEnt [.ref 0, .int a1, .int a2, .ref 17] 5) [] (lw X Y o) 0 0 (.inl (some (.int 2)), lw X' Y o, 2, 16) := by
  refine mr_aload_n (pc := 0) (x := 17) rfl rfl ?_
  refine mr_iconst (pc := 1) (v := 0) rfl (by decide) ?_
  refine mr_aload_n (pc := 2) (x := 0) rfl rfl ?_
  refine mr_iload_n (pc := 3) rfl rfl ?_
  refine mr_iload_n (pc := 4) rfl rfl ?_
  refine mr_caught (i := 4) (len := 2) [(0, 10, 13, 13)] (0, 10, 17, 15) [] (mRunV (pc := 5) (q := 0) (As := [.int a1, .int a2]) (rest := [.int 0, .ref 17]) rfl lkRL_35 rfl rfl rfl (Nat.le_of_ble_eq_true rfl) (Nat.le_of_ble_eq_true rfl) (F_X0_gate (T := yw Y [.inl (2, 1, .inr (.inl o))]) hc)) rfl rfl (Nat.le_of_ble_eq_true rfl) (Nat.le_of_ble_eq_true rfl) (fun z hz => by
      simp only [List.mem_cons, List.not_mem_nil, or_false] at hz
      rcases hz with rfl
      · exact ⟨by decide, xA, le_13, by decide +kernel⟩) (by decide) (by decide) le_15 (by decide +kernel) (by decide) rfl (Or.inl ⟨rfl, rfl⟩) ?_
  refine mr_iconst (pc := 19) (v := 2) rfl (by decide) ?_
  exact mr_ireturn (pc := 20) rfl rfl (Nat.le_of_ble_eq_true rfl) (Nat.le_of_ble_eq_true rfl)
set_option maxRecDepth 100000 in
set_option maxHeartbeats 4000000 in
theorem H_level_r {S : Nat × (Nat → Int32)} {X X' : cS} {Y : rS} {o : Nat → Int64} {a1 : Int32} {v : Int32} (hc : g_X0_level X a1 = some (.inl (some (.int v)), X')) : mF S ML_level 0 (mEnt [.ref 0, .int a1, .ref 17] 4) [] (lw X Y o) 0 0 (.inl (some (.int 0)), lw X' Y (vp_updL o 0 v.toInt64), 2, 16) := by
  refine mr_aload_n (pc := 0) (x := 17) rfl rfl ?_
  refine mr_iconst (pc := 1) (v := 0) rfl (by decide) ?_
  refine mr_aload_n (pc := 2) (x := 0) rfl rfl ?_
  refine mr_iload_n (pc := 3) rfl rfl ?_
  refine mr_ret (mRunV (pc := 4) (q := 0) (As := [.int a1]) (rest := [.int 0, .ref 17]) rfl lkRL_38 rfl rfl rfl (Nat.le_of_ble_eq_true rfl) (Nat.le_of_ble_eq_true rfl) (F_X0_level (T := yw Y [.inl (2, 1, .inr (.inl o))]) hc)) rfl (Nat.le_of_ble_eq_true rfl) (Nat.le_of_ble_eq_true rfl) ?_
  refine mr_i2l (pc := 7) rfl ?_
  refine ms_lastore (pc := 8) (q := 17) (N := 1) (f := o) (h' := lw X' Y (vp_updL o 0 v.toInt64)) rfl rfl (by decide) rfl ?_
  refine mr_goto (pc := 9) 24 rfl (by decide) ?_
  refine mr_iconst (pc := 24) (v := 0) rfl (by decide) ?_
  exact mr_ireturn (pc := 25) rfl rfl (Nat.le_of_ble_eq_true rfl) (Nat.le_of_ble_eq_true rfl)
set_option maxRecDepth 100000 in
set_option maxHeartbeats 4000000 in
theorem H_level_xA {S : Nat × (Nat → Int32)} {X X' : cS} {Y : rS} {o : Nat → Int64} {a1 : Int32} (hc : g_X0_level X a1 = some (.inr xA, X')) : mF S ML_level 0 (mEnt [.ref 0, .int a1, .ref 17] 4) [] (lw X Y o) 0 0 (.inl (some (.int 1)), lw X' Y o, 2, 16) := by
  refine mr_aload_n (pc := 0) (x := 17) rfl rfl ?_
  refine mr_iconst (pc := 1) (v := 0) rfl (by decide) ?_
  refine mr_aload_n (pc := 2) (x := 0) rfl rfl ?_
  refine mr_iload_n (pc := 3) rfl rfl ?_
  refine mr_caught (i := 3) (len := 1) [] (0, 9, 12, 13) [(0, 9, 15, 21), (0, 9, 18, 41), (0, 9, 21, 43)] (mRunV (pc := 4) (q := 0) (As := [.int a1]) (rest := [.int 0, .ref 17]) rfl lkRL_38 rfl rfl rfl (Nat.le_of_ble_eq_true rfl) (Nat.le_of_ble_eq_true rfl) (F_X0_level (T := yw Y [.inl (2, 1, .inr (.inl o))]) hc)) rfl rfl (Nat.le_of_ble_eq_true rfl) (Nat.le_of_ble_eq_true rfl) (fun z hz => by cases hz) (by decide) (by decide) le_13 (by decide +kernel) (by decide) rfl (Or.inr ⟨3, rfl, rfl, rfl⟩) ?_
  refine mr_iconst (pc := 13) (v := 1) rfl (by decide) ?_
  exact mr_ireturn (pc := 14) rfl rfl (Nat.le_of_ble_eq_true rfl) (Nat.le_of_ble_eq_true rfl)
set_option maxRecDepth 100000 in
set_option maxHeartbeats 4000000 in
theorem H_level_xN {S : Nat × (Nat → Int32)} {X X' : cS} {Y : rS} {o : Nat → Int64} {a1 : Int32} (hc : g_X0_level X a1 = some (.inr xN, X')) : mF S ML_level 0 (mEnt [.ref 0, .int a1, .ref 17] 4) [] (lw X Y o) 0 0 (.inl (some (.int 2)), lw X' Y o, 2, 16) := by
  refine mr_aload_n (pc := 0) (x := 17) rfl rfl ?_
  refine mr_iconst (pc := 1) (v := 0) rfl (by decide) ?_
  refine mr_aload_n (pc := 2) (x := 0) rfl rfl ?_
  refine mr_iload_n (pc := 3) rfl rfl ?_
  refine mr_caught (i := 3) (len := 1) [(0, 9, 12, 13)] (0, 9, 15, 21) [(0, 9, 18, 41), (0, 9, 21, 43)] (mRunV (pc := 4) (q := 0) (As := [.int a1]) (rest := [.int 0, .ref 17]) rfl lkRL_38 rfl rfl rfl (Nat.le_of_ble_eq_true rfl) (Nat.le_of_ble_eq_true rfl) (F_X0_level (T := yw Y [.inl (2, 1, .inr (.inl o))]) hc)) rfl rfl (Nat.le_of_ble_eq_true rfl) (Nat.le_of_ble_eq_true rfl) (fun z hz => by
      simp only [List.mem_cons, List.not_mem_nil, or_false] at hz
      rcases hz with rfl
      · exact ⟨by decide, xA, le_13, by decide +kernel⟩) (by decide) (by decide) le_21 (by decide +kernel) (by decide) rfl (Or.inr ⟨3, rfl, rfl, rfl⟩) ?_
  refine mr_iconst (pc := 16) (v := 2) rfl (by decide) ?_
  exact mr_ireturn (pc := 17) rfl rfl (Nat.le_of_ble_eq_true rfl) (Nat.le_of_ble_eq_true rfl)
set_option maxRecDepth 100000 in
set_option maxHeartbeats 4000000 in
theorem H_level_xS {S : Nat × (Nat → Int32)} {X X' : cS} {Y : rS} {o : Nat → Int64} {a1 : Int32} (hc : g_X0_level X a1 = some (.inr xS, X')) : mF S ML_level 0 (mEnt [.ref 0, .int a1, .ref 17] 4) [] (lw X Y o) 0 0 (.inl (some (.int 3)), lw X' Y o, 2, 16) := by
  refine mr_aload_n (pc := 0) (x := 17) rfl rfl ?_
  refine mr_iconst (pc := 1) (v := 0) rfl (by decide) ?_
  refine mr_aload_n (pc := 2) (x := 0) rfl rfl ?_
  refine mr_iload_n (pc := 3) rfl rfl ?_
  refine mr_caught (i := 3) (len := 1) [(0, 9, 12, 13), (0, 9, 15, 21)] (0, 9, 18, 41) [(0, 9, 21, 43)] (mRunV (pc := 4) (q := 0) (As := [.int a1]) (rest := [.int 0, .ref 17]) rfl lkRL_38 rfl rfl rfl (Nat.le_of_ble_eq_true rfl) (Nat.le_of_ble_eq_true rfl) (F_X0_level (T := yw Y [.inl (2, 1, .inr (.inl o))]) hc)) rfl rfl (Nat.le_of_ble_eq_true rfl) (Nat.le_of_ble_eq_true rfl) (fun z hz => by
      simp only [List.mem_cons, List.not_mem_nil, or_false] at hz
      rcases hz with rfl | rfl
      · exact ⟨by decide, xA, le_13, by decide +kernel⟩
      · exact ⟨by decide, xN, le_21, by decide +kernel⟩) (by decide) (by decide) le_41 (by decide +kernel) (by decide) rfl (Or.inr ⟨3, rfl, rfl, rfl⟩) ?_
  refine mr_iconst (pc := 19) (v := 3) rfl (by decide) ?_
  exact mr_ireturn (pc := 20) rfl rfl (Nat.le_of_ble_eq_true rfl) (Nat.le_of_ble_eq_true rfl)
set_option maxRecDepth 100000 in
set_option maxHeartbeats 4000000 in
theorem H_level_xD {S : Nat × (Nat → Int32)} {X X' : cS} {Y : rS} {o : Nat → Int64} {a1 : Int32} (hc : g_X0_level X a1 = some (.inr xD, X')) : mF S ML_level 0 (mEnt [.ref 0, .int a1, .ref 17] 4) [] (lw X Y o) 0 0 (.inl (some (.int 4)), lw X' Y o, 2, 16) := by
  refine mr_aload_n (pc := 0) (x := 17) rfl rfl ?_
  refine mr_iconst (pc := 1) (v := 0) rfl (by decide) ?_
  refine mr_aload_n (pc := 2) (x := 0) rfl rfl ?_
  refine mr_iload_n (pc := 3) rfl rfl ?_
  refine mr_caught (i := 3) (len := 1) [(0, 9, 12, 13), (0, 9, 15, 21), (0, 9, 18, 41)] (0, 9, 21, 43) [] (mRunV (pc := 4) (q := 0) (As := [.int a1]) (rest := [.int 0, .ref 17]) rfl lkRL_38 rfl rfl rfl (Nat.le_of_ble_eq_true rfl) (Nat.le_of_ble_eq_true rfl) (F_X0_level (T := yw Y [.inl (2, 1, .inr (.inl o))]) hc)) rfl rfl (Nat.le_of_ble_eq_true rfl) (Nat.le_of_ble_eq_true rfl) (fun z hz => by
      simp only [List.mem_cons, List.not_mem_nil, or_false] at hz
      rcases hz with rfl | rfl | rfl
      · exact ⟨by decide, xA, le_13, by decide +kernel⟩
      · exact ⟨by decide, xN, le_21, by decide +kernel⟩
      · exact ⟨by decide, xS, le_41, by decide +kernel⟩) (by decide) (by decide) le_43 (by decide +kernel) (by decide) rfl (Or.inr ⟨3, rfl, rfl, rfl⟩) ?_
  refine mr_iconst (pc := 22) (v := 4) rfl (by decide) ?_
  exact mr_ireturn (pc := 23) rfl rfl (Nat.le_of_ble_eq_true rfl) (Nat.le_of_ble_eq_true rfl)
set_option maxRecDepth 100000 in
set_option maxHeartbeats 4000000 in
theorem H_pass_r {S : Nat × (Nat → Int32)} {X X' : cS} {Y : rS} {o : Nat → Int64} {a1 a2 : Int32} {v : Int32} (hc : g_X0_pass X a1 a2 = some (.inl (some (.int v)), X')) : mF S ML_pass 0 (mEnt [.ref 0, .int a1, .int a2, .ref 17] 5) [] (lw X Y o) 0 0 (.inl (some (.int 0)), lw X' Y (vp_updL o 0 v.toInt64), 3, 24) := by
  refine mr_aload_n (pc := 0) (x := 17) rfl rfl ?_
  refine mr_iconst (pc := 1) (v := 0) rfl (by decide) ?_
  refine mr_aload_n (pc := 2) (x := 0) rfl rfl ?_
  refine mr_iload_n (pc := 3) rfl rfl ?_
  refine mr_iload_n (pc := 4) rfl rfl ?_
  refine mr_ret (mRunV (pc := 5) (q := 0) (As := [.int a1, .int a2]) (rest := [.int 0, .ref 17]) rfl lkRL_45 rfl rfl rfl (Nat.le_of_ble_eq_true rfl) (Nat.le_of_ble_eq_true rfl) (F_X0_pass (T := yw Y [.inl (2, 1, .inr (.inl o))]) hc)) rfl (Nat.le_of_ble_eq_true rfl) (Nat.le_of_ble_eq_true rfl) ?_
  refine mr_i2l (pc := 8) rfl ?_
  refine ms_lastore (pc := 9) (q := 17) (N := 1) (f := o) (h' := lw X' Y (vp_updL o 0 v.toInt64)) rfl rfl (by decide) rfl ?_
  refine mr_goto (pc := 10) 33 rfl (by decide) ?_
  refine mr_iconst (pc := 33) (v := 0) rfl (by decide) ?_
  exact mr_ireturn (pc := 34) rfl rfl (Nat.le_of_ble_eq_true rfl) (Nat.le_of_ble_eq_true rfl)
set_option maxRecDepth 100000 in
set_option maxHeartbeats 4000000 in
theorem H_pass_xA {S : Nat × (Nat → Int32)} {X X' : cS} {Y : rS} {o : Nat → Int64} {a1 a2 : Int32} (hc : g_X0_pass X a1 a2 = some (.inr xA, X')) : mF S ML_pass 0 (mEnt [.ref 0, .int a1, .int a2, .ref 17] 5) [] (lw X Y o) 0 0 (.inl (some (.int 1)), lw X' Y o, 3, 24) := by
  refine mr_aload_n (pc := 0) (x := 17) rfl rfl ?_
  refine mr_iconst (pc := 1) (v := 0) rfl (by decide) ?_
  refine mr_aload_n (pc := 2) (x := 0) rfl rfl ?_
  refine mr_iload_n (pc := 3) rfl rfl ?_
  refine mr_iload_n (pc := 4) rfl rfl ?_
  refine mr_caught (i := 4) (len := 2) [] (0, 10, 13, 13) [(0, 10, 17, 21), (0, 10, 21, 41), (0, 10, 25, 33), (0, 10, 29, 43)] (mRunV (pc := 5) (q := 0) (As := [.int a1, .int a2]) (rest := [.int 0, .ref 17]) rfl lkRL_45 rfl rfl rfl (Nat.le_of_ble_eq_true rfl) (Nat.le_of_ble_eq_true rfl) (F_X0_pass (T := yw Y [.inl (2, 1, .inr (.inl o))]) hc)) rfl rfl (Nat.le_of_ble_eq_true rfl) (Nat.le_of_ble_eq_true rfl) (fun z hz => by cases hz) (by decide) (by decide) le_13 (by decide +kernel) (by decide) rfl (Or.inl ⟨rfl, rfl⟩) ?_
  refine mr_iconst (pc := 15) (v := 1) rfl (by decide) ?_
  exact mr_ireturn (pc := 16) rfl rfl (Nat.le_of_ble_eq_true rfl) (Nat.le_of_ble_eq_true rfl)
set_option maxRecDepth 100000 in
set_option maxHeartbeats 4000000 in
theorem H_pass_xN {S : Nat × (Nat → Int32)} {X X' : cS} {Y : rS} {o : Nat → Int64} {a1 a2 : Int32} (hc : g_X0_pass X a1 a2 = some (.inr xN, X')) : mF S ML_pass 0 (mEnt [.ref 0, .int a1, .int a2, .ref 17] 5) [] (lw X Y o) 0 0 (.inl (some (.int 2)), lw X' Y o, 3, 24) := by
  refine mr_aload_n (pc := 0) (x := 17) rfl rfl ?_
  refine mr_iconst (pc := 1) (v := 0) rfl (by decide) ?_
  refine mr_aload_n (pc := 2) (x := 0) rfl rfl ?_
  refine mr_iload_n (pc := 3) rfl rfl ?_
  refine mr_iload_n (pc := 4) rfl rfl ?_
  refine mr_caught (i := 4) (len := 2) [(0, 10, 13, 13)] (0, 10, 17, 21) [(0, 10, 21, 41), (0, 10, 25, 33), (0, 10, 29, 43)] (mRunV (pc := 5) (q := 0) (As := [.int a1, .int a2]) (rest := [.int 0, .ref 17]) rfl lkRL_45 rfl rfl rfl (Nat.le_of_ble_eq_true rfl) (Nat.le_of_ble_eq_true rfl) (F_X0_pass (T := yw Y [.inl (2, 1, .inr (.inl o))]) hc)) rfl rfl (Nat.le_of_ble_eq_true rfl) (Nat.le_of_ble_eq_true rfl) (fun z hz => by
      simp only [List.mem_cons, List.not_mem_nil, or_false] at hz
      rcases hz with rfl
      · exact ⟨by decide, xA, le_13, by decide +kernel⟩) (by decide) (by decide) le_21 (by decide +kernel) (by decide) rfl (Or.inl ⟨rfl, rfl⟩) ?_
  refine mr_iconst (pc := 19) (v := 2) rfl (by decide) ?_
  exact mr_ireturn (pc := 20) rfl rfl (Nat.le_of_ble_eq_true rfl) (Nat.le_of_ble_eq_true rfl)
set_option maxRecDepth 100000 in
set_option maxHeartbeats 4000000 in
theorem H_pass_xS {S : Nat × (Nat → Int32)} {X X' : cS} {Y : rS} {o : Nat → Int64} {a1 a2 : Int32} (hc : g_X0_pass X a1 a2 = some (.inr xS, X')) : mF S ML_pass 0 (mEnt [.ref 0, .int a1, .int a2, .ref 17] 5) [] (lw X Y o) 0 0 (.inl (some (.int 3)), lw X' Y o, 3, 24) := by
  refine mr_aload_n (pc := 0) (x := 17) rfl rfl ?_
  refine mr_iconst (pc := 1) (v := 0) rfl (by decide) ?_
  refine mr_aload_n (pc := 2) (x := 0) rfl rfl ?_
  refine mr_iload_n (pc := 3) rfl rfl ?_
  refine mr_iload_n (pc := 4) rfl rfl ?_
  refine mr_caught (i := 4) (len := 2) [(0, 10, 13, 13), (0, 10, 17, 21)] (0, 10, 21, 41) [(0, 10, 25, 33), (0, 10, 29, 43)] (mRunV (pc := 5) (q := 0) (As := [.int a1, .int a2]) (rest := [.int 0, .ref 17]) rfl lkRL_45 rfl rfl rfl (Nat.le_of_ble_eq_true rfl) (Nat.le_of_ble_eq_true rfl) (F_X0_pass (T := yw Y [.inl (2, 1, .inr (.inl o))]) hc)) rfl rfl (Nat.le_of_ble_eq_true rfl) (Nat.le_of_ble_eq_true rfl) (fun z hz => by
      simp only [List.mem_cons, List.not_mem_nil, or_false] at hz
      rcases hz with rfl | rfl
      · exact ⟨by decide, xA, le_13, by decide +kernel⟩
      · exact ⟨by decide, xN, le_21, by decide +kernel⟩) (by decide) (by decide) le_41 (by decide +kernel) (by decide) rfl (Or.inl ⟨rfl, rfl⟩) ?_
  refine mr_iconst (pc := 23) (v := 3) rfl (by decide) ?_
  exact mr_ireturn (pc := 24) rfl rfl (Nat.le_of_ble_eq_true rfl) (Nat.le_of_ble_eq_true rfl)
set_option maxRecDepth 100000 in
set_option maxHeartbeats 4000000 in
theorem H_pass_xU {S : Nat × (Nat → Int32)} {X X' : cS} {Y : rS} {o : Nat → Int64} {a1 a2 : Int32} (hc : g_X0_pass X a1 a2 = some (.inr xU, X')) : mF S ML_pass 0 (mEnt [.ref 0, .int a1, .int a2, .ref 17] 5) [] (lw X Y o) 0 0 (.inl (some (.int 4)), lw X' Y o, 3, 24) := by
  refine mr_aload_n (pc := 0) (x := 17) rfl rfl ?_
  refine mr_iconst (pc := 1) (v := 0) rfl (by decide) ?_
  refine mr_aload_n (pc := 2) (x := 0) rfl rfl ?_
  refine mr_iload_n (pc := 3) rfl rfl ?_
  refine mr_iload_n (pc := 4) rfl rfl ?_
  refine mr_caught (i := 4) (len := 2) [(0, 10, 13, 13), (0, 10, 17, 21), (0, 10, 21, 41)] (0, 10, 25, 33) [(0, 10, 29, 43)] (mRunV (pc := 5) (q := 0) (As := [.int a1, .int a2]) (rest := [.int 0, .ref 17]) rfl lkRL_45 rfl rfl rfl (Nat.le_of_ble_eq_true rfl) (Nat.le_of_ble_eq_true rfl) (F_X0_pass (T := yw Y [.inl (2, 1, .inr (.inl o))]) hc)) rfl rfl (Nat.le_of_ble_eq_true rfl) (Nat.le_of_ble_eq_true rfl) (fun z hz => by
      simp only [List.mem_cons, List.not_mem_nil, or_false] at hz
      rcases hz with rfl | rfl | rfl
      · exact ⟨by decide, xA, le_13, by decide +kernel⟩
      · exact ⟨by decide, xN, le_21, by decide +kernel⟩
      · exact ⟨by decide, xS, le_41, by decide +kernel⟩) (by decide) (by decide) le_33 (by decide +kernel) (by decide) rfl (Or.inl ⟨rfl, rfl⟩) ?_
  refine mr_iconst (pc := 27) (v := 4) rfl (by decide) ?_
  exact mr_ireturn (pc := 28) rfl rfl (Nat.le_of_ble_eq_true rfl) (Nat.le_of_ble_eq_true rfl)
set_option maxRecDepth 100000 in
set_option maxHeartbeats 4000000 in
theorem H_pass_xD {S : Nat × (Nat → Int32)} {X X' : cS} {Y : rS} {o : Nat → Int64} {a1 a2 : Int32} (hc : g_X0_pass X a1 a2 = some (.inr xD, X')) : mF S ML_pass 0 (mEnt [.ref 0, .int a1, .int a2, .ref 17] 5) [] (lw X Y o) 0 0 (.inl (some (.int 5)), lw X' Y o, 3, 24) := by
  refine mr_aload_n (pc := 0) (x := 17) rfl rfl ?_
  refine mr_iconst (pc := 1) (v := 0) rfl (by decide) ?_
  refine mr_aload_n (pc := 2) (x := 0) rfl rfl ?_
  refine mr_iload_n (pc := 3) rfl rfl ?_
  refine mr_iload_n (pc := 4) rfl rfl ?_
  refine mr_caught (i := 4) (len := 2) [(0, 10, 13, 13), (0, 10, 17, 21), (0, 10, 21, 41), (0, 10, 25, 33)] (0, 10, 29, 43) [] (mRunV (pc := 5) (q := 0) (As := [.int a1, .int a2]) (rest := [.int 0, .ref 17]) rfl lkRL_45 rfl rfl rfl (Nat.le_of_ble_eq_true rfl) (Nat.le_of_ble_eq_true rfl) (F_X0_pass (T := yw Y [.inl (2, 1, .inr (.inl o))]) hc)) rfl rfl (Nat.le_of_ble_eq_true rfl) (Nat.le_of_ble_eq_true rfl) (fun z hz => by
      simp only [List.mem_cons, List.not_mem_nil, or_false] at hz
      rcases hz with rfl | rfl | rfl | rfl
      · exact ⟨by decide, xA, le_13, by decide +kernel⟩
      · exact ⟨by decide, xN, le_21, by decide +kernel⟩
      · exact ⟨by decide, xS, le_41, by decide +kernel⟩
      · exact ⟨by decide, xU, le_33, by decide +kernel⟩) (by decide) (by decide) le_43 (by decide +kernel) (by decide) rfl (Or.inl ⟨rfl, rfl⟩) ?_
  refine mr_iconst (pc := 31) (v := 5) rfl (by decide) ?_
  exact mr_ireturn (pc := 32) rfl rfl (Nat.le_of_ble_eq_true rfl) (Nat.le_of_ble_eq_true rfl)
set_option maxRecDepth 100000 in
set_option maxHeartbeats 4000000 in
theorem H_flight_r {S : Nat × (Nat → Int32)} {X X' : cS} {Y : rS} {o : Nat → Int64} {a1 a2 : Int32} {v : Int32} (hc : g_X0_flight X a1 a2 = some (.inl (some (.int v)), X')) : mF S ML_flight 0 (mEnt [.ref 0, .int a1, .int a2, .ref 17] 5) [] (lw X Y o) 0 0 (.inl (some (.int 0)), lw X' Y (vp_updL o 0 v.toInt64), 3, 24) := by
  refine mr_aload_n (pc := 0) (x := 17) rfl rfl ?_
  refine mr_iconst (pc := 1) (v := 0) rfl (by decide) ?_
  refine mr_aload_n (pc := 2) (x := 0) rfl rfl ?_
  refine mr_iload_n (pc := 3) rfl rfl ?_
  refine mr_iload_n (pc := 4) rfl rfl ?_
  refine mr_ret (mRunV (pc := 5) (q := 0) (As := [.int a1, .int a2]) (rest := [.int 0, .ref 17]) rfl lkRL_49 rfl rfl rfl (Nat.le_of_ble_eq_true rfl) (Nat.le_of_ble_eq_true rfl) (F_X0_flight (T := yw Y [.inl (2, 1, .inr (.inl o))]) hc)) rfl (Nat.le_of_ble_eq_true rfl) (Nat.le_of_ble_eq_true rfl) ?_
  refine mr_i2l (pc := 8) rfl ?_
  refine ms_lastore (pc := 9) (q := 17) (N := 1) (f := o) (h' := lw X' Y (vp_updL o 0 v.toInt64)) rfl rfl (by decide) rfl ?_
  refine mr_goto (pc := 10) 33 rfl (by decide) ?_
  refine mr_iconst (pc := 33) (v := 0) rfl (by decide) ?_
  exact mr_ireturn (pc := 34) rfl rfl (Nat.le_of_ble_eq_true rfl) (Nat.le_of_ble_eq_true rfl)
set_option maxRecDepth 100000 in
set_option maxHeartbeats 4000000 in
theorem H_flight_xA {S : Nat × (Nat → Int32)} {X X' : cS} {Y : rS} {o : Nat → Int64} {a1 a2 : Int32} (hc : g_X0_flight X a1 a2 = some (.inr xA, X')) : mF S ML_flight 0 (mEnt [.ref 0, .int a1, .int a2, .ref 17] 5) [] (lw X Y o) 0 0 (.inl (some (.int 1)), lw X' Y o, 3, 24) := by
  refine mr_aload_n (pc := 0) (x := 17) rfl rfl ?_
  refine mr_iconst (pc := 1) (v := 0) rfl (by decide) ?_
  refine mr_aload_n (pc := 2) (x := 0) rfl rfl ?_
  refine mr_iload_n (pc := 3) rfl rfl ?_
  refine mr_iload_n (pc := 4) rfl rfl ?_
  refine mr_caught (i := 4) (len := 2) [] (0, 10, 13, 13) [(0, 10, 17, 21), (0, 10, 21, 41), (0, 10, 25, 33), (0, 10, 29, 43)] (mRunV (pc := 5) (q := 0) (As := [.int a1, .int a2]) (rest := [.int 0, .ref 17]) rfl lkRL_49 rfl rfl rfl (Nat.le_of_ble_eq_true rfl) (Nat.le_of_ble_eq_true rfl) (F_X0_flight (T := yw Y [.inl (2, 1, .inr (.inl o))]) hc)) rfl rfl (Nat.le_of_ble_eq_true rfl) (Nat.le_of_ble_eq_true rfl) (fun z hz => by cases hz) (by decide) (by decide) le_13 (by decide +kernel) (by decide) rfl (Or.inl ⟨rfl, rfl⟩) ?_
  refine mr_iconst (pc := 15) (v := 1) rfl (by decide) ?_
  exact mr_ireturn (pc := 16) rfl rfl (Nat.le_of_ble_eq_true rfl) (Nat.le_of_ble_eq_true rfl)
set_option maxRecDepth 100000 in
set_option maxHeartbeats 4000000 in
theorem H_flight_xN {S : Nat × (Nat → Int32)} {X X' : cS} {Y : rS} {o : Nat → Int64} {a1 a2 : Int32} (hc : g_X0_flight X a1 a2 = some (.inr xN, X')) : mF S ML_flight 0 (mEnt [.ref 0, .int a1, .int a2, .ref 17] 5) [] (lw X Y o) 0 0 (.inl (some (.int 2)), lw X' Y o, 3, 24) := by
  refine mr_aload_n (pc := 0) (x := 17) rfl rfl ?_
  refine mr_iconst (pc := 1) (v := 0) rfl (by decide) ?_
  refine mr_aload_n (pc := 2) (x := 0) rfl rfl ?_
  refine mr_iload_n (pc := 3) rfl rfl ?_
  refine mr_iload_n (pc := 4) rfl rfl ?_
  refine mr_caught (i := 4) (len := 2) [(0, 10, 13, 13)] (0, 10, 17, 21) [(0, 10, 21, 41), (0, 10, 25, 33), (0, 10, 29, 43)] (mRunV (pc := 5) (q := 0) (As := [.int a1, .int a2]) (rest := [.int 0, .ref 17]) rfl lkRL_49 rfl rfl rfl (Nat.le_of_ble_eq_true rfl) (Nat.le_of_ble_eq_true rfl) (F_X0_flight (T := yw Y [.inl (2, 1, .inr (.inl o))]) hc)) rfl rfl (Nat.le_of_ble_eq_true rfl) (Nat.le_of_ble_eq_true rfl) (fun z hz => by
      simp only [List.mem_cons, List.not_mem_nil, or_false] at hz
      rcases hz with rfl
      · exact ⟨by decide, xA, le_13, by decide +kernel⟩) (by decide) (by decide) le_21 (by decide +kernel) (by decide) rfl (Or.inl ⟨rfl, rfl⟩) ?_
  refine mr_iconst (pc := 19) (v := 2) rfl (by decide) ?_
  exact mr_ireturn (pc := 20) rfl rfl (Nat.le_of_ble_eq_true rfl) (Nat.le_of_ble_eq_true rfl)
set_option maxRecDepth 100000 in
set_option maxHeartbeats 4000000 in
theorem H_flight_xS {S : Nat × (Nat → Int32)} {X X' : cS} {Y : rS} {o : Nat → Int64} {a1 a2 : Int32} (hc : g_X0_flight X a1 a2 = some (.inr xS, X')) : mF S ML_flight 0 (mEnt [.ref 0, .int a1, .int a2, .ref 17] 5) [] (lw X Y o) 0 0 (.inl (some (.int 3)), lw X' Y o, 3, 24) := by
  refine mr_aload_n (pc := 0) (x := 17) rfl rfl ?_
  refine mr_iconst (pc := 1) (v := 0) rfl (by decide) ?_
  refine mr_aload_n (pc := 2) (x := 0) rfl rfl ?_
  refine mr_iload_n (pc := 3) rfl rfl ?_
  refine mr_iload_n (pc := 4) rfl rfl ?_
  refine mr_caught (i := 4) (len := 2) [(0, 10, 13, 13), (0, 10, 17, 21)] (0, 10, 21, 41) [(0, 10, 25, 33), (0, 10, 29, 43)] (mRunV (pc := 5) (q := 0) (As := [.int a1, .int a2]) (rest := [.int 0, .ref 17]) rfl lkRL_49 rfl rfl rfl (Nat.le_of_ble_eq_true rfl) (Nat.le_of_ble_eq_true rfl) (F_X0_flight (T := yw Y [.inl (2, 1, .inr (.inl o))]) hc)) rfl rfl (Nat.le_of_ble_eq_true rfl) (Nat.le_of_ble_eq_true rfl) (fun z hz => by
      simp only [List.mem_cons, List.not_mem_nil, or_false] at hz
      rcases hz with rfl | rfl
      · exact ⟨by decide, xA, le_13, by decide +kernel⟩
      · exact ⟨by decide, xN, le_21, by decide +kernel⟩) (by decide) (by decide) le_41 (by decide +kernel) (by decide) rfl (Or.inl ⟨rfl, rfl⟩) ?_
  refine mr_iconst (pc := 23) (v := 3) rfl (by decide) ?_
  exact mr_ireturn (pc := 24) rfl rfl (Nat.le_of_ble_eq_true rfl) (Nat.le_of_ble_eq_true rfl)
set_option maxRecDepth 100000 in
set_option maxHeartbeats 4000000 in
theorem H_flight_xU {S : Nat × (Nat → Int32)} {X X' : cS} {Y : rS} {o : Nat → Int64} {a1 a2 : Int32} (hc : g_X0_flight X a1 a2 = some (.inr xU, X')) : mF S ML_flight 0 (mEnt [.ref 0, .int a1, .int a2, .ref 17] 5) [] (lw X Y o) 0 0 (.inl (some (.int 4)), lw X' Y o, 3, 24) := by
  refine mr_aload_n (pc := 0) (x := 17) rfl rfl ?_
  refine mr_iconst (pc := 1) (v := 0) rfl (by decide) ?_
  refine mr_aload_n (pc := 2) (x := 0) rfl rfl ?_
  refine mr_iload_n (pc := 3) rfl rfl ?_
  refine mr_iload_n (pc := 4) rfl rfl ?_
  refine mr_caught (i := 4) (len := 2) [(0, 10, 13, 13), (0, 10, 17, 21), (0, 10, 21, 41)] (0, 10, 25, 33) [(0, 10, 29, 43)] (mRunV (pc := 5) (q := 0) (As := [.int a1, .int a2]) (rest := [.int 0, .ref 17]) rfl lkRL_49 rfl rfl rfl (Nat.le_of_ble_eq_true rfl) (Nat.le_of_ble_eq_true rfl) (F_X0_flight (T := yw Y [.inl (2, 1, .inr (.inl o))]) hc)) rfl rfl (Nat.le_of_ble_eq_true rfl) (Nat.le_of_ble_eq_true rfl) (fun z hz => by
      simp only [List.mem_cons, List.not_mem_nil, or_false] at hz
      rcases hz with rfl | rfl | rfl
      · exact ⟨by decide, xA, le_13, by decide +kernel⟩
      · exact ⟨by decide, xN, le_21, by decide +kernel⟩
      · exact ⟨by decide, xS, le_41, by decide +kernel⟩) (by decide) (by decide) le_33 (by decide +kernel) (by decide) rfl (Or.inl ⟨rfl, rfl⟩) ?_
  refine mr_iconst (pc := 27) (v := 4) rfl (by decide) ?_
  exact mr_ireturn (pc := 28) rfl rfl (Nat.le_of_ble_eq_true rfl) (Nat.le_of_ble_eq_true rfl)
set_option maxRecDepth 100000 in
set_option maxHeartbeats 4000000 in
theorem H_flight_xD {S : Nat × (Nat → Int32)} {X X' : cS} {Y : rS} {o : Nat → Int64} {a1 a2 : Int32} (hc : g_X0_flight X a1 a2 = some (.inr xD, X')) : mF S ML_flight 0 (mEnt [.ref 0, .int a1, .int a2, .ref 17] 5) [] (lw X Y o) 0 0 (.inl (some (.int 5)), lw X' Y o, 3, 24) := by
  refine mr_aload_n (pc := 0) (x := 17) rfl rfl ?_
  refine mr_iconst (pc := 1) (v := 0) rfl (by decide) ?_
  refine mr_aload_n (pc := 2) (x := 0) rfl rfl ?_
  refine mr_iload_n (pc := 3) rfl rfl ?_
  refine mr_iload_n (pc := 4) rfl rfl ?_
  refine mr_caught (i := 4) (len := 2) [(0, 10, 13, 13), (0, 10, 17, 21), (0, 10, 21, 41), (0, 10, 25, 33)] (0, 10, 29, 43) [] (mRunV (pc := 5) (q := 0) (As := [.int a1, .int a2]) (rest := [.int 0, .ref 17]) rfl lkRL_49 rfl rfl rfl (Nat.le_of_ble_eq_true rfl) (Nat.le_of_ble_eq_true rfl) (F_X0_flight (T := yw Y [.inl (2, 1, .inr (.inl o))]) hc)) rfl rfl (Nat.le_of_ble_eq_true rfl) (Nat.le_of_ble_eq_true rfl) (fun z hz => by
      simp only [List.mem_cons, List.not_mem_nil, or_false] at hz
      rcases hz with rfl | rfl | rfl | rfl
      · exact ⟨by decide, xA, le_13, by decide +kernel⟩
      · exact ⟨by decide, xN, le_21, by decide +kernel⟩
      · exact ⟨by decide, xS, le_41, by decide +kernel⟩
      · exact ⟨by decide, xU, le_33, by decide +kernel⟩) (by decide) (by decide) le_43 (by decide +kernel) (by decide) rfl (Or.inl ⟨rfl, rfl⟩) ?_
  refine mr_iconst (pc := 31) (v := 5) rfl (by decide) ?_
  exact mr_ireturn (pc := 32) rfl rfl (Nat.le_of_ble_eq_true rfl) (Nat.le_of_ble_eq_true rfl)
set_option maxRecDepth 100000 in
set_option maxHeartbeats 4000000 in
theorem H_trip_r {S : Nat × (Nat → Int32)} {X X' : cS} {Y : rS} {o : Nat → Int64} {a1 a2 : Int32} {v : Int32} (hc : g_X0_trip X a1 a2 = some (.inl (some (.int v)), X')) : mF S ML_trip 0 (mEnt [.ref 0, .int a1, .int a2, .ref 17] 5) [] (lw X Y o) 0 0 (.inl (some (.int 0)), lw X' Y (vp_updL o 0 v.toInt64), 2, 16) := by
  refine mr_aload_n (pc := 0) (x := 17) rfl rfl ?_
  refine mr_iconst (pc := 1) (v := 0) rfl (by decide) ?_
  refine mr_aload_n (pc := 2) (x := 0) rfl rfl ?_
  refine mr_iload_n (pc := 3) rfl rfl ?_
  refine mr_iload_n (pc := 4) rfl rfl ?_
  refine mr_ret (mRunV (pc := 5) (q := 0) (As := [.int a1, .int a2]) (rest := [.int 0, .ref 17]) rfl lkRL_52 rfl rfl rfl (Nat.le_of_ble_eq_true rfl) (Nat.le_of_ble_eq_true rfl) (F_X0_trip (T := yw Y [.inl (2, 1, .inr (.inl o))]) hc)) rfl (Nat.le_of_ble_eq_true rfl) (Nat.le_of_ble_eq_true rfl) ?_
  refine mr_i2l (pc := 8) rfl ?_
  refine ms_lastore (pc := 9) (q := 17) (N := 1) (f := o) (h' := lw X' Y (vp_updL o 0 v.toInt64)) rfl rfl (by decide) rfl ?_
  refine mr_goto (pc := 10) 17 rfl (by decide) ?_
  refine mr_iconst (pc := 17) (v := 0) rfl (by decide) ?_
  exact mr_ireturn (pc := 18) rfl rfl (Nat.le_of_ble_eq_true rfl) (Nat.le_of_ble_eq_true rfl)
set_option maxRecDepth 100000 in
set_option maxHeartbeats 4000000 in
theorem H_trip_xA {S : Nat × (Nat → Int32)} {X X' : cS} {Y : rS} {o : Nat → Int64} {a1 a2 : Int32} (hc : g_X0_trip X a1 a2 = some (.inr xA, X')) : mF S ML_trip 0 (mEnt [.ref 0, .int a1, .int a2, .ref 17] 5) [] (lw X Y o) 0 0 (.inl (some (.int 1)), lw X' Y o, 2, 16) := by
  refine mr_aload_n (pc := 0) (x := 17) rfl rfl ?_
  refine mr_iconst (pc := 1) (v := 0) rfl (by decide) ?_
  refine mr_aload_n (pc := 2) (x := 0) rfl rfl ?_
  refine mr_iload_n (pc := 3) rfl rfl ?_
  refine mr_iload_n (pc := 4) rfl rfl ?_
  refine mr_caught (i := 4) (len := 2) [] (0, 10, 13, 13) [] (mRunV (pc := 5) (q := 0) (As := [.int a1, .int a2]) (rest := [.int 0, .ref 17]) rfl lkRL_52 rfl rfl rfl (Nat.le_of_ble_eq_true rfl) (Nat.le_of_ble_eq_true rfl) (F_X0_trip (T := yw Y [.inl (2, 1, .inr (.inl o))]) hc)) rfl rfl (Nat.le_of_ble_eq_true rfl) (Nat.le_of_ble_eq_true rfl) (fun z hz => by cases hz) (by decide) (by decide) le_13 (by decide +kernel) (by decide) rfl (Or.inl ⟨rfl, rfl⟩) ?_
  refine mr_iconst (pc := 15) (v := 1) rfl (by decide) ?_
  exact mr_ireturn (pc := 16) rfl rfl (Nat.le_of_ble_eq_true rfl) (Nat.le_of_ble_eq_true rfl)
set_option maxRecDepth 100000 in
set_option maxHeartbeats 4000000 in
theorem H_convoy_r {S : Nat × (Nat → Int32)} {X X' : cS} {Y : rS} {o : Nat → Int64} {a1 a2 : Int32} {v : Int32} (hc : g_X0_convoy X a1 a2 = some (.inl (some (.int v)), X')) : mF S ML_convoy 0 (mEnt [.ref 0, .int a1, .int a2, .ref 17] 5) [] (lw X Y o) 0 0 (.inl (some (.int 0)), lw X' Y (vp_updL o 0 v.toInt64), 1, 8) := by
  refine mr_aload_n (pc := 0) (x := 17) rfl rfl ?_
  refine mr_iconst (pc := 1) (v := 0) rfl (by decide) ?_
  refine mr_aload_n (pc := 2) (x := 0) rfl rfl ?_
  refine mr_iload_n (pc := 3) rfl rfl ?_
  refine mr_iload_n (pc := 4) rfl rfl ?_
  refine mr_ret (mRunV (pc := 5) (q := 0) (As := [.int a1, .int a2]) (rest := [.int 0, .ref 17]) rfl lkRL_55 rfl rfl rfl (Nat.le_of_ble_eq_true rfl) (Nat.le_of_ble_eq_true rfl) (F_X0_convoy (T := yw Y [.inl (2, 1, .inr (.inl o))]) hc)) rfl (Nat.le_of_ble_eq_true rfl) (Nat.le_of_ble_eq_true rfl) ?_
  refine mr_i2l (pc := 8) rfl ?_
  refine ms_lastore (pc := 9) (q := 17) (N := 1) (f := o) (h' := lw X' Y (vp_updL o 0 v.toInt64)) rfl rfl (by decide) rfl ?_
  refine mr_goto (pc := 10) 17 rfl (by decide) ?_
  refine mr_iconst (pc := 17) (v := 0) rfl (by decide) ?_
  exact mr_ireturn (pc := 18) rfl rfl (Nat.le_of_ble_eq_true rfl) (Nat.le_of_ble_eq_true rfl)
set_option maxRecDepth 100000 in
set_option maxHeartbeats 4000000 in
theorem H_convoy_xI {S : Nat × (Nat → Int32)} {X X' : cS} {Y : rS} {o : Nat → Int64} {a1 a2 : Int32} (hc : g_X0_convoy X a1 a2 = some (.inr xI, X')) : mF S ML_convoy 0 (mEnt [.ref 0, .int a1, .int a2, .ref 17] 5) [] (lw X Y o) 0 0 (.inl (some (.int 1)), lw X' Y o, 1, 8) := by
  refine mr_aload_n (pc := 0) (x := 17) rfl rfl ?_
  refine mr_iconst (pc := 1) (v := 0) rfl (by decide) ?_
  refine mr_aload_n (pc := 2) (x := 0) rfl rfl ?_
  refine mr_iload_n (pc := 3) rfl rfl ?_
  refine mr_iload_n (pc := 4) rfl rfl ?_
  refine mr_caught (i := 4) (len := 2) [] (0, 10, 13, 15) [] (mRunV (pc := 5) (q := 0) (As := [.int a1, .int a2]) (rest := [.int 0, .ref 17]) rfl lkRL_55 rfl rfl rfl (Nat.le_of_ble_eq_true rfl) (Nat.le_of_ble_eq_true rfl) (F_X0_convoy (T := yw Y [.inl (2, 1, .inr (.inl o))]) hc)) rfl rfl (Nat.le_of_ble_eq_true rfl) (Nat.le_of_ble_eq_true rfl) (fun z hz => by cases hz) (by decide) (by decide) le_15 (by decide +kernel) (by decide) rfl (Or.inl ⟨rfl, rfl⟩) ?_
  refine mr_iconst (pc := 15) (v := 1) rfl (by decide) ?_
  exact mr_ireturn (pc := 16) rfl rfl (Nat.le_of_ble_eq_true rfl) (Nat.le_of_ble_eq_true rfl)
set_option maxRecDepth 100000 in
set_option maxHeartbeats 4000000 in
theorem H_share_r {S : Nat × (Nat → Int32)} {X X' : cS} {Y : rS} {o : Nat → Int64} {a1 a2 : Int32} {v : Int32} (hc : g_X0_share X a1 a2 = some (.inl (some (.int v)), X')) : mF S ML_share 0 (mEnt [.ref 0, .int a1, .int a2, .ref 17] 5) [] (lw X Y o) 0 0 (.inl (some (.int 0)), lw X' Y (vp_updL o 0 v.toInt64), 4, 32) := by
  refine mr_aload_n (pc := 0) (x := 17) rfl rfl ?_
  refine mr_iconst (pc := 1) (v := 0) rfl (by decide) ?_
  refine mr_aload_n (pc := 2) (x := 0) rfl rfl ?_
  refine mr_iload_n (pc := 3) rfl rfl ?_
  refine mr_iload_n (pc := 4) rfl rfl ?_
  refine mr_ret (mRunV (pc := 5) (q := 0) (As := [.int a1, .int a2]) (rest := [.int 0, .ref 17]) rfl lkRL_58 rfl rfl rfl (Nat.le_of_ble_eq_true rfl) (Nat.le_of_ble_eq_true rfl) (F_X0_share (T := yw Y [.inl (2, 1, .inr (.inl o))]) hc)) rfl (Nat.le_of_ble_eq_true rfl) (Nat.le_of_ble_eq_true rfl) ?_
  refine mr_i2l (pc := 8) rfl ?_
  refine ms_lastore (pc := 9) (q := 17) (N := 1) (f := o) (h' := lw X' Y (vp_updL o 0 v.toInt64)) rfl rfl (by decide) rfl ?_
  refine mr_goto (pc := 10) 25 rfl (by decide) ?_
  refine mr_iconst (pc := 25) (v := 0) rfl (by decide) ?_
  exact mr_ireturn (pc := 26) rfl rfl (Nat.le_of_ble_eq_true rfl) (Nat.le_of_ble_eq_true rfl)
set_option maxRecDepth 100000 in
set_option maxHeartbeats 4000000 in
theorem H_share_xA {S : Nat × (Nat → Int32)} {X X' : cS} {Y : rS} {o : Nat → Int64} {a1 a2 : Int32} (hc : g_X0_share X a1 a2 = some (.inr xA, X')) : mF S ML_share 0 (mEnt [.ref 0, .int a1, .int a2, .ref 17] 5) [] (lw X Y o) 0 0 (.inl (some (.int 1)), lw X' Y o, 4, 32) := by
  refine mr_aload_n (pc := 0) (x := 17) rfl rfl ?_
  refine mr_iconst (pc := 1) (v := 0) rfl (by decide) ?_
  refine mr_aload_n (pc := 2) (x := 0) rfl rfl ?_
  refine mr_iload_n (pc := 3) rfl rfl ?_
  refine mr_iload_n (pc := 4) rfl rfl ?_
  refine mr_caught (i := 4) (len := 2) [] (0, 10, 13, 13) [(0, 10, 17, 15), (0, 10, 21, 21)] (mRunV (pc := 5) (q := 0) (As := [.int a1, .int a2]) (rest := [.int 0, .ref 17]) rfl lkRL_58 rfl rfl rfl (Nat.le_of_ble_eq_true rfl) (Nat.le_of_ble_eq_true rfl) (F_X0_share (T := yw Y [.inl (2, 1, .inr (.inl o))]) hc)) rfl rfl (Nat.le_of_ble_eq_true rfl) (Nat.le_of_ble_eq_true rfl) (fun z hz => by cases hz) (by decide) (by decide) le_13 (by decide +kernel) (by decide) rfl (Or.inl ⟨rfl, rfl⟩) ?_
  refine mr_iconst (pc := 15) (v := 1) rfl (by decide) ?_
  exact mr_ireturn (pc := 16) rfl rfl (Nat.le_of_ble_eq_true rfl) (Nat.le_of_ble_eq_true rfl)
set_option maxRecDepth 100000 in
set_option maxHeartbeats 4000000 in
theorem H_share_xI {S : Nat × (Nat → Int32)} {X X' : cS} {Y : rS} {o : Nat → Int64} {a1 a2 : Int32} (hc : g_X0_share X a1 a2 = some (.inr xI, X')) : mF S ML_share 0 (mEnt [.ref 0, .int a1, .int a2, .ref 17] 5) [] (lw X Y o) 0 0 (.inl (some (.int 2)), lw X' Y o, 4, 32) := by
  refine mr_aload_n (pc := 0) (x := 17) rfl rfl ?_
  refine mr_iconst (pc := 1) (v := 0) rfl (by decide) ?_
  refine mr_aload_n (pc := 2) (x := 0) rfl rfl ?_
  refine mr_iload_n (pc := 3) rfl rfl ?_
  refine mr_iload_n (pc := 4) rfl rfl ?_
  refine mr_caught (i := 4) (len := 2) [(0, 10, 13, 13)] (0, 10, 17, 15) [(0, 10, 21, 21)] (mRunV (pc := 5) (q := 0) (As := [.int a1, .int a2]) (rest := [.int 0, .ref 17]) rfl lkRL_58 rfl rfl rfl (Nat.le_of_ble_eq_true rfl) (Nat.le_of_ble_eq_true rfl) (F_X0_share (T := yw Y [.inl (2, 1, .inr (.inl o))]) hc)) rfl rfl (Nat.le_of_ble_eq_true rfl) (Nat.le_of_ble_eq_true rfl) (fun z hz => by
      simp only [List.mem_cons, List.not_mem_nil, or_false] at hz
      rcases hz with rfl
      · exact ⟨by decide, xA, le_13, by decide +kernel⟩) (by decide) (by decide) le_15 (by decide +kernel) (by decide) rfl (Or.inl ⟨rfl, rfl⟩) ?_
  refine mr_iconst (pc := 19) (v := 2) rfl (by decide) ?_
  exact mr_ireturn (pc := 20) rfl rfl (Nat.le_of_ble_eq_true rfl) (Nat.le_of_ble_eq_true rfl)
set_option maxRecDepth 100000 in
set_option maxHeartbeats 4000000 in
theorem H_share_xN {S : Nat × (Nat → Int32)} {X X' : cS} {Y : rS} {o : Nat → Int64} {a1 a2 : Int32} (hc : g_X0_share X a1 a2 = some (.inr xN, X')) : mF S ML_share 0 (mEnt [.ref 0, .int a1, .int a2, .ref 17] 5) [] (lw X Y o) 0 0 (.inl (some (.int 3)), lw X' Y o, 4, 32) := by
  refine mr_aload_n (pc := 0) (x := 17) rfl rfl ?_
  refine mr_iconst (pc := 1) (v := 0) rfl (by decide) ?_
  refine mr_aload_n (pc := 2) (x := 0) rfl rfl ?_
  refine mr_iload_n (pc := 3) rfl rfl ?_
  refine mr_iload_n (pc := 4) rfl rfl ?_
  refine mr_caught (i := 4) (len := 2) [(0, 10, 13, 13), (0, 10, 17, 15)] (0, 10, 21, 21) [] (mRunV (pc := 5) (q := 0) (As := [.int a1, .int a2]) (rest := [.int 0, .ref 17]) rfl lkRL_58 rfl rfl rfl (Nat.le_of_ble_eq_true rfl) (Nat.le_of_ble_eq_true rfl) (F_X0_share (T := yw Y [.inl (2, 1, .inr (.inl o))]) hc)) rfl rfl (Nat.le_of_ble_eq_true rfl) (Nat.le_of_ble_eq_true rfl) (fun z hz => by
      simp only [List.mem_cons, List.not_mem_nil, or_false] at hz
      rcases hz with rfl | rfl
      · exact ⟨by decide, xA, le_13, by decide +kernel⟩
      · exact ⟨by decide, xI, le_15, by decide +kernel⟩) (by decide) (by decide) le_21 (by decide +kernel) (by decide) rfl (Or.inl ⟨rfl, rfl⟩) ?_
  refine mr_iconst (pc := 23) (v := 3) rfl (by decide) ?_
  exact mr_ireturn (pc := 24) rfl rfl (Nat.le_of_ble_eq_true rfl) (Nat.le_of_ble_eq_true rfl)
set_option maxRecDepth 100000 in
set_option maxHeartbeats 4000000 in
theorem H_pool_r {S : Nat × (Nat → Int32)} {X X' : cS} {Y : rS} {o : Nat → Int64} {a1 a2 : Int32} {v : Int32} (hc : g_X0_pool X a1 a2 = some (.inl (some (.int v)), X')) : mF S ML_pool 0 (mEnt [.ref 0, .int a1, .int a2, .ref 17] 5) [] (lw X Y o) 0 0 (.inl (some (.int 0)), lw X' Y (vp_updL o 0 v.toInt64), 2, 16) := by
  refine mr_aload_n (pc := 0) (x := 17) rfl rfl ?_
  refine mr_iconst (pc := 1) (v := 0) rfl (by decide) ?_
  refine mr_aload_n (pc := 2) (x := 0) rfl rfl ?_
  refine mr_iload_n (pc := 3) rfl rfl ?_
  refine mr_iload_n (pc := 4) rfl rfl ?_
  refine mr_ret (mRunV (pc := 5) (q := 0) (As := [.int a1, .int a2]) (rest := [.int 0, .ref 17]) rfl lkRL_61 rfl rfl rfl (Nat.le_of_ble_eq_true rfl) (Nat.le_of_ble_eq_true rfl) (F_X0_pool (T := yw Y [.inl (2, 1, .inr (.inl o))]) hc)) rfl (Nat.le_of_ble_eq_true rfl) (Nat.le_of_ble_eq_true rfl) ?_
  refine mr_i2l (pc := 8) rfl ?_
  refine ms_lastore (pc := 9) (q := 17) (N := 1) (f := o) (h' := lw X' Y (vp_updL o 0 v.toInt64)) rfl rfl (by decide) rfl ?_
  refine mr_goto (pc := 10) 21 rfl (by decide) ?_
  refine mr_iconst (pc := 21) (v := 0) rfl (by decide) ?_
  exact mr_ireturn (pc := 22) rfl rfl (Nat.le_of_ble_eq_true rfl) (Nat.le_of_ble_eq_true rfl)
set_option maxRecDepth 100000 in
set_option maxHeartbeats 4000000 in
theorem H_pool_xA {S : Nat × (Nat → Int32)} {X X' : cS} {Y : rS} {o : Nat → Int64} {a1 a2 : Int32} (hc : g_X0_pool X a1 a2 = some (.inr xA, X')) : mF S ML_pool 0 (mEnt [.ref 0, .int a1, .int a2, .ref 17] 5) [] (lw X Y o) 0 0 (.inl (some (.int 1)), lw X' Y o, 2, 16) := by
  refine mr_aload_n (pc := 0) (x := 17) rfl rfl ?_
  refine mr_iconst (pc := 1) (v := 0) rfl (by decide) ?_
  refine mr_aload_n (pc := 2) (x := 0) rfl rfl ?_
  refine mr_iload_n (pc := 3) rfl rfl ?_
  refine mr_iload_n (pc := 4) rfl rfl ?_
  refine mr_caught (i := 4) (len := 2) [] (0, 10, 13, 13) [(0, 10, 17, 21)] (mRunV (pc := 5) (q := 0) (As := [.int a1, .int a2]) (rest := [.int 0, .ref 17]) rfl lkRL_61 rfl rfl rfl (Nat.le_of_ble_eq_true rfl) (Nat.le_of_ble_eq_true rfl) (F_X0_pool (T := yw Y [.inl (2, 1, .inr (.inl o))]) hc)) rfl rfl (Nat.le_of_ble_eq_true rfl) (Nat.le_of_ble_eq_true rfl) (fun z hz => by cases hz) (by decide) (by decide) le_13 (by decide +kernel) (by decide) rfl (Or.inl ⟨rfl, rfl⟩) ?_
  refine mr_iconst (pc := 15) (v := 1) rfl (by decide) ?_
  exact mr_ireturn (pc := 16) rfl rfl (Nat.le_of_ble_eq_true rfl) (Nat.le_of_ble_eq_true rfl)
set_option maxRecDepth 100000 in
set_option maxHeartbeats 4000000 in
theorem H_pool_xN {S : Nat × (Nat → Int32)} {X X' : cS} {Y : rS} {o : Nat → Int64} {a1 a2 : Int32} (hc : g_X0_pool X a1 a2 = some (.inr xN, X')) : mF S ML_pool 0 (mEnt [.ref 0, .int a1, .int a2, .ref 17] 5) [] (lw X Y o) 0 0 (.inl (some (.int 2)), lw X' Y o, 2, 16) := by
  refine mr_aload_n (pc := 0) (x := 17) rfl rfl ?_
  refine mr_iconst (pc := 1) (v := 0) rfl (by decide) ?_
  refine mr_aload_n (pc := 2) (x := 0) rfl rfl ?_
  refine mr_iload_n (pc := 3) rfl rfl ?_
  refine mr_iload_n (pc := 4) rfl rfl ?_
  refine mr_caught (i := 4) (len := 2) [(0, 10, 13, 13)] (0, 10, 17, 21) [] (mRunV (pc := 5) (q := 0) (As := [.int a1, .int a2]) (rest := [.int 0, .ref 17]) rfl lkRL_61 rfl rfl rfl (Nat.le_of_ble_eq_true rfl) (Nat.le_of_ble_eq_true rfl) (F_X0_pool (T := yw Y [.inl (2, 1, .inr (.inl o))]) hc)) rfl rfl (Nat.le_of_ble_eq_true rfl) (Nat.le_of_ble_eq_true rfl) (fun z hz => by
      simp only [List.mem_cons, List.not_mem_nil, or_false] at hz
      rcases hz with rfl
      · exact ⟨by decide, xA, le_13, by decide +kernel⟩) (by decide) (by decide) le_21 (by decide +kernel) (by decide) rfl (Or.inl ⟨rfl, rfl⟩) ?_
  refine mr_iconst (pc := 19) (v := 2) rfl (by decide) ?_
  exact mr_ireturn (pc := 20) rfl rfl (Nat.le_of_ble_eq_true rfl) (Nat.le_of_ble_eq_true rfl)
set_option maxRecDepth 100000 in
set_option maxHeartbeats 4000000 in
theorem H_where_r {S : Nat × (Nat → Int32)} {X X' : cS} {Y : rS} {o : Nat → Int64} {a1 : Int32} {v : Int32} (hc : g_X0_where X a1 = some (.inl (some (.int v)), X')) : mF S ML_where 0 (mEnt [.ref 0, .int a1, .ref 17] 4) [] (lw X Y o) 0 0 (.inl (some (.int 0)), lw X' Y (vp_updL o 0 v.toInt64), 1, 8) := by
  refine mr_aload_n (pc := 0) (x := 17) rfl rfl ?_
  refine mr_iconst (pc := 1) (v := 0) rfl (by decide) ?_
  refine mr_aload_n (pc := 2) (x := 0) rfl rfl ?_
  refine mr_iload_n (pc := 3) rfl rfl ?_
  refine mr_ret (mRunV (pc := 4) (q := 0) (As := [.int a1]) (rest := [.int 0, .ref 17]) rfl lkRL_64 rfl rfl rfl (Nat.le_of_ble_eq_true rfl) (Nat.le_of_ble_eq_true rfl) (F_X0_where (T := yw Y [.inl (2, 1, .inr (.inl o))]) hc)) rfl (Nat.le_of_ble_eq_true rfl) (Nat.le_of_ble_eq_true rfl) ?_
  refine mr_i2l (pc := 7) rfl ?_
  refine ms_lastore (pc := 8) (q := 17) (N := 1) (f := o) (h' := lw X' Y (vp_updL o 0 v.toInt64)) rfl rfl (by decide) rfl ?_
  refine mr_goto (pc := 9) 15 rfl (by decide) ?_
  refine mr_iconst (pc := 15) (v := 0) rfl (by decide) ?_
  exact mr_ireturn (pc := 16) rfl rfl (Nat.le_of_ble_eq_true rfl) (Nat.le_of_ble_eq_true rfl)
set_option maxRecDepth 100000 in
set_option maxHeartbeats 4000000 in
theorem H_where_xA {S : Nat × (Nat → Int32)} {X X' : cS} {Y : rS} {o : Nat → Int64} {a1 : Int32} (hc : g_X0_where X a1 = some (.inr xA, X')) : mF S ML_where 0 (mEnt [.ref 0, .int a1, .ref 17] 4) [] (lw X Y o) 0 0 (.inl (some (.int 1)), lw X' Y o, 1, 8) := by
  refine mr_aload_n (pc := 0) (x := 17) rfl rfl ?_
  refine mr_iconst (pc := 1) (v := 0) rfl (by decide) ?_
  refine mr_aload_n (pc := 2) (x := 0) rfl rfl ?_
  refine mr_iload_n (pc := 3) rfl rfl ?_
  refine mr_caught (i := 3) (len := 1) [] (0, 9, 12, 13) [] (mRunV (pc := 4) (q := 0) (As := [.int a1]) (rest := [.int 0, .ref 17]) rfl lkRL_64 rfl rfl rfl (Nat.le_of_ble_eq_true rfl) (Nat.le_of_ble_eq_true rfl) (F_X0_where (T := yw Y [.inl (2, 1, .inr (.inl o))]) hc)) rfl rfl (Nat.le_of_ble_eq_true rfl) (Nat.le_of_ble_eq_true rfl) (fun z hz => by cases hz) (by decide) (by decide) le_13 (by decide +kernel) (by decide) rfl (Or.inr ⟨3, rfl, rfl, rfl⟩) ?_
  refine mr_iconst (pc := 13) (v := 1) rfl (by decide) ?_
  exact mr_ireturn (pc := 14) rfl rfl (Nat.le_of_ble_eq_true rfl) (Nat.le_of_ble_eq_true rfl)
