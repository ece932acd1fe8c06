/-! THE METHODS OF X1 AS FUNCTIONS, by program (wip/whole/gencode.py) -/
def g_X1_gate (Y : rS) (a1 a2 : Int32) : Option (mO × rS) := cI (g_X1_in (a1) (0) (6)) Y (fun v5 => if ((v5) : Int32) = 0 then (if ((1) : Int32) ≤ 0 then (if vpb (a1) 7 then (if vpb (a1) 7 then (some (.inl (some (.int ((Y.2.2.2.2.2.2.1) ((a1) : Int32).toNatClampNeg))), (Y.1, Y.2.1, Y.2.2.1, Y.2.2.2.1, Y.2.2.2.2.1, Y.2.2.2.2.2.1, upd (Y.2.2.2.2.2.2.1) ((a1) : Int32).toNatClampNeg (a2), Y.2.2.2.2.2.2.2.1, 1, Y.2.2.2.2.2.2.2.2.2.1, Y.2.2.2.2.2.2.2.2.2.2.1, Y.2.2.2.2.2.2.2.2.2.2.2.1, Y.2.2.2.2.2.2.2.2.2.2.2.2.1, Y.2.2.2.2.2.2.2.2.2.2.2.2.2.1, Y.2.2.2.2.2.2.2.2.2.2.2.2.2.2))) else none) else none) else (some (.inl (some (.int (0))), (Y.1, Y.2.1, Y.2.2.1, Y.2.2.2.1, Y.2.2.2.2.1, Y.2.2.2.2.2.1, Y.2.2.2.2.2.2.1, Y.2.2.2.2.2.2.2.1, 1, Y.2.2.2.2.2.2.2.2.2.1, Y.2.2.2.2.2.2.2.2.2.2.1, Y.2.2.2.2.2.2.2.2.2.2.2.1, Y.2.2.2.2.2.2.2.2.2.2.2.2.1, Y.2.2.2.2.2.2.2.2.2.2.2.2.2.1, Y.2.2.2.2.2.2.2.2.2.2.2.2.2.2)))) else (cI (g_X1_in (a2) (0) (99)) Y (fun v19 => if ((v19) : Int32) = 0 then (if ((2) : Int32) ≤ 0 then (if vpb (a1) 7 then (if vpb (a1) 7 then (some (.inl (some (.int ((Y.2.2.2.2.2.2.1) ((a1) : Int32).toNatClampNeg))), (Y.1, Y.2.1, Y.2.2.1, Y.2.2.2.1, Y.2.2.2.2.1, Y.2.2.2.2.2.1, upd (Y.2.2.2.2.2.2.1) ((a1) : Int32).toNatClampNeg (a2), Y.2.2.2.2.2.2.2.1, 2, Y.2.2.2.2.2.2.2.2.2.1, Y.2.2.2.2.2.2.2.2.2.2.1, Y.2.2.2.2.2.2.2.2.2.2.2.1, Y.2.2.2.2.2.2.2.2.2.2.2.2.1, Y.2.2.2.2.2.2.2.2.2.2.2.2.2.1, Y.2.2.2.2.2.2.2.2.2.2.2.2.2.2))) else none) else none) else (some (.inl (some (.int (0))), (Y.1, Y.2.1, Y.2.2.1, Y.2.2.2.1, Y.2.2.2.2.1, Y.2.2.2.2.2.1, Y.2.2.2.2.2.2.1, Y.2.2.2.2.2.2.2.1, 2, Y.2.2.2.2.2.2.2.2.2.1, Y.2.2.2.2.2.2.2.2.2.2.1, Y.2.2.2.2.2.2.2.2.2.2.2.1, Y.2.2.2.2.2.2.2.2.2.2.2.2.1, Y.2.2.2.2.2.2.2.2.2.2.2.2.2.1, Y.2.2.2.2.2.2.2.2.2.2.2.2.2.2)))) else (if ((0) : Int32) ≤ 0 then (if vpb (a1) 7 then (if vpb (a1) 7 then (some (.inl (some (.int ((Y.2.2.2.2.2.2.1) ((a1) : Int32).toNatClampNeg))), (Y.1, Y.2.1, Y.2.2.1, Y.2.2.2.1, Y.2.2.2.2.1, Y.2.2.2.2.2.1, upd (Y.2.2.2.2.2.2.1) ((a1) : Int32).toNatClampNeg (a2), Y.2.2.2.2.2.2.2.1, 0, Y.2.2.2.2.2.2.2.2.2.1, Y.2.2.2.2.2.2.2.2.2.2.1, Y.2.2.2.2.2.2.2.2.2.2.2.1, Y.2.2.2.2.2.2.2.2.2.2.2.2.1, Y.2.2.2.2.2.2.2.2.2.2.2.2.2.1, Y.2.2.2.2.2.2.2.2.2.2.2.2.2.2))) else none) else none) else (some (.inl (some (.int (0))), (Y.1, Y.2.1, Y.2.2.1, Y.2.2.2.1, Y.2.2.2.2.1, Y.2.2.2.2.2.1, Y.2.2.2.2.2.2.1, Y.2.2.2.2.2.2.2.1, 0, Y.2.2.2.2.2.2.2.2.2.1, Y.2.2.2.2.2.2.2.2.2.2.1, Y.2.2.2.2.2.2.2.2.2.2.2.1, Y.2.2.2.2.2.2.2.2.2.2.2.2.1, Y.2.2.2.2.2.2.2.2.2.2.2.2.2.1, Y.2.2.2.2.2.2.2.2.2.2.2.2.2.2)))))))
set_option maxRecDepth 100000 in
set_option maxHeartbeats 4000000 in
theorem F_X1_gate {S : Nat × (Nat → Int32)} {Z : cS} {T : mH} {Y R9 : rS} {o9 : mO} {a1 a2 : Int32} (h : g_X1_gate Y a1 a2 = some (o9, R9)) : mF S MX1_gate 0 (mEnt [.ref 8, .int a1, .int a2] 4) [] (xw Z (yw Y T)) 0 0 (o9, (xw Z (yw R9 T)), 0, 0) := by
  unfold g_X1_gate at h
  refine mr_aload_n (pc := 0) (x := 8) rfl rfl ?_
  refine mr_iload_n (pc := 1) (x := a1) rfl rfl ?_
  refine mr_iconst (pc := 2) (v := 0) rfl (by decide) ?_
  refine mr_bipush (pc := 3) (v := 6) rfl (by decide) ?_
  rcases cI_inv h with ⟨v5, hc5, h⟩ | ⟨E5, hc5, hr⟩
  · refine mr_ret (mRunS (pc := 5) (As := [.int (a1), .int (0), .int (6)]) (rest := [.ref 8]) rfl lkRX1_54 rfl (Nat.le_of_ble_eq_true rfl) (Nat.le_of_ble_eq_true rfl) (F_X1_in hc5)) rfl (Nat.le_of_ble_eq_true rfl) (Nat.le_of_ble_eq_true rfl) ?_
    refine mr_if_ne (pc := 8) 15 rfl (by decide) (fun c8 => ?_) (fun c8 => ?_)
    · have h := (if_neg c8).symm.trans h
      refine mr_iload_n (pc := 15) (x := a2) rfl rfl ?_
      refine mr_iconst (pc := 16) (v := 0) rfl (by decide) ?_
      refine mr_bipush (pc := 17) (v := 99) rfl (by decide) ?_
      rcases cI_inv h with ⟨v19, hc19, h⟩ | ⟨E19, hc19, hr⟩
      · refine mr_ret (mRunS (pc := 19) (As := [.int (a2), .int (0), .int (99)]) (rest := [.ref 8]) rfl lkRX1_54 rfl (Nat.le_of_ble_eq_true rfl) (Nat.le_of_ble_eq_true rfl) (F_X1_in hc19)) rfl (Nat.le_of_ble_eq_true rfl) (Nat.le_of_ble_eq_true rfl) ?_
        refine mr_if_ne (pc := 22) 29 rfl (by decide) (fun c22 => ?_) (fun c22 => ?_)
        · have h := (if_neg c22).symm.trans h
          refine mr_iconst (pc := 29) (v := 0) rfl (by decide) ?_
          refine ms_putfield (pc := 30) (h' := (xw Z (yw (Y.1, Y.2.1, Y.2.2.1, Y.2.2.2.1, Y.2.2.2.2.1, Y.2.2.2.2.2.1, Y.2.2.2.2.2.2.1, Y.2.2.2.2.2.2.2.1, 0, Y.2.2.2.2.2.2.2.2.2.1, Y.2.2.2.2.2.2.2.2.2.2.1, Y.2.2.2.2.2.2.2.2.2.2.2.1, Y.2.2.2.2.2.2.2.2.2.2.2.2.1, Y.2.2.2.2.2.2.2.2.2.2.2.2.2.1, Y.2.2.2.2.2.2.2.2.2.2.2.2.2.2) T))) rfl lfRX1_38 rfl (Nat.le_of_ble_eq_true rfl) (by intro q hq; cases hq; rfl) rfl ?_
          refine mr_aload_n (pc := 33) (x := 8) rfl rfl ?_
          refine mr_getfield (pc := 34) (v := .int (0)) rfl lfRX1_38 rfl rfl ?_
          refine mr_if_le (pc := 37) 42 rfl (by decide) (fun c37 => ?_) (fun c37 => ?_)
          · have h := (if_pos c37).symm.trans h
            refine mr_aload_n (pc := 42) (x := 8) rfl rfl ?_
            refine mr_getfield (pc := 43) (v := .ref 15) rfl lfRX1_29 rfl rfl ?_
            refine mr_iload_n (pc := 46) (x := a1) rfl rfl ?_
            obtain ⟨g47, h⟩ := m_gd h
            refine mr_iaload (pc := 47) (f := Y.2.2.2.2.2.2.1) rfl rfl (vpb_in g47) ?_
            refine ms_istore_n (pc := 48) (L' := [some (.ref 8), some (.int (a1)), some (.int (a2)), some (.int ((Y.2.2.2.2.2.2.1) ((a1) : Int32).toNatClampNeg))]) rfl (by decide) rfl rfl ?_
            refine mr_aload_n (pc := 49) (x := 8) rfl rfl ?_
            refine mr_getfield (pc := 50) (v := .ref 15) rfl lfRX1_29 rfl rfl ?_
            refine mr_iload_n (pc := 53) (x := a1) rfl rfl ?_
            refine mr_iload_n (pc := 54) (x := a2) rfl rfl ?_
            obtain ⟨g55, h⟩ := m_gd h
            refine ms_iastore (pc := 55) (f := Y.2.2.2.2.2.2.1) (h' := (xw Z (yw (Y.1, Y.2.1, Y.2.2.1, Y.2.2.2.1, Y.2.2.2.2.1, Y.2.2.2.2.2.1, upd (Y.2.2.2.2.2.2.1) ((a1) : Int32).toNatClampNeg (a2), Y.2.2.2.2.2.2.2.1, 0, Y.2.2.2.2.2.2.2.2.2.1, Y.2.2.2.2.2.2.2.2.2.2.1, Y.2.2.2.2.2.2.2.2.2.2.2.1, Y.2.2.2.2.2.2.2.2.2.2.2.2.1, Y.2.2.2.2.2.2.2.2.2.2.2.2.2.1, Y.2.2.2.2.2.2.2.2.2.2.2.2.2.2) T))) rfl rfl g55 rfl ?_
            refine mr_iload_n (pc := 56) (x := (Y.2.2.2.2.2.2.1) ((a1) : Int32).toNatClampNeg) rfl rfl ?_
            cases h; exact mr_ireturn (pc := 57) rfl rfl (Nat.le_of_ble_eq_true rfl) (Nat.le_of_ble_eq_true rfl)
          · have h := (if_neg c37).symm.trans h
            refine mr_iconst (pc := 40) (v := 0) rfl (by decide) ?_
            cases h; exact mr_ireturn (pc := 41) rfl rfl (Nat.le_of_ble_eq_true rfl) (Nat.le_of_ble_eq_true rfl)
        · have h := (if_pos c22).symm.trans h
          refine mr_iconst (pc := 25) (v := 2) rfl (by decide) ?_
          refine mr_goto (pc := 26) 30 rfl (by decide) ?_
          refine ms_putfield (pc := 30) (h' := (xw Z (yw (Y.1, Y.2.1, Y.2.2.1, Y.2.2.2.1, Y.2.2.2.2.1, Y.2.2.2.2.2.1, Y.2.2.2.2.2.2.1, Y.2.2.2.2.2.2.2.1, 2, Y.2.2.2.2.2.2.2.2.2.1, Y.2.2.2.2.2.2.2.2.2.2.1, Y.2.2.2.2.2.2.2.2.2.2.2.1, Y.2.2.2.2.2.2.2.2.2.2.2.2.1, Y.2.2.2.2.2.2.2.2.2.2.2.2.2.1, Y.2.2.2.2.2.2.2.2.2.2.2.2.2.2) T))) rfl lfRX1_38 rfl (Nat.le_of_ble_eq_true rfl) (by intro q hq; cases hq; rfl) rfl ?_
          refine mr_aload_n (pc := 33) (x := 8) rfl rfl ?_
          refine mr_getfield (pc := 34) (v := .int (2)) rfl lfRX1_38 rfl rfl ?_
          refine mr_if_le (pc := 37) 42 rfl (by decide) (fun c37 => ?_) (fun c37 => ?_)
          · have h := (if_pos c37).symm.trans h
            refine mr_aload_n (pc := 42) (x := 8) rfl rfl ?_
            refine mr_getfield (pc := 43) (v := .ref 15) rfl lfRX1_29 rfl rfl ?_
            refine mr_iload_n (pc := 46) (x := a1) rfl rfl ?_
            obtain ⟨g47, h⟩ := m_gd h
            refine mr_iaload (pc := 47) (f := Y.2.2.2.2.2.2.1) rfl rfl (vpb_in g47) ?_
            refine ms_istore_n (pc := 48) (L' := [some (.ref 8), some (.int (a1)), some (.int (a2)), some (.int ((Y.2.2.2.2.2.2.1) ((a1) : Int32).toNatClampNeg))]) rfl (by decide) rfl rfl ?_
            refine mr_aload_n (pc := 49) (x := 8) rfl rfl ?_
            refine mr_getfield (pc := 50) (v := .ref 15) rfl lfRX1_29 rfl rfl ?_
            refine mr_iload_n (pc := 53) (x := a1) rfl rfl ?_
            refine mr_iload_n (pc := 54) (x := a2) rfl rfl ?_
            obtain ⟨g55, h⟩ := m_gd h
            refine ms_iastore (pc := 55) (f := Y.2.2.2.2.2.2.1) (h' := (xw Z (yw (Y.1, Y.2.1, Y.2.2.1, Y.2.2.2.1, Y.2.2.2.2.1, Y.2.2.2.2.2.1, upd (Y.2.2.2.2.2.2.1) ((a1) : Int32).toNatClampNeg (a2), Y.2.2.2.2.2.2.2.1, 2, Y.2.2.2.2.2.2.2.2.2.1, Y.2.2.2.2.2.2.2.2.2.2.1, Y.2.2.2.2.2.2.2.2.2.2.2.1, Y.2.2.2.2.2.2.2.2.2.2.2.2.1, Y.2.2.2.2.2.2.2.2.2.2.2.2.2.1, Y.2.2.2.2.2.2.2.2.2.2.2.2.2.2) T))) rfl rfl g55 rfl ?_
            refine mr_iload_n (pc := 56) (x := (Y.2.2.2.2.2.2.1) ((a1) : Int32).toNatClampNeg) rfl rfl ?_
            cases h; exact mr_ireturn (pc := 57) rfl rfl (Nat.le_of_ble_eq_true rfl) (Nat.le_of_ble_eq_true rfl)
          · have h := (if_neg c37).symm.trans h
            refine mr_iconst (pc := 40) (v := 0) rfl (by decide) ?_
            cases h; exact mr_ireturn (pc := 41) rfl rfl (Nat.le_of_ble_eq_true rfl) (Nat.le_of_ble_eq_true rfl)
      · cases hr; exact mr_thrown (mRunS (pc := 19) (As := [.int (a2), .int (0), .int (99)]) (rest := [.ref 8]) rfl lkRX1_54 rfl (Nat.le_of_ble_eq_true rfl) (Nat.le_of_ble_eq_true rfl) (F_X1_in hc19)) rfl rfl (Nat.le_of_ble_eq_true rfl) (Nat.le_of_ble_eq_true rfl)
    · have h := (if_pos c8).symm.trans h
      refine mr_iconst (pc := 11) (v := 1) rfl (by decide) ?_
      refine mr_goto (pc := 12) 30 rfl (by decide) ?_
      refine ms_putfield (pc := 30) (h' := (xw Z (yw (Y.1, Y.2.1, Y.2.2.1, Y.2.2.2.1, Y.2.2.2.2.1, Y.2.2.2.2.2.1, Y.2.2.2.2.2.2.1, Y.2.2.2.2.2.2.2.1, 1, Y.2.2.2.2.2.2.2.2.2.1, Y.2.2.2.2.2.2.2.2.2.2.1, Y.2.2.2.2.2.2.2.2.2.2.2.1, Y.2.2.2.2.2.2.2.2.2.2.2.2.1, Y.2.2.2.2.2.2.2.2.2.2.2.2.2.1, Y.2.2.2.2.2.2.2.2.2.2.2.2.2.2) T))) rfl lfRX1_38 rfl (Nat.le_of_ble_eq_true rfl) (by intro q hq; cases hq; rfl) rfl ?_
      refine mr_aload_n (pc := 33) (x := 8) rfl rfl ?_
      refine mr_getfield (pc := 34) (v := .int (1)) rfl lfRX1_38 rfl rfl ?_
      refine mr_if_le (pc := 37) 42 rfl (by decide) (fun c37 => ?_) (fun c37 => ?_)
      · have h := (if_pos c37).symm.trans h
        refine mr_aload_n (pc := 42) (x := 8) rfl rfl ?_
        refine mr_getfield (pc := 43) (v := .ref 15) rfl lfRX1_29 rfl rfl ?_
        refine mr_iload_n (pc := 46) (x := a1) rfl rfl ?_
        obtain ⟨g47, h⟩ := m_gd h
        refine mr_iaload (pc := 47) (f := Y.2.2.2.2.2.2.1) rfl rfl (vpb_in g47) ?_
        refine ms_istore_n (pc := 48) (L' := [some (.ref 8), some (.int (a1)), some (.int (a2)), some (.int ((Y.2.2.2.2.2.2.1) ((a1) : Int32).toNatClampNeg))]) rfl (by decide) rfl rfl ?_
        refine mr_aload_n (pc := 49) (x := 8) rfl rfl ?_
        refine mr_getfield (pc := 50) (v := .ref 15) rfl lfRX1_29 rfl rfl ?_
        refine mr_iload_n (pc := 53) (x := a1) rfl rfl ?_
        refine mr_iload_n (pc := 54) (x := a2) rfl rfl ?_
        obtain ⟨g55, h⟩ := m_gd h
        refine ms_iastore (pc := 55) (f := Y.2.2.2.2.2.2.1) (h' := (xw Z (yw (Y.1, Y.2.1, Y.2.2.1, Y.2.2.2.1, Y.2.2.2.2.1, Y.2.2.2.2.2.1, upd (Y.2.2.2.2.2.2.1) ((a1) : Int32).toNatClampNeg (a2), Y.2.2.2.2.2.2.2.1, 1, Y.2.2.2.2.2.2.2.2.2.1, Y.2.2.2.2.2.2.2.2.2.2.1, Y.2.2.2.2.2.2.2.2.2.2.2.1, Y.2.2.2.2.2.2.2.2.2.2.2.2.1, Y.2.2.2.2.2.2.2.2.2.2.2.2.2.1, Y.2.2.2.2.2.2.2.2.2.2.2.2.2.2) T))) rfl rfl g55 rfl ?_
        refine mr_iload_n (pc := 56) (x := (Y.2.2.2.2.2.2.1) ((a1) : Int32).toNatClampNeg) rfl rfl ?_
        cases h; exact mr_ireturn (pc := 57) rfl rfl (Nat.le_of_ble_eq_true rfl) (Nat.le_of_ble_eq_true rfl)
      · have h := (if_neg c37).symm.trans h
        refine mr_iconst (pc := 40) (v := 0) rfl (by decide) ?_
        cases h; exact mr_ireturn (pc := 41) rfl rfl (Nat.le_of_ble_eq_true rfl) (Nat.le_of_ble_eq_true rfl)
  · cases hr; exact mr_thrown (mRunS (pc := 5) (As := [.int (a1), .int (0), .int (6)]) (rest := [.ref 8]) rfl lkRX1_54 rfl (Nat.le_of_ble_eq_true rfl) (Nat.le_of_ble_eq_true rfl) (F_X1_in hc5)) rfl rfl (Nat.le_of_ble_eq_true rfl) (Nat.le_of_ble_eq_true rfl)
def g_X1_levels_50 : Nat → rS → Int32 → Option (mO × rS)
  | 0, _, _ => none
  | f9 + 1, Y, b1 => if ((200) : Int32) ≤ ((Y.2.2.2.2.2.2.2.2.2.2.2.2.2.1) : Int32) then (bI (g_X1_heightOf Y (b1)) (fun v139 Y139 => bI (g_X1_heightOf Y139 ((b1) + (1))) (fun v146 Y146 => if ((v139) : Int32) = ((v146) : Int32) then (bV (g_X1_leave Y146 (2)) (fun Y160 => some (.inl (some (.int (1))), Y160))) else (bI (g_X1_fail Y146 (4)) (fun v154 Y154 => if ((v154) : Int32) = 0 ∨ ((v154) : Int32) = 1 then (some (.inl (some (.int (v154))), Y154)) else none))))) else (bI (g_X1_heightOf Y (b1)) (fun v62 Y62 => bI (g_X1_heightOf Y62 ((b1) + (1))) (fun v69 Y69 => if ((v62) : Int32) = ((v69) : Int32) then (bI (g_X1_heightOf Y69 (b1)) (fun v139 Y139 => bI (g_X1_heightOf Y139 ((b1) + (1))) (fun v146 Y146 => if ((v139) : Int32) = ((v146) : Int32) then (bV (g_X1_leave Y146 (2)) (fun Y160 => some (.inl (some (.int (1))), Y160))) else (bI (g_X1_fail Y146 (4)) (fun v154 Y154 => if ((v154) : Int32) = 0 ∨ ((v154) : Int32) = 1 then (some (.inl (some (.int (v154))), Y154)) else none))))) else (bI (g_X1_heightOf Y69 (b1)) (fun v77 Y77 => bI (g_X1_heightOf Y77 ((b1) + (1))) (fun v84 Y84 => if ((v77) : Int32) ≤ ((v84) : Int32) then (if vpb ((b1) + (1)) 8 then (if vpb ((b1) + (1)) 8 then (if vpb ((((2) * (b1)) + (1)) - ((b1) + (1))) 8 then (if vpb ((((2) * (b1)) + (1)) - ((b1) + (1))) 8 then (g_X1_levels_50 f9 (Y84.1, Y84.2.1, upd (upd (Y84.2.2.1) (((b1) + (1)) : Int32).toNatClampNeg (((Y84.2.2.1) (((b1) + (1)) : Int32).toNatClampNeg) - (1))) (((((2) * (b1)) + (1)) - ((b1) + (1))) : Int32).toNatClampNeg (((upd (Y84.2.2.1) (((b1) + (1)) : Int32).toNatClampNeg (((Y84.2.2.1) (((b1) + (1)) : Int32).toNatClampNeg) - (1))) (((((2) * (b1)) + (1)) - ((b1) + (1))) : Int32).toNatClampNeg) + (1)), Y84.2.2.2.1, Y84.2.2.2.2.1, Y84.2.2.2.2.2.1, Y84.2.2.2.2.2.2.1, Y84.2.2.2.2.2.2.2.1, Y84.2.2.2.2.2.2.2.2.1, Y84.2.2.2.2.2.2.2.2.2.1, Y84.2.2.2.2.2.2.2.2.2.2.1, Y84.2.2.2.2.2.2.2.2.2.2.2.1, Y84.2.2.2.2.2.2.2.2.2.2.2.2.1, (Y84.2.2.2.2.2.2.2.2.2.2.2.2.2.1) + (1), Y84.2.2.2.2.2.2.2.2.2.2.2.2.2.2) (b1)) else none) else none) else none) else none) else (if vpb (b1) 8 then (if vpb (b1) 8 then (if vpb ((((2) * (b1)) + (1)) - (b1)) 8 then (if vpb ((((2) * (b1)) + (1)) - (b1)) 8 then (g_X1_levels_50 f9 (Y84.1, Y84.2.1, upd (upd (Y84.2.2.1) ((b1) : Int32).toNatClampNeg (((Y84.2.2.1) ((b1) : Int32).toNatClampNeg) - (1))) (((((2) * (b1)) + (1)) - (b1)) : Int32).toNatClampNeg (((upd (Y84.2.2.1) ((b1) : Int32).toNatClampNeg (((Y84.2.2.1) ((b1) : Int32).toNatClampNeg) - (1))) (((((2) * (b1)) + (1)) - (b1)) : Int32).toNatClampNeg) + (1)), Y84.2.2.2.1, Y84.2.2.2.2.1, Y84.2.2.2.2.2.1, Y84.2.2.2.2.2.2.1, Y84.2.2.2.2.2.2.2.1, Y84.2.2.2.2.2.2.2.2.1, Y84.2.2.2.2.2.2.2.2.2.1, Y84.2.2.2.2.2.2.2.2.2.2.1, Y84.2.2.2.2.2.2.2.2.2.2.2.1, Y84.2.2.2.2.2.2.2.2.2.2.2.2.1, (Y84.2.2.2.2.2.2.2.2.2.2.2.2.2.1) + (1), Y84.2.2.2.2.2.2.2.2.2.2.2.2.2.2) (b1)) else none) else none) else none) else none)))))))
set_option maxRecDepth 100000 in
set_option maxHeartbeats 4000000 in
theorem FL_X1_levels_50 {S : Nat × (Nat → Int32)} {Z : cS} {T : mH} : ∀ (f9 : Nat) (Y : rS) (b1 : Int32) (o9 : mO) (R9 : rS), g_X1_levels_50 f9 Y b1 = some (o9, R9) → mF S MX1_levels 50 [some (.ref 8), some (.int (b1)), none] [] (xw Z (yw Y T)) 0 0 (o9, (xw Z (yw R9 T)), 0, 0) := by
  intro f9
  induction f9 with
  | zero => intro Y b1 o9 R9 h; cases h
  | succ f9 ih9 =>
    intro Y b1 o9 R9 h
    rw [g_X1_levels_50] at h
    refine mr_aload_n (pc := 50) (x := 8) rfl rfl ?_
    refine mr_getfield (pc := 51) (v := .int (Y.2.2.2.2.2.2.2.2.2.2.2.2.2.1)) rfl lfRX1_86 rfl rfl ?_
    refine mr_sipush (pc := 54) (v := 200) rfl (by decide) ?_
    refine mr_icmp_ge (pc := 57) 137 rfl (by decide) (fun c57 => ?_) (fun c57 => ?_)
    · have h := (if_pos c57).symm.trans h
      refine mr_aload_n (pc := 137) (x := 8) rfl rfl ?_
      refine mr_iload_n (pc := 138) (x := b1) rfl rfl ?_
      rcases bI_inv h with ⟨v139, Y139, hc139, h⟩ | ⟨E139, Y139, hc139, hr⟩
      · refine mr_ret (mRunV (pc := 139) (q := 8) (As := [.int (b1)]) (rest := []) rfl lkRX1_76 rfl rfl rfl (Nat.le_of_ble_eq_true rfl) (Nat.le_of_ble_eq_true rfl) (F_X1_heightOf hc139)) rfl (Nat.le_of_ble_eq_true rfl) (Nat.le_of_ble_eq_true rfl) ?_
        refine mr_aload_n (pc := 142) (x := 8) rfl rfl ?_
        refine mr_iload_n (pc := 143) (x := b1) rfl rfl ?_
        refine mr_iconst (pc := 144) (v := 1) rfl (by decide) ?_
        refine mr_iadd (pc := 145) rfl ?_
        rcases bI_inv h with ⟨v146, Y146, hc146, h⟩ | ⟨E146, Y146, hc146, hr⟩
        · refine mr_ret (mRunV (pc := 146) (q := 8) (As := [.int ((b1) + (1))]) (rest := [.int (v139)]) rfl lkRX1_76 rfl rfl rfl (Nat.le_of_ble_eq_true rfl) (Nat.le_of_ble_eq_true rfl) (F_X1_heightOf hc146)) rfl (Nat.le_of_ble_eq_true rfl) (Nat.le_of_ble_eq_true rfl) ?_
          refine mr_icmp_eq (pc := 149) 158 rfl (by decide) (fun c149 => ?_) (fun c149 => ?_)
          · have h := (if_pos c149).symm.trans h
            refine mr_aload_n (pc := 158) (x := 8) rfl rfl ?_
            refine mr_iconst (pc := 159) (v := 2) rfl (by decide) ?_
            rcases bV_inv h with ⟨Y160, hc160, h⟩ | ⟨E160, Y160, hc160, hr⟩
            · refine mr_ret (mRunV (pc := 160) (q := 8) (As := [.int (2)]) (rest := []) rfl lkRX1_72 rfl rfl rfl (Nat.le_of_ble_eq_true rfl) (Nat.le_of_ble_eq_true rfl) (F_X1_leave hc160)) rfl (Nat.le_of_ble_eq_true rfl) (Nat.le_of_ble_eq_true rfl) ?_
              refine mr_iconst (pc := 163) (v := 1) rfl (by decide) ?_
              cases h; exact mr_zreturn (pc := 164) rfl rfl (Or.inr rfl) (Nat.le_of_ble_eq_true rfl) (Nat.le_of_ble_eq_true rfl)
            · cases hr; exact mr_thrown (mRunV (pc := 160) (q := 8) (As := [.int (2)]) (rest := []) rfl lkRX1_72 rfl rfl rfl (Nat.le_of_ble_eq_true rfl) (Nat.le_of_ble_eq_true rfl) (F_X1_leave hc160)) rfl rfl (Nat.le_of_ble_eq_true rfl) (Nat.le_of_ble_eq_true rfl)
          · have h := (if_neg c149).symm.trans h
            refine mr_aload_n (pc := 152) (x := 8) rfl rfl ?_
            refine mr_iconst (pc := 153) (v := 4) rfl (by decide) ?_
            rcases bI_inv h with ⟨v154, Y154, hc154, h⟩ | ⟨E154, Y154, hc154, hr⟩
            · refine mr_ret (mRunV (pc := 154) (q := 8) (As := [.int (4)]) (rest := []) rfl lkRX1_58 rfl rfl rfl (Nat.le_of_ble_eq_true rfl) (Nat.le_of_ble_eq_true rfl) (F_X1_fail hc154)) rfl (Nat.le_of_ble_eq_true rfl) (Nat.le_of_ble_eq_true rfl) ?_
              obtain ⟨g157, h⟩ := m_gd h
              cases h; exact mr_zreturn (pc := 157) rfl rfl g157 (Nat.le_of_ble_eq_true rfl) (Nat.le_of_ble_eq_true rfl)
            · cases hr; exact mr_thrown (mRunV (pc := 154) (q := 8) (As := [.int (4)]) (rest := []) rfl lkRX1_58 rfl rfl rfl (Nat.le_of_ble_eq_true rfl) (Nat.le_of_ble_eq_true rfl) (F_X1_fail hc154)) rfl rfl (Nat.le_of_ble_eq_true rfl) (Nat.le_of_ble_eq_true rfl)
        · cases hr; exact mr_thrown (mRunV (pc := 146) (q := 8) (As := [.int ((b1) + (1))]) (rest := [.int (v139)]) rfl lkRX1_76 rfl rfl rfl (Nat.le_of_ble_eq_true rfl) (Nat.le_of_ble_eq_true rfl) (F_X1_heightOf hc146)) rfl rfl (Nat.le_of_ble_eq_true rfl) (Nat.le_of_ble_eq_true rfl)
      · cases hr; exact mr_thrown (mRunV (pc := 139) (q := 8) (As := [.int (b1)]) (rest := []) rfl lkRX1_76 rfl rfl rfl (Nat.le_of_ble_eq_true rfl) (Nat.le_of_ble_eq_true rfl) (F_X1_heightOf hc139)) rfl rfl (Nat.le_of_ble_eq_true rfl) (Nat.le_of_ble_eq_true rfl)
    · have h := (if_neg c57).symm.trans h
      refine mr_aload_n (pc := 60) (x := 8) rfl rfl ?_
      refine mr_iload_n (pc := 61) (x := b1) rfl rfl ?_
      rcases bI_inv h with ⟨v62, Y62, hc62, h⟩ | ⟨E62, Y62, hc62, hr⟩
      · refine mr_ret (mRunV (pc := 62) (q := 8) (As := [.int (b1)]) (rest := []) rfl lkRX1_76 rfl rfl rfl (Nat.le_of_ble_eq_true rfl) (Nat.le_of_ble_eq_true rfl) (F_X1_heightOf hc62)) rfl (Nat.le_of_ble_eq_true rfl) (Nat.le_of_ble_eq_true rfl) ?_
        refine mr_aload_n (pc := 65) (x := 8) rfl rfl ?_
        refine mr_iload_n (pc := 66) (x := b1) rfl rfl ?_
        refine mr_iconst (pc := 67) (v := 1) rfl (by decide) ?_
        refine mr_iadd (pc := 68) rfl ?_
        rcases bI_inv h with ⟨v69, Y69, hc69, h⟩ | ⟨E69, Y69, hc69, hr⟩
        · refine mr_ret (mRunV (pc := 69) (q := 8) (As := [.int ((b1) + (1))]) (rest := [.int (v62)]) rfl lkRX1_76 rfl rfl rfl (Nat.le_of_ble_eq_true rfl) (Nat.le_of_ble_eq_true rfl) (F_X1_heightOf hc69)) rfl (Nat.le_of_ble_eq_true rfl) (Nat.le_of_ble_eq_true rfl) ?_
          refine mr_icmp_eq (pc := 72) 137 rfl (by decide) (fun c72 => ?_) (fun c72 => ?_)
          · have h := (if_pos c72).symm.trans h
            refine mr_aload_n (pc := 137) (x := 8) rfl rfl ?_
            refine mr_iload_n (pc := 138) (x := b1) rfl rfl ?_
            rcases bI_inv h with ⟨v139, Y139, hc139, h⟩ | ⟨E139, Y139, hc139, hr⟩
            · refine mr_ret (mRunV (pc := 139) (q := 8) (As := [.int (b1)]) (rest := []) rfl lkRX1_76 rfl rfl rfl (Nat.le_of_ble_eq_true rfl) (Nat.le_of_ble_eq_true rfl) (F_X1_heightOf hc139)) rfl (Nat.le_of_ble_eq_true rfl) (Nat.le_of_ble_eq_true rfl) ?_
              refine mr_aload_n (pc := 142) (x := 8) rfl rfl ?_
              refine mr_iload_n (pc := 143) (x := b1) rfl rfl ?_
              refine mr_iconst (pc := 144) (v := 1) rfl (by decide) ?_
              refine mr_iadd (pc := 145) rfl ?_
              rcases bI_inv h with ⟨v146, Y146, hc146, h⟩ | ⟨E146, Y146, hc146, hr⟩
              · refine mr_ret (mRunV (pc := 146) (q := 8) (As := [.int ((b1) + (1))]) (rest := [.int (v139)]) rfl lkRX1_76 rfl rfl rfl (Nat.le_of_ble_eq_true rfl) (Nat.le_of_ble_eq_true rfl) (F_X1_heightOf hc146)) rfl (Nat.le_of_ble_eq_true rfl) (Nat.le_of_ble_eq_true rfl) ?_
                refine mr_icmp_eq (pc := 149) 158 rfl (by decide) (fun c149 => ?_) (fun c149 => ?_)
                · have h := (if_pos c149).symm.trans h
                  refine mr_aload_n (pc := 158) (x := 8) rfl rfl ?_
                  refine mr_iconst (pc := 159) (v := 2) rfl (by decide) ?_
                  rcases bV_inv h with ⟨Y160, hc160, h⟩ | ⟨E160, Y160, hc160, hr⟩
                  · refine mr_ret (mRunV (pc := 160) (q := 8) (As := [.int (2)]) (rest := []) rfl lkRX1_72 rfl rfl rfl (Nat.le_of_ble_eq_true rfl) (Nat.le_of_ble_eq_true rfl) (F_X1_leave hc160)) rfl (Nat.le_of_ble_eq_true rfl) (Nat.le_of_ble_eq_true rfl) ?_
                    refine mr_iconst (pc := 163) (v := 1) rfl (by decide) ?_
                    cases h; exact mr_zreturn (pc := 164) rfl rfl (Or.inr rfl) (Nat.le_of_ble_eq_true rfl) (Nat.le_of_ble_eq_true rfl)
                  · cases hr; exact mr_thrown (mRunV (pc := 160) (q := 8) (As := [.int (2)]) (rest := []) rfl lkRX1_72 rfl rfl rfl (Nat.le_of_ble_eq_true rfl) (Nat.le_of_ble_eq_true rfl) (F_X1_leave hc160)) rfl rfl (Nat.le_of_ble_eq_true rfl) (Nat.le_of_ble_eq_true rfl)
                · have h := (if_neg c149).symm.trans h
                  refine mr_aload_n (pc := 152) (x := 8) rfl rfl ?_
                  refine mr_iconst (pc := 153) (v := 4) rfl (by decide) ?_
                  rcases bI_inv h with ⟨v154, Y154, hc154, h⟩ | ⟨E154, Y154, hc154, hr⟩
                  · refine mr_ret (mRunV (pc := 154) (q := 8) (As := [.int (4)]) (rest := []) rfl lkRX1_58 rfl rfl rfl (Nat.le_of_ble_eq_true rfl) (Nat.le_of_ble_eq_true rfl) (F_X1_fail hc154)) rfl (Nat.le_of_ble_eq_true rfl) (Nat.le_of_ble_eq_true rfl) ?_
                    obtain ⟨g157, h⟩ := m_gd h
                    cases h; exact mr_zreturn (pc := 157) rfl rfl g157 (Nat.le_of_ble_eq_true rfl) (Nat.le_of_ble_eq_true rfl)
                  · cases hr; exact mr_thrown (mRunV (pc := 154) (q := 8) (As := [.int (4)]) (rest := []) rfl lkRX1_58 rfl rfl rfl (Nat.le_of_ble_eq_true rfl) (Nat.le_of_ble_eq_true rfl) (F_X1_fail hc154)) rfl rfl (Nat.le_of_ble_eq_true rfl) (Nat.le_of_ble_eq_true rfl)
              · cases hr; exact mr_thrown (mRunV (pc := 146) (q := 8) (As := [.int ((b1) + (1))]) (rest := [.int (v139)]) rfl lkRX1_76 rfl rfl rfl (Nat.le_of_ble_eq_true rfl) (Nat.le_of_ble_eq_true rfl) (F_X1_heightOf hc146)) rfl rfl (Nat.le_of_ble_eq_true rfl) (Nat.le_of_ble_eq_true rfl)
            · cases hr; exact mr_thrown (mRunV (pc := 139) (q := 8) (As := [.int (b1)]) (rest := []) rfl lkRX1_76 rfl rfl rfl (Nat.le_of_ble_eq_true rfl) (Nat.le_of_ble_eq_true rfl) (F_X1_heightOf hc139)) rfl rfl (Nat.le_of_ble_eq_true rfl) (Nat.le_of_ble_eq_true rfl)
          · have h := (if_neg c72).symm.trans h
            refine mr_aload_n (pc := 75) (x := 8) rfl rfl ?_
            refine mr_iload_n (pc := 76) (x := b1) rfl rfl ?_
            rcases bI_inv h with ⟨v77, Y77, hc77, h⟩ | ⟨E77, Y77, hc77, hr⟩
            · refine mr_ret (mRunV (pc := 77) (q := 8) (As := [.int (b1)]) (rest := []) rfl lkRX1_76 rfl rfl rfl (Nat.le_of_ble_eq_true rfl) (Nat.le_of_ble_eq_true rfl) (F_X1_heightOf hc77)) rfl (Nat.le_of_ble_eq_true rfl) (Nat.le_of_ble_eq_true rfl) ?_
              refine mr_aload_n (pc := 80) (x := 8) rfl rfl ?_
              refine mr_iload_n (pc := 81) (x := b1) rfl rfl ?_
              refine mr_iconst (pc := 82) (v := 1) rfl (by decide) ?_
              refine mr_iadd (pc := 83) rfl ?_
              rcases bI_inv h with ⟨v84, Y84, hc84, h⟩ | ⟨E84, Y84, hc84, hr⟩
              · refine mr_ret (mRunV (pc := 84) (q := 8) (As := [.int ((b1) + (1))]) (rest := [.int (v77)]) rfl lkRX1_76 rfl rfl rfl (Nat.le_of_ble_eq_true rfl) (Nat.le_of_ble_eq_true rfl) (F_X1_heightOf hc84)) rfl (Nat.le_of_ble_eq_true rfl) (Nat.le_of_ble_eq_true rfl) ?_
                refine mr_icmp_le (pc := 87) 94 rfl (by decide) (fun c87 => ?_) (fun c87 => ?_)
                · have h := (if_pos c87).symm.trans h
                  refine mr_iload_n (pc := 94) (x := b1) rfl rfl ?_
                  refine mr_iconst (pc := 95) (v := 1) rfl (by decide) ?_
                  refine mr_iadd (pc := 96) rfl ?_
                  refine ms_istore_n (pc := 97) (L' := [some (.ref 8), some (.int (b1)), some (.int ((b1) + (1)))]) rfl (by decide) rfl rfl ?_
                  refine mr_aload_n (pc := 98) (x := 8) rfl rfl ?_
                  refine mr_getfield (pc := 99) (v := .ref 11) rfl lfRX1_17 rfl rfl ?_
                  refine mr_iload_n (pc := 102) (x := (b1) + (1)) rfl rfl ?_
                  refine mr_dup2 (pc := 103) rfl rfl rfl ?_
                  obtain ⟨g104, h⟩ := m_gd h
                  refine mr_iaload (pc := 104) (f := Y84.2.2.1) rfl rfl (vpb_in g104) ?_
                  refine mr_iconst (pc := 105) (v := 1) rfl (by decide) ?_
                  refine mr_isub (pc := 106) rfl ?_
                  obtain ⟨g107, h⟩ := m_gd h
                  refine ms_iastore (pc := 107) (f := Y84.2.2.1) (h' := (xw Z (yw (Y84.1, Y84.2.1, upd (Y84.2.2.1) (((b1) + (1)) : Int32).toNatClampNeg (((Y84.2.2.1) (((b1) + (1)) : Int32).toNatClampNeg) - (1)), Y84.2.2.2.1, Y84.2.2.2.2.1, Y84.2.2.2.2.2.1, Y84.2.2.2.2.2.2.1, Y84.2.2.2.2.2.2.2.1, Y84.2.2.2.2.2.2.2.2.1, Y84.2.2.2.2.2.2.2.2.2.1, Y84.2.2.2.2.2.2.2.2.2.2.1, Y84.2.2.2.2.2.2.2.2.2.2.2.1, Y84.2.2.2.2.2.2.2.2.2.2.2.2.1, Y84.2.2.2.2.2.2.2.2.2.2.2.2.2.1, Y84.2.2.2.2.2.2.2.2.2.2.2.2.2.2) T))) rfl rfl g107 rfl ?_
                  refine mr_aload_n (pc := 108) (x := 8) rfl rfl ?_
                  refine mr_getfield (pc := 109) (v := .ref 11) rfl lfRX1_17 rfl rfl ?_
                  refine mr_iconst (pc := 112) (v := 2) rfl (by decide) ?_
                  refine mr_iload_n (pc := 113) (x := b1) rfl rfl ?_
                  refine mr_imul (pc := 114) rfl ?_
                  refine mr_iconst (pc := 115) (v := 1) rfl (by decide) ?_
                  refine mr_iadd (pc := 116) rfl ?_
                  refine mr_iload_n (pc := 117) (x := (b1) + (1)) rfl rfl ?_
                  refine mr_isub (pc := 118) rfl ?_
                  refine mr_dup2 (pc := 119) rfl rfl rfl ?_
                  obtain ⟨g120, h⟩ := m_gd h
                  refine mr_iaload (pc := 120) (f := upd (Y84.2.2.1) (((b1) + (1)) : Int32).toNatClampNeg (((Y84.2.2.1) (((b1) + (1)) : Int32).toNatClampNeg) - (1))) rfl rfl (vpb_in g120) ?_
                  refine mr_iconst (pc := 121) (v := 1) rfl (by decide) ?_
                  refine mr_iadd (pc := 122) rfl ?_
                  obtain ⟨g123, h⟩ := m_gd h
                  refine ms_iastore (pc := 123) (f := upd (Y84.2.2.1) (((b1) + (1)) : Int32).toNatClampNeg (((Y84.2.2.1) (((b1) + (1)) : Int32).toNatClampNeg) - (1))) (h' := (xw Z (yw (Y84.1, Y84.2.1, upd (upd (Y84.2.2.1) (((b1) + (1)) : Int32).toNatClampNeg (((Y84.2.2.1) (((b1) + (1)) : Int32).toNatClampNeg) - (1))) (((((2) * (b1)) + (1)) - ((b1) + (1))) : Int32).toNatClampNeg (((upd (Y84.2.2.1) (((b1) + (1)) : Int32).toNatClampNeg (((Y84.2.2.1) (((b1) + (1)) : Int32).toNatClampNeg) - (1))) (((((2) * (b1)) + (1)) - ((b1) + (1))) : Int32).toNatClampNeg) + (1)), Y84.2.2.2.1, Y84.2.2.2.2.1, Y84.2.2.2.2.2.1, Y84.2.2.2.2.2.2.1, Y84.2.2.2.2.2.2.2.1, Y84.2.2.2.2.2.2.2.2.1, Y84.2.2.2.2.2.2.2.2.2.1, Y84.2.2.2.2.2.2.2.2.2.2.1, Y84.2.2.2.2.2.2.2.2.2.2.2.1, Y84.2.2.2.2.2.2.2.2.2.2.2.2.1, Y84.2.2.2.2.2.2.2.2.2.2.2.2.2.1, Y84.2.2.2.2.2.2.2.2.2.2.2.2.2.2) T))) rfl rfl g123 rfl ?_
                  refine mr_aload_n (pc := 124) (x := 8) rfl rfl ?_
                  refine mr_dup (pc := 125) rfl rfl ?_
                  refine mr_getfield (pc := 126) (v := .int (Y84.2.2.2.2.2.2.2.2.2.2.2.2.2.1)) rfl lfRX1_86 rfl rfl ?_
                  refine mr_iconst (pc := 129) (v := 1) rfl (by decide) ?_
                  refine mr_iadd (pc := 130) rfl ?_
                  refine ms_putfield (pc := 131) (h' := (xw Z (yw (Y84.1, Y84.2.1, upd (upd (Y84.2.2.1) (((b1) + (1)) : Int32).toNatClampNeg (((Y84.2.2.1) (((b1) + (1)) : Int32).toNatClampNeg) - (1))) (((((2) * (b1)) + (1)) - ((b1) + (1))) : Int32).toNatClampNeg (((upd (Y84.2.2.1) (((b1) + (1)) : Int32).toNatClampNeg (((Y84.2.2.1) (((b1) + (1)) : Int32).toNatClampNeg) - (1))) (((((2) * (b1)) + (1)) - ((b1) + (1))) : Int32).toNatClampNeg) + (1)), Y84.2.2.2.1, Y84.2.2.2.2.1, Y84.2.2.2.2.2.1, Y84.2.2.2.2.2.2.1, Y84.2.2.2.2.2.2.2.1, Y84.2.2.2.2.2.2.2.2.1, Y84.2.2.2.2.2.2.2.2.2.1, Y84.2.2.2.2.2.2.2.2.2.2.1, Y84.2.2.2.2.2.2.2.2.2.2.2.1, Y84.2.2.2.2.2.2.2.2.2.2.2.2.1, (Y84.2.2.2.2.2.2.2.2.2.2.2.2.2.1) + (1), Y84.2.2.2.2.2.2.2.2.2.2.2.2.2.2) T))) rfl lfRX1_86 rfl (Nat.le_of_ble_eq_true rfl) (by intro q hq; cases hq; rfl) rfl ?_
                  refine mr_goto (pc := 134) 50 rfl (by decide) ?_
                  refine ms_drop (i := 2) (L' := [some (.ref 8), some (.int (b1)), none]) rfl ?_
                  exact ih9 _ _ _ _ h
                · have h := (if_neg c87).symm.trans h
                  refine mr_iload_n (pc := 90) (x := b1) rfl rfl ?_
                  refine mr_goto (pc := 91) 97 rfl (by decide) ?_
                  refine ms_istore_n (pc := 97) (L' := [some (.ref 8), some (.int (b1)), some (.int (b1))]) rfl (by decide) rfl rfl ?_
                  refine mr_aload_n (pc := 98) (x := 8) rfl rfl ?_
                  refine mr_getfield (pc := 99) (v := .ref 11) rfl lfRX1_17 rfl rfl ?_
                  refine mr_iload_n (pc := 102) (x := b1) rfl rfl ?_
                  refine mr_dup2 (pc := 103) rfl rfl rfl ?_
                  obtain ⟨g104, h⟩ := m_gd h
                  refine mr_iaload (pc := 104) (f := Y84.2.2.1) rfl rfl (vpb_in g104) ?_
                  refine mr_iconst (pc := 105) (v := 1) rfl (by decide) ?_
                  refine mr_isub (pc := 106) rfl ?_
                  obtain ⟨g107, h⟩ := m_gd h
                  refine ms_iastore (pc := 107) (f := Y84.2.2.1) (h' := (xw Z (yw (Y84.1, Y84.2.1, upd (Y84.2.2.1) ((b1) : Int32).toNatClampNeg (((Y84.2.2.1) ((b1) : Int32).toNatClampNeg) - (1)), Y84.2.2.2.1, Y84.2.2.2.2.1, Y84.2.2.2.2.2.1, Y84.2.2.2.2.2.2.1, Y84.2.2.2.2.2.2.2.1, Y84.2.2.2.2.2.2.2.2.1, Y84.2.2.2.2.2.2.2.2.2.1, Y84.2.2.2.2.2.2.2.2.2.2.1, Y84.2.2.2.2.2.2.2.2.2.2.2.1, Y84.2.2.2.2.2.2.2.2.2.2.2.2.1, Y84.2.2.2.2.2.2.2.2.2.2.2.2.2.1, Y84.2.2.2.2.2.2.2.2.2.2.2.2.2.2) T))) rfl rfl g107 rfl ?_
                  refine mr_aload_n (pc := 108) (x := 8) rfl rfl ?_
                  refine mr_getfield (pc := 109) (v := .ref 11) rfl lfRX1_17 rfl rfl ?_
                  refine mr_iconst (pc := 112) (v := 2) rfl (by decide) ?_
                  refine mr_iload_n (pc := 113) (x := b1) rfl rfl ?_
                  refine mr_imul (pc := 114) rfl ?_
                  refine mr_iconst (pc := 115) (v := 1) rfl (by decide) ?_
                  refine mr_iadd (pc := 116) rfl ?_
                  refine mr_iload_n (pc := 117) (x := b1) rfl rfl ?_
                  refine mr_isub (pc := 118) rfl ?_
                  refine mr_dup2 (pc := 119) rfl rfl rfl ?_
                  obtain ⟨g120, h⟩ := m_gd h
                  refine mr_iaload (pc := 120) (f := upd (Y84.2.2.1) ((b1) : Int32).toNatClampNeg (((Y84.2.2.1) ((b1) : Int32).toNatClampNeg) - (1))) rfl rfl (vpb_in g120) ?_
                  refine mr_iconst (pc := 121) (v := 1) rfl (by decide) ?_
                  refine mr_iadd (pc := 122) rfl ?_
                  obtain ⟨g123, h⟩ := m_gd h
                  refine ms_iastore (pc := 123) (f := upd (Y84.2.2.1) ((b1) : Int32).toNatClampNeg (((Y84.2.2.1) ((b1) : Int32).toNatClampNeg) - (1))) (h' := (xw Z (yw (Y84.1, Y84.2.1, upd (upd (Y84.2.2.1) ((b1) : Int32).toNatClampNeg (((Y84.2.2.1) ((b1) : Int32).toNatClampNeg) - (1))) (((((2) * (b1)) + (1)) - (b1)) : Int32).toNatClampNeg (((upd (Y84.2.2.1) ((b1) : Int32).toNatClampNeg (((Y84.2.2.1) ((b1) : Int32).toNatClampNeg) - (1))) (((((2) * (b1)) + (1)) - (b1)) : Int32).toNatClampNeg) + (1)), Y84.2.2.2.1, Y84.2.2.2.2.1, Y84.2.2.2.2.2.1, Y84.2.2.2.2.2.2.1, Y84.2.2.2.2.2.2.2.1, Y84.2.2.2.2.2.2.2.2.1, Y84.2.2.2.2.2.2.2.2.2.1, Y84.2.2.2.2.2.2.2.2.2.2.1, Y84.2.2.2.2.2.2.2.2.2.2.2.1, Y84.2.2.2.2.2.2.2.2.2.2.2.2.1, Y84.2.2.2.2.2.2.2.2.2.2.2.2.2.1, Y84.2.2.2.2.2.2.2.2.2.2.2.2.2.2) T))) rfl rfl g123 rfl ?_
                  refine mr_aload_n (pc := 124) (x := 8) rfl rfl ?_
                  refine mr_dup (pc := 125) rfl rfl ?_
                  refine mr_getfield (pc := 126) (v := .int (Y84.2.2.2.2.2.2.2.2.2.2.2.2.2.1)) rfl lfRX1_86 rfl rfl ?_
                  refine mr_iconst (pc := 129) (v := 1) rfl (by decide) ?_
                  refine mr_iadd (pc := 130) rfl ?_
                  refine ms_putfield (pc := 131) (h' := (xw Z (yw (Y84.1, Y84.2.1, upd (upd (Y84.2.2.1) ((b1) : Int32).toNatClampNeg (((Y84.2.2.1) ((b1) : Int32).toNatClampNeg) - (1))) (((((2) * (b1)) + (1)) - (b1)) : Int32).toNatClampNeg (((upd (Y84.2.2.1) ((b1) : Int32).toNatClampNeg (((Y84.2.2.1) ((b1) : Int32).toNatClampNeg) - (1))) (((((2) * (b1)) + (1)) - (b1)) : Int32).toNatClampNeg) + (1)), Y84.2.2.2.1, Y84.2.2.2.2.1, Y84.2.2.2.2.2.1, Y84.2.2.2.2.2.2.1, Y84.2.2.2.2.2.2.2.1, Y84.2.2.2.2.2.2.2.2.1, Y84.2.2.2.2.2.2.2.2.2.1, Y84.2.2.2.2.2.2.2.2.2.2.1, Y84.2.2.2.2.2.2.2.2.2.2.2.1, Y84.2.2.2.2.2.2.2.2.2.2.2.2.1, (Y84.2.2.2.2.2.2.2.2.2.2.2.2.2.1) + (1), Y84.2.2.2.2.2.2.2.2.2.2.2.2.2.2) T))) rfl lfRX1_86 rfl (Nat.le_of_ble_eq_true rfl) (by intro q hq; cases hq; rfl) rfl ?_
                  refine mr_goto (pc := 134) 50 rfl (by decide) ?_
                  refine ms_drop (i := 2) (L' := [some (.ref 8), some (.int (b1)), none]) rfl ?_
                  exact ih9 _ _ _ _ h
              · cases hr; exact mr_thrown (mRunV (pc := 84) (q := 8) (As := [.int ((b1) + (1))]) (rest := [.int (v77)]) rfl lkRX1_76 rfl rfl rfl (Nat.le_of_ble_eq_true rfl) (Nat.le_of_ble_eq_true rfl) (F_X1_heightOf hc84)) rfl rfl (Nat.le_of_ble_eq_true rfl) (Nat.le_of_ble_eq_true rfl)
            · cases hr; exact mr_thrown (mRunV (pc := 77) (q := 8) (As := [.int (b1)]) (rest := []) rfl lkRX1_76 rfl rfl rfl (Nat.le_of_ble_eq_true rfl) (Nat.le_of_ble_eq_true rfl) (F_X1_heightOf hc77)) rfl rfl (Nat.le_of_ble_eq_true rfl) (Nat.le_of_ble_eq_true rfl)
        · cases hr; exact mr_thrown (mRunV (pc := 69) (q := 8) (As := [.int ((b1) + (1))]) (rest := [.int (v62)]) rfl lkRX1_76 rfl rfl rfl (Nat.le_of_ble_eq_true rfl) (Nat.le_of_ble_eq_true rfl) (F_X1_heightOf hc69)) rfl rfl (Nat.le_of_ble_eq_true rfl) (Nat.le_of_ble_eq_true rfl)
      · cases hr; exact mr_thrown (mRunV (pc := 62) (q := 8) (As := [.int (b1)]) (rest := []) rfl lkRX1_76 rfl rfl rfl (Nat.le_of_ble_eq_true rfl) (Nat.le_of_ble_eq_true rfl) (F_X1_heightOf hc62)) rfl rfl (Nat.le_of_ble_eq_true rfl) (Nat.le_of_ble_eq_true rfl)
def g_X1_levels (Y : rS) (a1 : Int32) : Option (mO × rS) := bI (g_X1_hold Y (a1)) (fun v2 Y2 => if ((v2) : Int32) = 0 then (some (.inl (some (.int (0))), Y2)) else (bI (g_X1_hold Y2 ((a1) + (1))) (fun v12 Y12 => if ((v12) : Int32) = 0 then (some (.inl (some (.int (0))), Y12)) else (if vpb (a1) 7 then (if (((Y12.2.2.2.2.2.2.1) ((a1) : Int32).toNatClampNeg) : Int32) = 0 then (bI (g_X1_fail Y12 (2)) (fun v31 Y31 => if ((v31) : Int32) = 0 ∨ ((v31) : Int32) = 1 then (some (.inl (some (.int (v31))), Y31)) else none)) else (if vpb (a1) 7 then (if vpb (a1) 7 then (g_X1_levels_50 mK (Y12.1, Y12.2.1, Y12.2.2.1, Y12.2.2.2.1, Y12.2.2.2.2.1, Y12.2.2.2.2.2.1, upd (Y12.2.2.2.2.2.2.1) ((a1) : Int32).toNatClampNeg (((Y12.2.2.2.2.2.2.1) ((a1) : Int32).toNatClampNeg) - (1)), Y12.2.2.2.2.2.2.2.1, Y12.2.2.2.2.2.2.2.2.1, Y12.2.2.2.2.2.2.2.2.2.1, Y12.2.2.2.2.2.2.2.2.2.2.1, Y12.2.2.2.2.2.2.2.2.2.2.2.1, Y12.2.2.2.2.2.2.2.2.2.2.2.2.1, 0, Y12.2.2.2.2.2.2.2.2.2.2.2.2.2.2) (a1)) else none) else none)) else none))))
set_option maxRecDepth 100000 in
set_option maxHeartbeats 4000000 in
theorem F_X1_levels {S : Nat × (Nat → Int32)} {Z : cS} {T : mH} {Y R9 : rS} {o9 : mO} {a1 : Int32} (h : g_X1_levels Y a1 = some (o9, R9)) : mF S MX1_levels 0 (mEnt [.ref 8, .int a1] 3) [] (xw Z (yw Y T)) 0 0 (o9, (xw Z (yw R9 T)), 0, 0) := by
  unfold g_X1_levels at h
  refine mr_aload_n (pc := 0) (x := 8) rfl rfl ?_
  refine mr_iload_n (pc := 1) (x := a1) rfl rfl ?_
  rcases bI_inv h with ⟨v2, Y2, hc2, h⟩ | ⟨E2, Y2, hc2, hr⟩
  · refine mr_ret (mRunV (pc := 2) (q := 8) (As := [.int (a1)]) (rest := []) rfl lkRX1_65 rfl rfl rfl (Nat.le_of_ble_eq_true rfl) (Nat.le_of_ble_eq_true rfl) (F_X1_hold hc2)) rfl (Nat.le_of_ble_eq_true rfl) (Nat.le_of_ble_eq_true rfl) ?_
    refine mr_if_eq (pc := 5) 18 rfl (by decide) (fun c5 => ?_) (fun c5 => ?_)
    · have h := (if_pos c5).symm.trans h
      refine mr_iconst (pc := 18) (v := 0) rfl (by decide) ?_
      cases h; exact mr_zreturn (pc := 19) rfl rfl (Or.inl rfl) (Nat.le_of_ble_eq_true rfl) (Nat.le_of_ble_eq_true rfl)
    · have h := (if_neg c5).symm.trans h
      refine mr_aload_n (pc := 8) (x := 8) rfl rfl ?_
      refine mr_iload_n (pc := 9) (x := a1) rfl rfl ?_
      refine mr_iconst (pc := 10) (v := 1) rfl (by decide) ?_
      refine mr_iadd (pc := 11) rfl ?_
      rcases bI_inv h with ⟨v12, Y12, hc12, h⟩ | ⟨E12, Y12, hc12, hr⟩
      · refine mr_ret (mRunV (pc := 12) (q := 8) (As := [.int ((a1) + (1))]) (rest := []) rfl lkRX1_65 rfl rfl rfl (Nat.le_of_ble_eq_true rfl) (Nat.le_of_ble_eq_true rfl) (F_X1_hold hc12)) rfl (Nat.le_of_ble_eq_true rfl) (Nat.le_of_ble_eq_true rfl) ?_
        refine mr_if_ne (pc := 15) 20 rfl (by decide) (fun c15 => ?_) (fun c15 => ?_)
        · have h := (if_neg c15).symm.trans h
          refine mr_aload_n (pc := 20) (x := 8) rfl rfl ?_
          refine mr_getfield (pc := 21) (v := .ref 15) rfl lfRX1_29 rfl rfl ?_
          refine mr_iload_n (pc := 24) (x := a1) rfl rfl ?_
          obtain ⟨g25, h⟩ := m_gd h
          refine mr_iaload (pc := 25) (f := Y12.2.2.2.2.2.2.1) rfl rfl (vpb_in g25) ?_
          refine mr_if_ne (pc := 26) 35 rfl (by decide) (fun c26 => ?_) (fun c26 => ?_)
          · have h := (if_neg c26).symm.trans h
            refine mr_aload_n (pc := 35) (x := 8) rfl rfl ?_
            refine mr_getfield (pc := 36) (v := .ref 15) rfl lfRX1_29 rfl rfl ?_
            refine mr_iload_n (pc := 39) (x := a1) rfl rfl ?_
            refine mr_dup2 (pc := 40) rfl rfl rfl ?_
            obtain ⟨g41, h⟩ := m_gd h
            refine mr_iaload (pc := 41) (f := Y12.2.2.2.2.2.2.1) rfl rfl (vpb_in g41) ?_
            refine mr_iconst (pc := 42) (v := 1) rfl (by decide) ?_
            refine mr_isub (pc := 43) rfl ?_
            obtain ⟨g44, h⟩ := m_gd h
            refine ms_iastore (pc := 44) (f := Y12.2.2.2.2.2.2.1) (h' := (xw Z (yw (Y12.1, Y12.2.1, Y12.2.2.1, Y12.2.2.2.1, Y12.2.2.2.2.1, Y12.2.2.2.2.2.1, upd (Y12.2.2.2.2.2.2.1) ((a1) : Int32).toNatClampNeg (((Y12.2.2.2.2.2.2.1) ((a1) : Int32).toNatClampNeg) - (1)), Y12.2.2.2.2.2.2.2.1, Y12.2.2.2.2.2.2.2.2.1, Y12.2.2.2.2.2.2.2.2.2.1, Y12.2.2.2.2.2.2.2.2.2.2.1, Y12.2.2.2.2.2.2.2.2.2.2.2.1, Y12.2.2.2.2.2.2.2.2.2.2.2.2.1, Y12.2.2.2.2.2.2.2.2.2.2.2.2.2.1, Y12.2.2.2.2.2.2.2.2.2.2.2.2.2.2) T))) rfl rfl g44 rfl ?_
            refine mr_aload_n (pc := 45) (x := 8) rfl rfl ?_
            refine mr_iconst (pc := 46) (v := 0) rfl (by decide) ?_
            refine ms_putfield (pc := 47) (h' := (xw Z (yw (Y12.1, Y12.2.1, Y12.2.2.1, Y12.2.2.2.1, Y12.2.2.2.2.1, Y12.2.2.2.2.2.1, upd (Y12.2.2.2.2.2.2.1) ((a1) : Int32).toNatClampNeg (((Y12.2.2.2.2.2.2.1) ((a1) : Int32).toNatClampNeg) - (1)), Y12.2.2.2.2.2.2.2.1, Y12.2.2.2.2.2.2.2.2.1, Y12.2.2.2.2.2.2.2.2.2.1, Y12.2.2.2.2.2.2.2.2.2.2.1, Y12.2.2.2.2.2.2.2.2.2.2.2.1, Y12.2.2.2.2.2.2.2.2.2.2.2.2.1, 0, Y12.2.2.2.2.2.2.2.2.2.2.2.2.2.2) T))) rfl lfRX1_86 rfl (Nat.le_of_ble_eq_true rfl) (by intro q hq; cases hq; rfl) rfl ?_
            exact FL_X1_levels_50 mK _ _ _ _ h
          · have h := (if_pos c26).symm.trans h
            refine mr_aload_n (pc := 29) (x := 8) rfl rfl ?_
            refine mr_iconst (pc := 30) (v := 2) rfl (by decide) ?_
            rcases bI_inv h with ⟨v31, Y31, hc31, h⟩ | ⟨E31, Y31, hc31, hr⟩
            · refine mr_ret (mRunV (pc := 31) (q := 8) (As := [.int (2)]) (rest := []) rfl lkRX1_58 rfl rfl rfl (Nat.le_of_ble_eq_true rfl) (Nat.le_of_ble_eq_true rfl) (F_X1_fail hc31)) rfl (Nat.le_of_ble_eq_true rfl) (Nat.le_of_ble_eq_true rfl) ?_
              obtain ⟨g34, h⟩ := m_gd h
              cases h; exact mr_zreturn (pc := 34) rfl rfl g34 (Nat.le_of_ble_eq_true rfl) (Nat.le_of_ble_eq_true rfl)
            · cases hr; exact mr_thrown (mRunV (pc := 31) (q := 8) (As := [.int (2)]) (rest := []) rfl lkRX1_58 rfl rfl rfl (Nat.le_of_ble_eq_true rfl) (Nat.le_of_ble_eq_true rfl) (F_X1_fail hc31)) rfl rfl (Nat.le_of_ble_eq_true rfl) (Nat.le_of_ble_eq_true rfl)
        · have h := (if_pos c15).symm.trans h
          refine mr_iconst (pc := 18) (v := 0) rfl (by decide) ?_
          cases h; exact mr_zreturn (pc := 19) rfl rfl (Or.inl rfl) (Nat.le_of_ble_eq_true rfl) (Nat.le_of_ble_eq_true rfl)
      · cases hr; exact mr_thrown (mRunV (pc := 12) (q := 8) (As := [.int ((a1) + (1))]) (rest := []) rfl lkRX1_65 rfl rfl rfl (Nat.le_of_ble_eq_true rfl) (Nat.le_of_ble_eq_true rfl) (F_X1_hold hc12)) rfl rfl (Nat.le_of_ble_eq_true rfl) (Nat.le_of_ble_eq_true rfl)
  · cases hr; exact mr_thrown (mRunV (pc := 2) (q := 8) (As := [.int (a1)]) (rest := []) rfl lkRX1_65 rfl rfl rfl (Nat.le_of_ble_eq_true rfl) (Nat.le_of_ble_eq_true rfl) (F_X1_hold hc2)) rfl rfl (Nat.le_of_ble_eq_true rfl) (Nat.le_of_ble_eq_true rfl)
