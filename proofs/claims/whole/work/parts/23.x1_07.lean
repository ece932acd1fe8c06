/-! THE METHODS OF X1 AS FUNCTIONS, by program (wip/whole/gencode.py) -/
def g_X1_trip (Y : rS) (a1 a2 : Int32) : Option (mO × rS) := cI (g_X1_isBoat (a1)) Y (fun v2 => if ((v2) : Int32) = 0 then (if ((1) : Int32) ≤ 0 then (if vpb (a1) 10 then (if (((Y.2.2.2.2.1) ((a1) : Int32).toNatClampNeg) : Int32) = (((-1)) : Int32) then (some (.inl (some (.int ((-20)))), (Y.1, Y.2.1, Y.2.2.1, Y.2.2.2.1, Y.2.2.2.2.1, Y.2.2.2.2.2.1, Y.2.2.2.2.2.2.1, Y.2.2.2.2.2.2.2.1, 1, Y.2.2.2.2.2.2.2.2.2.1, Y.2.2.2.2.2.2.2.2.2.2.1, Y.2.2.2.2.2.2.2.2.2.2.2.1, Y.2.2.2.2.2.2.2.2.2.2.2.2.1, Y.2.2.2.2.2.2.2.2.2.2.2.2.2.1, Y.2.2.2.2.2.2.2.2.2.2.2.2.2.2))) else (bI (g_X1_flies (Y.1, Y.2.1, Y.2.2.1, Y.2.2.2.1, Y.2.2.2.2.1, Y.2.2.2.2.2.1, Y.2.2.2.2.2.2.1, Y.2.2.2.2.2.2.2.1, 1, Y.2.2.2.2.2.2.2.2.2.1, Y.2.2.2.2.2.2.2.2.2.2.1, Y.2.2.2.2.2.2.2.2.2.2.2.1, Y.2.2.2.2.2.2.2.2.2.2.2.2.1, Y.2.2.2.2.2.2.2.2.2.2.2.2.2.1, Y.2.2.2.2.2.2.2.2.2.2.2.2.2.2) (a1) (a2)) (fun v48 Y48 => if ((v48) : Int32) = 0 then (some (.inl (some (.int ((((-10)) * (Y48.2.2.2.2.2.2.2.2.2.2.2.2.1)) - (Y48.2.2.2.2.2.2.2.2.2.2.2.2.2.2)))), Y48)) else (some (.inl (some (.int (Y48.2.2.2.2.2.2.2.2.2.2.2.2.2.2))), Y48))))) else none) else (some (.inl (some (.int (0))), (Y.1, Y.2.1, Y.2.2.1, Y.2.2.2.1, Y.2.2.2.2.1, Y.2.2.2.2.2.1, Y.2.2.2.2.2.2.1, Y.2.2.2.2.2.2.2.1, 1, Y.2.2.2.2.2.2.2.2.2.1, Y.2.2.2.2.2.2.2.2.2.2.1, Y.2.2.2.2.2.2.2.2.2.2.2.1, Y.2.2.2.2.2.2.2.2.2.2.2.2.1, Y.2.2.2.2.2.2.2.2.2.2.2.2.2.1, Y.2.2.2.2.2.2.2.2.2.2.2.2.2.2)))) else (cI (g_X1_isPool (a2)) Y (fun v9 => if ((v9) : Int32) = 0 then (if ((1) : Int32) ≤ 0 then (if vpb (a1) 10 then (if (((Y.2.2.2.2.1) ((a1) : Int32).toNatClampNeg) : Int32) = (((-1)) : Int32) then (some (.inl (some (.int ((-20)))), (Y.1, Y.2.1, Y.2.2.1, Y.2.2.2.1, Y.2.2.2.2.1, Y.2.2.2.2.2.1, Y.2.2.2.2.2.2.1, Y.2.2.2.2.2.2.2.1, 1, Y.2.2.2.2.2.2.2.2.2.1, Y.2.2.2.2.2.2.2.2.2.2.1, Y.2.2.2.2.2.2.2.2.2.2.2.1, Y.2.2.2.2.2.2.2.2.2.2.2.2.1, Y.2.2.2.2.2.2.2.2.2.2.2.2.2.1, Y.2.2.2.2.2.2.2.2.2.2.2.2.2.2))) else (bI (g_X1_flies (Y.1, Y.2.1, Y.2.2.1, Y.2.2.2.1, Y.2.2.2.2.1, Y.2.2.2.2.2.1, Y.2.2.2.2.2.2.1, Y.2.2.2.2.2.2.2.1, 1, Y.2.2.2.2.2.2.2.2.2.1, Y.2.2.2.2.2.2.2.2.2.2.1, Y.2.2.2.2.2.2.2.2.2.2.2.1, Y.2.2.2.2.2.2.2.2.2.2.2.2.1, Y.2.2.2.2.2.2.2.2.2.2.2.2.2.1, Y.2.2.2.2.2.2.2.2.2.2.2.2.2.2) (a1) (a2)) (fun v48 Y48 => if ((v48) : Int32) = 0 then (some (.inl (some (.int ((((-10)) * (Y48.2.2.2.2.2.2.2.2.2.2.2.2.1)) - (Y48.2.2.2.2.2.2.2.2.2.2.2.2.2.2)))), Y48)) else (some (.inl (some (.int (Y48.2.2.2.2.2.2.2.2.2.2.2.2.2.2))), Y48))))) else none) else (some (.inl (some (.int (0))), (Y.1, Y.2.1, Y.2.2.1, Y.2.2.2.1, Y.2.2.2.2.1, Y.2.2.2.2.2.1, Y.2.2.2.2.2.2.1, Y.2.2.2.2.2.2.2.1, 1, Y.2.2.2.2.2.2.2.2.2.1, Y.2.2.2.2.2.2.2.2.2.2.1, Y.2.2.2.2.2.2.2.2.2.2.2.1, Y.2.2.2.2.2.2.2.2.2.2.2.2.1, Y.2.2.2.2.2.2.2.2.2.2.2.2.2.1, Y.2.2.2.2.2.2.2.2.2.2.2.2.2.2)))) else (if ((0) : Int32) ≤ 0 then (if vpb (a1) 10 then (if (((Y.2.2.2.2.1) ((a1) : Int32).toNatClampNeg) : Int32) = (((-1)) : Int32) then (some (.inl (some (.int ((-20)))), (Y.1, Y.2.1, Y.2.2.1, Y.2.2.2.1, Y.2.2.2.2.1, Y.2.2.2.2.2.1, Y.2.2.2.2.2.2.1, Y.2.2.2.2.2.2.2.1, 0, Y.2.2.2.2.2.2.2.2.2.1, Y.2.2.2.2.2.2.2.2.2.2.1, Y.2.2.2.2.2.2.2.2.2.2.2.1, Y.2.2.2.2.2.2.2.2.2.2.2.2.1, Y.2.2.2.2.2.2.2.2.2.2.2.2.2.1, Y.2.2.2.2.2.2.2.2.2.2.2.2.2.2))) else (bI (g_X1_flies (Y.1, Y.2.1, Y.2.2.1, Y.2.2.2.1, Y.2.2.2.2.1, Y.2.2.2.2.2.1, Y.2.2.2.2.2.2.1, Y.2.2.2.2.2.2.2.1, 0, Y.2.2.2.2.2.2.2.2.2.1, Y.2.2.2.2.2.2.2.2.2.2.1, Y.2.2.2.2.2.2.2.2.2.2.2.1, Y.2.2.2.2.2.2.2.2.2.2.2.2.1, Y.2.2.2.2.2.2.2.2.2.2.2.2.2.1, Y.2.2.2.2.2.2.2.2.2.2.2.2.2.2) (a1) (a2)) (fun v48 Y48 => if ((v48) : Int32) = 0 then (some (.inl (some (.int ((((-10)) * (Y48.2.2.2.2.2.2.2.2.2.2.2.2.1)) - (Y48.2.2.2.2.2.2.2.2.2.2.2.2.2.2)))), Y48)) else (some (.inl (some (.int (Y48.2.2.2.2.2.2.2.2.2.2.2.2.2.2))), Y48))))) else none) else (some (.inl (some (.int (0))), (Y.1, Y.2.1, Y.2.2.1, Y.2.2.2.1, Y.2.2.2.2.1, Y.2.2.2.2.2.1, Y.2.2.2.2.2.2.1, Y.2.2.2.2.2.2.2.1, 0, Y.2.2.2.2.2.2.2.2.2.1, Y.2.2.2.2.2.2.2.2.2.2.1, Y.2.2.2.2.2.2.2.2.2.2.2.1, Y.2.2.2.2.2.2.2.2.2.2.2.2.1, Y.2.2.2.2.2.2.2.2.2.2.2.2.2.1, Y.2.2.2.2.2.2.2.2.2.2.2.2.2.2)))))))
set_option maxRecDepth 100000 in
set_option maxHeartbeats 4000000 in
theorem F_X1_trip {S : Nat × (Nat → Int32)} {Z : cS} {T : mH} {Y R9 : rS} {o9 : mO} {a1 a2 : Int32} (h : g_X1_trip Y a1 a2 = some (o9, R9)) : mF S MX1_trip 0 (mEnt [.ref 8, .int a1, .int a2] 3) [] (xw Z (yw Y T)) 0 0 (o9, (xw Z (yw R9 T)), 0, 0) := by
  unfold g_X1_trip at h
  refine mr_aload_n (pc := 0) (x := 8) rfl rfl ?_
  refine mr_iload_n (pc := 1) (x := a1) rfl rfl ?_
  rcases cI_inv h with ⟨v2, hc2, h⟩ | ⟨E2, hc2, hr⟩
  · refine mr_ret (mRunS (pc := 2) (As := [.int (a1)]) (rest := [.ref 8]) rfl lkRX1_80 rfl (Nat.le_of_ble_eq_true rfl) (Nat.le_of_ble_eq_true rfl) (F_X1_isBoat hc2)) rfl (Nat.le_of_ble_eq_true rfl) (Nat.le_of_ble_eq_true rfl) ?_
    refine mr_if_eq (pc := 5) 15 rfl (by decide) (fun c5 => ?_) (fun c5 => ?_)
    · have h := (if_pos c5).symm.trans h
      refine mr_iconst (pc := 15) (v := 1) rfl (by decide) ?_
      refine mr_goto (pc := 16) 20 rfl (by decide) ?_
      refine ms_putfield (pc := 20) (h' := (xw Z (yw (Y.1, Y.2.1, Y.2.2.1, Y.2.2.2.1, Y.2.2.2.2.1, Y.2.2.2.2.2.1, Y.2.2.2.2.2.2.1, Y.2.2.2.2.2.2.2.1, 1, Y.2.2.2.2.2.2.2.2.2.1, Y.2.2.2.2.2.2.2.2.2.2.1, Y.2.2.2.2.2.2.2.2.2.2.2.1, Y.2.2.2.2.2.2.2.2.2.2.2.2.1, Y.2.2.2.2.2.2.2.2.2.2.2.2.2.1, Y.2.2.2.2.2.2.2.2.2.2.2.2.2.2) T))) rfl lfRX1_38 rfl (Nat.le_of_ble_eq_true rfl) (by intro q hq; cases hq; rfl) rfl ?_
      refine mr_aload_n (pc := 23) (x := 8) rfl rfl ?_
      refine mr_getfield (pc := 24) (v := .int (1)) rfl lfRX1_38 rfl rfl ?_
      refine mr_if_le (pc := 27) 32 rfl (by decide) (fun c27 => ?_) (fun c27 => ?_)
      · have h := (if_pos c27).symm.trans h
        refine mr_aload_n (pc := 32) (x := 8) rfl rfl ?_
        refine mr_getfield (pc := 33) (v := .ref 13) rfl lfRX1_23 rfl rfl ?_
        refine mr_iload_n (pc := 36) (x := a1) rfl rfl ?_
        obtain ⟨g37, h⟩ := m_gd h
        refine mr_iaload (pc := 37) (f := Y.2.2.2.2.1) rfl rfl (vpb_in g37) ?_
        refine mr_iconst (pc := 38) (v := -1) rfl (by decide) ?_
        refine mr_icmp_ne (pc := 39) 45 rfl (by decide) (fun c39 => ?_) (fun c39 => ?_)
        · have h := (if_neg c39).symm.trans h
          refine mr_aload_n (pc := 45) (x := 8) rfl rfl ?_
          refine mr_iload_n (pc := 46) (x := a1) rfl rfl ?_
          refine mr_iload_n (pc := 47) (x := a2) rfl rfl ?_
          rcases bI_inv h with ⟨v48, Y48, hc48, h⟩ | ⟨E48, Y48, hc48, hr⟩
          · refine mr_ret (mRunV (pc := 48) (q := 8) (As := [.int (a1), .int (a2)]) (rest := []) rfl lkRX1_99 rfl rfl rfl (Nat.le_of_ble_eq_true rfl) (Nat.le_of_ble_eq_true rfl) (F_X1_flies hc48)) rfl (Nat.le_of_ble_eq_true rfl) (Nat.le_of_ble_eq_true rfl) ?_
            refine mr_if_eq (pc := 51) 61 rfl (by decide) (fun c51 => ?_) (fun c51 => ?_)
            · have h := (if_pos c51).symm.trans h
              refine mr_bipush (pc := 61) (v := -10) rfl (by decide) ?_
              refine mr_aload_n (pc := 63) (x := 8) rfl rfl ?_
              refine mr_getfield (pc := 64) (v := .int (Y48.2.2.2.2.2.2.2.2.2.2.2.2.1)) rfl lfRX1_51 rfl rfl ?_
              refine mr_imul (pc := 67) rfl ?_
              refine mr_aload_n (pc := 68) (x := 8) rfl rfl ?_
              refine mr_getfield (pc := 69) (v := .int (Y48.2.2.2.2.2.2.2.2.2.2.2.2.2.2)) rfl lfRX1_96 rfl rfl ?_
              refine mr_isub (pc := 72) rfl ?_
              cases h; exact mr_ireturn (pc := 73) rfl rfl (Nat.le_of_ble_eq_true rfl) (Nat.le_of_ble_eq_true rfl)
            · have h := (if_neg c51).symm.trans h
              refine mr_aload_n (pc := 54) (x := 8) rfl rfl ?_
              refine mr_getfield (pc := 55) (v := .int (Y48.2.2.2.2.2.2.2.2.2.2.2.2.2.2)) rfl lfRX1_96 rfl rfl ?_
              refine mr_goto (pc := 58) 73 rfl (by decide) ?_
              cases h; exact mr_ireturn (pc := 73) rfl rfl (Nat.le_of_ble_eq_true rfl) (Nat.le_of_ble_eq_true rfl)
          · cases hr; exact mr_thrown (mRunV (pc := 48) (q := 8) (As := [.int (a1), .int (a2)]) (rest := []) rfl lkRX1_99 rfl rfl rfl (Nat.le_of_ble_eq_true rfl) (Nat.le_of_ble_eq_true rfl) (F_X1_flies hc48)) rfl rfl (Nat.le_of_ble_eq_true rfl) (Nat.le_of_ble_eq_true rfl)
        · have h := (if_pos c39).symm.trans h
          refine mr_bipush (pc := 42) (v := -20) rfl (by decide) ?_
          cases h; exact mr_ireturn (pc := 44) rfl rfl (Nat.le_of_ble_eq_true rfl) (Nat.le_of_ble_eq_true rfl)
      · have h := (if_neg c27).symm.trans h
        refine mr_iconst (pc := 30) (v := 0) rfl (by decide) ?_
        cases h; exact mr_ireturn (pc := 31) rfl rfl (Nat.le_of_ble_eq_true rfl) (Nat.le_of_ble_eq_true rfl)
    · have h := (if_neg c5).symm.trans h
      refine mr_iload_n (pc := 8) (x := a2) rfl rfl ?_
      rcases cI_inv h with ⟨v9, hc9, h⟩ | ⟨E9, hc9, hr⟩
      · refine mr_ret (mRunS (pc := 9) (As := [.int (a2)]) (rest := [.ref 8]) rfl lkRX1_62 rfl (Nat.le_of_ble_eq_true rfl) (Nat.le_of_ble_eq_true rfl) (F_X1_isPool hc9)) rfl (Nat.le_of_ble_eq_true rfl) (Nat.le_of_ble_eq_true rfl) ?_
        refine mr_if_ne (pc := 12) 19 rfl (by decide) (fun c12 => ?_) (fun c12 => ?_)
        · have h := (if_neg c12).symm.trans h
          refine mr_iconst (pc := 19) (v := 0) rfl (by decide) ?_
          refine ms_putfield (pc := 20) (h' := (xw Z (yw (Y.1, Y.2.1, Y.2.2.1, Y.2.2.2.1, Y.2.2.2.2.1, Y.2.2.2.2.2.1, Y.2.2.2.2.2.2.1, Y.2.2.2.2.2.2.2.1, 0, Y.2.2.2.2.2.2.2.2.2.1, Y.2.2.2.2.2.2.2.2.2.2.1, Y.2.2.2.2.2.2.2.2.2.2.2.1, Y.2.2.2.2.2.2.2.2.2.2.2.2.1, Y.2.2.2.2.2.2.2.2.2.2.2.2.2.1, Y.2.2.2.2.2.2.2.2.2.2.2.2.2.2) T))) rfl lfRX1_38 rfl (Nat.le_of_ble_eq_true rfl) (by intro q hq; cases hq; rfl) rfl ?_
          refine mr_aload_n (pc := 23) (x := 8) rfl rfl ?_
          refine mr_getfield (pc := 24) (v := .int (0)) rfl lfRX1_38 rfl rfl ?_
          refine mr_if_le (pc := 27) 32 rfl (by decide) (fun c27 => ?_) (fun c27 => ?_)
          · have h := (if_pos c27).symm.trans h
            refine mr_aload_n (pc := 32) (x := 8) rfl rfl ?_
            refine mr_getfield (pc := 33) (v := .ref 13) rfl lfRX1_23 rfl rfl ?_
            refine mr_iload_n (pc := 36) (x := a1) rfl rfl ?_
            obtain ⟨g37, h⟩ := m_gd h
            refine mr_iaload (pc := 37) (f := Y.2.2.2.2.1) rfl rfl (vpb_in g37) ?_
            refine mr_iconst (pc := 38) (v := -1) rfl (by decide) ?_
            refine mr_icmp_ne (pc := 39) 45 rfl (by decide) (fun c39 => ?_) (fun c39 => ?_)
            · have h := (if_neg c39).symm.trans h
              refine mr_aload_n (pc := 45) (x := 8) rfl rfl ?_
              refine mr_iload_n (pc := 46) (x := a1) rfl rfl ?_
              refine mr_iload_n (pc := 47) (x := a2) rfl rfl ?_
              rcases bI_inv h with ⟨v48, Y48, hc48, h⟩ | ⟨E48, Y48, hc48, hr⟩
              · refine mr_ret (mRunV (pc := 48) (q := 8) (As := [.int (a1), .int (a2)]) (rest := []) rfl lkRX1_99 rfl rfl rfl (Nat.le_of_ble_eq_true rfl) (Nat.le_of_ble_eq_true rfl) (F_X1_flies hc48)) rfl (Nat.le_of_ble_eq_true rfl) (Nat.le_of_ble_eq_true rfl) ?_
                refine mr_if_eq (pc := 51) 61 rfl (by decide) (fun c51 => ?_) (fun c51 => ?_)
                · have h := (if_pos c51).symm.trans h
                  refine mr_bipush (pc := 61) (v := -10) rfl (by decide) ?_
                  refine mr_aload_n (pc := 63) (x := 8) rfl rfl ?_
                  refine mr_getfield (pc := 64) (v := .int (Y48.2.2.2.2.2.2.2.2.2.2.2.2.1)) rfl lfRX1_51 rfl rfl ?_
                  refine mr_imul (pc := 67) rfl ?_
                  refine mr_aload_n (pc := 68) (x := 8) rfl rfl ?_
                  refine mr_getfield (pc := 69) (v := .int (Y48.2.2.2.2.2.2.2.2.2.2.2.2.2.2)) rfl lfRX1_96 rfl rfl ?_
                  refine mr_isub (pc := 72) rfl ?_
                  cases h; exact mr_ireturn (pc := 73) rfl rfl (Nat.le_of_ble_eq_true rfl) (Nat.le_of_ble_eq_true rfl)
                · have h := (if_neg c51).symm.trans h
                  refine mr_aload_n (pc := 54) (x := 8) rfl rfl ?_
                  refine mr_getfield (pc := 55) (v := .int (Y48.2.2.2.2.2.2.2.2.2.2.2.2.2.2)) rfl lfRX1_96 rfl rfl ?_
                  refine mr_goto (pc := 58) 73 rfl (by decide) ?_
                  cases h; exact mr_ireturn (pc := 73) rfl rfl (Nat.le_of_ble_eq_true rfl) (Nat.le_of_ble_eq_true rfl)
              · cases hr; exact mr_thrown (mRunV (pc := 48) (q := 8) (As := [.int (a1), .int (a2)]) (rest := []) rfl lkRX1_99 rfl rfl rfl (Nat.le_of_ble_eq_true rfl) (Nat.le_of_ble_eq_true rfl) (F_X1_flies hc48)) rfl rfl (Nat.le_of_ble_eq_true rfl) (Nat.le_of_ble_eq_true rfl)
            · have h := (if_pos c39).symm.trans h
              refine mr_bipush (pc := 42) (v := -20) rfl (by decide) ?_
              cases h; exact mr_ireturn (pc := 44) rfl rfl (Nat.le_of_ble_eq_true rfl) (Nat.le_of_ble_eq_true rfl)
          · have h := (if_neg c27).symm.trans h
            refine mr_iconst (pc := 30) (v := 0) rfl (by decide) ?_
            cases h; exact mr_ireturn (pc := 31) rfl rfl (Nat.le_of_ble_eq_true rfl) (Nat.le_of_ble_eq_true rfl)
        · have h := (if_pos c12).symm.trans h
          refine mr_iconst (pc := 15) (v := 1) rfl (by decide) ?_
          refine mr_goto (pc := 16) 20 rfl (by decide) ?_
          refine ms_putfield (pc := 20) (h' := (xw Z (yw (Y.1, Y.2.1, Y.2.2.1, Y.2.2.2.1, Y.2.2.2.2.1, Y.2.2.2.2.2.1, Y.2.2.2.2.2.2.1, Y.2.2.2.2.2.2.2.1, 1, Y.2.2.2.2.2.2.2.2.2.1, Y.2.2.2.2.2.2.2.2.2.2.1, Y.2.2.2.2.2.2.2.2.2.2.2.1, Y.2.2.2.2.2.2.2.2.2.2.2.2.1, Y.2.2.2.2.2.2.2.2.2.2.2.2.2.1, Y.2.2.2.2.2.2.2.2.2.2.2.2.2.2) T))) rfl lfRX1_38 rfl (Nat.le_of_ble_eq_true rfl) (by intro q hq; cases hq; rfl) rfl ?_
          refine mr_aload_n (pc := 23) (x := 8) rfl rfl ?_
          refine mr_getfield (pc := 24) (v := .int (1)) rfl lfRX1_38 rfl rfl ?_
          refine mr_if_le (pc := 27) 32 rfl (by decide) (fun c27 => ?_) (fun c27 => ?_)
          · have h := (if_pos c27).symm.trans h
            refine mr_aload_n (pc := 32) (x := 8) rfl rfl ?_
            refine mr_getfield (pc := 33) (v := .ref 13) rfl lfRX1_23 rfl rfl ?_
            refine mr_iload_n (pc := 36) (x := a1) rfl rfl ?_
            obtain ⟨g37, h⟩ := m_gd h
            refine mr_iaload (pc := 37) (f := Y.2.2.2.2.1) rfl rfl (vpb_in g37) ?_
            refine mr_iconst (pc := 38) (v := -1) rfl (by decide) ?_
            refine mr_icmp_ne (pc := 39) 45 rfl (by decide) (fun c39 => ?_) (fun c39 => ?_)
            · have h := (if_neg c39).symm.trans h
              refine mr_aload_n (pc := 45) (x := 8) rfl rfl ?_
              refine mr_iload_n (pc := 46) (x := a1) rfl rfl ?_
              refine mr_iload_n (pc := 47) (x := a2) rfl rfl ?_
              rcases bI_inv h with ⟨v48, Y48, hc48, h⟩ | ⟨E48, Y48, hc48, hr⟩
              · refine mr_ret (mRunV (pc := 48) (q := 8) (As := [.int (a1), .int (a2)]) (rest := []) rfl lkRX1_99 rfl rfl rfl (Nat.le_of_ble_eq_true rfl) (Nat.le_of_ble_eq_true rfl) (F_X1_flies hc48)) rfl (Nat.le_of_ble_eq_true rfl) (Nat.le_of_ble_eq_true rfl) ?_
                refine mr_if_eq (pc := 51) 61 rfl (by decide) (fun c51 => ?_) (fun c51 => ?_)
                · have h := (if_pos c51).symm.trans h
                  refine mr_bipush (pc := 61) (v := -10) rfl (by decide) ?_
                  refine mr_aload_n (pc := 63) (x := 8) rfl rfl ?_
                  refine mr_getfield (pc := 64) (v := .int (Y48.2.2.2.2.2.2.2.2.2.2.2.2.1)) rfl lfRX1_51 rfl rfl ?_
                  refine mr_imul (pc := 67) rfl ?_
                  refine mr_aload_n (pc := 68) (x := 8) rfl rfl ?_
                  refine mr_getfield (pc := 69) (v := .int (Y48.2.2.2.2.2.2.2.2.2.2.2.2.2.2)) rfl lfRX1_96 rfl rfl ?_
                  refine mr_isub (pc := 72) rfl ?_
                  cases h; exact mr_ireturn (pc := 73) rfl rfl (Nat.le_of_ble_eq_true rfl) (Nat.le_of_ble_eq_true rfl)
                · have h := (if_neg c51).symm.trans h
                  refine mr_aload_n (pc := 54) (x := 8) rfl rfl ?_
                  refine mr_getfield (pc := 55) (v := .int (Y48.2.2.2.2.2.2.2.2.2.2.2.2.2.2)) rfl lfRX1_96 rfl rfl ?_
                  refine mr_goto (pc := 58) 73 rfl (by decide) ?_
                  cases h; exact mr_ireturn (pc := 73) rfl rfl (Nat.le_of_ble_eq_true rfl) (Nat.le_of_ble_eq_true rfl)
              · cases hr; exact mr_thrown (mRunV (pc := 48) (q := 8) (As := [.int (a1), .int (a2)]) (rest := []) rfl lkRX1_99 rfl rfl rfl (Nat.le_of_ble_eq_true rfl) (Nat.le_of_ble_eq_true rfl) (F_X1_flies hc48)) rfl rfl (Nat.le_of_ble_eq_true rfl) (Nat.le_of_ble_eq_true rfl)
            · have h := (if_pos c39).symm.trans h
              refine mr_bipush (pc := 42) (v := -20) rfl (by decide) ?_
              cases h; exact mr_ireturn (pc := 44) rfl rfl (Nat.le_of_ble_eq_true rfl) (Nat.le_of_ble_eq_true rfl)
          · have h := (if_neg c27).symm.trans h
            refine mr_iconst (pc := 30) (v := 0) rfl (by decide) ?_
            cases h; exact mr_ireturn (pc := 31) rfl rfl (Nat.le_of_ble_eq_true rfl) (Nat.le_of_ble_eq_true rfl)
      · cases hr; exact mr_thrown (mRunS (pc := 9) (As := [.int (a2)]) (rest := [.ref 8]) rfl lkRX1_62 rfl (Nat.le_of_ble_eq_true rfl) (Nat.le_of_ble_eq_true rfl) (F_X1_isPool hc9)) rfl rfl (Nat.le_of_ble_eq_true rfl) (Nat.le_of_ble_eq_true rfl)
  · cases hr; exact mr_thrown (mRunS (pc := 2) (As := [.int (a1)]) (rest := [.ref 8]) rfl lkRX1_80 rfl (Nat.le_of_ble_eq_true rfl) (Nat.le_of_ble_eq_true rfl) (F_X1_isBoat hc2)) rfl rfl (Nat.le_of_ble_eq_true rfl) (Nat.le_of_ble_eq_true rfl)
