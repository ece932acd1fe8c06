/-! THE METHODS OF X1 AS FUNCTIONS, by program (wip/whole/gencode.py) -/
def g_X1_pass (Y : rS) (a1 a2 : Int32) : Option (mO × rS) := cI (g_X1_isBoat (a1)) Y (fun v2 => if ((v2) : Int32) = 0 then (if ((1) : Int32) ≤ 0 then (bI (g_X1_passes (Y.1, Y.2.1, Y.2.2.1, Y.2.2.2.1, Y.2.2.2.2.1, Y.2.2.2.2.2.1, Y.2.2.2.2.2.2.1, Y.2.2.2.2.2.2.2.1, 1, Y.2.2.2.2.2.2.2.2.2.1, Y.2.2.2.2.2.2.2.2.2.2.1, Y.2.2.2.2.2.2.2.2.2.2.2.1, Y.2.2.2.2.2.2.2.2.2.2.2.2.1, Y.2.2.2.2.2.2.2.2.2.2.2.2.2.1, Y.2.2.2.2.2.2.2.2.2.2.2.2.2.2) (a1) (a2)) (fun v75 Y75 => if ((v75) : Int32) = 0 then (bI (g_X1_told Y75 (2) (3) (4) (5)) (fun v95 Y95 => some (.inl (some (.int (v95))), Y95))) else (if vpb (a1) 10 then (some (.inl (some (.int ((Y75.2.2.2.2.1) ((a1) : Int32).toNatClampNeg))), Y75)) else none))) else (some (.inl (some (.int (0))), (Y.1, Y.2.1, Y.2.2.1, Y.2.2.2.1, Y.2.2.2.2.1, Y.2.2.2.2.2.1, Y.2.2.2.2.2.2.1, Y.2.2.2.2.2.2.2.1, 1, Y.2.2.2.2.2.2.2.2.2.1, Y.2.2.2.2.2.2.2.2.2.2.1, Y.2.2.2.2.2.2.2.2.2.2.2.1, Y.2.2.2.2.2.2.2.2.2.2.2.2.1, Y.2.2.2.2.2.2.2.2.2.2.2.2.2.1, Y.2.2.2.2.2.2.2.2.2.2.2.2.2.2)))) else (if vpb (a1) 10 then (if (((Y.2.2.2.2.1) ((a1) : Int32).toNatClampNeg) : Int32) = (((-1)) : Int32) then (if ((3) : Int32) ≤ 0 then (bI (g_X1_passes (Y.1, Y.2.1, Y.2.2.1, Y.2.2.2.1, Y.2.2.2.2.1, Y.2.2.2.2.2.1, Y.2.2.2.2.2.2.1, Y.2.2.2.2.2.2.2.1, 3, Y.2.2.2.2.2.2.2.2.2.1, Y.2.2.2.2.2.2.2.2.2.2.1, Y.2.2.2.2.2.2.2.2.2.2.2.1, Y.2.2.2.2.2.2.2.2.2.2.2.2.1, Y.2.2.2.2.2.2.2.2.2.2.2.2.2.1, Y.2.2.2.2.2.2.2.2.2.2.2.2.2.2) (a1) (a2)) (fun v75 Y75 => if ((v75) : Int32) = 0 then (bI (g_X1_told Y75 (2) (3) (4) (5)) (fun v95 Y95 => some (.inl (some (.int (v95))), Y95))) else (if vpb (a1) 10 then (some (.inl (some (.int ((Y75.2.2.2.2.1) ((a1) : Int32).toNatClampNeg))), Y75)) else none))) else (some (.inl (some (.int (0))), (Y.1, Y.2.1, Y.2.2.1, Y.2.2.2.1, Y.2.2.2.2.1, Y.2.2.2.2.2.1, Y.2.2.2.2.2.2.1, Y.2.2.2.2.2.2.2.1, 3, Y.2.2.2.2.2.2.2.2.2.1, Y.2.2.2.2.2.2.2.2.2.2.1, Y.2.2.2.2.2.2.2.2.2.2.2.1, Y.2.2.2.2.2.2.2.2.2.2.2.2.1, Y.2.2.2.2.2.2.2.2.2.2.2.2.2.1, Y.2.2.2.2.2.2.2.2.2.2.2.2.2.2)))) else (if ((a2) : Int32) = 0 then (if vpb (a1) 10 then (cI (g_X1_isPool (((Y.2.2.2.2.1) ((a1) : Int32).toNatClampNeg) - (1))) Y (fun v49 => if ((v49) : Int32) = 0 then (if ((1) : Int32) ≤ 0 then (bI (g_X1_passes (Y.1, Y.2.1, Y.2.2.1, Y.2.2.2.1, Y.2.2.2.2.1, Y.2.2.2.2.2.1, Y.2.2.2.2.2.2.1, Y.2.2.2.2.2.2.2.1, 1, Y.2.2.2.2.2.2.2.2.2.1, Y.2.2.2.2.2.2.2.2.2.2.1, Y.2.2.2.2.2.2.2.2.2.2.2.1, Y.2.2.2.2.2.2.2.2.2.2.2.2.1, Y.2.2.2.2.2.2.2.2.2.2.2.2.2.1, Y.2.2.2.2.2.2.2.2.2.2.2.2.2.2) (a1) (a2)) (fun v75 Y75 => if ((v75) : Int32) = 0 then (bI (g_X1_told Y75 (2) (3) (4) (5)) (fun v95 Y95 => some (.inl (some (.int (v95))), Y95))) else (if vpb (a1) 10 then (some (.inl (some (.int ((Y75.2.2.2.2.1) ((a1) : Int32).toNatClampNeg))), Y75)) else none))) else (some (.inl (some (.int (0))), (Y.1, Y.2.1, Y.2.2.1, Y.2.2.2.1, Y.2.2.2.2.1, Y.2.2.2.2.2.1, Y.2.2.2.2.2.2.1, Y.2.2.2.2.2.2.2.1, 1, Y.2.2.2.2.2.2.2.2.2.1, Y.2.2.2.2.2.2.2.2.2.2.1, Y.2.2.2.2.2.2.2.2.2.2.2.1, Y.2.2.2.2.2.2.2.2.2.2.2.2.1, Y.2.2.2.2.2.2.2.2.2.2.2.2.2.1, Y.2.2.2.2.2.2.2.2.2.2.2.2.2.2)))) else (if ((0) : Int32) ≤ 0 then (bI (g_X1_passes (Y.1, Y.2.1, Y.2.2.1, Y.2.2.2.1, Y.2.2.2.2.1, Y.2.2.2.2.2.1, Y.2.2.2.2.2.2.1, Y.2.2.2.2.2.2.2.1, 0, Y.2.2.2.2.2.2.2.2.2.1, Y.2.2.2.2.2.2.2.2.2.2.1, Y.2.2.2.2.2.2.2.2.2.2.2.1, Y.2.2.2.2.2.2.2.2.2.2.2.2.1, Y.2.2.2.2.2.2.2.2.2.2.2.2.2.1, Y.2.2.2.2.2.2.2.2.2.2.2.2.2.2) (a1) (a2)) (fun v75 Y75 => if ((v75) : Int32) = 0 then (bI (g_X1_told Y75 (2) (3) (4) (5)) (fun v95 Y95 => some (.inl (some (.int (v95))), Y95))) else (if vpb (a1) 10 then (some (.inl (some (.int ((Y75.2.2.2.2.1) ((a1) : Int32).toNatClampNeg))), Y75)) else none))) else (some (.inl (some (.int (0))), (Y.1, Y.2.1, Y.2.2.1, Y.2.2.2.1, Y.2.2.2.2.1, Y.2.2.2.2.2.1, Y.2.2.2.2.2.2.1, Y.2.2.2.2.2.2.2.1, 0, Y.2.2.2.2.2.2.2.2.2.1, Y.2.2.2.2.2.2.2.2.2.2.1, Y.2.2.2.2.2.2.2.2.2.2.2.1, Y.2.2.2.2.2.2.2.2.2.2.2.2.1, Y.2.2.2.2.2.2.2.2.2.2.2.2.2.1, Y.2.2.2.2.2.2.2.2.2.2.2.2.2.2)))))) else none) else (if vpb (a1) 10 then (cI (g_X1_isPool (((Y.2.2.2.2.1) ((a1) : Int32).toNatClampNeg) + (1))) Y (fun v49 => if ((v49) : Int32) = 0 then (if ((1) : Int32) ≤ 0 then (bI (g_X1_passes (Y.1, Y.2.1, Y.2.2.1, Y.2.2.2.1, Y.2.2.2.2.1, Y.2.2.2.2.2.1, Y.2.2.2.2.2.2.1, Y.2.2.2.2.2.2.2.1, 1, Y.2.2.2.2.2.2.2.2.2.1, Y.2.2.2.2.2.2.2.2.2.2.1, Y.2.2.2.2.2.2.2.2.2.2.2.1, Y.2.2.2.2.2.2.2.2.2.2.2.2.1, Y.2.2.2.2.2.2.2.2.2.2.2.2.2.1, Y.2.2.2.2.2.2.2.2.2.2.2.2.2.2) (a1) (a2)) (fun v75 Y75 => if ((v75) : Int32) = 0 then (bI (g_X1_told Y75 (2) (3) (4) (5)) (fun v95 Y95 => some (.inl (some (.int (v95))), Y95))) else (if vpb (a1) 10 then (some (.inl (some (.int ((Y75.2.2.2.2.1) ((a1) : Int32).toNatClampNeg))), Y75)) else none))) else (some (.inl (some (.int (0))), (Y.1, Y.2.1, Y.2.2.1, Y.2.2.2.1, Y.2.2.2.2.1, Y.2.2.2.2.2.1, Y.2.2.2.2.2.2.1, Y.2.2.2.2.2.2.2.1, 1, Y.2.2.2.2.2.2.2.2.2.1, Y.2.2.2.2.2.2.2.2.2.2.1, Y.2.2.2.2.2.2.2.2.2.2.2.1, Y.2.2.2.2.2.2.2.2.2.2.2.2.1, Y.2.2.2.2.2.2.2.2.2.2.2.2.2.1, Y.2.2.2.2.2.2.2.2.2.2.2.2.2.2)))) else (if ((0) : Int32) ≤ 0 then (bI (g_X1_passes (Y.1, Y.2.1, Y.2.2.1, Y.2.2.2.1, Y.2.2.2.2.1, Y.2.2.2.2.2.1, Y.2.2.2.2.2.2.1, Y.2.2.2.2.2.2.2.1, 0, Y.2.2.2.2.2.2.2.2.2.1, Y.2.2.2.2.2.2.2.2.2.2.1, Y.2.2.2.2.2.2.2.2.2.2.2.1, Y.2.2.2.2.2.2.2.2.2.2.2.2.1, Y.2.2.2.2.2.2.2.2.2.2.2.2.2.1, Y.2.2.2.2.2.2.2.2.2.2.2.2.2.2) (a1) (a2)) (fun v75 Y75 => if ((v75) : Int32) = 0 then (bI (g_X1_told Y75 (2) (3) (4) (5)) (fun v95 Y95 => some (.inl (some (.int (v95))), Y95))) else (if vpb (a1) 10 then (some (.inl (some (.int ((Y75.2.2.2.2.1) ((a1) : Int32).toNatClampNeg))), Y75)) else none))) else (some (.inl (some (.int (0))), (Y.1, Y.2.1, Y.2.2.1, Y.2.2.2.1, Y.2.2.2.2.1, Y.2.2.2.2.2.1, Y.2.2.2.2.2.2.1, Y.2.2.2.2.2.2.2.1, 0, Y.2.2.2.2.2.2.2.2.2.1, Y.2.2.2.2.2.2.2.2.2.2.1, Y.2.2.2.2.2.2.2.2.2.2.2.1, Y.2.2.2.2.2.2.2.2.2.2.2.2.1, Y.2.2.2.2.2.2.2.2.2.2.2.2.2.1, Y.2.2.2.2.2.2.2.2.2.2.2.2.2.2)))))) else none))) else none))
set_option maxRecDepth 100000 in
set_option maxHeartbeats 4000000 in
theorem F_X1_pass {S : Nat × (Nat → Int32)} {Z : cS} {T : mH} {Y R9 : rS} {o9 : mO} {a1 a2 : Int32} (h : g_X1_pass Y a1 a2 = some (o9, R9)) : mF S MX1_pass 0 (mEnt [.ref 8, .int a1, .int a2] 3) [] (xw Z (yw Y T)) 0 0 (o9, (xw Z (yw R9 T)), 0, 0) := by
  unfold g_X1_pass at h
  refine mr_aload_n (pc := 0) (x := 8) rfl rfl ?_
  refine mr_iload_n (pc := 1) (x := a1) rfl rfl ?_
  rcases cI_inv h with ⟨v2, hc2, h⟩ | ⟨E2, hc2, hr⟩
  · refine mr_ret (mRunS (pc := 2) (As := [.int (a1)]) (rest := [.ref 8]) rfl lkRX1_80 rfl (Nat.le_of_ble_eq_true rfl) (Nat.le_of_ble_eq_true rfl) (F_X1_isBoat hc2)) rfl (Nat.le_of_ble_eq_true rfl) (Nat.le_of_ble_eq_true rfl) ?_
    refine mr_if_ne (pc := 5) 12 rfl (by decide) (fun c5 => ?_) (fun c5 => ?_)
    · have h := (if_neg c5).symm.trans h
      refine mr_aload_n (pc := 12) (x := 8) rfl rfl ?_
      refine mr_getfield (pc := 13) (v := .ref 13) rfl lfRX1_23 rfl rfl ?_
      refine mr_iload_n (pc := 16) (x := a1) rfl rfl ?_
      obtain ⟨g17, h⟩ := m_gd h
      refine mr_iaload (pc := 17) (f := Y.2.2.2.2.1) rfl rfl (vpb_in g17) ?_
      refine mr_iconst (pc := 18) (v := -1) rfl (by decide) ?_
      refine mr_icmp_ne (pc := 19) 26 rfl (by decide) (fun c19 => ?_) (fun c19 => ?_)
      · have h := (if_neg c19).symm.trans h
        refine mr_iload_n (pc := 26) (x := a2) rfl rfl ?_
        refine mr_if_eq (pc := 27) 41 rfl (by decide) (fun c27 => ?_) (fun c27 => ?_)
        · have h := (if_pos c27).symm.trans h
          refine mr_aload_n (pc := 41) (x := 8) rfl rfl ?_
          refine mr_getfield (pc := 42) (v := .ref 13) rfl lfRX1_23 rfl rfl ?_
          refine mr_iload_n (pc := 45) (x := a1) rfl rfl ?_
          obtain ⟨g46, h⟩ := m_gd h
          refine mr_iaload (pc := 46) (f := Y.2.2.2.2.1) rfl rfl (vpb_in g46) ?_
          refine mr_iconst (pc := 47) (v := 1) rfl (by decide) ?_
          refine mr_isub (pc := 48) rfl ?_
          rcases cI_inv h with ⟨v49, hc49, h⟩ | ⟨E49, hc49, hr⟩
          · refine mr_ret (mRunS (pc := 49) (As := [.int (((Y.2.2.2.2.1) ((a1) : Int32).toNatClampNeg) - (1))]) (rest := [.ref 8]) rfl lkRX1_62 rfl (Nat.le_of_ble_eq_true rfl) (Nat.le_of_ble_eq_true rfl) (F_X1_isPool hc49)) rfl (Nat.le_of_ble_eq_true rfl) (Nat.le_of_ble_eq_true rfl) ?_
            refine mr_if_ne (pc := 52) 59 rfl (by decide) (fun c52 => ?_) (fun c52 => ?_)
            · have h := (if_neg c52).symm.trans h
              refine mr_iconst (pc := 59) (v := 0) rfl (by decide) ?_
              refine ms_putfield (pc := 60) (h' := (xw Z (yw (Y.1, Y.2.1, Y.2.2.1, Y.2.2.2.1, Y.2.2.2.2.1, Y.2.2.2.2.2.1, Y.2.2.2.2.2.2.1, Y.2.2.2.2.2.2.2.1, 0, Y.2.2.2.2.2.2.2.2.2.1, Y.2.2.2.2.2.2.2.2.2.2.1, Y.2.2.2.2.2.2.2.2.2.2.2.1, Y.2.2.2.2.2.2.2.2.2.2.2.2.1, Y.2.2.2.2.2.2.2.2.2.2.2.2.2.1, Y.2.2.2.2.2.2.2.2.2.2.2.2.2.2) T))) rfl lfRX1_38 rfl (Nat.le_of_ble_eq_true rfl) (by intro q hq; cases hq; rfl) rfl ?_
              refine mr_aload_n (pc := 63) (x := 8) rfl rfl ?_
              refine mr_getfield (pc := 64) (v := .int (0)) rfl lfRX1_38 rfl rfl ?_
              refine mr_if_le (pc := 67) 72 rfl (by decide) (fun c67 => ?_) (fun c67 => ?_)
              · have h := (if_pos c67).symm.trans h
                refine mr_aload_n (pc := 72) (x := 8) rfl rfl ?_
                refine mr_iload_n (pc := 73) (x := a1) rfl rfl ?_
                refine mr_iload_n (pc := 74) (x := a2) rfl rfl ?_
                rcases bI_inv h with ⟨v75, Y75, hc75, h⟩ | ⟨E75, Y75, hc75, hr⟩
                · refine mr_ret (mRunV (pc := 75) (q := 8) (As := [.int (a1), .int (a2)]) (rest := []) rfl lkRX1_92 rfl rfl rfl (Nat.le_of_ble_eq_true rfl) (Nat.le_of_ble_eq_true rfl) (F_X1_passes hc75)) rfl (Nat.le_of_ble_eq_true rfl) (Nat.le_of_ble_eq_true rfl) ?_
                  refine mr_if_eq (pc := 78) 90 rfl (by decide) (fun c78 => ?_) (fun c78 => ?_)
                  · have h := (if_pos c78).symm.trans h
                    refine mr_aload_n (pc := 90) (x := 8) rfl rfl ?_
                    refine mr_iconst (pc := 91) (v := 2) rfl (by decide) ?_
                    refine mr_iconst (pc := 92) (v := 3) rfl (by decide) ?_
                    refine mr_iconst (pc := 93) (v := 4) rfl (by decide) ?_
                    refine mr_iconst (pc := 94) (v := 5) rfl (by decide) ?_
                    rcases bI_inv h with ⟨v95, Y95, hc95, h⟩ | ⟨E95, Y95, hc95, hr⟩
                    · refine mr_ret (mRunV (pc := 95) (q := 8) (As := [.int (2), .int (3), .int (4), .int (5)]) (rest := []) rfl lkRX1_68 rfl rfl rfl (Nat.le_of_ble_eq_true rfl) (Nat.le_of_ble_eq_true rfl) (F_X1_told hc95)) rfl (Nat.le_of_ble_eq_true rfl) (Nat.le_of_ble_eq_true rfl) ?_
                      cases h; exact mr_ireturn (pc := 98) rfl rfl (Nat.le_of_ble_eq_true rfl) (Nat.le_of_ble_eq_true rfl)
                    · cases hr; exact mr_thrown (mRunV (pc := 95) (q := 8) (As := [.int (2), .int (3), .int (4), .int (5)]) (rest := []) rfl lkRX1_68 rfl rfl rfl (Nat.le_of_ble_eq_true rfl) (Nat.le_of_ble_eq_true rfl) (F_X1_told hc95)) rfl rfl (Nat.le_of_ble_eq_true rfl) (Nat.le_of_ble_eq_true rfl)
                  · have h := (if_neg c78).symm.trans h
                    refine mr_aload_n (pc := 81) (x := 8) rfl rfl ?_
                    refine mr_getfield (pc := 82) (v := .ref 13) rfl lfRX1_23 rfl rfl ?_
                    refine mr_iload_n (pc := 85) (x := a1) rfl rfl ?_
                    obtain ⟨g86, h⟩ := m_gd h
                    refine mr_iaload (pc := 86) (f := Y75.2.2.2.2.1) rfl rfl (vpb_in g86) ?_
                    refine mr_goto (pc := 87) 98 rfl (by decide) ?_
                    cases h; exact mr_ireturn (pc := 98) rfl rfl (Nat.le_of_ble_eq_true rfl) (Nat.le_of_ble_eq_true rfl)
                · cases hr; exact mr_thrown (mRunV (pc := 75) (q := 8) (As := [.int (a1), .int (a2)]) (rest := []) rfl lkRX1_92 rfl rfl rfl (Nat.le_of_ble_eq_true rfl) (Nat.le_of_ble_eq_true rfl) (F_X1_passes hc75)) rfl rfl (Nat.le_of_ble_eq_true rfl) (Nat.le_of_ble_eq_true rfl)
              · have h := (if_neg c67).symm.trans h
                refine mr_iconst (pc := 70) (v := 0) rfl (by decide) ?_
                cases h; exact mr_ireturn (pc := 71) rfl rfl (Nat.le_of_ble_eq_true rfl) (Nat.le_of_ble_eq_true rfl)
            · have h := (if_pos c52).symm.trans h
              refine mr_iconst (pc := 55) (v := 1) rfl (by decide) ?_
              refine mr_goto (pc := 56) 60 rfl (by decide) ?_
              refine ms_putfield (pc := 60) (h' := (xw Z (yw (Y.1, Y.2.1, Y.2.2.1, Y.2.2.2.1, Y.2.2.2.2.1, Y.2.2.2.2.2.1, Y.2.2.2.2.2.2.1, Y.2.2.2.2.2.2.2.1, 1, Y.2.2.2.2.2.2.2.2.2.1, Y.2.2.2.2.2.2.2.2.2.2.1, Y.2.2.2.2.2.2.2.2.2.2.2.1, Y.2.2.2.2.2.2.2.2.2.2.2.2.1, Y.2.2.2.2.2.2.2.2.2.2.2.2.2.1, Y.2.2.2.2.2.2.2.2.2.2.2.2.2.2) T))) rfl lfRX1_38 rfl (Nat.le_of_ble_eq_true rfl) (by intro q hq; cases hq; rfl) rfl ?_
              refine mr_aload_n (pc := 63) (x := 8) rfl rfl ?_
              refine mr_getfield (pc := 64) (v := .int (1)) rfl lfRX1_38 rfl rfl ?_
              refine mr_if_le (pc := 67) 72 rfl (by decide) (fun c67 => ?_) (fun c67 => ?_)
              · have h := (if_pos c67).symm.trans h
                refine mr_aload_n (pc := 72) (x := 8) rfl rfl ?_
                refine mr_iload_n (pc := 73) (x := a1) rfl rfl ?_
                refine mr_iload_n (pc := 74) (x := a2) rfl rfl ?_
                rcases bI_inv h with ⟨v75, Y75, hc75, h⟩ | ⟨E75, Y75, hc75, hr⟩
                · refine mr_ret (mRunV (pc := 75) (q := 8) (As := [.int (a1), .int (a2)]) (rest := []) rfl lkRX1_92 rfl rfl rfl (Nat.le_of_ble_eq_true rfl) (Nat.le_of_ble_eq_true rfl) (F_X1_passes hc75)) rfl (Nat.le_of_ble_eq_true rfl) (Nat.le_of_ble_eq_true rfl) ?_
                  refine mr_if_eq (pc := 78) 90 rfl (by decide) (fun c78 => ?_) (fun c78 => ?_)
                  · have h := (if_pos c78).symm.trans h
                    refine mr_aload_n (pc := 90) (x := 8) rfl rfl ?_
                    refine mr_iconst (pc := 91) (v := 2) rfl (by decide) ?_
                    refine mr_iconst (pc := 92) (v := 3) rfl (by decide) ?_
                    refine mr_iconst (pc := 93) (v := 4) rfl (by decide) ?_
                    refine mr_iconst (pc := 94) (v := 5) rfl (by decide) ?_
                    rcases bI_inv h with ⟨v95, Y95, hc95, h⟩ | ⟨E95, Y95, hc95, hr⟩
                    · refine mr_ret (mRunV (pc := 95) (q := 8) (As := [.int (2), .int (3), .int (4), .int (5)]) (rest := []) rfl lkRX1_68 rfl rfl rfl (Nat.le_of_ble_eq_true rfl) (Nat.le_of_ble_eq_true rfl) (F_X1_told hc95)) rfl (Nat.le_of_ble_eq_true rfl) (Nat.le_of_ble_eq_true rfl) ?_
                      cases h; exact mr_ireturn (pc := 98) rfl rfl (Nat.le_of_ble_eq_true rfl) (Nat.le_of_ble_eq_true rfl)
                    · cases hr; exact mr_thrown (mRunV (pc := 95) (q := 8) (As := [.int (2), .int (3), .int (4), .int (5)]) (rest := []) rfl lkRX1_68 rfl rfl rfl (Nat.le_of_ble_eq_true rfl) (Nat.le_of_ble_eq_true rfl) (F_X1_told hc95)) rfl rfl (Nat.le_of_ble_eq_true rfl) (Nat.le_of_ble_eq_true rfl)
                  · have h := (if_neg c78).symm.trans h
                    refine mr_aload_n (pc := 81) (x := 8) rfl rfl ?_
                    refine mr_getfield (pc := 82) (v := .ref 13) rfl lfRX1_23 rfl rfl ?_
                    refine mr_iload_n (pc := 85) (x := a1) rfl rfl ?_
                    obtain ⟨g86, h⟩ := m_gd h
                    refine mr_iaload (pc := 86) (f := Y75.2.2.2.2.1) rfl rfl (vpb_in g86) ?_
                    refine mr_goto (pc := 87) 98 rfl (by decide) ?_
                    cases h; exact mr_ireturn (pc := 98) rfl rfl (Nat.le_of_ble_eq_true rfl) (Nat.le_of_ble_eq_true rfl)
                · cases hr; exact mr_thrown (mRunV (pc := 75) (q := 8) (As := [.int (a1), .int (a2)]) (rest := []) rfl lkRX1_92 rfl rfl rfl (Nat.le_of_ble_eq_true rfl) (Nat.le_of_ble_eq_true rfl) (F_X1_passes hc75)) rfl rfl (Nat.le_of_ble_eq_true rfl) (Nat.le_of_ble_eq_true rfl)
              · have h := (if_neg c67).symm.trans h
                refine mr_iconst (pc := 70) (v := 0) rfl (by decide) ?_
                cases h; exact mr_ireturn (pc := 71) rfl rfl (Nat.le_of_ble_eq_true rfl) (Nat.le_of_ble_eq_true rfl)
          · cases hr; exact mr_thrown (mRunS (pc := 49) (As := [.int (((Y.2.2.2.2.1) ((a1) : Int32).toNatClampNeg) - (1))]) (rest := [.ref 8]) rfl lkRX1_62 rfl (Nat.le_of_ble_eq_true rfl) (Nat.le_of_ble_eq_true rfl) (F_X1_isPool hc49)) rfl rfl (Nat.le_of_ble_eq_true rfl) (Nat.le_of_ble_eq_true rfl)
        · have h := (if_neg c27).symm.trans h
          refine mr_aload_n (pc := 30) (x := 8) rfl rfl ?_
          refine mr_getfield (pc := 31) (v := .ref 13) rfl lfRX1_23 rfl rfl ?_
          refine mr_iload_n (pc := 34) (x := a1) rfl rfl ?_
          obtain ⟨g35, h⟩ := m_gd h
          refine mr_iaload (pc := 35) (f := Y.2.2.2.2.1) rfl rfl (vpb_in g35) ?_
          refine mr_iconst (pc := 36) (v := 1) rfl (by decide) ?_
          refine mr_iadd (pc := 37) rfl ?_
          refine mr_goto (pc := 38) 49 rfl (by decide) ?_
          rcases cI_inv h with ⟨v49, hc49, h⟩ | ⟨E49, hc49, hr⟩
          · refine mr_ret (mRunS (pc := 49) (As := [.int (((Y.2.2.2.2.1) ((a1) : Int32).toNatClampNeg) + (1))]) (rest := [.ref 8]) rfl lkRX1_62 rfl (Nat.le_of_ble_eq_true rfl) (Nat.le_of_ble_eq_true rfl) (F_X1_isPool hc49)) rfl (Nat.le_of_ble_eq_true rfl) (Nat.le_of_ble_eq_true rfl) ?_
            refine mr_if_ne (pc := 52) 59 rfl (by decide) (fun c52 => ?_) (fun c52 => ?_)
            · have h := (if_neg c52).symm.trans h
              refine mr_iconst (pc := 59) (v := 0) rfl (by decide) ?_
              refine ms_putfield (pc := 60) (h' := (xw Z (yw (Y.1, Y.2.1, Y.2.2.1, Y.2.2.2.1, Y.2.2.2.2.1, Y.2.2.2.2.2.1, Y.2.2.2.2.2.2.1, Y.2.2.2.2.2.2.2.1, 0, Y.2.2.2.2.2.2.2.2.2.1, Y.2.2.2.2.2.2.2.2.2.2.1, Y.2.2.2.2.2.2.2.2.2.2.2.1, Y.2.2.2.2.2.2.2.2.2.2.2.2.1, Y.2.2.2.2.2.2.2.2.2.2.2.2.2.1, Y.2.2.2.2.2.2.2.2.2.2.2.2.2.2) T))) rfl lfRX1_38 rfl (Nat.le_of_ble_eq_true rfl) (by intro q hq; cases hq; rfl) rfl ?_
              refine mr_aload_n (pc := 63) (x := 8) rfl rfl ?_
              refine mr_getfield (pc := 64) (v := .int (0)) rfl lfRX1_38 rfl rfl ?_
              refine mr_if_le (pc := 67) 72 rfl (by decide) (fun c67 => ?_) (fun c67 => ?_)
              · have h := (if_pos c67).symm.trans h
                refine mr_aload_n (pc := 72) (x := 8) rfl rfl ?_
                refine mr_iload_n (pc := 73) (x := a1) rfl rfl ?_
                refine mr_iload_n (pc := 74) (x := a2) rfl rfl ?_
                rcases bI_inv h with ⟨v75, Y75, hc75, h⟩ | ⟨E75, Y75, hc75, hr⟩
                · refine mr_ret (mRunV (pc := 75) (q := 8) (As := [.int (a1), .int (a2)]) (rest := []) rfl lkRX1_92 rfl rfl rfl (Nat.le_of_ble_eq_true rfl) (Nat.le_of_ble_eq_true rfl) (F_X1_passes hc75)) rfl (Nat.le_of_ble_eq_true rfl) (Nat.le_of_ble_eq_true rfl) ?_
                  refine mr_if_eq (pc := 78) 90 rfl (by decide) (fun c78 => ?_) (fun c78 => ?_)
                  · have h := (if_pos c78).symm.trans h
                    refine mr_aload_n (pc := 90) (x := 8) rfl rfl ?_
                    refine mr_iconst (pc := 91) (v := 2) rfl (by decide) ?_
                    refine mr_iconst (pc := 92) (v := 3) rfl (by decide) ?_
                    refine mr_iconst (pc := 93) (v := 4) rfl (by decide) ?_
                    refine mr_iconst (pc := 94) (v := 5) rfl (by decide) ?_
                    rcases bI_inv h with ⟨v95, Y95, hc95, h⟩ | ⟨E95, Y95, hc95, hr⟩
                    · refine mr_ret (mRunV (pc := 95) (q := 8) (As := [.int (2), .int (3), .int (4), .int (5)]) (rest := []) rfl lkRX1_68 rfl rfl rfl (Nat.le_of_ble_eq_true rfl) (Nat.le_of_ble_eq_true rfl) (F_X1_told hc95)) rfl (Nat.le_of_ble_eq_true rfl) (Nat.le_of_ble_eq_true rfl) ?_
                      cases h; exact mr_ireturn (pc := 98) rfl rfl (Nat.le_of_ble_eq_true rfl) (Nat.le_of_ble_eq_true rfl)
                    · cases hr; exact mr_thrown (mRunV (pc := 95) (q := 8) (As := [.int (2), .int (3), .int (4), .int (5)]) (rest := []) rfl lkRX1_68 rfl rfl rfl (Nat.le_of_ble_eq_true rfl) (Nat.le_of_ble_eq_true rfl) (F_X1_told hc95)) rfl rfl (Nat.le_of_ble_eq_true rfl) (Nat.le_of_ble_eq_true rfl)
                  · have h := (if_neg c78).symm.trans h
                    refine mr_aload_n (pc := 81) (x := 8) rfl rfl ?_
                    refine mr_getfield (pc := 82) (v := .ref 13) rfl lfRX1_23 rfl rfl ?_
                    refine mr_iload_n (pc := 85) (x := a1) rfl rfl ?_
                    obtain ⟨g86, h⟩ := m_gd h
                    refine mr_iaload (pc := 86) (f := Y75.2.2.2.2.1) rfl rfl (vpb_in g86) ?_
                    refine mr_goto (pc := 87) 98 rfl (by decide) ?_
                    cases h; exact mr_ireturn (pc := 98) rfl rfl (Nat.le_of_ble_eq_true rfl) (Nat.le_of_ble_eq_true rfl)
                · cases hr; exact mr_thrown (mRunV (pc := 75) (q := 8) (As := [.int (a1), .int (a2)]) (rest := []) rfl lkRX1_92 rfl rfl rfl (Nat.le_of_ble_eq_true rfl) (Nat.le_of_ble_eq_true rfl) (F_X1_passes hc75)) rfl rfl (Nat.le_of_ble_eq_true rfl) (Nat.le_of_ble_eq_true rfl)
              · have h := (if_neg c67).symm.trans h
                refine mr_iconst (pc := 70) (v := 0) rfl (by decide) ?_
                cases h; exact mr_ireturn (pc := 71) rfl rfl (Nat.le_of_ble_eq_true rfl) (Nat.le_of_ble_eq_true rfl)
            · have h := (if_pos c52).symm.trans h
              refine mr_iconst (pc := 55) (v := 1) rfl (by decide) ?_
              refine mr_goto (pc := 56) 60 rfl (by decide) ?_
              refine ms_putfield (pc := 60) (h' := (xw Z (yw (Y.1, Y.2.1, Y.2.2.1, Y.2.2.2.1, Y.2.2.2.2.1, Y.2.2.2.2.2.1, Y.2.2.2.2.2.2.1, Y.2.2.2.2.2.2.2.1, 1, Y.2.2.2.2.2.2.2.2.2.1, Y.2.2.2.2.2.2.2.2.2.2.1, Y.2.2.2.2.2.2.2.2.2.2.2.1, Y.2.2.2.2.2.2.2.2.2.2.2.2.1, Y.2.2.2.2.2.2.2.2.2.2.2.2.2.1, Y.2.2.2.2.2.2.2.2.2.2.2.2.2.2) T))) rfl lfRX1_38 rfl (Nat.le_of_ble_eq_true rfl) (by intro q hq; cases hq; rfl) rfl ?_
              refine mr_aload_n (pc := 63) (x := 8) rfl rfl ?_
              refine mr_getfield (pc := 64) (v := .int (1)) rfl lfRX1_38 rfl rfl ?_
              refine mr_if_le (pc := 67) 72 rfl (by decide) (fun c67 => ?_) (fun c67 => ?_)
              · have h := (if_pos c67).symm.trans h
                refine mr_aload_n (pc := 72) (x := 8) rfl rfl ?_
                refine mr_iload_n (pc := 73) (x := a1) rfl rfl ?_
                refine mr_iload_n (pc := 74) (x := a2) rfl rfl ?_
                rcases bI_inv h with ⟨v75, Y75, hc75, h⟩ | ⟨E75, Y75, hc75, hr⟩
                · refine mr_ret (mRunV (pc := 75) (q := 8) (As := [.int (a1), .int (a2)]) (rest := []) rfl lkRX1_92 rfl rfl rfl (Nat.le_of_ble_eq_true rfl) (Nat.le_of_ble_eq_true rfl) (F_X1_passes hc75)) rfl (Nat.le_of_ble_eq_true rfl) (Nat.le_of_ble_eq_true rfl) ?_
                  refine mr_if_eq (pc := 78) 90 rfl (by decide) (fun c78 => ?_) (fun c78 => ?_)
                  · have h := (if_pos c78).symm.trans h
                    refine mr_aload_n (pc := 90) (x := 8) rfl rfl ?_
                    refine mr_iconst (pc := 91) (v := 2) rfl (by decide) ?_
                    refine mr_iconst (pc := 92) (v := 3) rfl (by decide) ?_
                    refine mr_iconst (pc := 93) (v := 4) rfl (by decide) ?_
                    refine mr_iconst (pc := 94) (v := 5) rfl (by decide) ?_
                    rcases bI_inv h with ⟨v95, Y95, hc95, h⟩ | ⟨E95, Y95, hc95, hr⟩
                    · refine mr_ret (mRunV (pc := 95) (q := 8) (As := [.int (2), .int (3), .int (4), .int (5)]) (rest := []) rfl lkRX1_68 rfl rfl rfl (Nat.le_of_ble_eq_true rfl) (Nat.le_of_ble_eq_true rfl) (F_X1_told hc95)) rfl (Nat.le_of_ble_eq_true rfl) (Nat.le_of_ble_eq_true rfl) ?_
                      cases h; exact mr_ireturn (pc := 98) rfl rfl (Nat.le_of_ble_eq_true rfl) (Nat.le_of_ble_eq_true rfl)
                    · cases hr; exact mr_thrown (mRunV (pc := 95) (q := 8) (As := [.int (2), .int (3), .int (4), .int (5)]) (rest := []) rfl lkRX1_68 rfl rfl rfl (Nat.le_of_ble_eq_true rfl) (Nat.le_of_ble_eq_true rfl) (F_X1_told hc95)) rfl rfl (Nat.le_of_ble_eq_true rfl) (Nat.le_of_ble_eq_true rfl)
                  · have h := (if_neg c78).symm.trans h
                    refine mr_aload_n (pc := 81) (x := 8) rfl rfl ?_
                    refine mr_getfield (pc := 82) (v := .ref 13) rfl lfRX1_23 rfl rfl ?_
                    refine mr_iload_n (pc := 85) (x := a1) rfl rfl ?_
                    obtain ⟨g86, h⟩ := m_gd h
                    refine mr_iaload (pc := 86) (f := Y75.2.2.2.2.1) rfl rfl (vpb_in g86) ?_
                    refine mr_goto (pc := 87) 98 rfl (by decide) ?_
                    cases h; exact mr_ireturn (pc := 98) rfl rfl (Nat.le_of_ble_eq_true rfl) (Nat.le_of_ble_eq_true rfl)
                · cases hr; exact mr_thrown (mRunV (pc := 75) (q := 8) (As := [.int (a1), .int (a2)]) (rest := []) rfl lkRX1_92 rfl rfl rfl (Nat.le_of_ble_eq_true rfl) (Nat.le_of_ble_eq_true rfl) (F_X1_passes hc75)) rfl rfl (Nat.le_of_ble_eq_true rfl) (Nat.le_of_ble_eq_true rfl)
              · have h := (if_neg c67).symm.trans h
                refine mr_iconst (pc := 70) (v := 0) rfl (by decide) ?_
                cases h; exact mr_ireturn (pc := 71) rfl rfl (Nat.le_of_ble_eq_true rfl) (Nat.le_of_ble_eq_true rfl)
          · cases hr; exact mr_thrown (mRunS (pc := 49) (As := [.int (((Y.2.2.2.2.1) ((a1) : Int32).toNatClampNeg) + (1))]) (rest := [.ref 8]) rfl lkRX1_62 rfl (Nat.le_of_ble_eq_true rfl) (Nat.le_of_ble_eq_true rfl) (F_X1_isPool hc49)) rfl rfl (Nat.le_of_ble_eq_true rfl) (Nat.le_of_ble_eq_true rfl)
      · have h := (if_pos c19).symm.trans h
        refine mr_iconst (pc := 22) (v := 3) rfl (by decide) ?_
        refine mr_goto (pc := 23) 60 rfl (by decide) ?_
        refine ms_putfield (pc := 60) (h' := (xw Z (yw (Y.1, Y.2.1, Y.2.2.1, Y.2.2.2.1, Y.2.2.2.2.1, Y.2.2.2.2.2.1, Y.2.2.2.2.2.2.1, Y.2.2.2.2.2.2.2.1, 3, Y.2.2.2.2.2.2.2.2.2.1, Y.2.2.2.2.2.2.2.2.2.2.1, Y.2.2.2.2.2.2.2.2.2.2.2.1, Y.2.2.2.2.2.2.2.2.2.2.2.2.1, Y.2.2.2.2.2.2.2.2.2.2.2.2.2.1, Y.2.2.2.2.2.2.2.2.2.2.2.2.2.2) T))) rfl lfRX1_38 rfl (Nat.le_of_ble_eq_true rfl) (by intro q hq; cases hq; rfl) rfl ?_
        refine mr_aload_n (pc := 63) (x := 8) rfl rfl ?_
        refine mr_getfield (pc := 64) (v := .int (3)) rfl lfRX1_38 rfl rfl ?_
        refine mr_if_le (pc := 67) 72 rfl (by decide) (fun c67 => ?_) (fun c67 => ?_)
        · have h := (if_pos c67).symm.trans h
          refine mr_aload_n (pc := 72) (x := 8) rfl rfl ?_
          refine mr_iload_n (pc := 73) (x := a1) rfl rfl ?_
          refine mr_iload_n (pc := 74) (x := a2) rfl rfl ?_
          rcases bI_inv h with ⟨v75, Y75, hc75, h⟩ | ⟨E75, Y75, hc75, hr⟩
          · refine mr_ret (mRunV (pc := 75) (q := 8) (As := [.int (a1), .int (a2)]) (rest := []) rfl lkRX1_92 rfl rfl rfl (Nat.le_of_ble_eq_true rfl) (Nat.le_of_ble_eq_true rfl) (F_X1_passes hc75)) rfl (Nat.le_of_ble_eq_true rfl) (Nat.le_of_ble_eq_true rfl) ?_
            refine mr_if_eq (pc := 78) 90 rfl (by decide) (fun c78 => ?_) (fun c78 => ?_)
            · have h := (if_pos c78).symm.trans h
              refine mr_aload_n (pc := 90) (x := 8) rfl rfl ?_
              refine mr_iconst (pc := 91) (v := 2) rfl (by decide) ?_
              refine mr_iconst (pc := 92) (v := 3) rfl (by decide) ?_
              refine mr_iconst (pc := 93) (v := 4) rfl (by decide) ?_
              refine mr_iconst (pc := 94) (v := 5) rfl (by decide) ?_
              rcases bI_inv h with ⟨v95, Y95, hc95, h⟩ | ⟨E95, Y95, hc95, hr⟩
              · refine mr_ret (mRunV (pc := 95) (q := 8) (As := [.int (2), .int (3), .int (4), .int (5)]) (rest := []) rfl lkRX1_68 rfl rfl rfl (Nat.le_of_ble_eq_true rfl) (Nat.le_of_ble_eq_true rfl) (F_X1_told hc95)) rfl (Nat.le_of_ble_eq_true rfl) (Nat.le_of_ble_eq_true rfl) ?_
                cases h; exact mr_ireturn (pc := 98) rfl rfl (Nat.le_of_ble_eq_true rfl) (Nat.le_of_ble_eq_true rfl)
              · cases hr; exact mr_thrown (mRunV (pc := 95) (q := 8) (As := [.int (2), .int (3), .int (4), .int (5)]) (rest := []) rfl lkRX1_68 rfl rfl rfl (Nat.le_of_ble_eq_true rfl) (Nat.le_of_ble_eq_true rfl) (F_X1_told hc95)) rfl rfl (Nat.le_of_ble_eq_true rfl) (Nat.le_of_ble_eq_true rfl)
            · have h := (if_neg c78).symm.trans h
              refine mr_aload_n (pc := 81) (x := 8) rfl rfl ?_
              refine mr_getfield (pc := 82) (v := .ref 13) rfl lfRX1_23 rfl rfl ?_
              refine mr_iload_n (pc := 85) (x := a1) rfl rfl ?_
              obtain ⟨g86, h⟩ := m_gd h
              refine mr_iaload (pc := 86) (f := Y75.2.2.2.2.1) rfl rfl (vpb_in g86) ?_
              refine mr_goto (pc := 87) 98 rfl (by decide) ?_
              cases h; exact mr_ireturn (pc := 98) rfl rfl (Nat.le_of_ble_eq_true rfl) (Nat.le_of_ble_eq_true rfl)
          · cases hr; exact mr_thrown (mRunV (pc := 75) (q := 8) (As := [.int (a1), .int (a2)]) (rest := []) rfl lkRX1_92 rfl rfl rfl (Nat.le_of_ble_eq_true rfl) (Nat.le_of_ble_eq_true rfl) (F_X1_passes hc75)) rfl rfl (Nat.le_of_ble_eq_true rfl) (Nat.le_of_ble_eq_true rfl)
        · have h := (if_neg c67).symm.trans h
          refine mr_iconst (pc := 70) (v := 0) rfl (by decide) ?_
          cases h; exact mr_ireturn (pc := 71) rfl rfl (Nat.le_of_ble_eq_true rfl) (Nat.le_of_ble_eq_true rfl)
    · have h := (if_pos c5).symm.trans h
      refine mr_iconst (pc := 8) (v := 1) rfl (by decide) ?_
      refine mr_goto (pc := 9) 60 rfl (by decide) ?_
      refine ms_putfield (pc := 60) (h' := (xw Z (yw (Y.1, Y.2.1, Y.2.2.1, Y.2.2.2.1, Y.2.2.2.2.1, Y.2.2.2.2.2.1, Y.2.2.2.2.2.2.1, Y.2.2.2.2.2.2.2.1, 1, Y.2.2.2.2.2.2.2.2.2.1, Y.2.2.2.2.2.2.2.2.2.2.1, Y.2.2.2.2.2.2.2.2.2.2.2.1, Y.2.2.2.2.2.2.2.2.2.2.2.2.1, Y.2.2.2.2.2.2.2.2.2.2.2.2.2.1, Y.2.2.2.2.2.2.2.2.2.2.2.2.2.2) T))) rfl lfRX1_38 rfl (Nat.le_of_ble_eq_true rfl) (by intro q hq; cases hq; rfl) rfl ?_
      refine mr_aload_n (pc := 63) (x := 8) rfl rfl ?_
      refine mr_getfield (pc := 64) (v := .int (1)) rfl lfRX1_38 rfl rfl ?_
      refine mr_if_le (pc := 67) 72 rfl (by decide) (fun c67 => ?_) (fun c67 => ?_)
      · have h := (if_pos c67).symm.trans h
        refine mr_aload_n (pc := 72) (x := 8) rfl rfl ?_
        refine mr_iload_n (pc := 73) (x := a1) rfl rfl ?_
        refine mr_iload_n (pc := 74) (x := a2) rfl rfl ?_
        rcases bI_inv h with ⟨v75, Y75, hc75, h⟩ | ⟨E75, Y75, hc75, hr⟩
        · refine mr_ret (mRunV (pc := 75) (q := 8) (As := [.int (a1), .int (a2)]) (rest := []) rfl lkRX1_92 rfl rfl rfl (Nat.le_of_ble_eq_true rfl) (Nat.le_of_ble_eq_true rfl) (F_X1_passes hc75)) rfl (Nat.le_of_ble_eq_true rfl) (Nat.le_of_ble_eq_true rfl) ?_
          refine mr_if_eq (pc := 78) 90 rfl (by decide) (fun c78 => ?_) (fun c78 => ?_)
          · have h := (if_pos c78).symm.trans h
            refine mr_aload_n (pc := 90) (x := 8) rfl rfl ?_
            refine mr_iconst (pc := 91) (v := 2) rfl (by decide) ?_
            refine mr_iconst (pc := 92) (v := 3) rfl (by decide) ?_
            refine mr_iconst (pc := 93) (v := 4) rfl (by decide) ?_
            refine mr_iconst (pc := 94) (v := 5) rfl (by decide) ?_
            rcases bI_inv h with ⟨v95, Y95, hc95, h⟩ | ⟨E95, Y95, hc95, hr⟩
            · refine mr_ret (mRunV (pc := 95) (q := 8) (As := [.int (2), .int (3), .int (4), .int (5)]) (rest := []) rfl lkRX1_68 rfl rfl rfl (Nat.le_of_ble_eq_true rfl) (Nat.le_of_ble_eq_true rfl) (F_X1_told hc95)) rfl (Nat.le_of_ble_eq_true rfl) (Nat.le_of_ble_eq_true rfl) ?_
              cases h; exact mr_ireturn (pc := 98) rfl rfl (Nat.le_of_ble_eq_true rfl) (Nat.le_of_ble_eq_true rfl)
            · cases hr; exact mr_thrown (mRunV (pc := 95) (q := 8) (As := [.int (2), .int (3), .int (4), .int (5)]) (rest := []) rfl lkRX1_68 rfl rfl rfl (Nat.le_of_ble_eq_true rfl) (Nat.le_of_ble_eq_true rfl) (F_X1_told hc95)) rfl rfl (Nat.le_of_ble_eq_true rfl) (Nat.le_of_ble_eq_true rfl)
          · have h := (if_neg c78).symm.trans h
            refine mr_aload_n (pc := 81) (x := 8) rfl rfl ?_
            refine mr_getfield (pc := 82) (v := .ref 13) rfl lfRX1_23 rfl rfl ?_
            refine mr_iload_n (pc := 85) (x := a1) rfl rfl ?_
            obtain ⟨g86, h⟩ := m_gd h
            refine mr_iaload (pc := 86) (f := Y75.2.2.2.2.1) rfl rfl (vpb_in g86) ?_
            refine mr_goto (pc := 87) 98 rfl (by decide) ?_
            cases h; exact mr_ireturn (pc := 98) rfl rfl (Nat.le_of_ble_eq_true rfl) (Nat.le_of_ble_eq_true rfl)
        · cases hr; exact mr_thrown (mRunV (pc := 75) (q := 8) (As := [.int (a1), .int (a2)]) (rest := []) rfl lkRX1_92 rfl rfl rfl (Nat.le_of_ble_eq_true rfl) (Nat.le_of_ble_eq_true rfl) (F_X1_passes hc75)) rfl rfl (Nat.le_of_ble_eq_true rfl) (Nat.le_of_ble_eq_true rfl)
      · have h := (if_neg c67).symm.trans h
        refine mr_iconst (pc := 70) (v := 0) rfl (by decide) ?_
        cases h; exact mr_ireturn (pc := 71) rfl rfl (Nat.le_of_ble_eq_true rfl) (Nat.le_of_ble_eq_true rfl)
  · cases hr; exact mr_thrown (mRunS (pc := 2) (As := [.int (a1)]) (rest := [.ref 8]) rfl lkRX1_80 rfl (Nat.le_of_ble_eq_true rfl) (Nat.le_of_ble_eq_true rfl) (F_X1_isBoat hc2)) rfl rfl (Nat.le_of_ble_eq_true rfl) (Nat.le_of_ble_eq_true rfl)
def g_X1_flies_72 : Nat → rS → Int32 → Int32 → Int32 → Int32 → Int32 → Int32 → Option (mO × rS)
  | 0, _, _, _, _, _, _, _ => none
  | f9 + 1, Y, b1, b2, b3, b4, b5, b6 => if ((b5) : Int32) ≤ ((Y.2.2.2.2.2.2.2.2.2.2.2.2.2.2) : Int32) then (bV (g_X1_leave Y ((b5) + (1))) (fun Y119 => some (.inl (some (.int (1))), Y119))) else (if ((b2) : Int32) ≤ ((b3) : Int32) then (bI (g_X1_passes Y (b1) (0)) (fun v93 Y93 => if ((v93) : Int32) = 0 then (some (.inl (some (.int (0))), Y93)) else (g_X1_flies_72 f9 (Y93.1, Y93.2.1, Y93.2.2.1, Y93.2.2.2.1, Y93.2.2.2.2.1, Y93.2.2.2.2.2.1, Y93.2.2.2.2.2.2.1, Y93.2.2.2.2.2.2.2.1, Y93.2.2.2.2.2.2.2.2.1, Y93.2.2.2.2.2.2.2.2.2.1, Y93.2.2.2.2.2.2.2.2.2.2.1, Y93.2.2.2.2.2.2.2.2.2.2.2.1, Y93.2.2.2.2.2.2.2.2.2.2.2.2.1, Y93.2.2.2.2.2.2.2.2.2.2.2.2.2.1, (Y93.2.2.2.2.2.2.2.2.2.2.2.2.2.2) + (1)) (b1) (b2) (b3) (b4) (b5) (b6)))) else (bI (g_X1_passes Y (b1) (1)) (fun v93 Y93 => if ((v93) : Int32) = 0 then (some (.inl (some (.int (0))), Y93)) else (g_X1_flies_72 f9 (Y93.1, Y93.2.1, Y93.2.2.1, Y93.2.2.2.1, Y93.2.2.2.2.1, Y93.2.2.2.2.2.1, Y93.2.2.2.2.2.2.1, Y93.2.2.2.2.2.2.2.1, Y93.2.2.2.2.2.2.2.2.1, Y93.2.2.2.2.2.2.2.2.2.1, Y93.2.2.2.2.2.2.2.2.2.2.1, Y93.2.2.2.2.2.2.2.2.2.2.2.1, Y93.2.2.2.2.2.2.2.2.2.2.2.2.1, Y93.2.2.2.2.2.2.2.2.2.2.2.2.2.1, (Y93.2.2.2.2.2.2.2.2.2.2.2.2.2.2) + (1)) (b1) (b2) (b3) (b4) (b5) (b6)))))
set_option maxRecDepth 100000 in
set_option maxHeartbeats 4000000 in
theorem FL_X1_flies_72 {S : Nat × (Nat → Int32)} {Z : cS} {T : mH} : ∀ (f9 : Nat) (Y : rS) (b1 b2 b3 b4 b5 b6 : Int32) (o9 : mO) (R9 : rS), g_X1_flies_72 f9 Y b1 b2 b3 b4 b5 b6 = some (o9, R9) → mF S MX1_flies 72 [some (.ref 8), some (.int (b1)), some (.int (b2)), some (.int (b3)), some (.int (b4)), some (.int (b5)), some (.int (b6))] [] (xw Z (yw Y T)) 0 0 (o9, (xw Z (yw R9 T)), 0, 0) := by
  intro f9
  induction f9 with
  | zero => intro Y b1 b2 b3 b4 b5 b6 o9 R9 h; cases h
  | succ f9 ih9 =>
    intro Y b1 b2 b3 b4 b5 b6 o9 R9 h
    rw [g_X1_flies_72] at h
    refine mr_aload_n (pc := 72) (x := 8) rfl rfl ?_
    refine mr_getfield (pc := 73) (v := .int (Y.2.2.2.2.2.2.2.2.2.2.2.2.2.2)) rfl lfRX1_96 rfl rfl ?_
    refine mr_iload (pc := 76) (x := b5) rfl rfl ?_
    refine mr_icmp_ge (pc := 78) 114 rfl (by decide) (fun c78 => ?_) (fun c78 => ?_)
    · have h := (if_pos c78).symm.trans h
      refine mr_aload_n (pc := 114) (x := 8) rfl rfl ?_
      refine mr_iload (pc := 115) (x := b5) rfl rfl ?_
      refine mr_iconst (pc := 117) (v := 1) rfl (by decide) ?_
      refine mr_iadd (pc := 118) rfl ?_
      rcases bV_inv h with ⟨Y119, hc119, h⟩ | ⟨E119, Y119, hc119, hr⟩
      · refine mr_ret (mRunV (pc := 119) (q := 8) (As := [.int ((b5) + (1))]) (rest := []) rfl lkRX1_72 rfl rfl rfl (Nat.le_of_ble_eq_true rfl) (Nat.le_of_ble_eq_true rfl) (F_X1_leave hc119)) rfl (Nat.le_of_ble_eq_true rfl) (Nat.le_of_ble_eq_true rfl) ?_
        refine mr_iconst (pc := 122) (v := 1) rfl (by decide) ?_
        cases h; exact mr_zreturn (pc := 123) rfl rfl (Or.inr rfl) (Nat.le_of_ble_eq_true rfl) (Nat.le_of_ble_eq_true rfl)
      · cases hr; exact mr_thrown (mRunV (pc := 119) (q := 8) (As := [.int ((b5) + (1))]) (rest := []) rfl lkRX1_72 rfl rfl rfl (Nat.le_of_ble_eq_true rfl) (Nat.le_of_ble_eq_true rfl) (F_X1_leave hc119)) rfl rfl (Nat.le_of_ble_eq_true rfl) (Nat.le_of_ble_eq_true rfl)
    · have h := (if_neg c78).symm.trans h
      refine mr_aload_n (pc := 81) (x := 8) rfl rfl ?_
      refine mr_iload_n (pc := 82) (x := b1) rfl rfl ?_
      refine mr_iload_n (pc := 83) (x := b2) rfl rfl ?_
      refine mr_iload_n (pc := 84) (x := b3) rfl rfl ?_
      refine mr_icmp_le (pc := 85) 92 rfl (by decide) (fun c85 => ?_) (fun c85 => ?_)
      · have h := (if_pos c85).symm.trans h
        refine mr_iconst (pc := 92) (v := 0) rfl (by decide) ?_
        rcases bI_inv h with ⟨v93, Y93, hc93, h⟩ | ⟨E93, Y93, hc93, hr⟩
        · refine mr_ret (mRunV (pc := 93) (q := 8) (As := [.int (b1), .int (0)]) (rest := []) rfl lkRX1_92 rfl rfl rfl (Nat.le_of_ble_eq_true rfl) (Nat.le_of_ble_eq_true rfl) (F_X1_passes hc93)) rfl (Nat.le_of_ble_eq_true rfl) (Nat.le_of_ble_eq_true rfl) ?_
          refine mr_if_ne (pc := 96) 101 rfl (by decide) (fun c96 => ?_) (fun c96 => ?_)
          · have h := (if_neg c96).symm.trans h
            refine mr_aload_n (pc := 101) (x := 8) rfl rfl ?_
            refine mr_dup (pc := 102) rfl rfl ?_
            refine mr_getfield (pc := 103) (v := .int (Y93.2.2.2.2.2.2.2.2.2.2.2.2.2.2)) rfl lfRX1_96 rfl rfl ?_
            refine mr_iconst (pc := 106) (v := 1) rfl (by decide) ?_
            refine mr_iadd (pc := 107) rfl ?_
            refine ms_putfield (pc := 108) (h' := (xw Z (yw (Y93.1, Y93.2.1, Y93.2.2.1, Y93.2.2.2.1, Y93.2.2.2.2.1, Y93.2.2.2.2.2.1, Y93.2.2.2.2.2.2.1, Y93.2.2.2.2.2.2.2.1, Y93.2.2.2.2.2.2.2.2.1, Y93.2.2.2.2.2.2.2.2.2.1, Y93.2.2.2.2.2.2.2.2.2.2.1, Y93.2.2.2.2.2.2.2.2.2.2.2.1, Y93.2.2.2.2.2.2.2.2.2.2.2.2.1, Y93.2.2.2.2.2.2.2.2.2.2.2.2.2.1, (Y93.2.2.2.2.2.2.2.2.2.2.2.2.2.2) + (1)) T))) rfl lfRX1_96 rfl (Nat.le_of_ble_eq_true rfl) (by intro q hq; cases hq; rfl) rfl ?_
            refine mr_goto (pc := 111) 72 rfl (by decide) ?_
            exact ih9 _ _ _ _ _ _ _ _ _ h
          · have h := (if_pos c96).symm.trans h
            refine mr_iconst (pc := 99) (v := 0) rfl (by decide) ?_
            cases h; exact mr_zreturn (pc := 100) rfl rfl (Or.inl rfl) (Nat.le_of_ble_eq_true rfl) (Nat.le_of_ble_eq_true rfl)
        · cases hr; exact mr_thrown (mRunV (pc := 93) (q := 8) (As := [.int (b1), .int (0)]) (rest := []) rfl lkRX1_92 rfl rfl rfl (Nat.le_of_ble_eq_true rfl) (Nat.le_of_ble_eq_true rfl) (F_X1_passes hc93)) rfl rfl (Nat.le_of_ble_eq_true rfl) (Nat.le_of_ble_eq_true rfl)
      · have h := (if_neg c85).symm.trans h
        refine mr_iconst (pc := 88) (v := 1) rfl (by decide) ?_
        refine mr_goto (pc := 89) 93 rfl (by decide) ?_
        rcases bI_inv h with ⟨v93, Y93, hc93, h⟩ | ⟨E93, Y93, hc93, hr⟩
        · refine mr_ret (mRunV (pc := 93) (q := 8) (As := [.int (b1), .int (1)]) (rest := []) rfl lkRX1_92 rfl rfl rfl (Nat.le_of_ble_eq_true rfl) (Nat.le_of_ble_eq_true rfl) (F_X1_passes hc93)) rfl (Nat.le_of_ble_eq_true rfl) (Nat.le_of_ble_eq_true rfl) ?_
          refine mr_if_ne (pc := 96) 101 rfl (by decide) (fun c96 => ?_) (fun c96 => ?_)
          · have h := (if_neg c96).symm.trans h
            refine mr_aload_n (pc := 101) (x := 8) rfl rfl ?_
            refine mr_dup (pc := 102) rfl rfl ?_
            refine mr_getfield (pc := 103) (v := .int (Y93.2.2.2.2.2.2.2.2.2.2.2.2.2.2)) rfl lfRX1_96 rfl rfl ?_
            refine mr_iconst (pc := 106) (v := 1) rfl (by decide) ?_
            refine mr_iadd (pc := 107) rfl ?_
            refine ms_putfield (pc := 108) (h' := (xw Z (yw (Y93.1, Y93.2.1, Y93.2.2.1, Y93.2.2.2.1, Y93.2.2.2.2.1, Y93.2.2.2.2.2.1, Y93.2.2.2.2.2.2.1, Y93.2.2.2.2.2.2.2.1, Y93.2.2.2.2.2.2.2.2.1, Y93.2.2.2.2.2.2.2.2.2.1, Y93.2.2.2.2.2.2.2.2.2.2.1, Y93.2.2.2.2.2.2.2.2.2.2.2.1, Y93.2.2.2.2.2.2.2.2.2.2.2.2.1, Y93.2.2.2.2.2.2.2.2.2.2.2.2.2.1, (Y93.2.2.2.2.2.2.2.2.2.2.2.2.2.2) + (1)) T))) rfl lfRX1_96 rfl (Nat.le_of_ble_eq_true rfl) (by intro q hq; cases hq; rfl) rfl ?_
            refine mr_goto (pc := 111) 72 rfl (by decide) ?_
            exact ih9 _ _ _ _ _ _ _ _ _ h
          · have h := (if_pos c96).symm.trans h
            refine mr_iconst (pc := 99) (v := 0) rfl (by decide) ?_
            cases h; exact mr_zreturn (pc := 100) rfl rfl (Or.inl rfl) (Nat.le_of_ble_eq_true rfl) (Nat.le_of_ble_eq_true rfl)
        · cases hr; exact mr_thrown (mRunV (pc := 93) (q := 8) (As := [.int (b1), .int (1)]) (rest := []) rfl lkRX1_92 rfl rfl rfl (Nat.le_of_ble_eq_true rfl) (Nat.le_of_ble_eq_true rfl) (F_X1_passes hc93)) rfl rfl (Nat.le_of_ble_eq_true rfl) (Nat.le_of_ble_eq_true rfl)
def g_X1_flies_43 : Nat → rS → Int32 → Int32 → Int32 → Int32 → Int32 → Int32 → Option (mO × rS)
  | 0, _, _, _, _, _, _, _ => none
  | f9 + 1, Y, b1, b2, b3, b4, b5, b6 => if ((b5) : Int32) < ((b6) : Int32) then (g_X1_flies_72 mK Y (b1) (b2) (b3) (b4) (b5) (b6)) else (bI (g_X1_hold Y ((b3) + ((b6) * (b4)))) (fun v58 Y58 => if ((v58) : Int32) = 0 then (some (.inl (some (.int (0))), Y58)) else (g_X1_flies_43 f9 Y58 (b1) (b2) (b3) (b4) (b5) (b6 + 1))))
set_option maxRecDepth 100000 in
set_option maxHeartbeats 4000000 in
theorem FL_X1_flies_43 {S : Nat × (Nat → Int32)} {Z : cS} {T : mH} : ∀ (f9 : Nat) (Y : rS) (b1 b2 b3 b4 b5 b6 : Int32) (o9 : mO) (R9 : rS), g_X1_flies_43 f9 Y b1 b2 b3 b4 b5 b6 = some (o9, R9) → mF S MX1_flies 43 [some (.ref 8), some (.int (b1)), some (.int (b2)), some (.int (b3)), some (.int (b4)), some (.int (b5)), some (.int (b6))] [] (xw Z (yw Y T)) 0 0 (o9, (xw Z (yw R9 T)), 0, 0) := by
  intro f9
  induction f9 with
  | zero => intro Y b1 b2 b3 b4 b5 b6 o9 R9 h; cases h
  | succ f9 ih9 =>
    intro Y b1 b2 b3 b4 b5 b6 o9 R9 h
    rw [g_X1_flies_43] at h
    refine mr_iload (pc := 43) (x := b6) rfl rfl ?_
    refine mr_iload (pc := 45) (x := b5) rfl rfl ?_
    refine mr_icmp_gt (pc := 47) 72 rfl (by decide) (fun c47 => ?_) (fun c47 => ?_)
    · have h := (if_pos c47).symm.trans h
      exact FL_X1_flies_72 mK _ _ _ _ _ _ _ _ _ h
    · have h := (if_neg c47).symm.trans h
      refine mr_aload_n (pc := 50) (x := 8) rfl rfl ?_
      refine mr_iload_n (pc := 51) (x := b3) rfl rfl ?_
      refine mr_iload (pc := 52) (x := b6) rfl rfl ?_
      refine mr_iload (pc := 54) (x := b4) rfl rfl ?_
      refine mr_imul (pc := 56) rfl ?_
      refine mr_iadd (pc := 57) rfl ?_
      rcases bI_inv h with ⟨v58, Y58, hc58, h⟩ | ⟨E58, Y58, hc58, hr⟩
      · refine mr_ret (mRunV (pc := 58) (q := 8) (As := [.int ((b3) + ((b6) * (b4)))]) (rest := []) rfl lkRX1_65 rfl rfl rfl (Nat.le_of_ble_eq_true rfl) (Nat.le_of_ble_eq_true rfl) (F_X1_hold hc58)) rfl (Nat.le_of_ble_eq_true rfl) (Nat.le_of_ble_eq_true rfl) ?_
        refine mr_if_ne (pc := 61) 66 rfl (by decide) (fun c61 => ?_) (fun c61 => ?_)
        · have h := (if_neg c61).symm.trans h
          refine ms_iinc (pc := 66) (x := b6) (v := 1) (L' := [some (.ref 8), some (.int (b1)), some (.int (b2)), some (.int (b3)), some (.int (b4)), some (.int (b5)), some (.int (b6 + 1))]) rfl rfl (by decide) (by decide) rfl rfl ?_
          refine mr_goto (pc := 69) 43 rfl (by decide) ?_
          exact ih9 _ _ _ _ _ _ _ _ _ h
        · have h := (if_pos c61).symm.trans h
          refine mr_iconst (pc := 64) (v := 0) rfl (by decide) ?_
          cases h; exact mr_zreturn (pc := 65) rfl rfl (Or.inl rfl) (Nat.le_of_ble_eq_true rfl) (Nat.le_of_ble_eq_true rfl)
      · cases hr; exact mr_thrown (mRunV (pc := 58) (q := 8) (As := [.int ((b3) + ((b6) * (b4)))]) (rest := []) rfl lkRX1_65 rfl rfl rfl (Nat.le_of_ble_eq_true rfl) (Nat.le_of_ble_eq_true rfl) (F_X1_hold hc58)) rfl rfl (Nat.le_of_ble_eq_true rfl) (Nat.le_of_ble_eq_true rfl)
def g_X1_flies (Y : rS) (a1 a2 : Int32) : Option (mO × rS) := if vpb (a1) 10 then (if ((a2) : Int32) ≤ (((Y.2.2.2.2.1) ((a1) : Int32).toNatClampNeg) : Int32) then (if ((a2) : Int32) ≤ (((Y.2.2.2.2.1) ((a1) : Int32).toNatClampNeg) : Int32) then (g_X1_flies_43 mK (Y.1, Y.2.1, Y.2.2.1, Y.2.2.2.1, Y.2.2.2.2.1, Y.2.2.2.2.2.1, Y.2.2.2.2.2.2.1, Y.2.2.2.2.2.2.2.1, Y.2.2.2.2.2.2.2.2.1, Y.2.2.2.2.2.2.2.2.2.1, Y.2.2.2.2.2.2.2.2.2.2.1, Y.2.2.2.2.2.2.2.2.2.2.2.1, Y.2.2.2.2.2.2.2.2.2.2.2.2.1, Y.2.2.2.2.2.2.2.2.2.2.2.2.2.1, 0) (a1) (a2) ((Y.2.2.2.2.1) ((a1) : Int32).toNatClampNeg) ((-1)) (((Y.2.2.2.2.1) ((a1) : Int32).toNatClampNeg) - (a2)) (0)) else (g_X1_flies_43 mK (Y.1, Y.2.1, Y.2.2.1, Y.2.2.2.1, Y.2.2.2.2.1, Y.2.2.2.2.2.1, Y.2.2.2.2.2.2.1, Y.2.2.2.2.2.2.2.1, Y.2.2.2.2.2.2.2.2.1, Y.2.2.2.2.2.2.2.2.2.1, Y.2.2.2.2.2.2.2.2.2.2.1, Y.2.2.2.2.2.2.2.2.2.2.2.1, Y.2.2.2.2.2.2.2.2.2.2.2.2.1, Y.2.2.2.2.2.2.2.2.2.2.2.2.2.1, 0) (a1) (a2) ((Y.2.2.2.2.1) ((a1) : Int32).toNatClampNeg) ((-1)) ((a2) - ((Y.2.2.2.2.1) ((a1) : Int32).toNatClampNeg)) (0))) else (if ((a2) : Int32) ≤ (((Y.2.2.2.2.1) ((a1) : Int32).toNatClampNeg) : Int32) then (g_X1_flies_43 mK (Y.1, Y.2.1, Y.2.2.1, Y.2.2.2.1, Y.2.2.2.2.1, Y.2.2.2.2.2.1, Y.2.2.2.2.2.2.1, Y.2.2.2.2.2.2.2.1, Y.2.2.2.2.2.2.2.2.1, Y.2.2.2.2.2.2.2.2.2.1, Y.2.2.2.2.2.2.2.2.2.2.1, Y.2.2.2.2.2.2.2.2.2.2.2.1, Y.2.2.2.2.2.2.2.2.2.2.2.2.1, Y.2.2.2.2.2.2.2.2.2.2.2.2.2.1, 0) (a1) (a2) ((Y.2.2.2.2.1) ((a1) : Int32).toNatClampNeg) (1) (((Y.2.2.2.2.1) ((a1) : Int32).toNatClampNeg) - (a2)) (0)) else (g_X1_flies_43 mK (Y.1, Y.2.1, Y.2.2.1, Y.2.2.2.1, Y.2.2.2.2.1, Y.2.2.2.2.2.1, Y.2.2.2.2.2.2.1, Y.2.2.2.2.2.2.2.1, Y.2.2.2.2.2.2.2.2.1, Y.2.2.2.2.2.2.2.2.2.1, Y.2.2.2.2.2.2.2.2.2.2.1, Y.2.2.2.2.2.2.2.2.2.2.2.1, Y.2.2.2.2.2.2.2.2.2.2.2.2.1, Y.2.2.2.2.2.2.2.2.2.2.2.2.2.1, 0) (a1) (a2) ((Y.2.2.2.2.1) ((a1) : Int32).toNatClampNeg) (1) ((a2) - ((Y.2.2.2.2.1) ((a1) : Int32).toNatClampNeg)) (0)))) else none
set_option maxRecDepth 100000 in
set_option maxHeartbeats 4000000 in
theorem F_X1_flies {S : Nat × (Nat → Int32)} {Z : cS} {T : mH} {Y R9 : rS} {o9 : mO} {a1 a2 : Int32} (h : g_X1_flies Y a1 a2 = some (o9, R9)) : mF S MX1_flies 0 (mEnt [.ref 8, .int a1, .int a2] 7) [] (xw Z (yw Y T)) 0 0 (o9, (xw Z (yw R9 T)), 0, 0) := by
  unfold g_X1_flies at h
  refine mr_aload_n (pc := 0) (x := 8) rfl rfl ?_
  refine mr_getfield (pc := 1) (v := .ref 13) rfl lfRX1_23 rfl rfl ?_
  refine mr_iload_n (pc := 4) (x := a1) rfl rfl ?_
  obtain ⟨g5, h⟩ := m_gd h
  refine mr_iaload (pc := 5) (f := Y.2.2.2.2.1) rfl rfl (vpb_in g5) ?_
  refine ms_istore_n (pc := 6) (L' := [some (.ref 8), some (.int (a1)), some (.int (a2)), some (.int ((Y.2.2.2.2.1) ((a1) : Int32).toNatClampNeg)), none, none, none]) rfl (by decide) rfl rfl ?_
  refine mr_iload_n (pc := 7) (x := a2) rfl rfl ?_
  refine mr_iload_n (pc := 8) (x := (Y.2.2.2.2.1) ((a1) : Int32).toNatClampNeg) rfl rfl ?_
  refine mr_icmp_le (pc := 9) 16 rfl (by decide) (fun c9 => ?_) (fun c9 => ?_)
  · have h := (if_pos c9).symm.trans h
    refine mr_iconst (pc := 16) (v := -1) rfl (by decide) ?_
    refine ms_istore (pc := 17) (L' := [some (.ref 8), some (.int (a1)), some (.int (a2)), some (.int ((Y.2.2.2.2.1) ((a1) : Int32).toNatClampNeg)), some (.int ((-1))), none, none]) rfl (by decide) rfl rfl ?_
    refine mr_iload_n (pc := 19) (x := a2) rfl rfl ?_
    refine mr_iload_n (pc := 20) (x := (Y.2.2.2.2.1) ((a1) : Int32).toNatClampNeg) rfl rfl ?_
    refine mr_icmp_le (pc := 21) 30 rfl (by decide) (fun c21 => ?_) (fun c21 => ?_)
    · have h := (if_pos c21).symm.trans h
      refine mr_iload_n (pc := 30) (x := (Y.2.2.2.2.1) ((a1) : Int32).toNatClampNeg) rfl rfl ?_
      refine mr_iload_n (pc := 31) (x := a2) rfl rfl ?_
      refine mr_isub (pc := 32) rfl ?_
      refine ms_istore (pc := 33) (L' := [some (.ref 8), some (.int (a1)), some (.int (a2)), some (.int ((Y.2.2.2.2.1) ((a1) : Int32).toNatClampNeg)), some (.int ((-1))), some (.int (((Y.2.2.2.2.1) ((a1) : Int32).toNatClampNeg) - (a2))), none]) rfl (by decide) rfl rfl ?_
      refine mr_aload_n (pc := 35) (x := 8) rfl rfl ?_
      refine mr_iconst (pc := 36) (v := 0) rfl (by decide) ?_
      refine ms_putfield (pc := 37) (h' := (xw Z (yw (Y.1, Y.2.1, Y.2.2.1, Y.2.2.2.1, Y.2.2.2.2.1, Y.2.2.2.2.2.1, Y.2.2.2.2.2.2.1, Y.2.2.2.2.2.2.2.1, Y.2.2.2.2.2.2.2.2.1, Y.2.2.2.2.2.2.2.2.2.1, Y.2.2.2.2.2.2.2.2.2.2.1, Y.2.2.2.2.2.2.2.2.2.2.2.1, Y.2.2.2.2.2.2.2.2.2.2.2.2.1, Y.2.2.2.2.2.2.2.2.2.2.2.2.2.1, 0) T))) rfl lfRX1_96 rfl (Nat.le_of_ble_eq_true rfl) (by intro q hq; cases hq; rfl) rfl ?_
      refine mr_iconst (pc := 40) (v := 0) rfl (by decide) ?_
      refine ms_istore (pc := 41) (L' := [some (.ref 8), some (.int (a1)), some (.int (a2)), some (.int ((Y.2.2.2.2.1) ((a1) : Int32).toNatClampNeg)), some (.int ((-1))), some (.int (((Y.2.2.2.2.1) ((a1) : Int32).toNatClampNeg) - (a2))), some (.int (0))]) rfl (by decide) rfl rfl ?_
      exact FL_X1_flies_43 mK _ _ _ _ _ _ _ _ _ h
    · have h := (if_neg c21).symm.trans h
      refine mr_iload_n (pc := 24) (x := a2) rfl rfl ?_
      refine mr_iload_n (pc := 25) (x := (Y.2.2.2.2.1) ((a1) : Int32).toNatClampNeg) rfl rfl ?_
      refine mr_isub (pc := 26) rfl ?_
      refine mr_goto (pc := 27) 33 rfl (by decide) ?_
      refine ms_istore (pc := 33) (L' := [some (.ref 8), some (.int (a1)), some (.int (a2)), some (.int ((Y.2.2.2.2.1) ((a1) : Int32).toNatClampNeg)), some (.int ((-1))), some (.int ((a2) - ((Y.2.2.2.2.1) ((a1) : Int32).toNatClampNeg))), none]) rfl (by decide) rfl rfl ?_
      refine mr_aload_n (pc := 35) (x := 8) rfl rfl ?_
      refine mr_iconst (pc := 36) (v := 0) rfl (by decide) ?_
      refine ms_putfield (pc := 37) (h' := (xw Z (yw (Y.1, Y.2.1, Y.2.2.1, Y.2.2.2.1, Y.2.2.2.2.1, Y.2.2.2.2.2.1, Y.2.2.2.2.2.2.1, Y.2.2.2.2.2.2.2.1, Y.2.2.2.2.2.2.2.2.1, Y.2.2.2.2.2.2.2.2.2.1, Y.2.2.2.2.2.2.2.2.2.2.1, Y.2.2.2.2.2.2.2.2.2.2.2.1, Y.2.2.2.2.2.2.2.2.2.2.2.2.1, Y.2.2.2.2.2.2.2.2.2.2.2.2.2.1, 0) T))) rfl lfRX1_96 rfl (Nat.le_of_ble_eq_true rfl) (by intro q hq; cases hq; rfl) rfl ?_
      refine mr_iconst (pc := 40) (v := 0) rfl (by decide) ?_
      refine ms_istore (pc := 41) (L' := [some (.ref 8), some (.int (a1)), some (.int (a2)), some (.int ((Y.2.2.2.2.1) ((a1) : Int32).toNatClampNeg)), some (.int ((-1))), some (.int ((a2) - ((Y.2.2.2.2.1) ((a1) : Int32).toNatClampNeg))), some (.int (0))]) rfl (by decide) rfl rfl ?_
      exact FL_X1_flies_43 mK _ _ _ _ _ _ _ _ _ h
  · have h := (if_neg c9).symm.trans h
    refine mr_iconst (pc := 12) (v := 1) rfl (by decide) ?_
    refine mr_goto (pc := 13) 17 rfl (by decide) ?_
    refine ms_istore (pc := 17) (L' := [some (.ref 8), some (.int (a1)), some (.int (a2)), some (.int ((Y.2.2.2.2.1) ((a1) : Int32).toNatClampNeg)), some (.int (1)), none, none]) rfl (by decide) rfl rfl ?_
    refine mr_iload_n (pc := 19) (x := a2) rfl rfl ?_
    refine mr_iload_n (pc := 20) (x := (Y.2.2.2.2.1) ((a1) : Int32).toNatClampNeg) rfl rfl ?_
    refine mr_icmp_le (pc := 21) 30 rfl (by decide) (fun c21 => ?_) (fun c21 => ?_)
    · have h := (if_pos c21).symm.trans h
      refine mr_iload_n (pc := 30) (x := (Y.2.2.2.2.1) ((a1) : Int32).toNatClampNeg) rfl rfl ?_
      refine mr_iload_n (pc := 31) (x := a2) rfl rfl ?_
      refine mr_isub (pc := 32) rfl ?_
      refine ms_istore (pc := 33) (L' := [some (.ref 8), some (.int (a1)), some (.int (a2)), some (.int ((Y.2.2.2.2.1) ((a1) : Int32).toNatClampNeg)), some (.int (1)), some (.int (((Y.2.2.2.2.1) ((a1) : Int32).toNatClampNeg) - (a2))), none]) rfl (by decide) rfl rfl ?_
      refine mr_aload_n (pc := 35) (x := 8) rfl rfl ?_
      refine mr_iconst (pc := 36) (v := 0) rfl (by decide) ?_
      refine ms_putfield (pc := 37) (h' := (xw Z (yw (Y.1, Y.2.1, Y.2.2.1, Y.2.2.2.1, Y.2.2.2.2.1, Y.2.2.2.2.2.1, Y.2.2.2.2.2.2.1, Y.2.2.2.2.2.2.2.1, Y.2.2.2.2.2.2.2.2.1, Y.2.2.2.2.2.2.2.2.2.1, Y.2.2.2.2.2.2.2.2.2.2.1, Y.2.2.2.2.2.2.2.2.2.2.2.1, Y.2.2.2.2.2.2.2.2.2.2.2.2.1, Y.2.2.2.2.2.2.2.2.2.2.2.2.2.1, 0) T))) rfl lfRX1_96 rfl (Nat.le_of_ble_eq_true rfl) (by intro q hq; cases hq; rfl) rfl ?_
      refine mr_iconst (pc := 40) (v := 0) rfl (by decide) ?_
      refine ms_istore (pc := 41) (L' := [some (.ref 8), some (.int (a1)), some (.int (a2)), some (.int ((Y.2.2.2.2.1) ((a1) : Int32).toNatClampNeg)), some (.int (1)), some (.int (((Y.2.2.2.2.1) ((a1) : Int32).toNatClampNeg) - (a2))), some (.int (0))]) rfl (by decide) rfl rfl ?_
      exact FL_X1_flies_43 mK _ _ _ _ _ _ _ _ _ h
    · have h := (if_neg c21).symm.trans h
      refine mr_iload_n (pc := 24) (x := a2) rfl rfl ?_
      refine mr_iload_n (pc := 25) (x := (Y.2.2.2.2.1) ((a1) : Int32).toNatClampNeg) rfl rfl ?_
      refine mr_isub (pc := 26) rfl ?_
      refine mr_goto (pc := 27) 33 rfl (by decide) ?_
      refine ms_istore (pc := 33) (L' := [some (.ref 8), some (.int (a1)), some (.int (a2)), some (.int ((Y.2.2.2.2.1) ((a1) : Int32).toNatClampNeg)), some (.int (1)), some (.int ((a2) - ((Y.2.2.2.2.1) ((a1) : Int32).toNatClampNeg))), none]) rfl (by decide) rfl rfl ?_
      refine mr_aload_n (pc := 35) (x := 8) rfl rfl ?_
      refine mr_iconst (pc := 36) (v := 0) rfl (by decide) ?_
      refine ms_putfield (pc := 37) (h' := (xw Z (yw (Y.1, Y.2.1, Y.2.2.1, Y.2.2.2.1, Y.2.2.2.2.1, Y.2.2.2.2.2.1, Y.2.2.2.2.2.2.1, Y.2.2.2.2.2.2.2.1, Y.2.2.2.2.2.2.2.2.1, Y.2.2.2.2.2.2.2.2.2.1, Y.2.2.2.2.2.2.2.2.2.2.1, Y.2.2.2.2.2.2.2.2.2.2.2.1, Y.2.2.2.2.2.2.2.2.2.2.2.2.1, Y.2.2.2.2.2.2.2.2.2.2.2.2.2.1, 0) T))) rfl lfRX1_96 rfl (Nat.le_of_ble_eq_true rfl) (by intro q hq; cases hq; rfl) rfl ?_
      refine mr_iconst (pc := 40) (v := 0) rfl (by decide) ?_
      refine ms_istore (pc := 41) (L' := [some (.ref 8), some (.int (a1)), some (.int (a2)), some (.int ((Y.2.2.2.2.1) ((a1) : Int32).toNatClampNeg)), some (.int (1)), some (.int ((a2) - ((Y.2.2.2.2.1) ((a1) : Int32).toNatClampNeg))), some (.int (0))]) rfl (by decide) rfl rfl ?_
      exact FL_X1_flies_43 mK _ _ _ _ _ _ _ _ _ h
def g_X1_flight (Y : rS) (a1 a2 : Int32) : Option (mO × rS) := cI (g_X1_isBoat (a1)) Y (fun v2 => if ((v2) : Int32) = 0 then (if ((1) : Int32) ≤ 0 then (bI (g_X1_flies (Y.1, Y.2.1, Y.2.2.1, Y.2.2.2.1, Y.2.2.2.2.1, Y.2.2.2.2.2.1, Y.2.2.2.2.2.2.1, Y.2.2.2.2.2.2.2.1, 1, Y.2.2.2.2.2.2.2.2.2.1, Y.2.2.2.2.2.2.2.2.2.2.1, Y.2.2.2.2.2.2.2.2.2.2.2.1, Y.2.2.2.2.2.2.2.2.2.2.2.2.1, Y.2.2.2.2.2.2.2.2.2.2.2.2.2.1, Y.2.2.2.2.2.2.2.2.2.2.2.2.2.2) (a1) (a2)) (fun v49 Y49 => if ((v49) : Int32) = 0 then (bI (g_X1_told Y49 (2) (3) (4) (5)) (fun v67 Y67 => some (.inl (some (.int (v67))), Y67))) else (some (.inl (some (.int (Y49.2.2.2.2.2.2.2.2.2.2.2.2.2.2))), Y49)))) else (some (.inl (some (.int (0))), (Y.1, Y.2.1, Y.2.2.1, Y.2.2.2.1, Y.2.2.2.2.1, Y.2.2.2.2.2.1, Y.2.2.2.2.2.2.1, Y.2.2.2.2.2.2.2.1, 1, Y.2.2.2.2.2.2.2.2.2.1, Y.2.2.2.2.2.2.2.2.2.2.1, Y.2.2.2.2.2.2.2.2.2.2.2.1, Y.2.2.2.2.2.2.2.2.2.2.2.2.1, Y.2.2.2.2.2.2.2.2.2.2.2.2.2.1, Y.2.2.2.2.2.2.2.2.2.2.2.2.2.2)))) else (cI (g_X1_isPool (a2)) Y (fun v9 => if ((v9) : Int32) = 0 then (if ((1) : Int32) ≤ 0 then (bI (g_X1_flies (Y.1, Y.2.1, Y.2.2.1, Y.2.2.2.1, Y.2.2.2.2.1, Y.2.2.2.2.2.1, Y.2.2.2.2.2.2.1, Y.2.2.2.2.2.2.2.1, 1, Y.2.2.2.2.2.2.2.2.2.1, Y.2.2.2.2.2.2.2.2.2.2.1, Y.2.2.2.2.2.2.2.2.2.2.2.1, Y.2.2.2.2.2.2.2.2.2.2.2.2.1, Y.2.2.2.2.2.2.2.2.2.2.2.2.2.1, Y.2.2.2.2.2.2.2.2.2.2.2.2.2.2) (a1) (a2)) (fun v49 Y49 => if ((v49) : Int32) = 0 then (bI (g_X1_told Y49 (2) (3) (4) (5)) (fun v67 Y67 => some (.inl (some (.int (v67))), Y67))) else (some (.inl (some (.int (Y49.2.2.2.2.2.2.2.2.2.2.2.2.2.2))), Y49)))) else (some (.inl (some (.int (0))), (Y.1, Y.2.1, Y.2.2.1, Y.2.2.2.1, Y.2.2.2.2.1, Y.2.2.2.2.2.1, Y.2.2.2.2.2.2.1, Y.2.2.2.2.2.2.2.1, 1, Y.2.2.2.2.2.2.2.2.2.1, Y.2.2.2.2.2.2.2.2.2.2.1, Y.2.2.2.2.2.2.2.2.2.2.2.1, Y.2.2.2.2.2.2.2.2.2.2.2.2.1, Y.2.2.2.2.2.2.2.2.2.2.2.2.2.1, Y.2.2.2.2.2.2.2.2.2.2.2.2.2.2)))) else (if vpb (a1) 10 then (if (((Y.2.2.2.2.1) ((a1) : Int32).toNatClampNeg) : Int32) = (((-1)) : Int32) then (if ((3) : Int32) ≤ 0 then (bI (g_X1_flies (Y.1, Y.2.1, Y.2.2.1, Y.2.2.2.1, Y.2.2.2.2.1, Y.2.2.2.2.2.1, Y.2.2.2.2.2.2.1, Y.2.2.2.2.2.2.2.1, 3, Y.2.2.2.2.2.2.2.2.2.1, Y.2.2.2.2.2.2.2.2.2.2.1, Y.2.2.2.2.2.2.2.2.2.2.2.1, Y.2.2.2.2.2.2.2.2.2.2.2.2.1, Y.2.2.2.2.2.2.2.2.2.2.2.2.2.1, Y.2.2.2.2.2.2.2.2.2.2.2.2.2.2) (a1) (a2)) (fun v49 Y49 => if ((v49) : Int32) = 0 then (bI (g_X1_told Y49 (2) (3) (4) (5)) (fun v67 Y67 => some (.inl (some (.int (v67))), Y67))) else (some (.inl (some (.int (Y49.2.2.2.2.2.2.2.2.2.2.2.2.2.2))), Y49)))) else (some (.inl (some (.int (0))), (Y.1, Y.2.1, Y.2.2.1, Y.2.2.2.1, Y.2.2.2.2.1, Y.2.2.2.2.2.1, Y.2.2.2.2.2.2.1, Y.2.2.2.2.2.2.2.1, 3, Y.2.2.2.2.2.2.2.2.2.1, Y.2.2.2.2.2.2.2.2.2.2.1, Y.2.2.2.2.2.2.2.2.2.2.2.1, Y.2.2.2.2.2.2.2.2.2.2.2.2.1, Y.2.2.2.2.2.2.2.2.2.2.2.2.2.1, Y.2.2.2.2.2.2.2.2.2.2.2.2.2.2)))) else (if ((0) : Int32) ≤ 0 then (bI (g_X1_flies (Y.1, Y.2.1, Y.2.2.1, Y.2.2.2.1, Y.2.2.2.2.1, Y.2.2.2.2.2.1, Y.2.2.2.2.2.2.1, Y.2.2.2.2.2.2.2.1, 0, Y.2.2.2.2.2.2.2.2.2.1, Y.2.2.2.2.2.2.2.2.2.2.1, Y.2.2.2.2.2.2.2.2.2.2.2.1, Y.2.2.2.2.2.2.2.2.2.2.2.2.1, Y.2.2.2.2.2.2.2.2.2.2.2.2.2.1, Y.2.2.2.2.2.2.2.2.2.2.2.2.2.2) (a1) (a2)) (fun v49 Y49 => if ((v49) : Int32) = 0 then (bI (g_X1_told Y49 (2) (3) (4) (5)) (fun v67 Y67 => some (.inl (some (.int (v67))), Y67))) else (some (.inl (some (.int (Y49.2.2.2.2.2.2.2.2.2.2.2.2.2.2))), Y49)))) else (some (.inl (some (.int (0))), (Y.1, Y.2.1, Y.2.2.1, Y.2.2.2.1, Y.2.2.2.2.1, Y.2.2.2.2.2.1, Y.2.2.2.2.2.2.1, Y.2.2.2.2.2.2.2.1, 0, Y.2.2.2.2.2.2.2.2.2.1, Y.2.2.2.2.2.2.2.2.2.2.1, Y.2.2.2.2.2.2.2.2.2.2.2.1, Y.2.2.2.2.2.2.2.2.2.2.2.2.1, Y.2.2.2.2.2.2.2.2.2.2.2.2.2.1, Y.2.2.2.2.2.2.2.2.2.2.2.2.2.2))))) else none))))
set_option maxRecDepth 100000 in
set_option maxHeartbeats 4000000 in
theorem F_X1_flight {S : Nat × (Nat → Int32)} {Z : cS} {T : mH} {Y R9 : rS} {o9 : mO} {a1 a2 : Int32} (h : g_X1_flight Y a1 a2 = some (o9, R9)) : mF S MX1_flight 0 (mEnt [.ref 8, .int a1, .int a2] 3) [] (xw Z (yw Y T)) 0 0 (o9, (xw Z (yw R9 T)), 0, 0) := by
  unfold g_X1_flight at h
  refine mr_aload_n (pc := 0) (x := 8) rfl rfl ?_
  refine mr_iload_n (pc := 1) (x := a1) rfl rfl ?_
  rcases cI_inv h with ⟨v2, hc2, h⟩ | ⟨E2, hc2, hr⟩
  · refine mr_ret (mRunS (pc := 2) (As := [.int (a1)]) (rest := [.ref 8]) rfl lkRX1_80 rfl (Nat.le_of_ble_eq_true rfl) (Nat.le_of_ble_eq_true rfl) (F_X1_isBoat hc2)) rfl (Nat.le_of_ble_eq_true rfl) (Nat.le_of_ble_eq_true rfl) ?_
    refine mr_if_eq (pc := 5) 15 rfl (by decide) (fun c5 => ?_) (fun c5 => ?_)
    · have h := (if_pos c5).symm.trans h
      refine mr_iconst (pc := 15) (v := 1) rfl (by decide) ?_
      refine mr_goto (pc := 16) 34 rfl (by decide) ?_
      refine ms_putfield (pc := 34) (h' := (xw Z (yw (Y.1, Y.2.1, Y.2.2.1, Y.2.2.2.1, Y.2.2.2.2.1, Y.2.2.2.2.2.1, Y.2.2.2.2.2.2.1, Y.2.2.2.2.2.2.2.1, 1, Y.2.2.2.2.2.2.2.2.2.1, Y.2.2.2.2.2.2.2.2.2.2.1, Y.2.2.2.2.2.2.2.2.2.2.2.1, Y.2.2.2.2.2.2.2.2.2.2.2.2.1, Y.2.2.2.2.2.2.2.2.2.2.2.2.2.1, Y.2.2.2.2.2.2.2.2.2.2.2.2.2.2) T))) rfl lfRX1_38 rfl (Nat.le_of_ble_eq_true rfl) (by intro q hq; cases hq; rfl) rfl ?_
      refine mr_aload_n (pc := 37) (x := 8) rfl rfl ?_
      refine mr_getfield (pc := 38) (v := .int (1)) rfl lfRX1_38 rfl rfl ?_
      refine mr_if_le (pc := 41) 46 rfl (by decide) (fun c41 => ?_) (fun c41 => ?_)
      · have h := (if_pos c41).symm.trans h
        refine mr_aload_n (pc := 46) (x := 8) rfl rfl ?_
        refine mr_iload_n (pc := 47) (x := a1) rfl rfl ?_
        refine mr_iload_n (pc := 48) (x := a2) rfl rfl ?_
        rcases bI_inv h with ⟨v49, Y49, hc49, h⟩ | ⟨E49, Y49, hc49, hr⟩
        · refine mr_ret (mRunV (pc := 49) (q := 8) (As := [.int (a1), .int (a2)]) (rest := []) rfl lkRX1_99 rfl rfl rfl (Nat.le_of_ble_eq_true rfl) (Nat.le_of_ble_eq_true rfl) (F_X1_flies hc49)) rfl (Nat.le_of_ble_eq_true rfl) (Nat.le_of_ble_eq_true rfl) ?_
          refine mr_if_eq (pc := 52) 62 rfl (by decide) (fun c52 => ?_) (fun c52 => ?_)
          · have h := (if_pos c52).symm.trans h
            refine mr_aload_n (pc := 62) (x := 8) rfl rfl ?_
            refine mr_iconst (pc := 63) (v := 2) rfl (by decide) ?_
            refine mr_iconst (pc := 64) (v := 3) rfl (by decide) ?_
            refine mr_iconst (pc := 65) (v := 4) rfl (by decide) ?_
            refine mr_iconst (pc := 66) (v := 5) rfl (by decide) ?_
            rcases bI_inv h with ⟨v67, Y67, hc67, h⟩ | ⟨E67, Y67, hc67, hr⟩
            · refine mr_ret (mRunV (pc := 67) (q := 8) (As := [.int (2), .int (3), .int (4), .int (5)]) (rest := []) rfl lkRX1_68 rfl rfl rfl (Nat.le_of_ble_eq_true rfl) (Nat.le_of_ble_eq_true rfl) (F_X1_told hc67)) rfl (Nat.le_of_ble_eq_true rfl) (Nat.le_of_ble_eq_true rfl) ?_
              cases h; exact mr_ireturn (pc := 70) rfl rfl (Nat.le_of_ble_eq_true rfl) (Nat.le_of_ble_eq_true rfl)
            · cases hr; exact mr_thrown (mRunV (pc := 67) (q := 8) (As := [.int (2), .int (3), .int (4), .int (5)]) (rest := []) rfl lkRX1_68 rfl rfl rfl (Nat.le_of_ble_eq_true rfl) (Nat.le_of_ble_eq_true rfl) (F_X1_told hc67)) rfl rfl (Nat.le_of_ble_eq_true rfl) (Nat.le_of_ble_eq_true rfl)
          · have h := (if_neg c52).symm.trans h
            refine mr_aload_n (pc := 55) (x := 8) rfl rfl ?_
            refine mr_getfield (pc := 56) (v := .int (Y49.2.2.2.2.2.2.2.2.2.2.2.2.2.2)) rfl lfRX1_96 rfl rfl ?_
            refine mr_goto (pc := 59) 70 rfl (by decide) ?_
            cases h; exact mr_ireturn (pc := 70) rfl rfl (Nat.le_of_ble_eq_true rfl) (Nat.le_of_ble_eq_true rfl)
        · cases hr; exact mr_thrown (mRunV (pc := 49) (q := 8) (As := [.int (a1), .int (a2)]) (rest := []) rfl lkRX1_99 rfl rfl rfl (Nat.le_of_ble_eq_true rfl) (Nat.le_of_ble_eq_true rfl) (F_X1_flies hc49)) rfl rfl (Nat.le_of_ble_eq_true rfl) (Nat.le_of_ble_eq_true rfl)
      · have h := (if_neg c41).symm.trans h
        refine mr_iconst (pc := 44) (v := 0) rfl (by decide) ?_
        cases h; exact mr_ireturn (pc := 45) rfl rfl (Nat.le_of_ble_eq_true rfl) (Nat.le_of_ble_eq_true rfl)
    · have h := (if_neg c5).symm.trans h
      refine mr_iload_n (pc := 8) (x := a2) rfl rfl ?_
      rcases cI_inv h with ⟨v9, hc9, h⟩ | ⟨E9, hc9, hr⟩
      · refine mr_ret (mRunS (pc := 9) (As := [.int (a2)]) (rest := [.ref 8]) rfl lkRX1_62 rfl (Nat.le_of_ble_eq_true rfl) (Nat.le_of_ble_eq_true rfl) (F_X1_isPool hc9)) rfl (Nat.le_of_ble_eq_true rfl) (Nat.le_of_ble_eq_true rfl) ?_
        refine mr_if_ne (pc := 12) 19 rfl (by decide) (fun c12 => ?_) (fun c12 => ?_)
        · have h := (if_neg c12).symm.trans h
          refine mr_aload_n (pc := 19) (x := 8) rfl rfl ?_
          refine mr_getfield (pc := 20) (v := .ref 13) rfl lfRX1_23 rfl rfl ?_
          refine mr_iload_n (pc := 23) (x := a1) rfl rfl ?_
          obtain ⟨g24, h⟩ := m_gd h
          refine mr_iaload (pc := 24) (f := Y.2.2.2.2.1) rfl rfl (vpb_in g24) ?_
          refine mr_iconst (pc := 25) (v := -1) rfl (by decide) ?_
          refine mr_icmp_ne (pc := 26) 33 rfl (by decide) (fun c26 => ?_) (fun c26 => ?_)
          · have h := (if_neg c26).symm.trans h
            refine mr_iconst (pc := 33) (v := 0) rfl (by decide) ?_
            refine ms_putfield (pc := 34) (h' := (xw Z (yw (Y.1, Y.2.1, Y.2.2.1, Y.2.2.2.1, Y.2.2.2.2.1, Y.2.2.2.2.2.1, Y.2.2.2.2.2.2.1, Y.2.2.2.2.2.2.2.1, 0, Y.2.2.2.2.2.2.2.2.2.1, Y.2.2.2.2.2.2.2.2.2.2.1, Y.2.2.2.2.2.2.2.2.2.2.2.1, Y.2.2.2.2.2.2.2.2.2.2.2.2.1, Y.2.2.2.2.2.2.2.2.2.2.2.2.2.1, Y.2.2.2.2.2.2.2.2.2.2.2.2.2.2) T))) rfl lfRX1_38 rfl (Nat.le_of_ble_eq_true rfl) (by intro q hq; cases hq; rfl) rfl ?_
            refine mr_aload_n (pc := 37) (x := 8) rfl rfl ?_
            refine mr_getfield (pc := 38) (v := .int (0)) rfl lfRX1_38 rfl rfl ?_
            refine mr_if_le (pc := 41) 46 rfl (by decide) (fun c41 => ?_) (fun c41 => ?_)
            · have h := (if_pos c41).symm.trans h
              refine mr_aload_n (pc := 46) (x := 8) rfl rfl ?_
              refine mr_iload_n (pc := 47) (x := a1) rfl rfl ?_
              refine mr_iload_n (pc := 48) (x := a2) rfl rfl ?_
              rcases bI_inv h with ⟨v49, Y49, hc49, h⟩ | ⟨E49, Y49, hc49, hr⟩
              · refine mr_ret (mRunV (pc := 49) (q := 8) (As := [.int (a1), .int (a2)]) (rest := []) rfl lkRX1_99 rfl rfl rfl (Nat.le_of_ble_eq_true rfl) (Nat.le_of_ble_eq_true rfl) (F_X1_flies hc49)) rfl (Nat.le_of_ble_eq_true rfl) (Nat.le_of_ble_eq_true rfl) ?_
                refine mr_if_eq (pc := 52) 62 rfl (by decide) (fun c52 => ?_) (fun c52 => ?_)
                · have h := (if_pos c52).symm.trans h
                  refine mr_aload_n (pc := 62) (x := 8) rfl rfl ?_
                  refine mr_iconst (pc := 63) (v := 2) rfl (by decide) ?_
                  refine mr_iconst (pc := 64) (v := 3) rfl (by decide) ?_
                  refine mr_iconst (pc := 65) (v := 4) rfl (by decide) ?_
                  refine mr_iconst (pc := 66) (v := 5) rfl (by decide) ?_
                  rcases bI_inv h with ⟨v67, Y67, hc67, h⟩ | ⟨E67, Y67, hc67, hr⟩
                  · refine mr_ret (mRunV (pc := 67) (q := 8) (As := [.int (2), .int (3), .int (4), .int (5)]) (rest := []) rfl lkRX1_68 rfl rfl rfl (Nat.le_of_ble_eq_true rfl) (Nat.le_of_ble_eq_true rfl) (F_X1_told hc67)) rfl (Nat.le_of_ble_eq_true rfl) (Nat.le_of_ble_eq_true rfl) ?_
                    cases h; exact mr_ireturn (pc := 70) rfl rfl (Nat.le_of_ble_eq_true rfl) (Nat.le_of_ble_eq_true rfl)
                  · cases hr; exact mr_thrown (mRunV (pc := 67) (q := 8) (As := [.int (2), .int (3), .int (4), .int (5)]) (rest := []) rfl lkRX1_68 rfl rfl rfl (Nat.le_of_ble_eq_true rfl) (Nat.le_of_ble_eq_true rfl) (F_X1_told hc67)) rfl rfl (Nat.le_of_ble_eq_true rfl) (Nat.le_of_ble_eq_true rfl)
                · have h := (if_neg c52).symm.trans h
                  refine mr_aload_n (pc := 55) (x := 8) rfl rfl ?_
                  refine mr_getfield (pc := 56) (v := .int (Y49.2.2.2.2.2.2.2.2.2.2.2.2.2.2)) rfl lfRX1_96 rfl rfl ?_
                  refine mr_goto (pc := 59) 70 rfl (by decide) ?_
                  cases h; exact mr_ireturn (pc := 70) rfl rfl (Nat.le_of_ble_eq_true rfl) (Nat.le_of_ble_eq_true rfl)
              · cases hr; exact mr_thrown (mRunV (pc := 49) (q := 8) (As := [.int (a1), .int (a2)]) (rest := []) rfl lkRX1_99 rfl rfl rfl (Nat.le_of_ble_eq_true rfl) (Nat.le_of_ble_eq_true rfl) (F_X1_flies hc49)) rfl rfl (Nat.le_of_ble_eq_true rfl) (Nat.le_of_ble_eq_true rfl)
            · have h := (if_neg c41).symm.trans h
              refine mr_iconst (pc := 44) (v := 0) rfl (by decide) ?_
              cases h; exact mr_ireturn (pc := 45) rfl rfl (Nat.le_of_ble_eq_true rfl) (Nat.le_of_ble_eq_true rfl)
          · have h := (if_pos c26).symm.trans h
            refine mr_iconst (pc := 29) (v := 3) rfl (by decide) ?_
            refine mr_goto (pc := 30) 34 rfl (by decide) ?_
            refine ms_putfield (pc := 34) (h' := (xw Z (yw (Y.1, Y.2.1, Y.2.2.1, Y.2.2.2.1, Y.2.2.2.2.1, Y.2.2.2.2.2.1, Y.2.2.2.2.2.2.1, Y.2.2.2.2.2.2.2.1, 3, Y.2.2.2.2.2.2.2.2.2.1, Y.2.2.2.2.2.2.2.2.2.2.1, Y.2.2.2.2.2.2.2.2.2.2.2.1, Y.2.2.2.2.2.2.2.2.2.2.2.2.1, Y.2.2.2.2.2.2.2.2.2.2.2.2.2.1, Y.2.2.2.2.2.2.2.2.2.2.2.2.2.2) T))) rfl lfRX1_38 rfl (Nat.le_of_ble_eq_true rfl) (by intro q hq; cases hq; rfl) rfl ?_
            refine mr_aload_n (pc := 37) (x := 8) rfl rfl ?_
            refine mr_getfield (pc := 38) (v := .int (3)) rfl lfRX1_38 rfl rfl ?_
            refine mr_if_le (pc := 41) 46 rfl (by decide) (fun c41 => ?_) (fun c41 => ?_)
            · have h := (if_pos c41).symm.trans h
              refine mr_aload_n (pc := 46) (x := 8) rfl rfl ?_
              refine mr_iload_n (pc := 47) (x := a1) rfl rfl ?_
              refine mr_iload_n (pc := 48) (x := a2) rfl rfl ?_
              rcases bI_inv h with ⟨v49, Y49, hc49, h⟩ | ⟨E49, Y49, hc49, hr⟩
              · refine mr_ret (mRunV (pc := 49) (q := 8) (As := [.int (a1), .int (a2)]) (rest := []) rfl lkRX1_99 rfl rfl rfl (Nat.le_of_ble_eq_true rfl) (Nat.le_of_ble_eq_true rfl) (F_X1_flies hc49)) rfl (Nat.le_of_ble_eq_true rfl) (Nat.le_of_ble_eq_true rfl) ?_
                refine mr_if_eq (pc := 52) 62 rfl (by decide) (fun c52 => ?_) (fun c52 => ?_)
                · have h := (if_pos c52).symm.trans h
                  refine mr_aload_n (pc := 62) (x := 8) rfl rfl ?_
                  refine mr_iconst (pc := 63) (v := 2) rfl (by decide) ?_
                  refine mr_iconst (pc := 64) (v := 3) rfl (by decide) ?_
                  refine mr_iconst (pc := 65) (v := 4) rfl (by decide) ?_
                  refine mr_iconst (pc := 66) (v := 5) rfl (by decide) ?_
                  rcases bI_inv h with ⟨v67, Y67, hc67, h⟩ | ⟨E67, Y67, hc67, hr⟩
                  · refine mr_ret (mRunV (pc := 67) (q := 8) (As := [.int (2), .int (3), .int (4), .int (5)]) (rest := []) rfl lkRX1_68 rfl rfl rfl (Nat.le_of_ble_eq_true rfl) (Nat.le_of_ble_eq_true rfl) (F_X1_told hc67)) rfl (Nat.le_of_ble_eq_true rfl) (Nat.le_of_ble_eq_true rfl) ?_
                    cases h; exact mr_ireturn (pc := 70) rfl rfl (Nat.le_of_ble_eq_true rfl) (Nat.le_of_ble_eq_true rfl)
                  · cases hr; exact mr_thrown (mRunV (pc := 67) (q := 8) (As := [.int (2), .int (3), .int (4), .int (5)]) (rest := []) rfl lkRX1_68 rfl rfl rfl (Nat.le_of_ble_eq_true rfl) (Nat.le_of_ble_eq_true rfl) (F_X1_told hc67)) rfl rfl (Nat.le_of_ble_eq_true rfl) (Nat.le_of_ble_eq_true rfl)
                · have h := (if_neg c52).symm.trans h
                  refine mr_aload_n (pc := 55) (x := 8) rfl rfl ?_
                  refine mr_getfield (pc := 56) (v := .int (Y49.2.2.2.2.2.2.2.2.2.2.2.2.2.2)) rfl lfRX1_96 rfl rfl ?_
                  refine mr_goto (pc := 59) 70 rfl (by decide) ?_
                  cases h; exact mr_ireturn (pc := 70) rfl rfl (Nat.le_of_ble_eq_true rfl) (Nat.le_of_ble_eq_true rfl)
              · cases hr; exact mr_thrown (mRunV (pc := 49) (q := 8) (As := [.int (a1), .int (a2)]) (rest := []) rfl lkRX1_99 rfl rfl rfl (Nat.le_of_ble_eq_true rfl) (Nat.le_of_ble_eq_true rfl) (F_X1_flies hc49)) rfl rfl (Nat.le_of_ble_eq_true rfl) (Nat.le_of_ble_eq_true rfl)
            · have h := (if_neg c41).symm.trans h
              refine mr_iconst (pc := 44) (v := 0) rfl (by decide) ?_
              cases h; exact mr_ireturn (pc := 45) rfl rfl (Nat.le_of_ble_eq_true rfl) (Nat.le_of_ble_eq_true rfl)
        · have h := (if_pos c12).symm.trans h
          refine mr_iconst (pc := 15) (v := 1) rfl (by decide) ?_
          refine mr_goto (pc := 16) 34 rfl (by decide) ?_
          refine ms_putfield (pc := 34) (h' := (xw Z (yw (Y.1, Y.2.1, Y.2.2.1, Y.2.2.2.1, Y.2.2.2.2.1, Y.2.2.2.2.2.1, Y.2.2.2.2.2.2.1, Y.2.2.2.2.2.2.2.1, 1, Y.2.2.2.2.2.2.2.2.2.1, Y.2.2.2.2.2.2.2.2.2.2.1, Y.2.2.2.2.2.2.2.2.2.2.2.1, Y.2.2.2.2.2.2.2.2.2.2.2.2.1, Y.2.2.2.2.2.2.2.2.2.2.2.2.2.1, Y.2.2.2.2.2.2.2.2.2.2.2.2.2.2) T))) rfl lfRX1_38 rfl (Nat.le_of_ble_eq_true rfl) (by intro q hq; cases hq; rfl) rfl ?_
          refine mr_aload_n (pc := 37) (x := 8) rfl rfl ?_
          refine mr_getfield (pc := 38) (v := .int (1)) rfl lfRX1_38 rfl rfl ?_
          refine mr_if_le (pc := 41) 46 rfl (by decide) (fun c41 => ?_) (fun c41 => ?_)
          · have h := (if_pos c41).symm.trans h
            refine mr_aload_n (pc := 46) (x := 8) rfl rfl ?_
            refine mr_iload_n (pc := 47) (x := a1) rfl rfl ?_
            refine mr_iload_n (pc := 48) (x := a2) rfl rfl ?_
            rcases bI_inv h with ⟨v49, Y49, hc49, h⟩ | ⟨E49, Y49, hc49, hr⟩
            · refine mr_ret (mRunV (pc := 49) (q := 8) (As := [.int (a1), .int (a2)]) (rest := []) rfl lkRX1_99 rfl rfl rfl (Nat.le_of_ble_eq_true rfl) (Nat.le_of_ble_eq_true rfl) (F_X1_flies hc49)) rfl (Nat.le_of_ble_eq_true rfl) (Nat.le_of_ble_eq_true rfl) ?_
              refine mr_if_eq (pc := 52) 62 rfl (by decide) (fun c52 => ?_) (fun c52 => ?_)
              · have h := (if_pos c52).symm.trans h
                refine mr_aload_n (pc := 62) (x := 8) rfl rfl ?_
                refine mr_iconst (pc := 63) (v := 2) rfl (by decide) ?_
                refine mr_iconst (pc := 64) (v := 3) rfl (by decide) ?_
                refine mr_iconst (pc := 65) (v := 4) rfl (by decide) ?_
                refine mr_iconst (pc := 66) (v := 5) rfl (by decide) ?_
                rcases bI_inv h with ⟨v67, Y67, hc67, h⟩ | ⟨E67, Y67, hc67, hr⟩
                · refine mr_ret (mRunV (pc := 67) (q := 8) (As := [.int (2), .int (3), .int (4), .int (5)]) (rest := []) rfl lkRX1_68 rfl rfl rfl (Nat.le_of_ble_eq_true rfl) (Nat.le_of_ble_eq_true rfl) (F_X1_told hc67)) rfl (Nat.le_of_ble_eq_true rfl) (Nat.le_of_ble_eq_true rfl) ?_
                  cases h; exact mr_ireturn (pc := 70) rfl rfl (Nat.le_of_ble_eq_true rfl) (Nat.le_of_ble_eq_true rfl)
                · cases hr; exact mr_thrown (mRunV (pc := 67) (q := 8) (As := [.int (2), .int (3), .int (4), .int (5)]) (rest := []) rfl lkRX1_68 rfl rfl rfl (Nat.le_of_ble_eq_true rfl) (Nat.le_of_ble_eq_true rfl) (F_X1_told hc67)) rfl rfl (Nat.le_of_ble_eq_true rfl) (Nat.le_of_ble_eq_true rfl)
              · have h := (if_neg c52).symm.trans h
                refine mr_aload_n (pc := 55) (x := 8) rfl rfl ?_
                refine mr_getfield (pc := 56) (v := .int (Y49.2.2.2.2.2.2.2.2.2.2.2.2.2.2)) rfl lfRX1_96 rfl rfl ?_
                refine mr_goto (pc := 59) 70 rfl (by decide) ?_
                cases h; exact mr_ireturn (pc := 70) rfl rfl (Nat.le_of_ble_eq_true rfl) (Nat.le_of_ble_eq_true rfl)
            · cases hr; exact mr_thrown (mRunV (pc := 49) (q := 8) (As := [.int (a1), .int (a2)]) (rest := []) rfl lkRX1_99 rfl rfl rfl (Nat.le_of_ble_eq_true rfl) (Nat.le_of_ble_eq_true rfl) (F_X1_flies hc49)) rfl rfl (Nat.le_of_ble_eq_true rfl) (Nat.le_of_ble_eq_true rfl)
          · have h := (if_neg c41).symm.trans h
            refine mr_iconst (pc := 44) (v := 0) rfl (by decide) ?_
            cases h; exact mr_ireturn (pc := 45) rfl rfl (Nat.le_of_ble_eq_true rfl) (Nat.le_of_ble_eq_true rfl)
      · cases hr; exact mr_thrown (mRunS (pc := 9) (As := [.int (a2)]) (rest := [.ref 8]) rfl lkRX1_62 rfl (Nat.le_of_ble_eq_true rfl) (Nat.le_of_ble_eq_true rfl) (F_X1_isPool hc9)) rfl rfl (Nat.le_of_ble_eq_true rfl) (Nat.le_of_ble_eq_true rfl)
  · cases hr; exact mr_thrown (mRunS (pc := 2) (As := [.int (a1)]) (rest := [.ref 8]) rfl lkRX1_80 rfl (Nat.le_of_ble_eq_true rfl) (Nat.le_of_ble_eq_true rfl) (F_X1_isBoat hc2)) rfl rfl (Nat.le_of_ble_eq_true rfl) (Nat.le_of_ble_eq_true rfl)
