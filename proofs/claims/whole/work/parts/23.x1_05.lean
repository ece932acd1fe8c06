/-! THE METHODS OF X1 AS FUNCTIONS, by program (wip/whole/gencode.py) -/
def g_X1_passes (Y : rS) (a1 a2 : Int32) : Option (mO × rS) := if vpb (a1) 10 then (if ((a2) : Int32) = 0 then (bI (g_X1_hold Y ((Y.2.2.2.2.1) ((a1) : Int32).toNatClampNeg)) (fun v24 Y24 => if ((v24) : Int32) = 0 then (some (.inl (some (.int (0))), Y24)) else (if ((a2) : Int32) = 0 then (bI (g_X1_levels Y24 (((Y.2.2.2.2.1) ((a1) : Int32).toNatClampNeg) - (1))) (fun v41 Y41 => if ((v41) : Int32) = 0 then (some (.inl (some (.int (0))), Y41)) else (bI (g_X1_hold Y41 (((Y.2.2.2.2.1) ((a1) : Int32).toNatClampNeg) - (1))) (fun v50 Y50 => if ((v50) : Int32) = 0 then (some (.inl (some (.int (0))), Y50)) else (bI (g_X1_lieIn Y50 (((Y.2.2.2.2.1) ((a1) : Int32).toNatClampNeg) - (1))) (fun v61 Y61 => if ((3) : Int32) ≤ ((v61) : Int32) then (bI (g_X1_fail Y61 (3)) (fun v85 Y85 => if ((v85) : Int32) = 0 ∨ ((v85) : Int32) = 1 then (some (.inl (some (.int (v85))), Y85)) else none)) else (bI (g_X1_heightOf Y61 (((Y.2.2.2.2.1) ((a1) : Int32).toNatClampNeg) - (1))) (fun v71 Y71 => if vpb (a1) 10 then (if (((Y71.2.2.2.2.2.1) ((a1) : Int32).toNatClampNeg) : Int32) ≤ ((v71) : Int32) then (if vpb (a1) 10 then (bV (g_X1_leave (Y71.1, Y71.2.1, Y71.2.2.1, Y71.2.2.2.1, upd (Y71.2.2.2.2.1) ((a1) : Int32).toNatClampNeg (((Y.2.2.2.2.1) ((a1) : Int32).toNatClampNeg) - (1)), Y71.2.2.2.2.2.1, Y71.2.2.2.2.2.2.1, Y71.2.2.2.2.2.2.2.1, Y71.2.2.2.2.2.2.2.2.1, Y71.2.2.2.2.2.2.2.2.2.1, Y71.2.2.2.2.2.2.2.2.2.2.1, Y71.2.2.2.2.2.2.2.2.2.2.2.1, Y71.2.2.2.2.2.2.2.2.2.2.2.2.1, Y71.2.2.2.2.2.2.2.2.2.2.2.2.2.1, Y71.2.2.2.2.2.2.2.2.2.2.2.2.2.2) (2)) (fun Y99 => some (.inl (some (.int (1))), Y99))) else none) else (bI (g_X1_fail Y71 (3)) (fun v85 Y85 => if ((v85) : Int32) = 0 ∨ ((v85) : Int32) = 1 then (some (.inl (some (.int (v85))), Y85)) else none))) else none)))))))) else (bI (g_X1_levels Y24 ((Y.2.2.2.2.1) ((a1) : Int32).toNatClampNeg)) (fun v41 Y41 => if ((v41) : Int32) = 0 then (some (.inl (some (.int (0))), Y41)) else (bI (g_X1_hold Y41 (((Y.2.2.2.2.1) ((a1) : Int32).toNatClampNeg) - (1))) (fun v50 Y50 => if ((v50) : Int32) = 0 then (some (.inl (some (.int (0))), Y50)) else (bI (g_X1_lieIn Y50 (((Y.2.2.2.2.1) ((a1) : Int32).toNatClampNeg) - (1))) (fun v61 Y61 => if ((3) : Int32) ≤ ((v61) : Int32) then (bI (g_X1_fail Y61 (3)) (fun v85 Y85 => if ((v85) : Int32) = 0 ∨ ((v85) : Int32) = 1 then (some (.inl (some (.int (v85))), Y85)) else none)) else (bI (g_X1_heightOf Y61 (((Y.2.2.2.2.1) ((a1) : Int32).toNatClampNeg) - (1))) (fun v71 Y71 => if vpb (a1) 10 then (if (((Y71.2.2.2.2.2.1) ((a1) : Int32).toNatClampNeg) : Int32) ≤ ((v71) : Int32) then (if vpb (a1) 10 then (bV (g_X1_leave (Y71.1, Y71.2.1, Y71.2.2.1, Y71.2.2.2.1, upd (Y71.2.2.2.2.1) ((a1) : Int32).toNatClampNeg (((Y.2.2.2.2.1) ((a1) : Int32).toNatClampNeg) - (1)), Y71.2.2.2.2.2.1, Y71.2.2.2.2.2.2.1, Y71.2.2.2.2.2.2.2.1, Y71.2.2.2.2.2.2.2.2.1, Y71.2.2.2.2.2.2.2.2.2.1, Y71.2.2.2.2.2.2.2.2.2.2.1, Y71.2.2.2.2.2.2.2.2.2.2.2.1, Y71.2.2.2.2.2.2.2.2.2.2.2.2.1, Y71.2.2.2.2.2.2.2.2.2.2.2.2.2.1, Y71.2.2.2.2.2.2.2.2.2.2.2.2.2.2) (2)) (fun Y99 => some (.inl (some (.int (1))), Y99))) else none) else (bI (g_X1_fail Y71 (3)) (fun v85 Y85 => if ((v85) : Int32) = 0 ∨ ((v85) : Int32) = 1 then (some (.inl (some (.int (v85))), Y85)) else none))) else none))))))))))) else (bI (g_X1_hold Y ((Y.2.2.2.2.1) ((a1) : Int32).toNatClampNeg)) (fun v24 Y24 => if ((v24) : Int32) = 0 then (some (.inl (some (.int (0))), Y24)) else (if ((a2) : Int32) = 0 then (bI (g_X1_levels Y24 (((Y.2.2.2.2.1) ((a1) : Int32).toNatClampNeg) + (1))) (fun v41 Y41 => if ((v41) : Int32) = 0 then (some (.inl (some (.int (0))), Y41)) else (bI (g_X1_hold Y41 (((Y.2.2.2.2.1) ((a1) : Int32).toNatClampNeg) + (1))) (fun v50 Y50 => if ((v50) : Int32) = 0 then (some (.inl (some (.int (0))), Y50)) else (bI (g_X1_lieIn Y50 (((Y.2.2.2.2.1) ((a1) : Int32).toNatClampNeg) + (1))) (fun v61 Y61 => if ((3) : Int32) ≤ ((v61) : Int32) then (bI (g_X1_fail Y61 (3)) (fun v85 Y85 => if ((v85) : Int32) = 0 ∨ ((v85) : Int32) = 1 then (some (.inl (some (.int (v85))), Y85)) else none)) else (bI (g_X1_heightOf Y61 (((Y.2.2.2.2.1) ((a1) : Int32).toNatClampNeg) + (1))) (fun v71 Y71 => if vpb (a1) 10 then (if (((Y71.2.2.2.2.2.1) ((a1) : Int32).toNatClampNeg) : Int32) ≤ ((v71) : Int32) then (if vpb (a1) 10 then (bV (g_X1_leave (Y71.1, Y71.2.1, Y71.2.2.1, Y71.2.2.2.1, upd (Y71.2.2.2.2.1) ((a1) : Int32).toNatClampNeg (((Y.2.2.2.2.1) ((a1) : Int32).toNatClampNeg) + (1)), Y71.2.2.2.2.2.1, Y71.2.2.2.2.2.2.1, Y71.2.2.2.2.2.2.2.1, Y71.2.2.2.2.2.2.2.2.1, Y71.2.2.2.2.2.2.2.2.2.1, Y71.2.2.2.2.2.2.2.2.2.2.1, Y71.2.2.2.2.2.2.2.2.2.2.2.1, Y71.2.2.2.2.2.2.2.2.2.2.2.2.1, Y71.2.2.2.2.2.2.2.2.2.2.2.2.2.1, Y71.2.2.2.2.2.2.2.2.2.2.2.2.2.2) (2)) (fun Y99 => some (.inl (some (.int (1))), Y99))) else none) else (bI (g_X1_fail Y71 (3)) (fun v85 Y85 => if ((v85) : Int32) = 0 ∨ ((v85) : Int32) = 1 then (some (.inl (some (.int (v85))), Y85)) else none))) else none)))))))) else (bI (g_X1_levels Y24 ((Y.2.2.2.2.1) ((a1) : Int32).toNatClampNeg)) (fun v41 Y41 => if ((v41) : Int32) = 0 then (some (.inl (some (.int (0))), Y41)) else (bI (g_X1_hold Y41 (((Y.2.2.2.2.1) ((a1) : Int32).toNatClampNeg) + (1))) (fun v50 Y50 => if ((v50) : Int32) = 0 then (some (.inl (some (.int (0))), Y50)) else (bI (g_X1_lieIn Y50 (((Y.2.2.2.2.1) ((a1) : Int32).toNatClampNeg) + (1))) (fun v61 Y61 => if ((3) : Int32) ≤ ((v61) : Int32) then (bI (g_X1_fail Y61 (3)) (fun v85 Y85 => if ((v85) : Int32) = 0 ∨ ((v85) : Int32) = 1 then (some (.inl (some (.int (v85))), Y85)) else none)) else (bI (g_X1_heightOf Y61 (((Y.2.2.2.2.1) ((a1) : Int32).toNatClampNeg) + (1))) (fun v71 Y71 => if vpb (a1) 10 then (if (((Y71.2.2.2.2.2.1) ((a1) : Int32).toNatClampNeg) : Int32) ≤ ((v71) : Int32) then (if vpb (a1) 10 then (bV (g_X1_leave (Y71.1, Y71.2.1, Y71.2.2.1, Y71.2.2.2.1, upd (Y71.2.2.2.2.1) ((a1) : Int32).toNatClampNeg (((Y.2.2.2.2.1) ((a1) : Int32).toNatClampNeg) + (1)), Y71.2.2.2.2.2.1, Y71.2.2.2.2.2.2.1, Y71.2.2.2.2.2.2.2.1, Y71.2.2.2.2.2.2.2.2.1, Y71.2.2.2.2.2.2.2.2.2.1, Y71.2.2.2.2.2.2.2.2.2.2.1, Y71.2.2.2.2.2.2.2.2.2.2.2.1, Y71.2.2.2.2.2.2.2.2.2.2.2.2.1, Y71.2.2.2.2.2.2.2.2.2.2.2.2.2.1, Y71.2.2.2.2.2.2.2.2.2.2.2.2.2.2) (2)) (fun Y99 => some (.inl (some (.int (1))), Y99))) else none) else (bI (g_X1_fail Y71 (3)) (fun v85 Y85 => if ((v85) : Int32) = 0 ∨ ((v85) : Int32) = 1 then (some (.inl (some (.int (v85))), Y85)) else none))) else none)))))))))))) else none
set_option maxRecDepth 100000 in
set_option maxHeartbeats 4000000 in
theorem F_X1_passes {S : Nat × (Nat → Int32)} {Z : cS} {T : mH} {Y R9 : rS} {o9 : mO} {a1 a2 : Int32} (h : g_X1_passes Y a1 a2 = some (o9, R9)) : mF S MX1_passes 0 (mEnt [.ref 8, .int a1, .int a2] 5) [] (xw Z (yw Y T)) 0 0 (o9, (xw Z (yw R9 T)), 0, 0) := by
  unfold g_X1_passes at h
  refine mr_aload_n (pc := 0) (x := 8) rfl rfl ?_
  refine mr_getfield (pc := 1) (v := .ref 13) rfl lfRX1_23 rfl rfl ?_
  refine mr_iload_n (pc := 4) (x := a1) rfl rfl ?_
  obtain ⟨g5, h⟩ := m_gd h
  refine mr_iaload (pc := 5) (f := Y.2.2.2.2.1) rfl rfl (vpb_in g5) ?_
  refine ms_istore_n (pc := 6) (L' := [some (.ref 8), some (.int (a1)), some (.int (a2)), some (.int ((Y.2.2.2.2.1) ((a1) : Int32).toNatClampNeg)), none]) rfl (by decide) rfl rfl ?_
  refine mr_iload_n (pc := 7) (x := a2) rfl rfl ?_
  refine mr_if_eq (pc := 8) 17 rfl (by decide) (fun c8 => ?_) (fun c8 => ?_)
  · have h := (if_pos c8).symm.trans h
    refine mr_iload_n (pc := 17) (x := (Y.2.2.2.2.1) ((a1) : Int32).toNatClampNeg) rfl rfl ?_
    refine mr_iconst (pc := 18) (v := 1) rfl (by decide) ?_
    refine mr_isub (pc := 19) rfl ?_
    refine ms_istore (pc := 20) (L' := [some (.ref 8), some (.int (a1)), some (.int (a2)), some (.int ((Y.2.2.2.2.1) ((a1) : Int32).toNatClampNeg)), some (.int (((Y.2.2.2.2.1) ((a1) : Int32).toNatClampNeg) - (1)))]) rfl (by decide) rfl rfl ?_
    refine mr_aload_n (pc := 22) (x := 8) rfl rfl ?_
    refine mr_iload_n (pc := 23) (x := (Y.2.2.2.2.1) ((a1) : Int32).toNatClampNeg) rfl rfl ?_
    rcases bI_inv h with ⟨v24, Y24, hc24, h⟩ | ⟨E24, Y24, hc24, hr⟩
    · refine mr_ret (mRunV (pc := 24) (q := 8) (As := [.int ((Y.2.2.2.2.1) ((a1) : Int32).toNatClampNeg)]) (rest := []) rfl lkRX1_65 rfl rfl rfl (Nat.le_of_ble_eq_true rfl) (Nat.le_of_ble_eq_true rfl) (F_X1_hold hc24)) rfl (Nat.le_of_ble_eq_true rfl) (Nat.le_of_ble_eq_true rfl) ?_
      refine mr_if_eq (pc := 27) 56 rfl (by decide) (fun c27 => ?_) (fun c27 => ?_)
      · have h := (if_pos c27).symm.trans h
        refine mr_iconst (pc := 56) (v := 0) rfl (by decide) ?_
        cases h; exact mr_zreturn (pc := 57) rfl rfl (Or.inl rfl) (Nat.le_of_ble_eq_true rfl) (Nat.le_of_ble_eq_true rfl)
      · have h := (if_neg c27).symm.trans h
        refine mr_aload_n (pc := 30) (x := 8) rfl rfl ?_
        refine mr_iload_n (pc := 31) (x := a2) rfl rfl ?_
        refine mr_if_eq (pc := 32) 39 rfl (by decide) (fun c32 => ?_) (fun c32 => ?_)
        · have h := (if_pos c32).symm.trans h
          refine mr_iload (pc := 39) (x := ((Y.2.2.2.2.1) ((a1) : Int32).toNatClampNeg) - (1)) rfl rfl ?_
          rcases bI_inv h with ⟨v41, Y41, hc41, h⟩ | ⟨E41, Y41, hc41, hr⟩
          · refine mr_ret (mRunV (pc := 41) (q := 8) (As := [.int (((Y.2.2.2.2.1) ((a1) : Int32).toNatClampNeg) - (1))]) (rest := []) rfl lkRX1_89 rfl rfl rfl (Nat.le_of_ble_eq_true rfl) (Nat.le_of_ble_eq_true rfl) (F_X1_levels hc41)) rfl (Nat.le_of_ble_eq_true rfl) (Nat.le_of_ble_eq_true rfl) ?_
            refine mr_if_eq (pc := 44) 56 rfl (by decide) (fun c44 => ?_) (fun c44 => ?_)
            · have h := (if_pos c44).symm.trans h
              refine mr_iconst (pc := 56) (v := 0) rfl (by decide) ?_
              cases h; exact mr_zreturn (pc := 57) rfl rfl (Or.inl rfl) (Nat.le_of_ble_eq_true rfl) (Nat.le_of_ble_eq_true rfl)
            · have h := (if_neg c44).symm.trans h
              refine mr_aload_n (pc := 47) (x := 8) rfl rfl ?_
              refine mr_iload (pc := 48) (x := ((Y.2.2.2.2.1) ((a1) : Int32).toNatClampNeg) - (1)) rfl rfl ?_
              rcases bI_inv h with ⟨v50, Y50, hc50, h⟩ | ⟨E50, Y50, hc50, hr⟩
              · refine mr_ret (mRunV (pc := 50) (q := 8) (As := [.int (((Y.2.2.2.2.1) ((a1) : Int32).toNatClampNeg) - (1))]) (rest := []) rfl lkRX1_65 rfl rfl rfl (Nat.le_of_ble_eq_true rfl) (Nat.le_of_ble_eq_true rfl) (F_X1_hold hc50)) rfl (Nat.le_of_ble_eq_true rfl) (Nat.le_of_ble_eq_true rfl) ?_
                refine mr_if_ne (pc := 53) 58 rfl (by decide) (fun c53 => ?_) (fun c53 => ?_)
                · have h := (if_neg c53).symm.trans h
                  refine mr_aload_n (pc := 58) (x := 8) rfl rfl ?_
                  refine mr_iload (pc := 59) (x := ((Y.2.2.2.2.1) ((a1) : Int32).toNatClampNeg) - (1)) rfl rfl ?_
                  rcases bI_inv h with ⟨v61, Y61, hc61, h⟩ | ⟨E61, Y61, hc61, hr⟩
                  · refine mr_ret (mRunV (pc := 61) (q := 8) (As := [.int (((Y.2.2.2.2.1) ((a1) : Int32).toNatClampNeg) - (1))]) (rest := []) rfl lkRX1_83 rfl rfl rfl (Nat.le_of_ble_eq_true rfl) (Nat.le_of_ble_eq_true rfl) (F_X1_lieIn hc61)) rfl (Nat.le_of_ble_eq_true rfl) (Nat.le_of_ble_eq_true rfl) ?_
                    refine mr_iconst (pc := 64) (v := 3) rfl (by decide) ?_
                    refine mr_icmp_ge (pc := 65) 83 rfl (by decide) (fun c65 => ?_) (fun c65 => ?_)
                    · have h := (if_pos c65).symm.trans h
                      refine mr_aload_n (pc := 83) (x := 8) rfl rfl ?_
                      refine mr_iconst (pc := 84) (v := 3) rfl (by decide) ?_
                      rcases bI_inv h with ⟨v85, Y85, hc85, h⟩ | ⟨E85, Y85, hc85, hr⟩
                      · refine mr_ret (mRunV (pc := 85) (q := 8) (As := [.int (3)]) (rest := []) rfl lkRX1_58 rfl rfl rfl (Nat.le_of_ble_eq_true rfl) (Nat.le_of_ble_eq_true rfl) (F_X1_fail hc85)) rfl (Nat.le_of_ble_eq_true rfl) (Nat.le_of_ble_eq_true rfl) ?_
                        obtain ⟨g88, h⟩ := m_gd h
                        cases h; exact mr_zreturn (pc := 88) rfl rfl g88 (Nat.le_of_ble_eq_true rfl) (Nat.le_of_ble_eq_true rfl)
                      · cases hr; exact mr_thrown (mRunV (pc := 85) (q := 8) (As := [.int (3)]) (rest := []) rfl lkRX1_58 rfl rfl rfl (Nat.le_of_ble_eq_true rfl) (Nat.le_of_ble_eq_true rfl) (F_X1_fail hc85)) rfl rfl (Nat.le_of_ble_eq_true rfl) (Nat.le_of_ble_eq_true rfl)
                    · have h := (if_neg c65).symm.trans h
                      refine mr_aload_n (pc := 68) (x := 8) rfl rfl ?_
                      refine mr_iload (pc := 69) (x := ((Y.2.2.2.2.1) ((a1) : Int32).toNatClampNeg) - (1)) rfl rfl ?_
                      rcases bI_inv h with ⟨v71, Y71, hc71, h⟩ | ⟨E71, Y71, hc71, hr⟩
                      · refine mr_ret (mRunV (pc := 71) (q := 8) (As := [.int (((Y.2.2.2.2.1) ((a1) : Int32).toNatClampNeg) - (1))]) (rest := []) rfl lkRX1_76 rfl rfl rfl (Nat.le_of_ble_eq_true rfl) (Nat.le_of_ble_eq_true rfl) (F_X1_heightOf hc71)) rfl (Nat.le_of_ble_eq_true rfl) (Nat.le_of_ble_eq_true rfl) ?_
                        refine mr_aload_n (pc := 74) (x := 8) rfl rfl ?_
                        refine mr_getfield (pc := 75) (v := .ref 14) rfl lfRX1_26 rfl rfl ?_
                        refine mr_iload_n (pc := 78) (x := a1) rfl rfl ?_
                        obtain ⟨g79, h⟩ := m_gd h
                        refine mr_iaload (pc := 79) (f := Y71.2.2.2.2.2.1) rfl rfl (vpb_in g79) ?_
                        refine mr_icmp_ge (pc := 80) 89 rfl (by decide) (fun c80 => ?_) (fun c80 => ?_)
                        · have h := (if_pos c80).symm.trans h
                          refine mr_aload_n (pc := 89) (x := 8) rfl rfl ?_
                          refine mr_getfield (pc := 90) (v := .ref 13) rfl lfRX1_23 rfl rfl ?_
                          refine mr_iload_n (pc := 93) (x := a1) rfl rfl ?_
                          refine mr_iload (pc := 94) (x := ((Y.2.2.2.2.1) ((a1) : Int32).toNatClampNeg) - (1)) rfl rfl ?_
                          obtain ⟨g96, h⟩ := m_gd h
                          refine ms_iastore (pc := 96) (f := Y71.2.2.2.2.1) (h' := (xw Z (yw (Y71.1, Y71.2.1, Y71.2.2.1, Y71.2.2.2.1, upd (Y71.2.2.2.2.1) ((a1) : Int32).toNatClampNeg (((Y.2.2.2.2.1) ((a1) : Int32).toNatClampNeg) - (1)), Y71.2.2.2.2.2.1, Y71.2.2.2.2.2.2.1, Y71.2.2.2.2.2.2.2.1, Y71.2.2.2.2.2.2.2.2.1, Y71.2.2.2.2.2.2.2.2.2.1, Y71.2.2.2.2.2.2.2.2.2.2.1, Y71.2.2.2.2.2.2.2.2.2.2.2.1, Y71.2.2.2.2.2.2.2.2.2.2.2.2.1, Y71.2.2.2.2.2.2.2.2.2.2.2.2.2.1, Y71.2.2.2.2.2.2.2.2.2.2.2.2.2.2) T))) rfl rfl g96 rfl ?_
                          refine mr_aload_n (pc := 97) (x := 8) rfl rfl ?_
                          refine mr_iconst (pc := 98) (v := 2) rfl (by decide) ?_
                          rcases bV_inv h with ⟨Y99, hc99, h⟩ | ⟨E99, Y99, hc99, hr⟩
                          · refine mr_ret (mRunV (pc := 99) (q := 8) (As := [.int (2)]) (rest := []) rfl lkRX1_72 rfl rfl rfl (Nat.le_of_ble_eq_true rfl) (Nat.le_of_ble_eq_true rfl) (F_X1_leave hc99)) rfl (Nat.le_of_ble_eq_true rfl) (Nat.le_of_ble_eq_true rfl) ?_
                            refine mr_iconst (pc := 102) (v := 1) rfl (by decide) ?_
                            cases h; exact mr_zreturn (pc := 103) rfl rfl (Or.inr rfl) (Nat.le_of_ble_eq_true rfl) (Nat.le_of_ble_eq_true rfl)
                          · cases hr; exact mr_thrown (mRunV (pc := 99) (q := 8) (As := [.int (2)]) (rest := []) rfl lkRX1_72 rfl rfl rfl (Nat.le_of_ble_eq_true rfl) (Nat.le_of_ble_eq_true rfl) (F_X1_leave hc99)) rfl rfl (Nat.le_of_ble_eq_true rfl) (Nat.le_of_ble_eq_true rfl)
                        · have h := (if_neg c80).symm.trans h
                          refine mr_aload_n (pc := 83) (x := 8) rfl rfl ?_
                          refine mr_iconst (pc := 84) (v := 3) rfl (by decide) ?_
                          rcases bI_inv h with ⟨v85, Y85, hc85, h⟩ | ⟨E85, Y85, hc85, hr⟩
                          · refine mr_ret (mRunV (pc := 85) (q := 8) (As := [.int (3)]) (rest := []) rfl lkRX1_58 rfl rfl rfl (Nat.le_of_ble_eq_true rfl) (Nat.le_of_ble_eq_true rfl) (F_X1_fail hc85)) rfl (Nat.le_of_ble_eq_true rfl) (Nat.le_of_ble_eq_true rfl) ?_
                            obtain ⟨g88, h⟩ := m_gd h
                            cases h; exact mr_zreturn (pc := 88) rfl rfl g88 (Nat.le_of_ble_eq_true rfl) (Nat.le_of_ble_eq_true rfl)
                          · cases hr; exact mr_thrown (mRunV (pc := 85) (q := 8) (As := [.int (3)]) (rest := []) rfl lkRX1_58 rfl rfl rfl (Nat.le_of_ble_eq_true rfl) (Nat.le_of_ble_eq_true rfl) (F_X1_fail hc85)) rfl rfl (Nat.le_of_ble_eq_true rfl) (Nat.le_of_ble_eq_true rfl)
                      · cases hr; exact mr_thrown (mRunV (pc := 71) (q := 8) (As := [.int (((Y.2.2.2.2.1) ((a1) : Int32).toNatClampNeg) - (1))]) (rest := []) rfl lkRX1_76 rfl rfl rfl (Nat.le_of_ble_eq_true rfl) (Nat.le_of_ble_eq_true rfl) (F_X1_heightOf hc71)) rfl rfl (Nat.le_of_ble_eq_true rfl) (Nat.le_of_ble_eq_true rfl)
                  · cases hr; exact mr_thrown (mRunV (pc := 61) (q := 8) (As := [.int (((Y.2.2.2.2.1) ((a1) : Int32).toNatClampNeg) - (1))]) (rest := []) rfl lkRX1_83 rfl rfl rfl (Nat.le_of_ble_eq_true rfl) (Nat.le_of_ble_eq_true rfl) (F_X1_lieIn hc61)) rfl rfl (Nat.le_of_ble_eq_true rfl) (Nat.le_of_ble_eq_true rfl)
                · have h := (if_pos c53).symm.trans h
                  refine mr_iconst (pc := 56) (v := 0) rfl (by decide) ?_
                  cases h; exact mr_zreturn (pc := 57) rfl rfl (Or.inl rfl) (Nat.le_of_ble_eq_true rfl) (Nat.le_of_ble_eq_true rfl)
              · cases hr; exact mr_thrown (mRunV (pc := 50) (q := 8) (As := [.int (((Y.2.2.2.2.1) ((a1) : Int32).toNatClampNeg) - (1))]) (rest := []) rfl lkRX1_65 rfl rfl rfl (Nat.le_of_ble_eq_true rfl) (Nat.le_of_ble_eq_true rfl) (F_X1_hold hc50)) rfl rfl (Nat.le_of_ble_eq_true rfl) (Nat.le_of_ble_eq_true rfl)
          · cases hr; exact mr_thrown (mRunV (pc := 41) (q := 8) (As := [.int (((Y.2.2.2.2.1) ((a1) : Int32).toNatClampNeg) - (1))]) (rest := []) rfl lkRX1_89 rfl rfl rfl (Nat.le_of_ble_eq_true rfl) (Nat.le_of_ble_eq_true rfl) (F_X1_levels hc41)) rfl rfl (Nat.le_of_ble_eq_true rfl) (Nat.le_of_ble_eq_true rfl)
        · have h := (if_neg c32).symm.trans h
          refine mr_iload_n (pc := 35) (x := (Y.2.2.2.2.1) ((a1) : Int32).toNatClampNeg) rfl rfl ?_
          refine mr_goto (pc := 36) 41 rfl (by decide) ?_
          rcases bI_inv h with ⟨v41, Y41, hc41, h⟩ | ⟨E41, Y41, hc41, hr⟩
          · refine mr_ret (mRunV (pc := 41) (q := 8) (As := [.int ((Y.2.2.2.2.1) ((a1) : Int32).toNatClampNeg)]) (rest := []) rfl lkRX1_89 rfl rfl rfl (Nat.le_of_ble_eq_true rfl) (Nat.le_of_ble_eq_true rfl) (F_X1_levels hc41)) rfl (Nat.le_of_ble_eq_true rfl) (Nat.le_of_ble_eq_true rfl) ?_
            refine mr_if_eq (pc := 44) 56 rfl (by decide) (fun c44 => ?_) (fun c44 => ?_)
            · have h := (if_pos c44).symm.trans h
              refine mr_iconst (pc := 56) (v := 0) rfl (by decide) ?_
              cases h; exact mr_zreturn (pc := 57) rfl rfl (Or.inl rfl) (Nat.le_of_ble_eq_true rfl) (Nat.le_of_ble_eq_true rfl)
            · have h := (if_neg c44).symm.trans h
              refine mr_aload_n (pc := 47) (x := 8) rfl rfl ?_
              refine mr_iload (pc := 48) (x := ((Y.2.2.2.2.1) ((a1) : Int32).toNatClampNeg) - (1)) rfl rfl ?_
              rcases bI_inv h with ⟨v50, Y50, hc50, h⟩ | ⟨E50, Y50, hc50, hr⟩
              · refine mr_ret (mRunV (pc := 50) (q := 8) (As := [.int (((Y.2.2.2.2.1) ((a1) : Int32).toNatClampNeg) - (1))]) (rest := []) rfl lkRX1_65 rfl rfl rfl (Nat.le_of_ble_eq_true rfl) (Nat.le_of_ble_eq_true rfl) (F_X1_hold hc50)) rfl (Nat.le_of_ble_eq_true rfl) (Nat.le_of_ble_eq_true rfl) ?_
                refine mr_if_ne (pc := 53) 58 rfl (by decide) (fun c53 => ?_) (fun c53 => ?_)
                · have h := (if_neg c53).symm.trans h
                  refine mr_aload_n (pc := 58) (x := 8) rfl rfl ?_
                  refine mr_iload (pc := 59) (x := ((Y.2.2.2.2.1) ((a1) : Int32).toNatClampNeg) - (1)) rfl rfl ?_
                  rcases bI_inv h with ⟨v61, Y61, hc61, h⟩ | ⟨E61, Y61, hc61, hr⟩
                  · refine mr_ret (mRunV (pc := 61) (q := 8) (As := [.int (((Y.2.2.2.2.1) ((a1) : Int32).toNatClampNeg) - (1))]) (rest := []) rfl lkRX1_83 rfl rfl rfl (Nat.le_of_ble_eq_true rfl) (Nat.le_of_ble_eq_true rfl) (F_X1_lieIn hc61)) rfl (Nat.le_of_ble_eq_true rfl) (Nat.le_of_ble_eq_true rfl) ?_
                    refine mr_iconst (pc := 64) (v := 3) rfl (by decide) ?_
                    refine mr_icmp_ge (pc := 65) 83 rfl (by decide) (fun c65 => ?_) (fun c65 => ?_)
                    · have h := (if_pos c65).symm.trans h
                      refine mr_aload_n (pc := 83) (x := 8) rfl rfl ?_
                      refine mr_iconst (pc := 84) (v := 3) rfl (by decide) ?_
                      rcases bI_inv h with ⟨v85, Y85, hc85, h⟩ | ⟨E85, Y85, hc85, hr⟩
                      · refine mr_ret (mRunV (pc := 85) (q := 8) (As := [.int (3)]) (rest := []) rfl lkRX1_58 rfl rfl rfl (Nat.le_of_ble_eq_true rfl) (Nat.le_of_ble_eq_true rfl) (F_X1_fail hc85)) rfl (Nat.le_of_ble_eq_true rfl) (Nat.le_of_ble_eq_true rfl) ?_
                        obtain ⟨g88, h⟩ := m_gd h
                        cases h; exact mr_zreturn (pc := 88) rfl rfl g88 (Nat.le_of_ble_eq_true rfl) (Nat.le_of_ble_eq_true rfl)
                      · cases hr; exact mr_thrown (mRunV (pc := 85) (q := 8) (As := [.int (3)]) (rest := []) rfl lkRX1_58 rfl rfl rfl (Nat.le_of_ble_eq_true rfl) (Nat.le_of_ble_eq_true rfl) (F_X1_fail hc85)) rfl rfl (Nat.le_of_ble_eq_true rfl) (Nat.le_of_ble_eq_true rfl)
                    · have h := (if_neg c65).symm.trans h
                      refine mr_aload_n (pc := 68) (x := 8) rfl rfl ?_
                      refine mr_iload (pc := 69) (x := ((Y.2.2.2.2.1) ((a1) : Int32).toNatClampNeg) - (1)) rfl rfl ?_
                      rcases bI_inv h with ⟨v71, Y71, hc71, h⟩ | ⟨E71, Y71, hc71, hr⟩
                      · refine mr_ret (mRunV (pc := 71) (q := 8) (As := [.int (((Y.2.2.2.2.1) ((a1) : Int32).toNatClampNeg) - (1))]) (rest := []) rfl lkRX1_76 rfl rfl rfl (Nat.le_of_ble_eq_true rfl) (Nat.le_of_ble_eq_true rfl) (F_X1_heightOf hc71)) rfl (Nat.le_of_ble_eq_true rfl) (Nat.le_of_ble_eq_true rfl) ?_
                        refine mr_aload_n (pc := 74) (x := 8) rfl rfl ?_
                        refine mr_getfield (pc := 75) (v := .ref 14) rfl lfRX1_26 rfl rfl ?_
                        refine mr_iload_n (pc := 78) (x := a1) rfl rfl ?_
                        obtain ⟨g79, h⟩ := m_gd h
                        refine mr_iaload (pc := 79) (f := Y71.2.2.2.2.2.1) rfl rfl (vpb_in g79) ?_
                        refine mr_icmp_ge (pc := 80) 89 rfl (by decide) (fun c80 => ?_) (fun c80 => ?_)
                        · have h := (if_pos c80).symm.trans h
                          refine mr_aload_n (pc := 89) (x := 8) rfl rfl ?_
                          refine mr_getfield (pc := 90) (v := .ref 13) rfl lfRX1_23 rfl rfl ?_
                          refine mr_iload_n (pc := 93) (x := a1) rfl rfl ?_
                          refine mr_iload (pc := 94) (x := ((Y.2.2.2.2.1) ((a1) : Int32).toNatClampNeg) - (1)) rfl rfl ?_
                          obtain ⟨g96, h⟩ := m_gd h
                          refine ms_iastore (pc := 96) (f := Y71.2.2.2.2.1) (h' := (xw Z (yw (Y71.1, Y71.2.1, Y71.2.2.1, Y71.2.2.2.1, upd (Y71.2.2.2.2.1) ((a1) : Int32).toNatClampNeg (((Y.2.2.2.2.1) ((a1) : Int32).toNatClampNeg) - (1)), Y71.2.2.2.2.2.1, Y71.2.2.2.2.2.2.1, Y71.2.2.2.2.2.2.2.1, Y71.2.2.2.2.2.2.2.2.1, Y71.2.2.2.2.2.2.2.2.2.1, Y71.2.2.2.2.2.2.2.2.2.2.1, Y71.2.2.2.2.2.2.2.2.2.2.2.1, Y71.2.2.2.2.2.2.2.2.2.2.2.2.1, Y71.2.2.2.2.2.2.2.2.2.2.2.2.2.1, Y71.2.2.2.2.2.2.2.2.2.2.2.2.2.2) T))) rfl rfl g96 rfl ?_
                          refine mr_aload_n (pc := 97) (x := 8) rfl rfl ?_
                          refine mr_iconst (pc := 98) (v := 2) rfl (by decide) ?_
                          rcases bV_inv h with ⟨Y99, hc99, h⟩ | ⟨E99, Y99, hc99, hr⟩
                          · refine mr_ret (mRunV (pc := 99) (q := 8) (As := [.int (2)]) (rest := []) rfl lkRX1_72 rfl rfl rfl (Nat.le_of_ble_eq_true rfl) (Nat.le_of_ble_eq_true rfl) (F_X1_leave hc99)) rfl (Nat.le_of_ble_eq_true rfl) (Nat.le_of_ble_eq_true rfl) ?_
                            refine mr_iconst (pc := 102) (v := 1) rfl (by decide) ?_
                            cases h; exact mr_zreturn (pc := 103) rfl rfl (Or.inr rfl) (Nat.le_of_ble_eq_true rfl) (Nat.le_of_ble_eq_true rfl)
                          · cases hr; exact mr_thrown (mRunV (pc := 99) (q := 8) (As := [.int (2)]) (rest := []) rfl lkRX1_72 rfl rfl rfl (Nat.le_of_ble_eq_true rfl) (Nat.le_of_ble_eq_true rfl) (F_X1_leave hc99)) rfl rfl (Nat.le_of_ble_eq_true rfl) (Nat.le_of_ble_eq_true rfl)
                        · have h := (if_neg c80).symm.trans h
                          refine mr_aload_n (pc := 83) (x := 8) rfl rfl ?_
                          refine mr_iconst (pc := 84) (v := 3) rfl (by decide) ?_
                          rcases bI_inv h with ⟨v85, Y85, hc85, h⟩ | ⟨E85, Y85, hc85, hr⟩
                          · refine mr_ret (mRunV (pc := 85) (q := 8) (As := [.int (3)]) (rest := []) rfl lkRX1_58 rfl rfl rfl (Nat.le_of_ble_eq_true rfl) (Nat.le_of_ble_eq_true rfl) (F_X1_fail hc85)) rfl (Nat.le_of_ble_eq_true rfl) (Nat.le_of_ble_eq_true rfl) ?_
                            obtain ⟨g88, h⟩ := m_gd h
                            cases h; exact mr_zreturn (pc := 88) rfl rfl g88 (Nat.le_of_ble_eq_true rfl) (Nat.le_of_ble_eq_true rfl)
                          · cases hr; exact mr_thrown (mRunV (pc := 85) (q := 8) (As := [.int (3)]) (rest := []) rfl lkRX1_58 rfl rfl rfl (Nat.le_of_ble_eq_true rfl) (Nat.le_of_ble_eq_true rfl) (F_X1_fail hc85)) rfl rfl (Nat.le_of_ble_eq_true rfl) (Nat.le_of_ble_eq_true rfl)
                      · cases hr; exact mr_thrown (mRunV (pc := 71) (q := 8) (As := [.int (((Y.2.2.2.2.1) ((a1) : Int32).toNatClampNeg) - (1))]) (rest := []) rfl lkRX1_76 rfl rfl rfl (Nat.le_of_ble_eq_true rfl) (Nat.le_of_ble_eq_true rfl) (F_X1_heightOf hc71)) rfl rfl (Nat.le_of_ble_eq_true rfl) (Nat.le_of_ble_eq_true rfl)
                  · cases hr; exact mr_thrown (mRunV (pc := 61) (q := 8) (As := [.int (((Y.2.2.2.2.1) ((a1) : Int32).toNatClampNeg) - (1))]) (rest := []) rfl lkRX1_83 rfl rfl rfl (Nat.le_of_ble_eq_true rfl) (Nat.le_of_ble_eq_true rfl) (F_X1_lieIn hc61)) rfl rfl (Nat.le_of_ble_eq_true rfl) (Nat.le_of_ble_eq_true rfl)
                · have h := (if_pos c53).symm.trans h
                  refine mr_iconst (pc := 56) (v := 0) rfl (by decide) ?_
                  cases h; exact mr_zreturn (pc := 57) rfl rfl (Or.inl rfl) (Nat.le_of_ble_eq_true rfl) (Nat.le_of_ble_eq_true rfl)
              · cases hr; exact mr_thrown (mRunV (pc := 50) (q := 8) (As := [.int (((Y.2.2.2.2.1) ((a1) : Int32).toNatClampNeg) - (1))]) (rest := []) rfl lkRX1_65 rfl rfl rfl (Nat.le_of_ble_eq_true rfl) (Nat.le_of_ble_eq_true rfl) (F_X1_hold hc50)) rfl rfl (Nat.le_of_ble_eq_true rfl) (Nat.le_of_ble_eq_true rfl)
          · cases hr; exact mr_thrown (mRunV (pc := 41) (q := 8) (As := [.int ((Y.2.2.2.2.1) ((a1) : Int32).toNatClampNeg)]) (rest := []) rfl lkRX1_89 rfl rfl rfl (Nat.le_of_ble_eq_true rfl) (Nat.le_of_ble_eq_true rfl) (F_X1_levels hc41)) rfl rfl (Nat.le_of_ble_eq_true rfl) (Nat.le_of_ble_eq_true rfl)
    · cases hr; exact mr_thrown (mRunV (pc := 24) (q := 8) (As := [.int ((Y.2.2.2.2.1) ((a1) : Int32).toNatClampNeg)]) (rest := []) rfl lkRX1_65 rfl rfl rfl (Nat.le_of_ble_eq_true rfl) (Nat.le_of_ble_eq_true rfl) (F_X1_hold hc24)) rfl rfl (Nat.le_of_ble_eq_true rfl) (Nat.le_of_ble_eq_true rfl)
  · have h := (if_neg c8).symm.trans h
    refine mr_iload_n (pc := 11) (x := (Y.2.2.2.2.1) ((a1) : Int32).toNatClampNeg) rfl rfl ?_
    refine mr_iconst (pc := 12) (v := 1) rfl (by decide) ?_
    refine mr_iadd (pc := 13) rfl ?_
    refine mr_goto (pc := 14) 20 rfl (by decide) ?_
    refine ms_istore (pc := 20) (L' := [some (.ref 8), some (.int (a1)), some (.int (a2)), some (.int ((Y.2.2.2.2.1) ((a1) : Int32).toNatClampNeg)), some (.int (((Y.2.2.2.2.1) ((a1) : Int32).toNatClampNeg) + (1)))]) rfl (by decide) rfl rfl ?_
    refine mr_aload_n (pc := 22) (x := 8) rfl rfl ?_
    refine mr_iload_n (pc := 23) (x := (Y.2.2.2.2.1) ((a1) : Int32).toNatClampNeg) rfl rfl ?_
    rcases bI_inv h with ⟨v24, Y24, hc24, h⟩ | ⟨E24, Y24, hc24, hr⟩
    · refine mr_ret (mRunV (pc := 24) (q := 8) (As := [.int ((Y.2.2.2.2.1) ((a1) : Int32).toNatClampNeg)]) (rest := []) rfl lkRX1_65 rfl rfl rfl (Nat.le_of_ble_eq_true rfl) (Nat.le_of_ble_eq_true rfl) (F_X1_hold hc24)) rfl (Nat.le_of_ble_eq_true rfl) (Nat.le_of_ble_eq_true rfl) ?_
      refine mr_if_eq (pc := 27) 56 rfl (by decide) (fun c27 => ?_) (fun c27 => ?_)
      · have h := (if_pos c27).symm.trans h
        refine mr_iconst (pc := 56) (v := 0) rfl (by decide) ?_
        cases h; exact mr_zreturn (pc := 57) rfl rfl (Or.inl rfl) (Nat.le_of_ble_eq_true rfl) (Nat.le_of_ble_eq_true rfl)
      · have h := (if_neg c27).symm.trans h
        refine mr_aload_n (pc := 30) (x := 8) rfl rfl ?_
        refine mr_iload_n (pc := 31) (x := a2) rfl rfl ?_
        refine mr_if_eq (pc := 32) 39 rfl (by decide) (fun c32 => ?_) (fun c32 => ?_)
        · have h := (if_pos c32).symm.trans h
          refine mr_iload (pc := 39) (x := ((Y.2.2.2.2.1) ((a1) : Int32).toNatClampNeg) + (1)) rfl rfl ?_
          rcases bI_inv h with ⟨v41, Y41, hc41, h⟩ | ⟨E41, Y41, hc41, hr⟩
          · refine mr_ret (mRunV (pc := 41) (q := 8) (As := [.int (((Y.2.2.2.2.1) ((a1) : Int32).toNatClampNeg) + (1))]) (rest := []) rfl lkRX1_89 rfl rfl rfl (Nat.le_of_ble_eq_true rfl) (Nat.le_of_ble_eq_true rfl) (F_X1_levels hc41)) rfl (Nat.le_of_ble_eq_true rfl) (Nat.le_of_ble_eq_true rfl) ?_
            refine mr_if_eq (pc := 44) 56 rfl (by decide) (fun c44 => ?_) (fun c44 => ?_)
            · have h := (if_pos c44).symm.trans h
              refine mr_iconst (pc := 56) (v := 0) rfl (by decide) ?_
              cases h; exact mr_zreturn (pc := 57) rfl rfl (Or.inl rfl) (Nat.le_of_ble_eq_true rfl) (Nat.le_of_ble_eq_true rfl)
            · have h := (if_neg c44).symm.trans h
              refine mr_aload_n (pc := 47) (x := 8) rfl rfl ?_
              refine mr_iload (pc := 48) (x := ((Y.2.2.2.2.1) ((a1) : Int32).toNatClampNeg) + (1)) rfl rfl ?_
              rcases bI_inv h with ⟨v50, Y50, hc50, h⟩ | ⟨E50, Y50, hc50, hr⟩
              · refine mr_ret (mRunV (pc := 50) (q := 8) (As := [.int (((Y.2.2.2.2.1) ((a1) : Int32).toNatClampNeg) + (1))]) (rest := []) rfl lkRX1_65 rfl rfl rfl (Nat.le_of_ble_eq_true rfl) (Nat.le_of_ble_eq_true rfl) (F_X1_hold hc50)) rfl (Nat.le_of_ble_eq_true rfl) (Nat.le_of_ble_eq_true rfl) ?_
                refine mr_if_ne (pc := 53) 58 rfl (by decide) (fun c53 => ?_) (fun c53 => ?_)
                · have h := (if_neg c53).symm.trans h
                  refine mr_aload_n (pc := 58) (x := 8) rfl rfl ?_
                  refine mr_iload (pc := 59) (x := ((Y.2.2.2.2.1) ((a1) : Int32).toNatClampNeg) + (1)) rfl rfl ?_
                  rcases bI_inv h with ⟨v61, Y61, hc61, h⟩ | ⟨E61, Y61, hc61, hr⟩
                  · refine mr_ret (mRunV (pc := 61) (q := 8) (As := [.int (((Y.2.2.2.2.1) ((a1) : Int32).toNatClampNeg) + (1))]) (rest := []) rfl lkRX1_83 rfl rfl rfl (Nat.le_of_ble_eq_true rfl) (Nat.le_of_ble_eq_true rfl) (F_X1_lieIn hc61)) rfl (Nat.le_of_ble_eq_true rfl) (Nat.le_of_ble_eq_true rfl) ?_
                    refine mr_iconst (pc := 64) (v := 3) rfl (by decide) ?_
                    refine mr_icmp_ge (pc := 65) 83 rfl (by decide) (fun c65 => ?_) (fun c65 => ?_)
                    · have h := (if_pos c65).symm.trans h
                      refine mr_aload_n (pc := 83) (x := 8) rfl rfl ?_
                      refine mr_iconst (pc := 84) (v := 3) rfl (by decide) ?_
                      rcases bI_inv h with ⟨v85, Y85, hc85, h⟩ | ⟨E85, Y85, hc85, hr⟩
                      · refine mr_ret (mRunV (pc := 85) (q := 8) (As := [.int (3)]) (rest := []) rfl lkRX1_58 rfl rfl rfl (Nat.le_of_ble_eq_true rfl) (Nat.le_of_ble_eq_true rfl) (F_X1_fail hc85)) rfl (Nat.le_of_ble_eq_true rfl) (Nat.le_of_ble_eq_true rfl) ?_
                        obtain ⟨g88, h⟩ := m_gd h
                        cases h; exact mr_zreturn (pc := 88) rfl rfl g88 (Nat.le_of_ble_eq_true rfl) (Nat.le_of_ble_eq_true rfl)
                      · cases hr; exact mr_thrown (mRunV (pc := 85) (q := 8) (As := [.int (3)]) (rest := []) rfl lkRX1_58 rfl rfl rfl (Nat.le_of_ble_eq_true rfl) (Nat.le_of_ble_eq_true rfl) (F_X1_fail hc85)) rfl rfl (Nat.le_of_ble_eq_true rfl) (Nat.le_of_ble_eq_true rfl)
                    · have h := (if_neg c65).symm.trans h
                      refine mr_aload_n (pc := 68) (x := 8) rfl rfl ?_
                      refine mr_iload (pc := 69) (x := ((Y.2.2.2.2.1) ((a1) : Int32).toNatClampNeg) + (1)) rfl rfl ?_
                      rcases bI_inv h with ⟨v71, Y71, hc71, h⟩ | ⟨E71, Y71, hc71, hr⟩
                      · refine mr_ret (mRunV (pc := 71) (q := 8) (As := [.int (((Y.2.2.2.2.1) ((a1) : Int32).toNatClampNeg) + (1))]) (rest := []) rfl lkRX1_76 rfl rfl rfl (Nat.le_of_ble_eq_true rfl) (Nat.le_of_ble_eq_true rfl) (F_X1_heightOf hc71)) rfl (Nat.le_of_ble_eq_true rfl) (Nat.le_of_ble_eq_true rfl) ?_
                        refine mr_aload_n (pc := 74) (x := 8) rfl rfl ?_
                        refine mr_getfield (pc := 75) (v := .ref 14) rfl lfRX1_26 rfl rfl ?_
                        refine mr_iload_n (pc := 78) (x := a1) rfl rfl ?_
                        obtain ⟨g79, h⟩ := m_gd h
                        refine mr_iaload (pc := 79) (f := Y71.2.2.2.2.2.1) rfl rfl (vpb_in g79) ?_
                        refine mr_icmp_ge (pc := 80) 89 rfl (by decide) (fun c80 => ?_) (fun c80 => ?_)
                        · have h := (if_pos c80).symm.trans h
                          refine mr_aload_n (pc := 89) (x := 8) rfl rfl ?_
                          refine mr_getfield (pc := 90) (v := .ref 13) rfl lfRX1_23 rfl rfl ?_
                          refine mr_iload_n (pc := 93) (x := a1) rfl rfl ?_
                          refine mr_iload (pc := 94) (x := ((Y.2.2.2.2.1) ((a1) : Int32).toNatClampNeg) + (1)) rfl rfl ?_
                          obtain ⟨g96, h⟩ := m_gd h
                          refine ms_iastore (pc := 96) (f := Y71.2.2.2.2.1) (h' := (xw Z (yw (Y71.1, Y71.2.1, Y71.2.2.1, Y71.2.2.2.1, upd (Y71.2.2.2.2.1) ((a1) : Int32).toNatClampNeg (((Y.2.2.2.2.1) ((a1) : Int32).toNatClampNeg) + (1)), Y71.2.2.2.2.2.1, Y71.2.2.2.2.2.2.1, Y71.2.2.2.2.2.2.2.1, Y71.2.2.2.2.2.2.2.2.1, Y71.2.2.2.2.2.2.2.2.2.1, Y71.2.2.2.2.2.2.2.2.2.2.1, Y71.2.2.2.2.2.2.2.2.2.2.2.1, Y71.2.2.2.2.2.2.2.2.2.2.2.2.1, Y71.2.2.2.2.2.2.2.2.2.2.2.2.2.1, Y71.2.2.2.2.2.2.2.2.2.2.2.2.2.2) T))) rfl rfl g96 rfl ?_
                          refine mr_aload_n (pc := 97) (x := 8) rfl rfl ?_
                          refine mr_iconst (pc := 98) (v := 2) rfl (by decide) ?_
                          rcases bV_inv h with ⟨Y99, hc99, h⟩ | ⟨E99, Y99, hc99, hr⟩
                          · refine mr_ret (mRunV (pc := 99) (q := 8) (As := [.int (2)]) (rest := []) rfl lkRX1_72 rfl rfl rfl (Nat.le_of_ble_eq_true rfl) (Nat.le_of_ble_eq_true rfl) (F_X1_leave hc99)) rfl (Nat.le_of_ble_eq_true rfl) (Nat.le_of_ble_eq_true rfl) ?_
                            refine mr_iconst (pc := 102) (v := 1) rfl (by decide) ?_
                            cases h; exact mr_zreturn (pc := 103) rfl rfl (Or.inr rfl) (Nat.le_of_ble_eq_true rfl) (Nat.le_of_ble_eq_true rfl)
                          · cases hr; exact mr_thrown (mRunV (pc := 99) (q := 8) (As := [.int (2)]) (rest := []) rfl lkRX1_72 rfl rfl rfl (Nat.le_of_ble_eq_true rfl) (Nat.le_of_ble_eq_true rfl) (F_X1_leave hc99)) rfl rfl (Nat.le_of_ble_eq_true rfl) (Nat.le_of_ble_eq_true rfl)
                        · have h := (if_neg c80).symm.trans h
                          refine mr_aload_n (pc := 83) (x := 8) rfl rfl ?_
                          refine mr_iconst (pc := 84) (v := 3) rfl (by decide) ?_
                          rcases bI_inv h with ⟨v85, Y85, hc85, h⟩ | ⟨E85, Y85, hc85, hr⟩
                          · refine mr_ret (mRunV (pc := 85) (q := 8) (As := [.int (3)]) (rest := []) rfl lkRX1_58 rfl rfl rfl (Nat.le_of_ble_eq_true rfl) (Nat.le_of_ble_eq_true rfl) (F_X1_fail hc85)) rfl (Nat.le_of_ble_eq_true rfl) (Nat.le_of_ble_eq_true rfl) ?_
                            obtain ⟨g88, h⟩ := m_gd h
                            cases h; exact mr_zreturn (pc := 88) rfl rfl g88 (Nat.le_of_ble_eq_true rfl) (Nat.le_of_ble_eq_true rfl)
                          · cases hr; exact mr_thrown (mRunV (pc := 85) (q := 8) (As := [.int (3)]) (rest := []) rfl lkRX1_58 rfl rfl rfl (Nat.le_of_ble_eq_true rfl) (Nat.le_of_ble_eq_true rfl) (F_X1_fail hc85)) rfl rfl (Nat.le_of_ble_eq_true rfl) (Nat.le_of_ble_eq_true rfl)
                      · cases hr; exact mr_thrown (mRunV (pc := 71) (q := 8) (As := [.int (((Y.2.2.2.2.1) ((a1) : Int32).toNatClampNeg) + (1))]) (rest := []) rfl lkRX1_76 rfl rfl rfl (Nat.le_of_ble_eq_true rfl) (Nat.le_of_ble_eq_true rfl) (F_X1_heightOf hc71)) rfl rfl (Nat.le_of_ble_eq_true rfl) (Nat.le_of_ble_eq_true rfl)
                  · cases hr; exact mr_thrown (mRunV (pc := 61) (q := 8) (As := [.int (((Y.2.2.2.2.1) ((a1) : Int32).toNatClampNeg) + (1))]) (rest := []) rfl lkRX1_83 rfl rfl rfl (Nat.le_of_ble_eq_true rfl) (Nat.le_of_ble_eq_true rfl) (F_X1_lieIn hc61)) rfl rfl (Nat.le_of_ble_eq_true rfl) (Nat.le_of_ble_eq_true rfl)
                · have h := (if_pos c53).symm.trans h
                  refine mr_iconst (pc := 56) (v := 0) rfl (by decide) ?_
                  cases h; exact mr_zreturn (pc := 57) rfl rfl (Or.inl rfl) (Nat.le_of_ble_eq_true rfl) (Nat.le_of_ble_eq_true rfl)
              · cases hr; exact mr_thrown (mRunV (pc := 50) (q := 8) (As := [.int (((Y.2.2.2.2.1) ((a1) : Int32).toNatClampNeg) + (1))]) (rest := []) rfl lkRX1_65 rfl rfl rfl (Nat.le_of_ble_eq_true rfl) (Nat.le_of_ble_eq_true rfl) (F_X1_hold hc50)) rfl rfl (Nat.le_of_ble_eq_true rfl) (Nat.le_of_ble_eq_true rfl)
          · cases hr; exact mr_thrown (mRunV (pc := 41) (q := 8) (As := [.int (((Y.2.2.2.2.1) ((a1) : Int32).toNatClampNeg) + (1))]) (rest := []) rfl lkRX1_89 rfl rfl rfl (Nat.le_of_ble_eq_true rfl) (Nat.le_of_ble_eq_true rfl) (F_X1_levels hc41)) rfl rfl (Nat.le_of_ble_eq_true rfl) (Nat.le_of_ble_eq_true rfl)
        · have h := (if_neg c32).symm.trans h
          refine mr_iload_n (pc := 35) (x := (Y.2.2.2.2.1) ((a1) : Int32).toNatClampNeg) rfl rfl ?_
          refine mr_goto (pc := 36) 41 rfl (by decide) ?_
          rcases bI_inv h with ⟨v41, Y41, hc41, h⟩ | ⟨E41, Y41, hc41, hr⟩
          · refine mr_ret (mRunV (pc := 41) (q := 8) (As := [.int ((Y.2.2.2.2.1) ((a1) : Int32).toNatClampNeg)]) (rest := []) rfl lkRX1_89 rfl rfl rfl (Nat.le_of_ble_eq_true rfl) (Nat.le_of_ble_eq_true rfl) (F_X1_levels hc41)) rfl (Nat.le_of_ble_eq_true rfl) (Nat.le_of_ble_eq_true rfl) ?_
            refine mr_if_eq (pc := 44) 56 rfl (by decide) (fun c44 => ?_) (fun c44 => ?_)
            · have h := (if_pos c44).symm.trans h
              refine mr_iconst (pc := 56) (v := 0) rfl (by decide) ?_
              cases h; exact mr_zreturn (pc := 57) rfl rfl (Or.inl rfl) (Nat.le_of_ble_eq_true rfl) (Nat.le_of_ble_eq_true rfl)
            · have h := (if_neg c44).symm.trans h
              refine mr_aload_n (pc := 47) (x := 8) rfl rfl ?_
              refine mr_iload (pc := 48) (x := ((Y.2.2.2.2.1) ((a1) : Int32).toNatClampNeg) + (1)) rfl rfl ?_
              rcases bI_inv h with ⟨v50, Y50, hc50, h⟩ | ⟨E50, Y50, hc50, hr⟩
              · refine mr_ret (mRunV (pc := 50) (q := 8) (As := [.int (((Y.2.2.2.2.1) ((a1) : Int32).toNatClampNeg) + (1))]) (rest := []) rfl lkRX1_65 rfl rfl rfl (Nat.le_of_ble_eq_true rfl) (Nat.le_of_ble_eq_true rfl) (F_X1_hold hc50)) rfl (Nat.le_of_ble_eq_true rfl) (Nat.le_of_ble_eq_true rfl) ?_
                refine mr_if_ne (pc := 53) 58 rfl (by decide) (fun c53 => ?_) (fun c53 => ?_)
                · have h := (if_neg c53).symm.trans h
                  refine mr_aload_n (pc := 58) (x := 8) rfl rfl ?_
                  refine mr_iload (pc := 59) (x := ((Y.2.2.2.2.1) ((a1) : Int32).toNatClampNeg) + (1)) rfl rfl ?_
                  rcases bI_inv h with ⟨v61, Y61, hc61, h⟩ | ⟨E61, Y61, hc61, hr⟩
                  · refine mr_ret (mRunV (pc := 61) (q := 8) (As := [.int (((Y.2.2.2.2.1) ((a1) : Int32).toNatClampNeg) + (1))]) (rest := []) rfl lkRX1_83 rfl rfl rfl (Nat.le_of_ble_eq_true rfl) (Nat.le_of_ble_eq_true rfl) (F_X1_lieIn hc61)) rfl (Nat.le_of_ble_eq_true rfl) (Nat.le_of_ble_eq_true rfl) ?_
                    refine mr_iconst (pc := 64) (v := 3) rfl (by decide) ?_
                    refine mr_icmp_ge (pc := 65) 83 rfl (by decide) (fun c65 => ?_) (fun c65 => ?_)
                    · have h := (if_pos c65).symm.trans h
                      refine mr_aload_n (pc := 83) (x := 8) rfl rfl ?_
                      refine mr_iconst (pc := 84) (v := 3) rfl (by decide) ?_
                      rcases bI_inv h with ⟨v85, Y85, hc85, h⟩ | ⟨E85, Y85, hc85, hr⟩
                      · refine mr_ret (mRunV (pc := 85) (q := 8) (As := [.int (3)]) (rest := []) rfl lkRX1_58 rfl rfl rfl (Nat.le_of_ble_eq_true rfl) (Nat.le_of_ble_eq_true rfl) (F_X1_fail hc85)) rfl (Nat.le_of_ble_eq_true rfl) (Nat.le_of_ble_eq_true rfl) ?_
                        obtain ⟨g88, h⟩ := m_gd h
                        cases h; exact mr_zreturn (pc := 88) rfl rfl g88 (Nat.le_of_ble_eq_true rfl) (Nat.le_of_ble_eq_true rfl)
                      · cases hr; exact mr_thrown (mRunV (pc := 85) (q := 8) (As := [.int (3)]) (rest := []) rfl lkRX1_58 rfl rfl rfl (Nat.le_of_ble_eq_true rfl) (Nat.le_of_ble_eq_true rfl) (F_X1_fail hc85)) rfl rfl (Nat.le_of_ble_eq_true rfl) (Nat.le_of_ble_eq_true rfl)
                    · have h := (if_neg c65).symm.trans h
                      refine mr_aload_n (pc := 68) (x := 8) rfl rfl ?_
                      refine mr_iload (pc := 69) (x := ((Y.2.2.2.2.1) ((a1) : Int32).toNatClampNeg) + (1)) rfl rfl ?_
                      rcases bI_inv h with ⟨v71, Y71, hc71, h⟩ | ⟨E71, Y71, hc71, hr⟩
                      · refine mr_ret (mRunV (pc := 71) (q := 8) (As := [.int (((Y.2.2.2.2.1) ((a1) : Int32).toNatClampNeg) + (1))]) (rest := []) rfl lkRX1_76 rfl rfl rfl (Nat.le_of_ble_eq_true rfl) (Nat.le_of_ble_eq_true rfl) (F_X1_heightOf hc71)) rfl (Nat.le_of_ble_eq_true rfl) (Nat.le_of_ble_eq_true rfl) ?_
                        refine mr_aload_n (pc := 74) (x := 8) rfl rfl ?_
                        refine mr_getfield (pc := 75) (v := .ref 14) rfl lfRX1_26 rfl rfl ?_
                        refine mr_iload_n (pc := 78) (x := a1) rfl rfl ?_
                        obtain ⟨g79, h⟩ := m_gd h
                        refine mr_iaload (pc := 79) (f := Y71.2.2.2.2.2.1) rfl rfl (vpb_in g79) ?_
                        refine mr_icmp_ge (pc := 80) 89 rfl (by decide) (fun c80 => ?_) (fun c80 => ?_)
                        · have h := (if_pos c80).symm.trans h
                          refine mr_aload_n (pc := 89) (x := 8) rfl rfl ?_
                          refine mr_getfield (pc := 90) (v := .ref 13) rfl lfRX1_23 rfl rfl ?_
                          refine mr_iload_n (pc := 93) (x := a1) rfl rfl ?_
                          refine mr_iload (pc := 94) (x := ((Y.2.2.2.2.1) ((a1) : Int32).toNatClampNeg) + (1)) rfl rfl ?_
                          obtain ⟨g96, h⟩ := m_gd h
                          refine ms_iastore (pc := 96) (f := Y71.2.2.2.2.1) (h' := (xw Z (yw (Y71.1, Y71.2.1, Y71.2.2.1, Y71.2.2.2.1, upd (Y71.2.2.2.2.1) ((a1) : Int32).toNatClampNeg (((Y.2.2.2.2.1) ((a1) : Int32).toNatClampNeg) + (1)), Y71.2.2.2.2.2.1, Y71.2.2.2.2.2.2.1, Y71.2.2.2.2.2.2.2.1, Y71.2.2.2.2.2.2.2.2.1, Y71.2.2.2.2.2.2.2.2.2.1, Y71.2.2.2.2.2.2.2.2.2.2.1, Y71.2.2.2.2.2.2.2.2.2.2.2.1, Y71.2.2.2.2.2.2.2.2.2.2.2.2.1, Y71.2.2.2.2.2.2.2.2.2.2.2.2.2.1, Y71.2.2.2.2.2.2.2.2.2.2.2.2.2.2) T))) rfl rfl g96 rfl ?_
                          refine mr_aload_n (pc := 97) (x := 8) rfl rfl ?_
                          refine mr_iconst (pc := 98) (v := 2) rfl (by decide) ?_
                          rcases bV_inv h with ⟨Y99, hc99, h⟩ | ⟨E99, Y99, hc99, hr⟩
                          · refine mr_ret (mRunV (pc := 99) (q := 8) (As := [.int (2)]) (rest := []) rfl lkRX1_72 rfl rfl rfl (Nat.le_of_ble_eq_true rfl) (Nat.le_of_ble_eq_true rfl) (F_X1_leave hc99)) rfl (Nat.le_of_ble_eq_true rfl) (Nat.le_of_ble_eq_true rfl) ?_
                            refine mr_iconst (pc := 102) (v := 1) rfl (by decide) ?_
                            cases h; exact mr_zreturn (pc := 103) rfl rfl (Or.inr rfl) (Nat.le_of_ble_eq_true rfl) (Nat.le_of_ble_eq_true rfl)
                          · cases hr; exact mr_thrown (mRunV (pc := 99) (q := 8) (As := [.int (2)]) (rest := []) rfl lkRX1_72 rfl rfl rfl (Nat.le_of_ble_eq_true rfl) (Nat.le_of_ble_eq_true rfl) (F_X1_leave hc99)) rfl rfl (Nat.le_of_ble_eq_true rfl) (Nat.le_of_ble_eq_true rfl)
                        · have h := (if_neg c80).symm.trans h
                          refine mr_aload_n (pc := 83) (x := 8) rfl rfl ?_
                          refine mr_iconst (pc := 84) (v := 3) rfl (by decide) ?_
                          rcases bI_inv h with ⟨v85, Y85, hc85, h⟩ | ⟨E85, Y85, hc85, hr⟩
                          · refine mr_ret (mRunV (pc := 85) (q := 8) (As := [.int (3)]) (rest := []) rfl lkRX1_58 rfl rfl rfl (Nat.le_of_ble_eq_true rfl) (Nat.le_of_ble_eq_true rfl) (F_X1_fail hc85)) rfl (Nat.le_of_ble_eq_true rfl) (Nat.le_of_ble_eq_true rfl) ?_
                            obtain ⟨g88, h⟩ := m_gd h
                            cases h; exact mr_zreturn (pc := 88) rfl rfl g88 (Nat.le_of_ble_eq_true rfl) (Nat.le_of_ble_eq_true rfl)
                          · cases hr; exact mr_thrown (mRunV (pc := 85) (q := 8) (As := [.int (3)]) (rest := []) rfl lkRX1_58 rfl rfl rfl (Nat.le_of_ble_eq_true rfl) (Nat.le_of_ble_eq_true rfl) (F_X1_fail hc85)) rfl rfl (Nat.le_of_ble_eq_true rfl) (Nat.le_of_ble_eq_true rfl)
                      · cases hr; exact mr_thrown (mRunV (pc := 71) (q := 8) (As := [.int (((Y.2.2.2.2.1) ((a1) : Int32).toNatClampNeg) + (1))]) (rest := []) rfl lkRX1_76 rfl rfl rfl (Nat.le_of_ble_eq_true rfl) (Nat.le_of_ble_eq_true rfl) (F_X1_heightOf hc71)) rfl rfl (Nat.le_of_ble_eq_true rfl) (Nat.le_of_ble_eq_true rfl)
                  · cases hr; exact mr_thrown (mRunV (pc := 61) (q := 8) (As := [.int (((Y.2.2.2.2.1) ((a1) : Int32).toNatClampNeg) + (1))]) (rest := []) rfl lkRX1_83 rfl rfl rfl (Nat.le_of_ble_eq_true rfl) (Nat.le_of_ble_eq_true rfl) (F_X1_lieIn hc61)) rfl rfl (Nat.le_of_ble_eq_true rfl) (Nat.le_of_ble_eq_true rfl)
                · have h := (if_pos c53).symm.trans h
                  refine mr_iconst (pc := 56) (v := 0) rfl (by decide) ?_
                  cases h; exact mr_zreturn (pc := 57) rfl rfl (Or.inl rfl) (Nat.le_of_ble_eq_true rfl) (Nat.le_of_ble_eq_true rfl)
              · cases hr; exact mr_thrown (mRunV (pc := 50) (q := 8) (As := [.int (((Y.2.2.2.2.1) ((a1) : Int32).toNatClampNeg) + (1))]) (rest := []) rfl lkRX1_65 rfl rfl rfl (Nat.le_of_ble_eq_true rfl) (Nat.le_of_ble_eq_true rfl) (F_X1_hold hc50)) rfl rfl (Nat.le_of_ble_eq_true rfl) (Nat.le_of_ble_eq_true rfl)
          · cases hr; exact mr_thrown (mRunV (pc := 41) (q := 8) (As := [.int ((Y.2.2.2.2.1) ((a1) : Int32).toNatClampNeg)]) (rest := []) rfl lkRX1_89 rfl rfl rfl (Nat.le_of_ble_eq_true rfl) (Nat.le_of_ble_eq_true rfl) (F_X1_levels hc41)) rfl rfl (Nat.le_of_ble_eq_true rfl) (Nat.le_of_ble_eq_true rfl)
    · cases hr; exact mr_thrown (mRunV (pc := 24) (q := 8) (As := [.int ((Y.2.2.2.2.1) ((a1) : Int32).toNatClampNeg)]) (rest := []) rfl lkRX1_65 rfl rfl rfl (Nat.le_of_ble_eq_true rfl) (Nat.le_of_ble_eq_true rfl) (F_X1_hold hc24)) rfl rfl (Nat.le_of_ble_eq_true rfl) (Nat.le_of_ble_eq_true rfl)
def g_X1_level (Y : rS) (a1 : Int32) : Option (mO × rS) := cI (g_X1_in (a1) (0) (6)) Y (fun v5 => if ((v5) : Int32) = 0 then (if ((1) : Int32) ≤ 0 then (bI (g_X1_levels (Y.1, Y.2.1, Y.2.2.1, Y.2.2.2.1, Y.2.2.2.2.1, Y.2.2.2.2.2.1, Y.2.2.2.2.2.2.1, Y.2.2.2.2.2.2.2.1, 1, Y.2.2.2.2.2.2.2.2.2.1, Y.2.2.2.2.2.2.2.2.2.2.1, Y.2.2.2.2.2.2.2.2.2.2.2.1, Y.2.2.2.2.2.2.2.2.2.2.2.2.1, Y.2.2.2.2.2.2.2.2.2.2.2.2.2.1, Y.2.2.2.2.2.2.2.2.2.2.2.2.2.2) (a1)) (fun v30 Y30 => if ((v30) : Int32) = 0 then (bI (g_X1_told Y30 (2) (3) (0) (4)) (fun v48 Y48 => some (.inl (some (.int (v48))), Y48))) else (some (.inl (some (.int (Y30.2.2.2.2.2.2.2.2.2.2.2.2.2.1))), Y30)))) else (some (.inl (some (.int (0))), (Y.1, Y.2.1, Y.2.2.1, Y.2.2.2.1, Y.2.2.2.2.1, Y.2.2.2.2.2.1, Y.2.2.2.2.2.2.1, Y.2.2.2.2.2.2.2.1, 1, Y.2.2.2.2.2.2.2.2.2.1, Y.2.2.2.2.2.2.2.2.2.2.1, Y.2.2.2.2.2.2.2.2.2.2.2.1, Y.2.2.2.2.2.2.2.2.2.2.2.2.1, Y.2.2.2.2.2.2.2.2.2.2.2.2.2.1, Y.2.2.2.2.2.2.2.2.2.2.2.2.2.2)))) else (if ((0) : Int32) ≤ 0 then (bI (g_X1_levels (Y.1, Y.2.1, Y.2.2.1, Y.2.2.2.1, Y.2.2.2.2.1, Y.2.2.2.2.2.1, Y.2.2.2.2.2.2.1, Y.2.2.2.2.2.2.2.1, 0, Y.2.2.2.2.2.2.2.2.2.1, Y.2.2.2.2.2.2.2.2.2.2.1, Y.2.2.2.2.2.2.2.2.2.2.2.1, Y.2.2.2.2.2.2.2.2.2.2.2.2.1, Y.2.2.2.2.2.2.2.2.2.2.2.2.2.1, Y.2.2.2.2.2.2.2.2.2.2.2.2.2.2) (a1)) (fun v30 Y30 => if ((v30) : Int32) = 0 then (bI (g_X1_told Y30 (2) (3) (0) (4)) (fun v48 Y48 => some (.inl (some (.int (v48))), Y48))) else (some (.inl (some (.int (Y30.2.2.2.2.2.2.2.2.2.2.2.2.2.1))), Y30)))) else (some (.inl (some (.int (0))), (Y.1, Y.2.1, Y.2.2.1, Y.2.2.2.1, Y.2.2.2.2.1, Y.2.2.2.2.2.1, Y.2.2.2.2.2.2.1, Y.2.2.2.2.2.2.2.1, 0, Y.2.2.2.2.2.2.2.2.2.1, Y.2.2.2.2.2.2.2.2.2.2.1, Y.2.2.2.2.2.2.2.2.2.2.2.1, Y.2.2.2.2.2.2.2.2.2.2.2.2.1, Y.2.2.2.2.2.2.2.2.2.2.2.2.2.1, Y.2.2.2.2.2.2.2.2.2.2.2.2.2.2)))))
set_option maxRecDepth 100000 in
set_option maxHeartbeats 4000000 in
theorem F_X1_level {S : Nat × (Nat → Int32)} {Z : cS} {T : mH} {Y R9 : rS} {o9 : mO} {a1 : Int32} (h : g_X1_level Y a1 = some (o9, R9)) : mF S MX1_level 0 (mEnt [.ref 8, .int a1] 2) [] (xw Z (yw Y T)) 0 0 (o9, (xw Z (yw R9 T)), 0, 0) := by
  unfold g_X1_level at h
  refine mr_aload_n (pc := 0) (x := 8) rfl rfl ?_
  refine mr_iload_n (pc := 1) (x := a1) rfl rfl ?_
  refine mr_iconst (pc := 2) (v := 0) rfl (by decide) ?_
  refine mr_bipush (pc := 3) (v := 6) rfl (by decide) ?_
  rcases cI_inv h with ⟨v5, hc5, h⟩ | ⟨E5, hc5, hr⟩
  · refine mr_ret (mRunS (pc := 5) (As := [.int (a1), .int (0), .int (6)]) (rest := [.ref 8]) rfl lkRX1_54 rfl (Nat.le_of_ble_eq_true rfl) (Nat.le_of_ble_eq_true rfl) (F_X1_in hc5)) rfl (Nat.le_of_ble_eq_true rfl) (Nat.le_of_ble_eq_true rfl) ?_
    refine mr_if_eq (pc := 8) 15 rfl (by decide) (fun c8 => ?_) (fun c8 => ?_)
    · have h := (if_pos c8).symm.trans h
      refine mr_iconst (pc := 15) (v := 1) rfl (by decide) ?_
      refine ms_putfield (pc := 16) (h' := (xw Z (yw (Y.1, Y.2.1, Y.2.2.1, Y.2.2.2.1, Y.2.2.2.2.1, Y.2.2.2.2.2.1, Y.2.2.2.2.2.2.1, Y.2.2.2.2.2.2.2.1, 1, Y.2.2.2.2.2.2.2.2.2.1, Y.2.2.2.2.2.2.2.2.2.2.1, Y.2.2.2.2.2.2.2.2.2.2.2.1, Y.2.2.2.2.2.2.2.2.2.2.2.2.1, Y.2.2.2.2.2.2.2.2.2.2.2.2.2.1, Y.2.2.2.2.2.2.2.2.2.2.2.2.2.2) T))) rfl lfRX1_38 rfl (Nat.le_of_ble_eq_true rfl) (by intro q hq; cases hq; rfl) rfl ?_
      refine mr_aload_n (pc := 19) (x := 8) rfl rfl ?_
      refine mr_getfield (pc := 20) (v := .int (1)) rfl lfRX1_38 rfl rfl ?_
      refine mr_if_le (pc := 23) 28 rfl (by decide) (fun c23 => ?_) (fun c23 => ?_)
      · have h := (if_pos c23).symm.trans h
        refine mr_aload_n (pc := 28) (x := 8) rfl rfl ?_
        refine mr_iload_n (pc := 29) (x := a1) rfl rfl ?_
        rcases bI_inv h with ⟨v30, Y30, hc30, h⟩ | ⟨E30, Y30, hc30, hr⟩
        · refine mr_ret (mRunV (pc := 30) (q := 8) (As := [.int (a1)]) (rest := []) rfl lkRX1_89 rfl rfl rfl (Nat.le_of_ble_eq_true rfl) (Nat.le_of_ble_eq_true rfl) (F_X1_levels hc30)) rfl (Nat.le_of_ble_eq_true rfl) (Nat.le_of_ble_eq_true rfl) ?_
          refine mr_if_eq (pc := 33) 43 rfl (by decide) (fun c33 => ?_) (fun c33 => ?_)
          · have h := (if_pos c33).symm.trans h
            refine mr_aload_n (pc := 43) (x := 8) rfl rfl ?_
            refine mr_iconst (pc := 44) (v := 2) rfl (by decide) ?_
            refine mr_iconst (pc := 45) (v := 3) rfl (by decide) ?_
            refine mr_iconst (pc := 46) (v := 0) rfl (by decide) ?_
            refine mr_iconst (pc := 47) (v := 4) rfl (by decide) ?_
            rcases bI_inv h with ⟨v48, Y48, hc48, h⟩ | ⟨E48, Y48, hc48, hr⟩
            · refine mr_ret (mRunV (pc := 48) (q := 8) (As := [.int (2), .int (3), .int (0), .int (4)]) (rest := []) rfl lkRX1_68 rfl rfl rfl (Nat.le_of_ble_eq_true rfl) (Nat.le_of_ble_eq_true rfl) (F_X1_told hc48)) rfl (Nat.le_of_ble_eq_true rfl) (Nat.le_of_ble_eq_true rfl) ?_
              cases h; exact mr_ireturn (pc := 51) rfl rfl (Nat.le_of_ble_eq_true rfl) (Nat.le_of_ble_eq_true rfl)
            · cases hr; exact mr_thrown (mRunV (pc := 48) (q := 8) (As := [.int (2), .int (3), .int (0), .int (4)]) (rest := []) rfl lkRX1_68 rfl rfl rfl (Nat.le_of_ble_eq_true rfl) (Nat.le_of_ble_eq_true rfl) (F_X1_told hc48)) rfl rfl (Nat.le_of_ble_eq_true rfl) (Nat.le_of_ble_eq_true rfl)
          · have h := (if_neg c33).symm.trans h
            refine mr_aload_n (pc := 36) (x := 8) rfl rfl ?_
            refine mr_getfield (pc := 37) (v := .int (Y30.2.2.2.2.2.2.2.2.2.2.2.2.2.1)) rfl lfRX1_86 rfl rfl ?_
            refine mr_goto (pc := 40) 51 rfl (by decide) ?_
            cases h; exact mr_ireturn (pc := 51) rfl rfl (Nat.le_of_ble_eq_true rfl) (Nat.le_of_ble_eq_true rfl)
        · cases hr; exact mr_thrown (mRunV (pc := 30) (q := 8) (As := [.int (a1)]) (rest := []) rfl lkRX1_89 rfl rfl rfl (Nat.le_of_ble_eq_true rfl) (Nat.le_of_ble_eq_true rfl) (F_X1_levels hc30)) rfl rfl (Nat.le_of_ble_eq_true rfl) (Nat.le_of_ble_eq_true rfl)
      · have h := (if_neg c23).symm.trans h
        refine mr_iconst (pc := 26) (v := 0) rfl (by decide) ?_
        cases h; exact mr_ireturn (pc := 27) rfl rfl (Nat.le_of_ble_eq_true rfl) (Nat.le_of_ble_eq_true rfl)
    · have h := (if_neg c8).symm.trans h
      refine mr_iconst (pc := 11) (v := 0) rfl (by decide) ?_
      refine mr_goto (pc := 12) 16 rfl (by decide) ?_
      refine ms_putfield (pc := 16) (h' := (xw Z (yw (Y.1, Y.2.1, Y.2.2.1, Y.2.2.2.1, Y.2.2.2.2.1, Y.2.2.2.2.2.1, Y.2.2.2.2.2.2.1, Y.2.2.2.2.2.2.2.1, 0, Y.2.2.2.2.2.2.2.2.2.1, Y.2.2.2.2.2.2.2.2.2.2.1, Y.2.2.2.2.2.2.2.2.2.2.2.1, Y.2.2.2.2.2.2.2.2.2.2.2.2.1, Y.2.2.2.2.2.2.2.2.2.2.2.2.2.1, Y.2.2.2.2.2.2.2.2.2.2.2.2.2.2) T))) rfl lfRX1_38 rfl (Nat.le_of_ble_eq_true rfl) (by intro q hq; cases hq; rfl) rfl ?_
      refine mr_aload_n (pc := 19) (x := 8) rfl rfl ?_
      refine mr_getfield (pc := 20) (v := .int (0)) rfl lfRX1_38 rfl rfl ?_
      refine mr_if_le (pc := 23) 28 rfl (by decide) (fun c23 => ?_) (fun c23 => ?_)
      · have h := (if_pos c23).symm.trans h
        refine mr_aload_n (pc := 28) (x := 8) rfl rfl ?_
        refine mr_iload_n (pc := 29) (x := a1) rfl rfl ?_
        rcases bI_inv h with ⟨v30, Y30, hc30, h⟩ | ⟨E30, Y30, hc30, hr⟩
        · refine mr_ret (mRunV (pc := 30) (q := 8) (As := [.int (a1)]) (rest := []) rfl lkRX1_89 rfl rfl rfl (Nat.le_of_ble_eq_true rfl) (Nat.le_of_ble_eq_true rfl) (F_X1_levels hc30)) rfl (Nat.le_of_ble_eq_true rfl) (Nat.le_of_ble_eq_true rfl) ?_
          refine mr_if_eq (pc := 33) 43 rfl (by decide) (fun c33 => ?_) (fun c33 => ?_)
          · have h := (if_pos c33).symm.trans h
            refine mr_aload_n (pc := 43) (x := 8) rfl rfl ?_
            refine mr_iconst (pc := 44) (v := 2) rfl (by decide) ?_
            refine mr_iconst (pc := 45) (v := 3) rfl (by decide) ?_
            refine mr_iconst (pc := 46) (v := 0) rfl (by decide) ?_
            refine mr_iconst (pc := 47) (v := 4) rfl (by decide) ?_
            rcases bI_inv h with ⟨v48, Y48, hc48, h⟩ | ⟨E48, Y48, hc48, hr⟩
            · refine mr_ret (mRunV (pc := 48) (q := 8) (As := [.int (2), .int (3), .int (0), .int (4)]) (rest := []) rfl lkRX1_68 rfl rfl rfl (Nat.le_of_ble_eq_true rfl) (Nat.le_of_ble_eq_true rfl) (F_X1_told hc48)) rfl (Nat.le_of_ble_eq_true rfl) (Nat.le_of_ble_eq_true rfl) ?_
              cases h; exact mr_ireturn (pc := 51) rfl rfl (Nat.le_of_ble_eq_true rfl) (Nat.le_of_ble_eq_true rfl)
            · cases hr; exact mr_thrown (mRunV (pc := 48) (q := 8) (As := [.int (2), .int (3), .int (0), .int (4)]) (rest := []) rfl lkRX1_68 rfl rfl rfl (Nat.le_of_ble_eq_true rfl) (Nat.le_of_ble_eq_true rfl) (F_X1_told hc48)) rfl rfl (Nat.le_of_ble_eq_true rfl) (Nat.le_of_ble_eq_true rfl)
          · have h := (if_neg c33).symm.trans h
            refine mr_aload_n (pc := 36) (x := 8) rfl rfl ?_
            refine mr_getfield (pc := 37) (v := .int (Y30.2.2.2.2.2.2.2.2.2.2.2.2.2.1)) rfl lfRX1_86 rfl rfl ?_
            refine mr_goto (pc := 40) 51 rfl (by decide) ?_
            cases h; exact mr_ireturn (pc := 51) rfl rfl (Nat.le_of_ble_eq_true rfl) (Nat.le_of_ble_eq_true rfl)
        · cases hr; exact mr_thrown (mRunV (pc := 30) (q := 8) (As := [.int (a1)]) (rest := []) rfl lkRX1_89 rfl rfl rfl (Nat.le_of_ble_eq_true rfl) (Nat.le_of_ble_eq_true rfl) (F_X1_levels hc30)) rfl rfl (Nat.le_of_ble_eq_true rfl) (Nat.le_of_ble_eq_true rfl)
      · have h := (if_neg c23).symm.trans h
        refine mr_iconst (pc := 26) (v := 0) rfl (by decide) ?_
        cases h; exact mr_ireturn (pc := 27) rfl rfl (Nat.le_of_ble_eq_true rfl) (Nat.le_of_ble_eq_true rfl)
  · cases hr; exact mr_thrown (mRunS (pc := 5) (As := [.int (a1), .int (0), .int (6)]) (rest := [.ref 8]) rfl lkRX1_54 rfl (Nat.le_of_ble_eq_true rfl) (Nat.le_of_ble_eq_true rfl) (F_X1_in hc5)) rfl rfl (Nat.le_of_ble_eq_true rfl) (Nat.le_of_ble_eq_true rfl)
