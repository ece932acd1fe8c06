/-! THE METHODS OF X0 AS FUNCTIONS, by program (wip/whole/gencode.py) -/
def g_X0_passBoat (X : cS) (a1 a2 : Int32) : Option (mO × cS) := if vpb (a1) 10 then (if ((a2) : Int32) = 0 then (bI (g_X0_hold X ((X.2.2.2.2.2.1) ((a1) : Int32).toNatClampNeg)) (fun v24 X24 => if ((v24) : Int32) = 0 then (bI (g_X0_failing X24 (1)) (fun v32 X32 => some (.inl (some (.int (v32))), X32))) else (bI (g_X0_levelGate X24 (if ((((X.2.2.2.2.2.1) ((a1) : Int32).toNatClampNeg) - (1)) : Int32) < ((X.2.2.2.2.2.1) ((a1) : Int32).toNatClampNeg) then (((X.2.2.2.2.2.1) ((a1) : Int32).toNatClampNeg) - (1)) else ((X.2.2.2.2.2.1) ((a1) : Int32).toNatClampNeg))) (fun v43 X43 => if 0 ≤ ((v43) : Int32) then (bI (g_X0_hold X43 (((X.2.2.2.2.2.1) ((a1) : Int32).toNatClampNeg) - (1))) (fun v59 X59 => if ((v59) : Int32) = 0 then (bI (g_X0_failing X59 (1)) (fun v67 X67 => some (.inl (some (.int (v67))), X67))) else (bI (g_X0_boatsIn X59 (((X.2.2.2.2.2.1) ((a1) : Int32).toNatClampNeg) - (1))) (fun v74 X74 => if ((3) : Int32) ≤ ((v74) : Int32) then (bI (g_X0_failing X74 (3)) (fun v98 X98 => some (.inl (some (.int (v98))), X98))) else (bI (g_X0_heightOf X74 (((X.2.2.2.2.2.1) ((a1) : Int32).toNatClampNeg) - (1))) (fun v84 X84 => if vpb (a1) 10 then (if (((X84.2.2.2.2.1) ((a1) : Int32).toNatClampNeg) : Int32) ≤ ((v84) : Int32) then (if vpb (a1) 10 then (bV (g_X0_leave (X84.1, X84.2.1, X84.2.2.1, X84.2.2.2.1, X84.2.2.2.2.1, upd (X84.2.2.2.2.2.1) ((a1) : Int32).toNatClampNeg (((X.2.2.2.2.2.1) ((a1) : Int32).toNatClampNeg) - (1)), X84.2.2.2.2.2.2.1, X84.2.2.2.2.2.2.2.1, X84.2.2.2.2.2.2.2.2.1, X84.2.2.2.2.2.2.2.2.2) (2)) (fun X112 => some (.inl (some (.int (((X.2.2.2.2.2.1) ((a1) : Int32).toNatClampNeg) - (1)))), X112))) else none) else (bI (g_X0_failing X84 (3)) (fun v98 X98 => some (.inl (some (.int (v98))), X98)))) else none)))))) else (some (.inl (some (.int (v43))), X43)))))) else (bI (g_X0_hold X ((X.2.2.2.2.2.1) ((a1) : Int32).toNatClampNeg)) (fun v24 X24 => if ((v24) : Int32) = 0 then (bI (g_X0_failing X24 (1)) (fun v32 X32 => some (.inl (some (.int (v32))), X32))) else (bI (g_X0_levelGate X24 (if ((((X.2.2.2.2.2.1) ((a1) : Int32).toNatClampNeg) + (1)) : Int32) < ((X.2.2.2.2.2.1) ((a1) : Int32).toNatClampNeg) then (((X.2.2.2.2.2.1) ((a1) : Int32).toNatClampNeg) + (1)) else ((X.2.2.2.2.2.1) ((a1) : Int32).toNatClampNeg))) (fun v43 X43 => if 0 ≤ ((v43) : Int32) then (bI (g_X0_hold X43 (((X.2.2.2.2.2.1) ((a1) : Int32).toNatClampNeg) + (1))) (fun v59 X59 => if ((v59) : Int32) = 0 then (bI (g_X0_failing X59 (1)) (fun v67 X67 => some (.inl (some (.int (v67))), X67))) else (bI (g_X0_boatsIn X59 (((X.2.2.2.2.2.1) ((a1) : Int32).toNatClampNeg) + (1))) (fun v74 X74 => if ((3) : Int32) ≤ ((v74) : Int32) then (bI (g_X0_failing X74 (3)) (fun v98 X98 => some (.inl (some (.int (v98))), X98))) else (bI (g_X0_heightOf X74 (((X.2.2.2.2.2.1) ((a1) : Int32).toNatClampNeg) + (1))) (fun v84 X84 => if vpb (a1) 10 then (if (((X84.2.2.2.2.1) ((a1) : Int32).toNatClampNeg) : Int32) ≤ ((v84) : Int32) then (if vpb (a1) 10 then (bV (g_X0_leave (X84.1, X84.2.1, X84.2.2.1, X84.2.2.2.1, X84.2.2.2.2.1, upd (X84.2.2.2.2.2.1) ((a1) : Int32).toNatClampNeg (((X.2.2.2.2.2.1) ((a1) : Int32).toNatClampNeg) + (1)), X84.2.2.2.2.2.2.1, X84.2.2.2.2.2.2.2.1, X84.2.2.2.2.2.2.2.2.1, X84.2.2.2.2.2.2.2.2.2) (2)) (fun X112 => some (.inl (some (.int (((X.2.2.2.2.2.1) ((a1) : Int32).toNatClampNeg) + (1)))), X112))) else none) else (bI (g_X0_failing X84 (3)) (fun v98 X98 => some (.inl (some (.int (v98))), X98)))) else none)))))) else (some (.inl (some (.int (v43))), X43))))))) else none
set_option maxRecDepth 100000 in
set_option maxHeartbeats 4000000 in
theorem F_X0_passBoat {S : Nat × (Nat → Int32)} {T : mH} {X R9 : cS} {o9 : mO} {a1 a2 : Int32} (h : g_X0_passBoat X a1 a2 = some (o9, R9)) : mF S MX0_passBoat 0 (mEnt [.ref 0, .int a1, .int a2] 6) [] (xw X T) 0 0 (o9, (xw R9 T), 0, 0) := by
  unfold g_X0_passBoat at h
  refine mr_aload_n (pc := 0) (x := 0) rfl rfl ?_
  refine mr_getfield (pc := 1) (v := .ref 6) rfl lfRX0_25 rfl rfl ?_
  refine mr_iload_n (pc := 4) (x := a1) rfl rfl ?_
  obtain ⟨g5, h⟩ := m_gd h
  refine mr_iaload (pc := 5) (f := X.2.2.2.2.2.1) rfl rfl (vpb_in g5) ?_
  refine ms_istore_n (pc := 6) (L' := [some (.ref 0), some (.int (a1)), some (.int (a2)), some (.int ((X.2.2.2.2.2.1) ((a1) : Int32).toNatClampNeg)), none, none]) rfl (by decide) rfl rfl ?_
  refine mr_iload_n (pc := 7) (x := a2) rfl rfl ?_
  refine mr_if_eq (pc := 8) 17 rfl (by decide) (fun c8 => ?_) (fun c8 => ?_)
  · have h := (if_pos c8).symm.trans h
    refine mr_iload_n (pc := 17) (x := (X.2.2.2.2.2.1) ((a1) : Int32).toNatClampNeg) rfl rfl ?_
    refine mr_iconst (pc := 18) (v := 1) rfl (by decide) ?_
    refine mr_isub (pc := 19) rfl ?_
    refine ms_istore (pc := 20) (L' := [some (.ref 0), some (.int (a1)), some (.int (a2)), some (.int ((X.2.2.2.2.2.1) ((a1) : Int32).toNatClampNeg)), some (.int (((X.2.2.2.2.2.1) ((a1) : Int32).toNatClampNeg) - (1))), none]) rfl (by decide) rfl rfl ?_
    refine mr_aload_n (pc := 22) (x := 0) rfl rfl ?_
    refine mr_iload_n (pc := 23) (x := (X.2.2.2.2.2.1) ((a1) : Int32).toNatClampNeg) rfl rfl ?_
    rcases bI_inv h with ⟨v24, X24, hc24, h⟩ | ⟨E24, X24, hc24, hr⟩
    · refine mr_ret (mRunV (pc := 24) (q := 0) (As := [.int ((X.2.2.2.2.2.1) ((a1) : Int32).toNatClampNeg)]) (rest := []) rfl lkRX0_112 rfl rfl rfl (Nat.le_of_ble_eq_true rfl) (Nat.le_of_ble_eq_true rfl) (F_X0_hold hc24)) rfl (Nat.le_of_ble_eq_true rfl) (Nat.le_of_ble_eq_true rfl) ?_
      refine mr_if_ne (pc := 27) 36 rfl (by decide) (fun c27 => ?_) (fun c27 => ?_)
      · have h := (if_neg c27).symm.trans h
        refine mr_aload_n (pc := 36) (x := 0) rfl rfl ?_
        refine mr_iload_n (pc := 37) (x := (X.2.2.2.2.2.1) ((a1) : Int32).toNatClampNeg) rfl rfl ?_
        refine mr_iload (pc := 38) (x := ((X.2.2.2.2.2.1) ((a1) : Int32).toNatClampNeg) - (1)) rfl rfl ?_
        refine mr_mmin (pc := 40) rfl rfl (by decide) (Nat.le_of_ble_eq_true rfl) (Nat.le_of_ble_eq_true rfl) (Nat.le_of_ble_eq_true rfl) ?_
        rcases bI_inv h with ⟨v43, X43, hc43, h⟩ | ⟨E43, X43, hc43, hr⟩
        · refine mr_ret (mRunV (pc := 43) (q := 0) (As := [.int (if ((((X.2.2.2.2.2.1) ((a1) : Int32).toNatClampNeg) - (1)) : Int32) < ((X.2.2.2.2.2.1) ((a1) : Int32).toNatClampNeg) then (((X.2.2.2.2.2.1) ((a1) : Int32).toNatClampNeg) - (1)) else ((X.2.2.2.2.2.1) ((a1) : Int32).toNatClampNeg))]) (rest := []) rfl lkRX0_77 rfl rfl rfl (Nat.le_of_ble_eq_true rfl) (Nat.le_of_ble_eq_true rfl) (F_X0_levelGate hc43)) rfl (Nat.le_of_ble_eq_true rfl) (Nat.le_of_ble_eq_true rfl) ?_
          refine ms_istore (pc := 46) (L' := [some (.ref 0), some (.int (a1)), some (.int (a2)), some (.int ((X.2.2.2.2.2.1) ((a1) : Int32).toNatClampNeg)), some (.int (((X.2.2.2.2.2.1) ((a1) : Int32).toNatClampNeg) - (1))), some (.int (v43))]) rfl (by decide) rfl rfl ?_
          refine mr_iload (pc := 48) (x := v43) rfl rfl ?_
          refine mr_if_ge (pc := 50) 56 rfl (by decide) (fun c50 => ?_) (fun c50 => ?_)
          · have h := (if_pos c50).symm.trans h
            refine mr_aload_n (pc := 56) (x := 0) rfl rfl ?_
            refine mr_iload (pc := 57) (x := ((X.2.2.2.2.2.1) ((a1) : Int32).toNatClampNeg) - (1)) rfl rfl ?_
            rcases bI_inv h with ⟨v59, X59, hc59, h⟩ | ⟨E59, X59, hc59, hr⟩
            · refine mr_ret (mRunV (pc := 59) (q := 0) (As := [.int (((X.2.2.2.2.2.1) ((a1) : Int32).toNatClampNeg) - (1))]) (rest := []) rfl lkRX0_112 rfl rfl rfl (Nat.le_of_ble_eq_true rfl) (Nat.le_of_ble_eq_true rfl) (F_X0_hold hc59)) rfl (Nat.le_of_ble_eq_true rfl) (Nat.le_of_ble_eq_true rfl) ?_
              refine mr_if_ne (pc := 62) 71 rfl (by decide) (fun c62 => ?_) (fun c62 => ?_)
              · have h := (if_neg c62).symm.trans h
                refine mr_aload_n (pc := 71) (x := 0) rfl rfl ?_
                refine mr_iload (pc := 72) (x := ((X.2.2.2.2.2.1) ((a1) : Int32).toNatClampNeg) - (1)) rfl rfl ?_
                rcases bI_inv h with ⟨v74, X74, hc74, h⟩ | ⟨E74, X74, hc74, hr⟩
                · refine mr_ret (mRunV (pc := 74) (q := 0) (As := [.int (((X.2.2.2.2.2.1) ((a1) : Int32).toNatClampNeg) - (1))]) (rest := []) rfl lkRX0_126 rfl rfl rfl (Nat.le_of_ble_eq_true rfl) (Nat.le_of_ble_eq_true rfl) (F_X0_boatsIn hc74)) rfl (Nat.le_of_ble_eq_true rfl) (Nat.le_of_ble_eq_true rfl) ?_
                  refine mr_iconst (pc := 77) (v := 3) rfl (by decide) ?_
                  refine mr_icmp_ge (pc := 78) 96 rfl (by decide) (fun c78 => ?_) (fun c78 => ?_)
                  · have h := (if_pos c78).symm.trans h
                    refine mr_aload_n (pc := 96) (x := 0) rfl rfl ?_
                    refine mr_iconst (pc := 97) (v := 3) rfl (by decide) ?_
                    rcases bI_inv h with ⟨v98, X98, hc98, h⟩ | ⟨E98, X98, hc98, hr⟩
                    · refine mr_ret (mRunV (pc := 98) (q := 0) (As := [.int (3)]) (rest := []) rfl lkRX0_183 rfl rfl rfl (Nat.le_of_ble_eq_true rfl) (Nat.le_of_ble_eq_true rfl) (F_X0_failing hc98)) rfl (Nat.le_of_ble_eq_true rfl) (Nat.le_of_ble_eq_true rfl) ?_
                      cases h; exact mr_ireturn (pc := 101) rfl rfl (Nat.le_of_ble_eq_true rfl) (Nat.le_of_ble_eq_true rfl)
                    · cases hr; exact mr_thrown (mRunV (pc := 98) (q := 0) (As := [.int (3)]) (rest := []) rfl lkRX0_183 rfl rfl rfl (Nat.le_of_ble_eq_true rfl) (Nat.le_of_ble_eq_true rfl) (F_X0_failing hc98)) rfl rfl (Nat.le_of_ble_eq_true rfl) (Nat.le_of_ble_eq_true rfl)
                  · have h := (if_neg c78).symm.trans h
                    refine mr_aload_n (pc := 81) (x := 0) rfl rfl ?_
                    refine mr_iload (pc := 82) (x := ((X.2.2.2.2.2.1) ((a1) : Int32).toNatClampNeg) - (1)) rfl rfl ?_
                    rcases bI_inv h with ⟨v84, X84, hc84, h⟩ | ⟨E84, X84, hc84, hr⟩
                    · refine mr_ret (mRunV (pc := 84) (q := 0) (As := [.int (((X.2.2.2.2.2.1) ((a1) : Int32).toNatClampNeg) - (1))]) (rest := []) rfl lkRX0_115 rfl rfl rfl (Nat.le_of_ble_eq_true rfl) (Nat.le_of_ble_eq_true rfl) (F_X0_heightOf hc84)) rfl (Nat.le_of_ble_eq_true rfl) (Nat.le_of_ble_eq_true rfl) ?_
                      refine mr_aload_n (pc := 87) (x := 0) rfl rfl ?_
                      refine mr_getfield (pc := 88) (v := .ref 5) rfl lfRX0_22 rfl rfl ?_
                      refine mr_iload_n (pc := 91) (x := a1) rfl rfl ?_
                      obtain ⟨g92, h⟩ := m_gd h
                      refine mr_iaload (pc := 92) (f := X84.2.2.2.2.1) rfl rfl (vpb_in g92) ?_
                      refine mr_icmp_ge (pc := 93) 102 rfl (by decide) (fun c93 => ?_) (fun c93 => ?_)
                      · have h := (if_pos c93).symm.trans h
                        refine mr_aload_n (pc := 102) (x := 0) rfl rfl ?_
                        refine mr_getfield (pc := 103) (v := .ref 6) rfl lfRX0_25 rfl rfl ?_
                        refine mr_iload_n (pc := 106) (x := a1) rfl rfl ?_
                        refine mr_iload (pc := 107) (x := ((X.2.2.2.2.2.1) ((a1) : Int32).toNatClampNeg) - (1)) rfl rfl ?_
                        obtain ⟨g109, h⟩ := m_gd h
                        refine ms_iastore (pc := 109) (f := X84.2.2.2.2.2.1) (h' := (xw (X84.1, X84.2.1, X84.2.2.1, X84.2.2.2.1, X84.2.2.2.2.1, upd (X84.2.2.2.2.2.1) ((a1) : Int32).toNatClampNeg (((X.2.2.2.2.2.1) ((a1) : Int32).toNatClampNeg) - (1)), X84.2.2.2.2.2.2.1, X84.2.2.2.2.2.2.2.1, X84.2.2.2.2.2.2.2.2.1, X84.2.2.2.2.2.2.2.2.2) T)) rfl rfl g109 rfl ?_
                        refine mr_aload_n (pc := 110) (x := 0) rfl rfl ?_
                        refine mr_iconst (pc := 111) (v := 2) rfl (by decide) ?_
                        rcases bV_inv h with ⟨X112, hc112, h⟩ | ⟨E112, X112, hc112, hr⟩
                        · refine mr_ret (mRunV (pc := 112) (q := 0) (As := [.int (2)]) (rest := []) rfl lkRX0_118 rfl rfl rfl (Nat.le_of_ble_eq_true rfl) (Nat.le_of_ble_eq_true rfl) (F_X0_leave hc112)) rfl (Nat.le_of_ble_eq_true rfl) (Nat.le_of_ble_eq_true rfl) ?_
                          refine mr_iload (pc := 115) (x := ((X.2.2.2.2.2.1) ((a1) : Int32).toNatClampNeg) - (1)) rfl rfl ?_
                          cases h; exact mr_ireturn (pc := 117) rfl rfl (Nat.le_of_ble_eq_true rfl) (Nat.le_of_ble_eq_true rfl)
                        · cases hr; exact mr_thrown (mRunV (pc := 112) (q := 0) (As := [.int (2)]) (rest := []) rfl lkRX0_118 rfl rfl rfl (Nat.le_of_ble_eq_true rfl) (Nat.le_of_ble_eq_true rfl) (F_X0_leave hc112)) rfl rfl (Nat.le_of_ble_eq_true rfl) (Nat.le_of_ble_eq_true rfl)
                      · have h := (if_neg c93).symm.trans h
                        refine mr_aload_n (pc := 96) (x := 0) rfl rfl ?_
                        refine mr_iconst (pc := 97) (v := 3) rfl (by decide) ?_
                        rcases bI_inv h with ⟨v98, X98, hc98, h⟩ | ⟨E98, X98, hc98, hr⟩
                        · refine mr_ret (mRunV (pc := 98) (q := 0) (As := [.int (3)]) (rest := []) rfl lkRX0_183 rfl rfl rfl (Nat.le_of_ble_eq_true rfl) (Nat.le_of_ble_eq_true rfl) (F_X0_failing hc98)) rfl (Nat.le_of_ble_eq_true rfl) (Nat.le_of_ble_eq_true rfl) ?_
                          cases h; exact mr_ireturn (pc := 101) rfl rfl (Nat.le_of_ble_eq_true rfl) (Nat.le_of_ble_eq_true rfl)
                        · cases hr; exact mr_thrown (mRunV (pc := 98) (q := 0) (As := [.int (3)]) (rest := []) rfl lkRX0_183 rfl rfl rfl (Nat.le_of_ble_eq_true rfl) (Nat.le_of_ble_eq_true rfl) (F_X0_failing hc98)) rfl rfl (Nat.le_of_ble_eq_true rfl) (Nat.le_of_ble_eq_true rfl)
                    · cases hr; exact mr_thrown (mRunV (pc := 84) (q := 0) (As := [.int (((X.2.2.2.2.2.1) ((a1) : Int32).toNatClampNeg) - (1))]) (rest := []) rfl lkRX0_115 rfl rfl rfl (Nat.le_of_ble_eq_true rfl) (Nat.le_of_ble_eq_true rfl) (F_X0_heightOf hc84)) rfl rfl (Nat.le_of_ble_eq_true rfl) (Nat.le_of_ble_eq_true rfl)
                · cases hr; exact mr_thrown (mRunV (pc := 74) (q := 0) (As := [.int (((X.2.2.2.2.2.1) ((a1) : Int32).toNatClampNeg) - (1))]) (rest := []) rfl lkRX0_126 rfl rfl rfl (Nat.le_of_ble_eq_true rfl) (Nat.le_of_ble_eq_true rfl) (F_X0_boatsIn hc74)) rfl rfl (Nat.le_of_ble_eq_true rfl) (Nat.le_of_ble_eq_true rfl)
              · have h := (if_pos c62).symm.trans h
                refine mr_aload_n (pc := 65) (x := 0) rfl rfl ?_
                refine mr_iconst (pc := 66) (v := 1) rfl (by decide) ?_
                rcases bI_inv h with ⟨v67, X67, hc67, h⟩ | ⟨E67, X67, hc67, hr⟩
                · refine mr_ret (mRunV (pc := 67) (q := 0) (As := [.int (1)]) (rest := []) rfl lkRX0_183 rfl rfl rfl (Nat.le_of_ble_eq_true rfl) (Nat.le_of_ble_eq_true rfl) (F_X0_failing hc67)) rfl (Nat.le_of_ble_eq_true rfl) (Nat.le_of_ble_eq_true rfl) ?_
                  cases h; exact mr_ireturn (pc := 70) rfl rfl (Nat.le_of_ble_eq_true rfl) (Nat.le_of_ble_eq_true rfl)
                · cases hr; exact mr_thrown (mRunV (pc := 67) (q := 0) (As := [.int (1)]) (rest := []) rfl lkRX0_183 rfl rfl rfl (Nat.le_of_ble_eq_true rfl) (Nat.le_of_ble_eq_true rfl) (F_X0_failing hc67)) rfl rfl (Nat.le_of_ble_eq_true rfl) (Nat.le_of_ble_eq_true rfl)
            · cases hr; exact mr_thrown (mRunV (pc := 59) (q := 0) (As := [.int (((X.2.2.2.2.2.1) ((a1) : Int32).toNatClampNeg) - (1))]) (rest := []) rfl lkRX0_112 rfl rfl rfl (Nat.le_of_ble_eq_true rfl) (Nat.le_of_ble_eq_true rfl) (F_X0_hold hc59)) rfl rfl (Nat.le_of_ble_eq_true rfl) (Nat.le_of_ble_eq_true rfl)
          · have h := (if_neg c50).symm.trans h
            refine mr_iload (pc := 53) (x := v43) rfl rfl ?_
            cases h; exact mr_ireturn (pc := 55) rfl rfl (Nat.le_of_ble_eq_true rfl) (Nat.le_of_ble_eq_true rfl)
        · cases hr; exact mr_thrown (mRunV (pc := 43) (q := 0) (As := [.int (if ((((X.2.2.2.2.2.1) ((a1) : Int32).toNatClampNeg) - (1)) : Int32) < ((X.2.2.2.2.2.1) ((a1) : Int32).toNatClampNeg) then (((X.2.2.2.2.2.1) ((a1) : Int32).toNatClampNeg) - (1)) else ((X.2.2.2.2.2.1) ((a1) : Int32).toNatClampNeg))]) (rest := []) rfl lkRX0_77 rfl rfl rfl (Nat.le_of_ble_eq_true rfl) (Nat.le_of_ble_eq_true rfl) (F_X0_levelGate hc43)) rfl rfl (Nat.le_of_ble_eq_true rfl) (Nat.le_of_ble_eq_true rfl)
      · have h := (if_pos c27).symm.trans h
        refine mr_aload_n (pc := 30) (x := 0) rfl rfl ?_
        refine mr_iconst (pc := 31) (v := 1) rfl (by decide) ?_
        rcases bI_inv h with ⟨v32, X32, hc32, h⟩ | ⟨E32, X32, hc32, hr⟩
        · refine mr_ret (mRunV (pc := 32) (q := 0) (As := [.int (1)]) (rest := []) rfl lkRX0_183 rfl rfl rfl (Nat.le_of_ble_eq_true rfl) (Nat.le_of_ble_eq_true rfl) (F_X0_failing hc32)) rfl (Nat.le_of_ble_eq_true rfl) (Nat.le_of_ble_eq_true rfl) ?_
          cases h; exact mr_ireturn (pc := 35) rfl rfl (Nat.le_of_ble_eq_true rfl) (Nat.le_of_ble_eq_true rfl)
        · cases hr; exact mr_thrown (mRunV (pc := 32) (q := 0) (As := [.int (1)]) (rest := []) rfl lkRX0_183 rfl rfl rfl (Nat.le_of_ble_eq_true rfl) (Nat.le_of_ble_eq_true rfl) (F_X0_failing hc32)) rfl rfl (Nat.le_of_ble_eq_true rfl) (Nat.le_of_ble_eq_true rfl)
    · cases hr; exact mr_thrown (mRunV (pc := 24) (q := 0) (As := [.int ((X.2.2.2.2.2.1) ((a1) : Int32).toNatClampNeg)]) (rest := []) rfl lkRX0_112 rfl rfl rfl (Nat.le_of_ble_eq_true rfl) (Nat.le_of_ble_eq_true rfl) (F_X0_hold hc24)) rfl rfl (Nat.le_of_ble_eq_true rfl) (Nat.le_of_ble_eq_true rfl)
  · have h := (if_neg c8).symm.trans h
    refine mr_iload_n (pc := 11) (x := (X.2.2.2.2.2.1) ((a1) : Int32).toNatClampNeg) rfl rfl ?_
    refine mr_iconst (pc := 12) (v := 1) rfl (by decide) ?_
    refine mr_iadd (pc := 13) rfl ?_
    refine mr_goto (pc := 14) 20 rfl (by decide) ?_
    refine ms_istore (pc := 20) (L' := [some (.ref 0), some (.int (a1)), some (.int (a2)), some (.int ((X.2.2.2.2.2.1) ((a1) : Int32).toNatClampNeg)), some (.int (((X.2.2.2.2.2.1) ((a1) : Int32).toNatClampNeg) + (1))), none]) rfl (by decide) rfl rfl ?_
    refine mr_aload_n (pc := 22) (x := 0) rfl rfl ?_
    refine mr_iload_n (pc := 23) (x := (X.2.2.2.2.2.1) ((a1) : Int32).toNatClampNeg) rfl rfl ?_
    rcases bI_inv h with ⟨v24, X24, hc24, h⟩ | ⟨E24, X24, hc24, hr⟩
    · refine mr_ret (mRunV (pc := 24) (q := 0) (As := [.int ((X.2.2.2.2.2.1) ((a1) : Int32).toNatClampNeg)]) (rest := []) rfl lkRX0_112 rfl rfl rfl (Nat.le_of_ble_eq_true rfl) (Nat.le_of_ble_eq_true rfl) (F_X0_hold hc24)) rfl (Nat.le_of_ble_eq_true rfl) (Nat.le_of_ble_eq_true rfl) ?_
      refine mr_if_ne (pc := 27) 36 rfl (by decide) (fun c27 => ?_) (fun c27 => ?_)
      · have h := (if_neg c27).symm.trans h
        refine mr_aload_n (pc := 36) (x := 0) rfl rfl ?_
        refine mr_iload_n (pc := 37) (x := (X.2.2.2.2.2.1) ((a1) : Int32).toNatClampNeg) rfl rfl ?_
        refine mr_iload (pc := 38) (x := ((X.2.2.2.2.2.1) ((a1) : Int32).toNatClampNeg) + (1)) rfl rfl ?_
        refine mr_mmin (pc := 40) rfl rfl (by decide) (Nat.le_of_ble_eq_true rfl) (Nat.le_of_ble_eq_true rfl) (Nat.le_of_ble_eq_true rfl) ?_
        rcases bI_inv h with ⟨v43, X43, hc43, h⟩ | ⟨E43, X43, hc43, hr⟩
        · refine mr_ret (mRunV (pc := 43) (q := 0) (As := [.int (if ((((X.2.2.2.2.2.1) ((a1) : Int32).toNatClampNeg) + (1)) : Int32) < ((X.2.2.2.2.2.1) ((a1) : Int32).toNatClampNeg) then (((X.2.2.2.2.2.1) ((a1) : Int32).toNatClampNeg) + (1)) else ((X.2.2.2.2.2.1) ((a1) : Int32).toNatClampNeg))]) (rest := []) rfl lkRX0_77 rfl rfl rfl (Nat.le_of_ble_eq_true rfl) (Nat.le_of_ble_eq_true rfl) (F_X0_levelGate hc43)) rfl (Nat.le_of_ble_eq_true rfl) (Nat.le_of_ble_eq_true rfl) ?_
          refine ms_istore (pc := 46) (L' := [some (.ref 0), some (.int (a1)), some (.int (a2)), some (.int ((X.2.2.2.2.2.1) ((a1) : Int32).toNatClampNeg)), some (.int (((X.2.2.2.2.2.1) ((a1) : Int32).toNatClampNeg) + (1))), some (.int (v43))]) rfl (by decide) rfl rfl ?_
          refine mr_iload (pc := 48) (x := v43) rfl rfl ?_
          refine mr_if_ge (pc := 50) 56 rfl (by decide) (fun c50 => ?_) (fun c50 => ?_)
          · have h := (if_pos c50).symm.trans h
            refine mr_aload_n (pc := 56) (x := 0) rfl rfl ?_
            refine mr_iload (pc := 57) (x := ((X.2.2.2.2.2.1) ((a1) : Int32).toNatClampNeg) + (1)) rfl rfl ?_
            rcases bI_inv h with ⟨v59, X59, hc59, h⟩ | ⟨E59, X59, hc59, hr⟩
            · refine mr_ret (mRunV (pc := 59) (q := 0) (As := [.int (((X.2.2.2.2.2.1) ((a1) : Int32).toNatClampNeg) + (1))]) (rest := []) rfl lkRX0_112 rfl rfl rfl (Nat.le_of_ble_eq_true rfl) (Nat.le_of_ble_eq_true rfl) (F_X0_hold hc59)) rfl (Nat.le_of_ble_eq_true rfl) (Nat.le_of_ble_eq_true rfl) ?_
              refine mr_if_ne (pc := 62) 71 rfl (by decide) (fun c62 => ?_) (fun c62 => ?_)
              · have h := (if_neg c62).symm.trans h
                refine mr_aload_n (pc := 71) (x := 0) rfl rfl ?_
                refine mr_iload (pc := 72) (x := ((X.2.2.2.2.2.1) ((a1) : Int32).toNatClampNeg) + (1)) rfl rfl ?_
                rcases bI_inv h with ⟨v74, X74, hc74, h⟩ | ⟨E74, X74, hc74, hr⟩
                · refine mr_ret (mRunV (pc := 74) (q := 0) (As := [.int (((X.2.2.2.2.2.1) ((a1) : Int32).toNatClampNeg) + (1))]) (rest := []) rfl lkRX0_126 rfl rfl rfl (Nat.le_of_ble_eq_true rfl) (Nat.le_of_ble_eq_true rfl) (F_X0_boatsIn hc74)) rfl (Nat.le_of_ble_eq_true rfl) (Nat.le_of_ble_eq_true rfl) ?_
                  refine mr_iconst (pc := 77) (v := 3) rfl (by decide) ?_
                  refine mr_icmp_ge (pc := 78) 96 rfl (by decide) (fun c78 => ?_) (fun c78 => ?_)
                  · have h := (if_pos c78).symm.trans h
                    refine mr_aload_n (pc := 96) (x := 0) rfl rfl ?_
                    refine mr_iconst (pc := 97) (v := 3) rfl (by decide) ?_
                    rcases bI_inv h with ⟨v98, X98, hc98, h⟩ | ⟨E98, X98, hc98, hr⟩
                    · refine mr_ret (mRunV (pc := 98) (q := 0) (As := [.int (3)]) (rest := []) rfl lkRX0_183 rfl rfl rfl (Nat.le_of_ble_eq_true rfl) (Nat.le_of_ble_eq_true rfl) (F_X0_failing hc98)) rfl (Nat.le_of_ble_eq_true rfl) (Nat.le_of_ble_eq_true rfl) ?_
                      cases h; exact mr_ireturn (pc := 101) rfl rfl (Nat.le_of_ble_eq_true rfl) (Nat.le_of_ble_eq_true rfl)
                    · cases hr; exact mr_thrown (mRunV (pc := 98) (q := 0) (As := [.int (3)]) (rest := []) rfl lkRX0_183 rfl rfl rfl (Nat.le_of_ble_eq_true rfl) (Nat.le_of_ble_eq_true rfl) (F_X0_failing hc98)) rfl rfl (Nat.le_of_ble_eq_true rfl) (Nat.le_of_ble_eq_true rfl)
                  · have h := (if_neg c78).symm.trans h
                    refine mr_aload_n (pc := 81) (x := 0) rfl rfl ?_
                    refine mr_iload (pc := 82) (x := ((X.2.2.2.2.2.1) ((a1) : Int32).toNatClampNeg) + (1)) rfl rfl ?_
                    rcases bI_inv h with ⟨v84, X84, hc84, h⟩ | ⟨E84, X84, hc84, hr⟩
                    · refine mr_ret (mRunV (pc := 84) (q := 0) (As := [.int (((X.2.2.2.2.2.1) ((a1) : Int32).toNatClampNeg) + (1))]) (rest := []) rfl lkRX0_115 rfl rfl rfl (Nat.le_of_ble_eq_true rfl) (Nat.le_of_ble_eq_true rfl) (F_X0_heightOf hc84)) rfl (Nat.le_of_ble_eq_true rfl) (Nat.le_of_ble_eq_true rfl) ?_
                      refine mr_aload_n (pc := 87) (x := 0) rfl rfl ?_
                      refine mr_getfield (pc := 88) (v := .ref 5) rfl lfRX0_22 rfl rfl ?_
                      refine mr_iload_n (pc := 91) (x := a1) rfl rfl ?_
                      obtain ⟨g92, h⟩ := m_gd h
                      refine mr_iaload (pc := 92) (f := X84.2.2.2.2.1) rfl rfl (vpb_in g92) ?_
                      refine mr_icmp_ge (pc := 93) 102 rfl (by decide) (fun c93 => ?_) (fun c93 => ?_)
                      · have h := (if_pos c93).symm.trans h
                        refine mr_aload_n (pc := 102) (x := 0) rfl rfl ?_
                        refine mr_getfield (pc := 103) (v := .ref 6) rfl lfRX0_25 rfl rfl ?_
                        refine mr_iload_n (pc := 106) (x := a1) rfl rfl ?_
                        refine mr_iload (pc := 107) (x := ((X.2.2.2.2.2.1) ((a1) : Int32).toNatClampNeg) + (1)) rfl rfl ?_
                        obtain ⟨g109, h⟩ := m_gd h
                        refine ms_iastore (pc := 109) (f := X84.2.2.2.2.2.1) (h' := (xw (X84.1, X84.2.1, X84.2.2.1, X84.2.2.2.1, X84.2.2.2.2.1, upd (X84.2.2.2.2.2.1) ((a1) : Int32).toNatClampNeg (((X.2.2.2.2.2.1) ((a1) : Int32).toNatClampNeg) + (1)), X84.2.2.2.2.2.2.1, X84.2.2.2.2.2.2.2.1, X84.2.2.2.2.2.2.2.2.1, X84.2.2.2.2.2.2.2.2.2) T)) rfl rfl g109 rfl ?_
                        refine mr_aload_n (pc := 110) (x := 0) rfl rfl ?_
                        refine mr_iconst (pc := 111) (v := 2) rfl (by decide) ?_
                        rcases bV_inv h with ⟨X112, hc112, h⟩ | ⟨E112, X112, hc112, hr⟩
                        · refine mr_ret (mRunV (pc := 112) (q := 0) (As := [.int (2)]) (rest := []) rfl lkRX0_118 rfl rfl rfl (Nat.le_of_ble_eq_true rfl) (Nat.le_of_ble_eq_true rfl) (F_X0_leave hc112)) rfl (Nat.le_of_ble_eq_true rfl) (Nat.le_of_ble_eq_true rfl) ?_
                          refine mr_iload (pc := 115) (x := ((X.2.2.2.2.2.1) ((a1) : Int32).toNatClampNeg) + (1)) rfl rfl ?_
                          cases h; exact mr_ireturn (pc := 117) rfl rfl (Nat.le_of_ble_eq_true rfl) (Nat.le_of_ble_eq_true rfl)
                        · cases hr; exact mr_thrown (mRunV (pc := 112) (q := 0) (As := [.int (2)]) (rest := []) rfl lkRX0_118 rfl rfl rfl (Nat.le_of_ble_eq_true rfl) (Nat.le_of_ble_eq_true rfl) (F_X0_leave hc112)) rfl rfl (Nat.le_of_ble_eq_true rfl) (Nat.le_of_ble_eq_true rfl)
                      · have h := (if_neg c93).symm.trans h
                        refine mr_aload_n (pc := 96) (x := 0) rfl rfl ?_
                        refine mr_iconst (pc := 97) (v := 3) rfl (by decide) ?_
                        rcases bI_inv h with ⟨v98, X98, hc98, h⟩ | ⟨E98, X98, hc98, hr⟩
                        · refine mr_ret (mRunV (pc := 98) (q := 0) (As := [.int (3)]) (rest := []) rfl lkRX0_183 rfl rfl rfl (Nat.le_of_ble_eq_true rfl) (Nat.le_of_ble_eq_true rfl) (F_X0_failing hc98)) rfl (Nat.le_of_ble_eq_true rfl) (Nat.le_of_ble_eq_true rfl) ?_
                          cases h; exact mr_ireturn (pc := 101) rfl rfl (Nat.le_of_ble_eq_true rfl) (Nat.le_of_ble_eq_true rfl)
                        · cases hr; exact mr_thrown (mRunV (pc := 98) (q := 0) (As := [.int (3)]) (rest := []) rfl lkRX0_183 rfl rfl rfl (Nat.le_of_ble_eq_true rfl) (Nat.le_of_ble_eq_true rfl) (F_X0_failing hc98)) rfl rfl (Nat.le_of_ble_eq_true rfl) (Nat.le_of_ble_eq_true rfl)
                    · cases hr; exact mr_thrown (mRunV (pc := 84) (q := 0) (As := [.int (((X.2.2.2.2.2.1) ((a1) : Int32).toNatClampNeg) + (1))]) (rest := []) rfl lkRX0_115 rfl rfl rfl (Nat.le_of_ble_eq_true rfl) (Nat.le_of_ble_eq_true rfl) (F_X0_heightOf hc84)) rfl rfl (Nat.le_of_ble_eq_true rfl) (Nat.le_of_ble_eq_true rfl)
                · cases hr; exact mr_thrown (mRunV (pc := 74) (q := 0) (As := [.int (((X.2.2.2.2.2.1) ((a1) : Int32).toNatClampNeg) + (1))]) (rest := []) rfl lkRX0_126 rfl rfl rfl (Nat.le_of_ble_eq_true rfl) (Nat.le_of_ble_eq_true rfl) (F_X0_boatsIn hc74)) rfl rfl (Nat.le_of_ble_eq_true rfl) (Nat.le_of_ble_eq_true rfl)
              · have h := (if_pos c62).symm.trans h
                refine mr_aload_n (pc := 65) (x := 0) rfl rfl ?_
                refine mr_iconst (pc := 66) (v := 1) rfl (by decide) ?_
                rcases bI_inv h with ⟨v67, X67, hc67, h⟩ | ⟨E67, X67, hc67, hr⟩
                · refine mr_ret (mRunV (pc := 67) (q := 0) (As := [.int (1)]) (rest := []) rfl lkRX0_183 rfl rfl rfl (Nat.le_of_ble_eq_true rfl) (Nat.le_of_ble_eq_true rfl) (F_X0_failing hc67)) rfl (Nat.le_of_ble_eq_true rfl) (Nat.le_of_ble_eq_true rfl) ?_
                  cases h; exact mr_ireturn (pc := 70) rfl rfl (Nat.le_of_ble_eq_true rfl) (Nat.le_of_ble_eq_true rfl)
                · cases hr; exact mr_thrown (mRunV (pc := 67) (q := 0) (As := [.int (1)]) (rest := []) rfl lkRX0_183 rfl rfl rfl (Nat.le_of_ble_eq_true rfl) (Nat.le_of_ble_eq_true rfl) (F_X0_failing hc67)) rfl rfl (Nat.le_of_ble_eq_true rfl) (Nat.le_of_ble_eq_true rfl)
            · cases hr; exact mr_thrown (mRunV (pc := 59) (q := 0) (As := [.int (((X.2.2.2.2.2.1) ((a1) : Int32).toNatClampNeg) + (1))]) (rest := []) rfl lkRX0_112 rfl rfl rfl (Nat.le_of_ble_eq_true rfl) (Nat.le_of_ble_eq_true rfl) (F_X0_hold hc59)) rfl rfl (Nat.le_of_ble_eq_true rfl) (Nat.le_of_ble_eq_true rfl)
          · have h := (if_neg c50).symm.trans h
            refine mr_iload (pc := 53) (x := v43) rfl rfl ?_
            cases h; exact mr_ireturn (pc := 55) rfl rfl (Nat.le_of_ble_eq_true rfl) (Nat.le_of_ble_eq_true rfl)
        · cases hr; exact mr_thrown (mRunV (pc := 43) (q := 0) (As := [.int (if ((((X.2.2.2.2.2.1) ((a1) : Int32).toNatClampNeg) + (1)) : Int32) < ((X.2.2.2.2.2.1) ((a1) : Int32).toNatClampNeg) then (((X.2.2.2.2.2.1) ((a1) : Int32).toNatClampNeg) + (1)) else ((X.2.2.2.2.2.1) ((a1) : Int32).toNatClampNeg))]) (rest := []) rfl lkRX0_77 rfl rfl rfl (Nat.le_of_ble_eq_true rfl) (Nat.le_of_ble_eq_true rfl) (F_X0_levelGate hc43)) rfl rfl (Nat.le_of_ble_eq_true rfl) (Nat.le_of_ble_eq_true rfl)
      · have h := (if_pos c27).symm.trans h
        refine mr_aload_n (pc := 30) (x := 0) rfl rfl ?_
        refine mr_iconst (pc := 31) (v := 1) rfl (by decide) ?_
        rcases bI_inv h with ⟨v32, X32, hc32, h⟩ | ⟨E32, X32, hc32, hr⟩
        · refine mr_ret (mRunV (pc := 32) (q := 0) (As := [.int (1)]) (rest := []) rfl lkRX0_183 rfl rfl rfl (Nat.le_of_ble_eq_true rfl) (Nat.le_of_ble_eq_true rfl) (F_X0_failing hc32)) rfl (Nat.le_of_ble_eq_true rfl) (Nat.le_of_ble_eq_true rfl) ?_
          cases h; exact mr_ireturn (pc := 35) rfl rfl (Nat.le_of_ble_eq_true rfl) (Nat.le_of_ble_eq_true rfl)
        · cases hr; exact mr_thrown (mRunV (pc := 32) (q := 0) (As := [.int (1)]) (rest := []) rfl lkRX0_183 rfl rfl rfl (Nat.le_of_ble_eq_true rfl) (Nat.le_of_ble_eq_true rfl) (F_X0_failing hc32)) rfl rfl (Nat.le_of_ble_eq_true rfl) (Nat.le_of_ble_eq_true rfl)
    · cases hr; exact mr_thrown (mRunV (pc := 24) (q := 0) (As := [.int ((X.2.2.2.2.2.1) ((a1) : Int32).toNatClampNeg)]) (rest := []) rfl lkRX0_112 rfl rfl rfl (Nat.le_of_ble_eq_true rfl) (Nat.le_of_ble_eq_true rfl) (F_X0_hold hc24)) rfl rfl (Nat.le_of_ble_eq_true rfl) (Nat.le_of_ble_eq_true rfl)
def g_X0_pass (X : cS) (a1 a2 : Int32) : Option (mO × cS) := cV (g_X0_checkBoat (a1)) X (if vpb (a1) 10 then (if (((X.2.2.2.2.2.1) ((a1) : Int32).toNatClampNeg) : Int32) = (((-1)) : Int32) then (some (.inr xS, X)) else (if vpb (a1) 10 then (cI (g_X0_hasGate ((X.2.2.2.2.2.1) ((a1) : Int32).toNatClampNeg) (a2)) X (fun v31 => if ((v31) : Int32) = 0 then (some (.inr xA, X)) else (bI (g_X0_passBoat X (a1) (a2)) (fun v50 X50 => cI (g_X0_answered (v50)) X50 (fun v53 => some (.inl (some (.int (v53))), X50)))))) else none)) else none)
set_option maxRecDepth 100000 in
set_option maxHeartbeats 4000000 in
theorem F_X0_pass {S : Nat × (Nat → Int32)} {T : mH} {X R9 : cS} {o9 : mO} {a1 a2 : Int32} (h : g_X0_pass X a1 a2 = some (o9, R9)) : mF S MX0_pass 0 (mEnt [.ref 0, .int a1, .int a2] 3) [] (xw X T) 0 0 (o9, (xw R9 T), 3, 24) := by
  unfold g_X0_pass at h
  refine mr_iload_n (pc := 0) (x := a1) rfl rfl ?_
  rcases cV_inv h with ⟨hc1, h⟩ | ⟨E1, hc1, hr⟩
  · refine mr_ret (mRunS (pc := 1) (As := [.int (a1)]) (rest := []) rfl lkRX0_67 rfl (Nat.le_of_ble_eq_true rfl) (Nat.le_of_ble_eq_true rfl) (F_X0_checkBoat hc1)) rfl (Nat.le_of_ble_eq_true rfl) (Nat.le_of_ble_eq_true rfl) ?_
    refine mr_aload_n (pc := 4) (x := 0) rfl rfl ?_
    refine mr_getfield (pc := 5) (v := .ref 6) rfl lfRX0_25 rfl rfl ?_
    refine mr_iload_n (pc := 8) (x := a1) rfl rfl ?_
    obtain ⟨g9, h⟩ := m_gd h
    refine mr_iaload (pc := 9) (f := X.2.2.2.2.2.1) rfl rfl (vpb_in g9) ?_
    refine mr_iconst (pc := 10) (v := -1) rfl (by decide) ?_
    refine mr_icmp_ne (pc := 11) 24 rfl (by decide) (fun c11 => ?_) (fun c11 => ?_)
    · have h := (if_neg c11).symm.trans h
      refine mr_aload_n (pc := 24) (x := 0) rfl rfl ?_
      refine mr_getfield (pc := 25) (v := .ref 6) rfl lfRX0_25 rfl rfl ?_
      refine mr_iload_n (pc := 28) (x := a1) rfl rfl ?_
      obtain ⟨g29, h⟩ := m_gd h
      refine mr_iaload (pc := 29) (f := X.2.2.2.2.2.1) rfl rfl (vpb_in g29) ?_
      refine mr_iload_n (pc := 30) (x := a2) rfl rfl ?_
      rcases cI_inv h with ⟨v31, hc31, h⟩ | ⟨E31, hc31, hr⟩
      · refine mr_ret (mRunS (pc := 31) (As := [.int ((X.2.2.2.2.2.1) ((a1) : Int32).toNatClampNeg), .int (a2)]) (rest := []) rfl lkRX0_85 rfl (Nat.le_of_ble_eq_true rfl) (Nat.le_of_ble_eq_true rfl) (F_X0_hasGate hc31)) rfl (Nat.le_of_ble_eq_true rfl) (Nat.le_of_ble_eq_true rfl) ?_
        refine mr_if_ne (pc := 34) 47 rfl (by decide) (fun c34 => ?_) (fun c34 => ?_)
        · have h := (if_neg c34).symm.trans h
          refine mr_aload_n (pc := 47) (x := 0) rfl rfl ?_
          refine mr_iload_n (pc := 48) (x := a1) rfl rfl ?_
          refine mr_iload_n (pc := 49) (x := a2) rfl rfl ?_
          rcases bI_inv h with ⟨v50, X50, hc50, h⟩ | ⟨E50, X50, hc50, hr⟩
          · refine mr_ret (mRunV (pc := 50) (q := 0) (As := [.int (a1), .int (a2)]) (rest := []) rfl lkRX0_94 rfl rfl rfl (Nat.le_of_ble_eq_true rfl) (Nat.le_of_ble_eq_true rfl) (F_X0_passBoat hc50)) rfl (Nat.le_of_ble_eq_true rfl) (Nat.le_of_ble_eq_true rfl) ?_
            rcases cI_inv h with ⟨v53, hc53, h⟩ | ⟨E53, hc53, hr⟩
            · refine mr_ret (mRunS (pc := 53) (As := [.int (v50)]) (rest := []) rfl lkRX0_50 rfl (Nat.le_of_ble_eq_true rfl) (Nat.le_of_ble_eq_true rfl) (F_X0_answered hc53)) rfl (Nat.le_of_ble_eq_true rfl) (Nat.le_of_ble_eq_true rfl) ?_
              cases h; exact mr_ireturn (pc := 56) rfl rfl (Nat.le_of_ble_eq_true rfl) (Nat.le_of_ble_eq_true rfl)
            · cases hr; exact mr_thrown (mRunS (pc := 53) (As := [.int (v50)]) (rest := []) rfl lkRX0_50 rfl (Nat.le_of_ble_eq_true rfl) (Nat.le_of_ble_eq_true rfl) (F_X0_answered hc53)) rfl rfl (Nat.le_of_ble_eq_true rfl) (Nat.le_of_ble_eq_true rfl)
          · cases hr; exact mr_thrown (mRunV (pc := 50) (q := 0) (As := [.int (a1), .int (a2)]) (rest := []) rfl lkRX0_94 rfl rfl rfl (Nat.le_of_ble_eq_true rfl) (Nat.le_of_ble_eq_true rfl) (F_X0_passBoat hc50)) rfl rfl (Nat.le_of_ble_eq_true rfl) (Nat.le_of_ble_eq_true rfl)
        · have h := (if_pos c34).symm.trans h
          cases h; exact mr_throw (pc := 37) rfl rfl rfl rfl rfl lt_91 rfl (by decide) (by decide) (Nat.le_of_ble_eq_true rfl) (Nat.le_of_ble_eq_true rfl)
      · cases hr; exact mr_thrown (mRunS (pc := 31) (As := [.int ((X.2.2.2.2.2.1) ((a1) : Int32).toNatClampNeg), .int (a2)]) (rest := []) rfl lkRX0_85 rfl (Nat.le_of_ble_eq_true rfl) (Nat.le_of_ble_eq_true rfl) (F_X0_hasGate hc31)) rfl rfl (Nat.le_of_ble_eq_true rfl) (Nat.le_of_ble_eq_true rfl)
    · have h := (if_pos c11).symm.trans h
      cases h; exact mr_throw (pc := 14) rfl rfl rfl rfl rfl lt_82 rfl (by decide) (by decide) (Nat.le_of_ble_eq_true rfl) (Nat.le_of_ble_eq_true rfl)
  · cases hr; exact mr_thrown (mRunS (pc := 1) (As := [.int (a1)]) (rest := []) rfl lkRX0_67 rfl (Nat.le_of_ble_eq_true rfl) (Nat.le_of_ble_eq_true rfl) (F_X0_checkBoat hc1)) rfl rfl (Nat.le_of_ble_eq_true rfl) (Nat.le_of_ble_eq_true rfl)
def g_X0_fly_44 : Nat → cS → Int32 → Int32 → Int32 → Int32 → Int32 → Option (mO × cS)
  | 0, _, _, _, _, _, _ => none
  | f9 + 1, X, b1, b2, b3, b4, b5 => if ((b4) : Int32) ≤ ((b5) : Int32) then (bV (g_X0_leave X ((b4) + (1))) (fun X93 => some (.inl (some (.int (b4))), X93))) else (if ((b2) : Int32) ≤ ((b3) : Int32) then (bI (g_X0_passBoat X (b1) (0)) (fun v63 X63 => if 0 ≤ ((v63) : Int32) then (g_X0_fly_44 f9 X63 (b1) (b2) (b3) (b4) (b5 + 1)) else (some (.inl (some (.int (((10) * (v63)) - (b5)))), X63)))) else (bI (g_X0_passBoat X (b1) (1)) (fun v63 X63 => if 0 ≤ ((v63) : Int32) then (g_X0_fly_44 f9 X63 (b1) (b2) (b3) (b4) (b5 + 1)) else (some (.inl (some (.int (((10) * (v63)) - (b5)))), X63)))))
set_option maxRecDepth 100000 in
set_option maxHeartbeats 4000000 in
theorem FL_X0_fly_44 {S : Nat × (Nat → Int32)} {T : mH} : ∀ (f9 : Nat) (X : cS) (b1 b2 b3 b4 b5 : Int32) (o9 : mO) (R9 : cS), g_X0_fly_44 f9 X b1 b2 b3 b4 b5 = some (o9, R9) → mF S MX0_fly 44 [some (.ref 0), some (.int (b1)), some (.int (b2)), some (.int (b3)), some (.int (b4)), some (.int (b5)), none] [] (xw X T) 0 0 (o9, (xw R9 T), 0, 0) := by
  intro f9
  induction f9 with
  | zero => intro X b1 b2 b3 b4 b5 o9 R9 h; cases h
  | succ f9 ih9 =>
    intro X b1 b2 b3 b4 b5 o9 R9 h
    rw [g_X0_fly_44] at h
    refine mr_iload (pc := 44) (x := b5) rfl rfl ?_
    refine mr_iload (pc := 46) (x := b4) rfl rfl ?_
    refine mr_icmp_ge (pc := 48) 88 rfl (by decide) (fun c48 => ?_) (fun c48 => ?_)
    · have h := (if_pos c48).symm.trans h
      refine mr_aload_n (pc := 88) (x := 0) rfl rfl ?_
      refine mr_iload (pc := 89) (x := b4) rfl rfl ?_
      refine mr_iconst (pc := 91) (v := 1) rfl (by decide) ?_
      refine mr_iadd (pc := 92) rfl ?_
      rcases bV_inv h with ⟨X93, hc93, h⟩ | ⟨E93, X93, hc93, hr⟩
      · refine mr_ret (mRunV (pc := 93) (q := 0) (As := [.int ((b4) + (1))]) (rest := []) rfl lkRX0_118 rfl rfl rfl (Nat.le_of_ble_eq_true rfl) (Nat.le_of_ble_eq_true rfl) (F_X0_leave hc93)) rfl (Nat.le_of_ble_eq_true rfl) (Nat.le_of_ble_eq_true rfl) ?_
        refine mr_iload (pc := 96) (x := b4) rfl rfl ?_
        cases h; exact mr_ireturn (pc := 98) rfl rfl (Nat.le_of_ble_eq_true rfl) (Nat.le_of_ble_eq_true rfl)
      · cases hr; exact mr_thrown (mRunV (pc := 93) (q := 0) (As := [.int ((b4) + (1))]) (rest := []) rfl lkRX0_118 rfl rfl rfl (Nat.le_of_ble_eq_true rfl) (Nat.le_of_ble_eq_true rfl) (F_X0_leave hc93)) rfl rfl (Nat.le_of_ble_eq_true rfl) (Nat.le_of_ble_eq_true rfl)
    · have h := (if_neg c48).symm.trans h
      refine mr_aload_n (pc := 51) (x := 0) rfl rfl ?_
      refine mr_iload_n (pc := 52) (x := b1) rfl rfl ?_
      refine mr_iload_n (pc := 53) (x := b3) rfl rfl ?_
      refine mr_iload_n (pc := 54) (x := b2) rfl rfl ?_
      refine mr_icmp_ge (pc := 55) 62 rfl (by decide) (fun c55 => ?_) (fun c55 => ?_)
      · have h := (if_pos c55).symm.trans h
        refine mr_iconst (pc := 62) (v := 0) rfl (by decide) ?_
        rcases bI_inv h with ⟨v63, X63, hc63, h⟩ | ⟨E63, X63, hc63, hr⟩
        · refine mr_ret (mRunV (pc := 63) (q := 0) (As := [.int (b1), .int (0)]) (rest := []) rfl lkRX0_94 rfl rfl rfl (Nat.le_of_ble_eq_true rfl) (Nat.le_of_ble_eq_true rfl) (F_X0_passBoat hc63)) rfl (Nat.le_of_ble_eq_true rfl) (Nat.le_of_ble_eq_true rfl) ?_
          refine ms_istore (pc := 66) (L' := [some (.ref 0), some (.int (b1)), some (.int (b2)), some (.int (b3)), some (.int (b4)), some (.int (b5)), some (.int (v63))]) rfl (by decide) rfl rfl ?_
          refine mr_iload (pc := 68) (x := v63) rfl rfl ?_
          refine mr_if_ge (pc := 70) 82 rfl (by decide) (fun c70 => ?_) (fun c70 => ?_)
          · have h := (if_pos c70).symm.trans h
            refine ms_iinc (pc := 82) (x := b5) (v := 1) (L' := [some (.ref 0), some (.int (b1)), some (.int (b2)), some (.int (b3)), some (.int (b4)), some (.int (b5 + 1)), some (.int (v63))]) rfl rfl (by decide) (by decide) rfl rfl ?_
            refine mr_goto (pc := 85) 44 rfl (by decide) ?_
            refine ms_drop (i := 6) (L' := [some (.ref 0), some (.int (b1)), some (.int (b2)), some (.int (b3)), some (.int (b4)), some (.int (b5 + 1)), none]) rfl ?_
            exact ih9 _ _ _ _ _ _ _ _ h
          · have h := (if_neg c70).symm.trans h
            refine mr_bipush (pc := 73) (v := 10) rfl (by decide) ?_
            refine mr_iload (pc := 75) (x := v63) rfl rfl ?_
            refine mr_imul (pc := 77) rfl ?_
            refine mr_iload (pc := 78) (x := b5) rfl rfl ?_
            refine mr_isub (pc := 80) rfl ?_
            cases h; exact mr_ireturn (pc := 81) rfl rfl (Nat.le_of_ble_eq_true rfl) (Nat.le_of_ble_eq_true rfl)
        · cases hr; exact mr_thrown (mRunV (pc := 63) (q := 0) (As := [.int (b1), .int (0)]) (rest := []) rfl lkRX0_94 rfl rfl rfl (Nat.le_of_ble_eq_true rfl) (Nat.le_of_ble_eq_true rfl) (F_X0_passBoat hc63)) rfl rfl (Nat.le_of_ble_eq_true rfl) (Nat.le_of_ble_eq_true rfl)
      · have h := (if_neg c55).symm.trans h
        refine mr_iconst (pc := 58) (v := 1) rfl (by decide) ?_
        refine mr_goto (pc := 59) 63 rfl (by decide) ?_
        rcases bI_inv h with ⟨v63, X63, hc63, h⟩ | ⟨E63, X63, hc63, hr⟩
        · refine mr_ret (mRunV (pc := 63) (q := 0) (As := [.int (b1), .int (1)]) (rest := []) rfl lkRX0_94 rfl rfl rfl (Nat.le_of_ble_eq_true rfl) (Nat.le_of_ble_eq_true rfl) (F_X0_passBoat hc63)) rfl (Nat.le_of_ble_eq_true rfl) (Nat.le_of_ble_eq_true rfl) ?_
          refine ms_istore (pc := 66) (L' := [some (.ref 0), some (.int (b1)), some (.int (b2)), some (.int (b3)), some (.int (b4)), some (.int (b5)), some (.int (v63))]) rfl (by decide) rfl rfl ?_
          refine mr_iload (pc := 68) (x := v63) rfl rfl ?_
          refine mr_if_ge (pc := 70) 82 rfl (by decide) (fun c70 => ?_) (fun c70 => ?_)
          · have h := (if_pos c70).symm.trans h
            refine ms_iinc (pc := 82) (x := b5) (v := 1) (L' := [some (.ref 0), some (.int (b1)), some (.int (b2)), some (.int (b3)), some (.int (b4)), some (.int (b5 + 1)), some (.int (v63))]) rfl rfl (by decide) (by decide) rfl rfl ?_
            refine mr_goto (pc := 85) 44 rfl (by decide) ?_
            refine ms_drop (i := 6) (L' := [some (.ref 0), some (.int (b1)), some (.int (b2)), some (.int (b3)), some (.int (b4)), some (.int (b5 + 1)), none]) rfl ?_
            exact ih9 _ _ _ _ _ _ _ _ h
          · have h := (if_neg c70).symm.trans h
            refine mr_bipush (pc := 73) (v := 10) rfl (by decide) ?_
            refine mr_iload (pc := 75) (x := v63) rfl rfl ?_
            refine mr_imul (pc := 77) rfl ?_
            refine mr_iload (pc := 78) (x := b5) rfl rfl ?_
            refine mr_isub (pc := 80) rfl ?_
            cases h; exact mr_ireturn (pc := 81) rfl rfl (Nat.le_of_ble_eq_true rfl) (Nat.le_of_ble_eq_true rfl)
        · cases hr; exact mr_thrown (mRunV (pc := 63) (q := 0) (As := [.int (b1), .int (1)]) (rest := []) rfl lkRX0_94 rfl rfl rfl (Nat.le_of_ble_eq_true rfl) (Nat.le_of_ble_eq_true rfl) (F_X0_passBoat hc63)) rfl rfl (Nat.le_of_ble_eq_true rfl) (Nat.le_of_ble_eq_true rfl)
def g_X0_fly (X : cS) (a1 a2 : Int32) : Option (mO × cS) := if vpb (a1) 10 then (if (((X.2.2.2.2.2.1) ((a1) : Int32).toNatClampNeg) : Int32) = (((-1)) : Int32) then (some (.inl (some (.int ((-20)))), X)) else (bI (g_X0_holdAll X ((X.2.2.2.2.2.1) ((a1) : Int32).toNatClampNeg) (a2)) (fun v18 X18 => if ((v18) : Int32) = 0 then (bI (g_X0_failing X18 (1)) (fun v28 X28 => some (.inl (some (.int ((10) * (v28)))), X28))) else (g_X0_fly_44 mK X18 (a1) (a2) ((X.2.2.2.2.2.1) ((a1) : Int32).toNatClampNeg) (if 0 ≤ (((a2) - ((X.2.2.2.2.2.1) ((a1) : Int32).toNatClampNeg)) : Int32) then ((a2) - ((X.2.2.2.2.2.1) ((a1) : Int32).toNatClampNeg)) else 0 - ((a2) - ((X.2.2.2.2.2.1) ((a1) : Int32).toNatClampNeg))) (0))))) else none
set_option maxRecDepth 100000 in
set_option maxHeartbeats 4000000 in
theorem F_X0_fly {S : Nat × (Nat → Int32)} {T : mH} {X R9 : cS} {o9 : mO} {a1 a2 : Int32} (h : g_X0_fly X a1 a2 = some (o9, R9)) : mF S MX0_fly 0 (mEnt [.ref 0, .int a1, .int a2] 7) [] (xw X T) 0 0 (o9, (xw R9 T), 0, 0) := by
  unfold g_X0_fly at h
  refine mr_aload_n (pc := 0) (x := 0) rfl rfl ?_
  refine mr_getfield (pc := 1) (v := .ref 6) rfl lfRX0_25 rfl rfl ?_
  refine mr_iload_n (pc := 4) (x := a1) rfl rfl ?_
  obtain ⟨g5, h⟩ := m_gd h
  refine mr_iaload (pc := 5) (f := X.2.2.2.2.2.1) rfl rfl (vpb_in g5) ?_
  refine ms_istore_n (pc := 6) (L' := [some (.ref 0), some (.int (a1)), some (.int (a2)), some (.int ((X.2.2.2.2.2.1) ((a1) : Int32).toNatClampNeg)), none, none, none]) rfl (by decide) rfl rfl ?_
  refine mr_iload_n (pc := 7) (x := (X.2.2.2.2.2.1) ((a1) : Int32).toNatClampNeg) rfl rfl ?_
  refine mr_iconst (pc := 8) (v := -1) rfl (by decide) ?_
  refine mr_icmp_ne (pc := 9) 15 rfl (by decide) (fun c9 => ?_) (fun c9 => ?_)
  · have h := (if_neg c9).symm.trans h
    refine mr_aload_n (pc := 15) (x := 0) rfl rfl ?_
    refine mr_iload_n (pc := 16) (x := (X.2.2.2.2.2.1) ((a1) : Int32).toNatClampNeg) rfl rfl ?_
    refine mr_iload_n (pc := 17) (x := a2) rfl rfl ?_
    rcases bI_inv h with ⟨v18, X18, hc18, h⟩ | ⟨E18, X18, hc18, hr⟩
    · refine mr_ret (mRunV (pc := 18) (q := 0) (As := [.int ((X.2.2.2.2.2.1) ((a1) : Int32).toNatClampNeg), .int (a2)]) (rest := []) rfl lkRX0_192 rfl rfl rfl (Nat.le_of_ble_eq_true rfl) (Nat.le_of_ble_eq_true rfl) (F_X0_holdAll hc18)) rfl (Nat.le_of_ble_eq_true rfl) (Nat.le_of_ble_eq_true rfl) ?_
      refine mr_if_ne (pc := 21) 33 rfl (by decide) (fun c21 => ?_) (fun c21 => ?_)
      · have h := (if_neg c21).symm.trans h
        refine mr_iload_n (pc := 33) (x := a2) rfl rfl ?_
        refine mr_iload_n (pc := 34) (x := (X.2.2.2.2.2.1) ((a1) : Int32).toNatClampNeg) rfl rfl ?_
        refine mr_isub (pc := 35) rfl ?_
        refine mr_mabs (pc := 36) rfl rfl (by decide) (Nat.le_of_ble_eq_true rfl) (Nat.le_of_ble_eq_true rfl) (Nat.le_of_ble_eq_true rfl) ?_
        refine ms_istore (pc := 39) (L' := [some (.ref 0), some (.int (a1)), some (.int (a2)), some (.int ((X.2.2.2.2.2.1) ((a1) : Int32).toNatClampNeg)), some (.int (if 0 ≤ (((a2) - ((X.2.2.2.2.2.1) ((a1) : Int32).toNatClampNeg)) : Int32) then ((a2) - ((X.2.2.2.2.2.1) ((a1) : Int32).toNatClampNeg)) else 0 - ((a2) - ((X.2.2.2.2.2.1) ((a1) : Int32).toNatClampNeg)))), none, none]) rfl (by decide) rfl rfl ?_
        refine mr_iconst (pc := 41) (v := 0) rfl (by decide) ?_
        refine ms_istore (pc := 42) (L' := [some (.ref 0), some (.int (a1)), some (.int (a2)), some (.int ((X.2.2.2.2.2.1) ((a1) : Int32).toNatClampNeg)), some (.int (if 0 ≤ (((a2) - ((X.2.2.2.2.2.1) ((a1) : Int32).toNatClampNeg)) : Int32) then ((a2) - ((X.2.2.2.2.2.1) ((a1) : Int32).toNatClampNeg)) else 0 - ((a2) - ((X.2.2.2.2.2.1) ((a1) : Int32).toNatClampNeg)))), some (.int (0)), none]) rfl (by decide) rfl rfl ?_
        exact FL_X0_fly_44 mK _ _ _ _ _ _ _ _ h
      · have h := (if_pos c21).symm.trans h
        refine mr_bipush (pc := 24) (v := 10) rfl (by decide) ?_
        refine mr_aload_n (pc := 26) (x := 0) rfl rfl ?_
        refine mr_iconst (pc := 27) (v := 1) rfl (by decide) ?_
        rcases bI_inv h with ⟨v28, X28, hc28, h⟩ | ⟨E28, X28, hc28, hr⟩
        · refine mr_ret (mRunV (pc := 28) (q := 0) (As := [.int (1)]) (rest := [.int (10)]) rfl lkRX0_183 rfl rfl rfl (Nat.le_of_ble_eq_true rfl) (Nat.le_of_ble_eq_true rfl) (F_X0_failing hc28)) rfl (Nat.le_of_ble_eq_true rfl) (Nat.le_of_ble_eq_true rfl) ?_
          refine mr_imul (pc := 31) rfl ?_
          cases h; exact mr_ireturn (pc := 32) rfl rfl (Nat.le_of_ble_eq_true rfl) (Nat.le_of_ble_eq_true rfl)
        · cases hr; exact mr_thrown (mRunV (pc := 28) (q := 0) (As := [.int (1)]) (rest := [.int (10)]) rfl lkRX0_183 rfl rfl rfl (Nat.le_of_ble_eq_true rfl) (Nat.le_of_ble_eq_true rfl) (F_X0_failing hc28)) rfl rfl (Nat.le_of_ble_eq_true rfl) (Nat.le_of_ble_eq_true rfl)
    · cases hr; exact mr_thrown (mRunV (pc := 18) (q := 0) (As := [.int ((X.2.2.2.2.2.1) ((a1) : Int32).toNatClampNeg), .int (a2)]) (rest := []) rfl lkRX0_192 rfl rfl rfl (Nat.le_of_ble_eq_true rfl) (Nat.le_of_ble_eq_true rfl) (F_X0_holdAll hc18)) rfl rfl (Nat.le_of_ble_eq_true rfl) (Nat.le_of_ble_eq_true rfl)
  · have h := (if_pos c9).symm.trans h
    refine mr_bipush (pc := 12) (v := -20) rfl (by decide) ?_
    cases h; exact mr_ireturn (pc := 14) rfl rfl (Nat.le_of_ble_eq_true rfl) (Nat.le_of_ble_eq_true rfl)
def g_X0_flight (X : cS) (a1 a2 : Int32) : Option (mO × cS) := cV (g_X0_checkBoat (a1)) X (cV (g_X0_checkPool (a2)) X (bI (g_X0_fly X (a1) (a2)) (fun v11 X11 => if 0 ≤ ((v11) : Int32) then (cI (g_X0_answered (v11)) X11 (fun v27 => some (.inl (some (.int (v27))), X11))) else (if ¬ ((10) : Int32) = 0 then (cI (g_X0_answered ((v11) / (10))) X11 (fun v27 => some (.inl (some (.int (v27))), X11))) else none))))
set_option maxRecDepth 100000 in
set_option maxHeartbeats 4000000 in
theorem F_X0_flight {S : Nat × (Nat → Int32)} {T : mH} {X R9 : cS} {o9 : mO} {a1 a2 : Int32} (h : g_X0_flight X a1 a2 = some (o9, R9)) : mF S MX0_flight 0 (mEnt [.ref 0, .int a1, .int a2] 4) [] (xw X T) 0 0 (o9, (xw R9 T), 3, 24) := by
  unfold g_X0_flight at h
  refine mr_iload_n (pc := 0) (x := a1) rfl rfl ?_
  rcases cV_inv h with ⟨hc1, h⟩ | ⟨E1, hc1, hr⟩
  · refine mr_ret (mRunS (pc := 1) (As := [.int (a1)]) (rest := []) rfl lkRX0_67 rfl (Nat.le_of_ble_eq_true rfl) (Nat.le_of_ble_eq_true rfl) (F_X0_checkBoat hc1)) rfl (Nat.le_of_ble_eq_true rfl) (Nat.le_of_ble_eq_true rfl) ?_
    refine mr_iload_n (pc := 4) (x := a2) rfl rfl ?_
    rcases cV_inv h with ⟨hc5, h⟩ | ⟨E5, hc5, hr⟩
    · refine mr_ret (mRunS (pc := 5) (As := [.int (a2)]) (rest := []) rfl lkRX0_34 rfl (Nat.le_of_ble_eq_true rfl) (Nat.le_of_ble_eq_true rfl) (F_X0_checkPool hc5)) rfl (Nat.le_of_ble_eq_true rfl) (Nat.le_of_ble_eq_true rfl) ?_
      refine mr_aload_n (pc := 8) (x := 0) rfl rfl ?_
      refine mr_iload_n (pc := 9) (x := a1) rfl rfl ?_
      refine mr_iload_n (pc := 10) (x := a2) rfl rfl ?_
      rcases bI_inv h with ⟨v11, X11, hc11, h⟩ | ⟨E11, X11, hc11, hr⟩
      · refine mr_ret (mRunV (pc := 11) (q := 0) (As := [.int (a1), .int (a2)]) (rest := []) rfl lkRX0_98 rfl rfl rfl (Nat.le_of_ble_eq_true rfl) (Nat.le_of_ble_eq_true rfl) (F_X0_fly hc11)) rfl (Nat.le_of_ble_eq_true rfl) (Nat.le_of_ble_eq_true rfl) ?_
        refine ms_istore_n (pc := 14) (L' := [some (.ref 0), some (.int (a1)), some (.int (a2)), some (.int (v11))]) rfl (by decide) rfl rfl ?_
        refine mr_iload_n (pc := 15) (x := v11) rfl rfl ?_
        refine mr_if_ge (pc := 16) 26 rfl (by decide) (fun c16 => ?_) (fun c16 => ?_)
        · have h := (if_pos c16).symm.trans h
          refine mr_iload_n (pc := 26) (x := v11) rfl rfl ?_
          rcases cI_inv h with ⟨v27, hc27, h⟩ | ⟨E27, hc27, hr⟩
          · refine mr_ret (mRunS (pc := 27) (As := [.int (v11)]) (rest := []) rfl lkRX0_50 rfl (Nat.le_of_ble_eq_true rfl) (Nat.le_of_ble_eq_true rfl) (F_X0_answered hc27)) rfl (Nat.le_of_ble_eq_true rfl) (Nat.le_of_ble_eq_true rfl) ?_
            cases h; exact mr_ireturn (pc := 30) rfl rfl (Nat.le_of_ble_eq_true rfl) (Nat.le_of_ble_eq_true rfl)
          · cases hr; exact mr_thrown (mRunS (pc := 27) (As := [.int (v11)]) (rest := []) rfl lkRX0_50 rfl (Nat.le_of_ble_eq_true rfl) (Nat.le_of_ble_eq_true rfl) (F_X0_answered hc27)) rfl rfl (Nat.le_of_ble_eq_true rfl) (Nat.le_of_ble_eq_true rfl)
        · have h := (if_neg c16).symm.trans h
          refine mr_iload_n (pc := 19) (x := v11) rfl rfl ?_
          refine mr_bipush (pc := 20) (v := 10) rfl (by decide) ?_
          obtain ⟨g22, h⟩ := m_gd h
          refine mr_idiv (pc := 22) rfl g22 ?_
          refine mr_goto (pc := 23) 27 rfl (by decide) ?_
          rcases cI_inv h with ⟨v27, hc27, h⟩ | ⟨E27, hc27, hr⟩
          · refine mr_ret (mRunS (pc := 27) (As := [.int ((v11) / (10))]) (rest := []) rfl lkRX0_50 rfl (Nat.le_of_ble_eq_true rfl) (Nat.le_of_ble_eq_true rfl) (F_X0_answered hc27)) rfl (Nat.le_of_ble_eq_true rfl) (Nat.le_of_ble_eq_true rfl) ?_
            cases h; exact mr_ireturn (pc := 30) rfl rfl (Nat.le_of_ble_eq_true rfl) (Nat.le_of_ble_eq_true rfl)
          · cases hr; exact mr_thrown (mRunS (pc := 27) (As := [.int ((v11) / (10))]) (rest := []) rfl lkRX0_50 rfl (Nat.le_of_ble_eq_true rfl) (Nat.le_of_ble_eq_true rfl) (F_X0_answered hc27)) rfl rfl (Nat.le_of_ble_eq_true rfl) (Nat.le_of_ble_eq_true rfl)
      · cases hr; exact mr_thrown (mRunV (pc := 11) (q := 0) (As := [.int (a1), .int (a2)]) (rest := []) rfl lkRX0_98 rfl rfl rfl (Nat.le_of_ble_eq_true rfl) (Nat.le_of_ble_eq_true rfl) (F_X0_fly hc11)) rfl rfl (Nat.le_of_ble_eq_true rfl) (Nat.le_of_ble_eq_true rfl)
    · cases hr; exact mr_thrown (mRunS (pc := 5) (As := [.int (a2)]) (rest := []) rfl lkRX0_34 rfl (Nat.le_of_ble_eq_true rfl) (Nat.le_of_ble_eq_true rfl) (F_X0_checkPool hc5)) rfl rfl (Nat.le_of_ble_eq_true rfl) (Nat.le_of_ble_eq_true rfl)
  · cases hr; exact mr_thrown (mRunS (pc := 1) (As := [.int (a1)]) (rest := []) rfl lkRX0_67 rfl (Nat.le_of_ble_eq_true rfl) (Nat.le_of_ble_eq_true rfl) (F_X0_checkBoat hc1)) rfl rfl (Nat.le_of_ble_eq_true rfl) (Nat.le_of_ble_eq_true rfl)
def g_X0_trip (X : cS) (a1 a2 : Int32) : Option (mO × cS) := cV (g_X0_checkBoat (a1)) X (cV (g_X0_checkPool (a2)) X (bI (g_X0_fly X (a1) (a2)) (fun v11 X11 => some (.inl (some (.int (v11))), X11))))
set_option maxRecDepth 100000 in
set_option maxHeartbeats 4000000 in
theorem F_X0_trip {S : Nat × (Nat → Int32)} {T : mH} {X R9 : cS} {o9 : mO} {a1 a2 : Int32} (h : g_X0_trip X a1 a2 = some (o9, R9)) : mF S MX0_trip 0 (mEnt [.ref 0, .int a1, .int a2] 3) [] (xw X T) 0 0 (o9, (xw R9 T), 2, 16) := by
  unfold g_X0_trip at h
  refine mr_iload_n (pc := 0) (x := a1) rfl rfl ?_
  rcases cV_inv h with ⟨hc1, h⟩ | ⟨E1, hc1, hr⟩
  · refine mr_ret (mRunS (pc := 1) (As := [.int (a1)]) (rest := []) rfl lkRX0_67 rfl (Nat.le_of_ble_eq_true rfl) (Nat.le_of_ble_eq_true rfl) (F_X0_checkBoat hc1)) rfl (Nat.le_of_ble_eq_true rfl) (Nat.le_of_ble_eq_true rfl) ?_
    refine mr_iload_n (pc := 4) (x := a2) rfl rfl ?_
    rcases cV_inv h with ⟨hc5, h⟩ | ⟨E5, hc5, hr⟩
    · refine mr_ret (mRunS (pc := 5) (As := [.int (a2)]) (rest := []) rfl lkRX0_34 rfl (Nat.le_of_ble_eq_true rfl) (Nat.le_of_ble_eq_true rfl) (F_X0_checkPool hc5)) rfl (Nat.le_of_ble_eq_true rfl) (Nat.le_of_ble_eq_true rfl) ?_
      refine mr_aload_n (pc := 8) (x := 0) rfl rfl ?_
      refine mr_iload_n (pc := 9) (x := a1) rfl rfl ?_
      refine mr_iload_n (pc := 10) (x := a2) rfl rfl ?_
      rcases bI_inv h with ⟨v11, X11, hc11, h⟩ | ⟨E11, X11, hc11, hr⟩
      · refine mr_ret (mRunV (pc := 11) (q := 0) (As := [.int (a1), .int (a2)]) (rest := []) rfl lkRX0_98 rfl rfl rfl (Nat.le_of_ble_eq_true rfl) (Nat.le_of_ble_eq_true rfl) (F_X0_fly hc11)) rfl (Nat.le_of_ble_eq_true rfl) (Nat.le_of_ble_eq_true rfl) ?_
        cases h; exact mr_ireturn (pc := 14) rfl rfl (Nat.le_of_ble_eq_true rfl) (Nat.le_of_ble_eq_true rfl)
      · cases hr; exact mr_thrown (mRunV (pc := 11) (q := 0) (As := [.int (a1), .int (a2)]) (rest := []) rfl lkRX0_98 rfl rfl rfl (Nat.le_of_ble_eq_true rfl) (Nat.le_of_ble_eq_true rfl) (F_X0_fly hc11)) rfl rfl (Nat.le_of_ble_eq_true rfl) (Nat.le_of_ble_eq_true rfl)
    · cases hr; exact mr_thrown (mRunS (pc := 5) (As := [.int (a2)]) (rest := []) rfl lkRX0_34 rfl (Nat.le_of_ble_eq_true rfl) (Nat.le_of_ble_eq_true rfl) (F_X0_checkPool hc5)) rfl rfl (Nat.le_of_ble_eq_true rfl) (Nat.le_of_ble_eq_true rfl)
  · cases hr; exact mr_thrown (mRunS (pc := 1) (As := [.int (a1)]) (rest := []) rfl lkRX0_67 rfl (Nat.le_of_ble_eq_true rfl) (Nat.le_of_ble_eq_true rfl) (F_X0_checkBoat hc1)) rfl rfl (Nat.le_of_ble_eq_true rfl) (Nat.le_of_ble_eq_true rfl)
def g_X0_canSetOut (X : cS) (a1 a2 : Int32) : Option (mO × cS) := if vpb (a1) 10 then (if (((X.2.2.2.2.2.1) ((a1) : Int32).toNatClampNeg) : Int32) = (((-1)) : Int32) then (some (.inl (some (.int (0))), X)) else (if vpb (a1) 10 then (cI (g_X0_hasGate ((X.2.2.2.2.2.1) ((a1) : Int32).toNatClampNeg) (a2)) X (fun v17 => if ((v17) : Int32) = 0 then (some (.inl (some (.int (0))), X)) else (some (.inl (some (.int (1))), X)))) else none)) else none
set_option maxRecDepth 100000 in
set_option maxHeartbeats 4000000 in
theorem F_X0_canSetOut {S : Nat × (Nat → Int32)} {T : mH} {X R9 : cS} {o9 : mO} {a1 a2 : Int32} (h : g_X0_canSetOut X a1 a2 = some (o9, R9)) : mF S MX0_canSetOut 0 (mEnt [.ref 0, .int a1, .int a2] 3) [] (xw X T) 0 0 (o9, (xw R9 T), 0, 0) := by
  unfold g_X0_canSetOut at h
  refine mr_aload_n (pc := 0) (x := 0) rfl rfl ?_
  refine mr_getfield (pc := 1) (v := .ref 6) rfl lfRX0_25 rfl rfl ?_
  refine mr_iload_n (pc := 4) (x := a1) rfl rfl ?_
  obtain ⟨g5, h⟩ := m_gd h
  refine mr_iaload (pc := 5) (f := X.2.2.2.2.2.1) rfl rfl (vpb_in g5) ?_
  refine mr_iconst (pc := 6) (v := -1) rfl (by decide) ?_
  refine mr_icmp_eq (pc := 7) 27 rfl (by decide) (fun c7 => ?_) (fun c7 => ?_)
  · have h := (if_pos c7).symm.trans h
    refine mr_iconst (pc := 27) (v := 0) rfl (by decide) ?_
    cases h; exact mr_zreturn (pc := 28) rfl rfl (Or.inl rfl) (Nat.le_of_ble_eq_true rfl) (Nat.le_of_ble_eq_true rfl)
  · have h := (if_neg c7).symm.trans h
    refine mr_aload_n (pc := 10) (x := 0) rfl rfl ?_
    refine mr_getfield (pc := 11) (v := .ref 6) rfl lfRX0_25 rfl rfl ?_
    refine mr_iload_n (pc := 14) (x := a1) rfl rfl ?_
    obtain ⟨g15, h⟩ := m_gd h
    refine mr_iaload (pc := 15) (f := X.2.2.2.2.2.1) rfl rfl (vpb_in g15) ?_
    refine mr_iload_n (pc := 16) (x := a2) rfl rfl ?_
    rcases cI_inv h with ⟨v17, hc17, h⟩ | ⟨E17, hc17, hr⟩
    · refine mr_ret (mRunS (pc := 17) (As := [.int ((X.2.2.2.2.2.1) ((a1) : Int32).toNatClampNeg), .int (a2)]) (rest := []) rfl lkRX0_85 rfl (Nat.le_of_ble_eq_true rfl) (Nat.le_of_ble_eq_true rfl) (F_X0_hasGate hc17)) rfl (Nat.le_of_ble_eq_true rfl) (Nat.le_of_ble_eq_true rfl) ?_
      refine mr_if_eq (pc := 20) 27 rfl (by decide) (fun c20 => ?_) (fun c20 => ?_)
      · have h := (if_pos c20).symm.trans h
        refine mr_iconst (pc := 27) (v := 0) rfl (by decide) ?_
        cases h; exact mr_zreturn (pc := 28) rfl rfl (Or.inl rfl) (Nat.le_of_ble_eq_true rfl) (Nat.le_of_ble_eq_true rfl)
      · have h := (if_neg c20).symm.trans h
        refine mr_iconst (pc := 23) (v := 1) rfl (by decide) ?_
        refine mr_goto (pc := 24) 28 rfl (by decide) ?_
        cases h; exact mr_zreturn (pc := 28) rfl rfl (Or.inr rfl) (Nat.le_of_ble_eq_true rfl) (Nat.le_of_ble_eq_true rfl)
    · cases hr; exact mr_thrown (mRunS (pc := 17) (As := [.int ((X.2.2.2.2.2.1) ((a1) : Int32).toNatClampNeg), .int (a2)]) (rest := []) rfl lkRX0_85 rfl (Nat.le_of_ble_eq_true rfl) (Nat.le_of_ble_eq_true rfl) (F_X0_hasGate hc17)) rfl rfl (Nat.le_of_ble_eq_true rfl) (Nat.le_of_ble_eq_true rfl)
def g_X0_passInConvoy (X : cS) (a1 a2 : Int32) : Option (mO × cS) := bI (g_X0_passBoat X (a1) (a2)) (fun v3 X3 => if ((v3) : Int32) = (((-4)) : Int32) then (bI (g_X0_passBoat X3 (a1) (a2)) (fun v16 X16 => some (.inl (some (.int (v16))), X16))) else (some (.inl (some (.int (v3))), X3)))
set_option maxRecDepth 100000 in
set_option maxHeartbeats 4000000 in
theorem F_X0_passInConvoy {S : Nat × (Nat → Int32)} {T : mH} {X R9 : cS} {o9 : mO} {a1 a2 : Int32} (h : g_X0_passInConvoy X a1 a2 = some (o9, R9)) : mF S MX0_passInConvoy 0 (mEnt [.ref 0, .int a1, .int a2] 4) [] (xw X T) 0 0 (o9, (xw R9 T), 0, 0) := by
  unfold g_X0_passInConvoy at h
  refine mr_aload_n (pc := 0) (x := 0) rfl rfl ?_
  refine mr_iload_n (pc := 1) (x := a1) rfl rfl ?_
  refine mr_iload_n (pc := 2) (x := a2) rfl rfl ?_
  rcases bI_inv h with ⟨v3, X3, hc3, h⟩ | ⟨E3, X3, hc3, hr⟩
  · refine mr_ret (mRunV (pc := 3) (q := 0) (As := [.int (a1), .int (a2)]) (rest := []) rfl lkRX0_94 rfl rfl rfl (Nat.le_of_ble_eq_true rfl) (Nat.le_of_ble_eq_true rfl) (F_X0_passBoat hc3)) rfl (Nat.le_of_ble_eq_true rfl) (Nat.le_of_ble_eq_true rfl) ?_
    refine ms_istore_n (pc := 6) (L' := [some (.ref 0), some (.int (a1)), some (.int (a2)), some (.int (v3))]) rfl (by decide) rfl rfl ?_
    refine mr_iload_n (pc := 7) (x := v3) rfl rfl ?_
    refine mr_bipush (pc := 8) (v := -4) rfl (by decide) ?_
    refine mr_icmp_ne (pc := 10) 22 rfl (by decide) (fun c10 => ?_) (fun c10 => ?_)
    · have h := (if_neg c10).symm.trans h
      refine mr_iload_n (pc := 22) (x := v3) rfl rfl ?_
      cases h; exact mr_ireturn (pc := 23) rfl rfl (Nat.le_of_ble_eq_true rfl) (Nat.le_of_ble_eq_true rfl)
    · have h := (if_pos c10).symm.trans h
      refine mr_aload_n (pc := 13) (x := 0) rfl rfl ?_
      refine mr_iload_n (pc := 14) (x := a1) rfl rfl ?_
      refine mr_iload_n (pc := 15) (x := a2) rfl rfl ?_
      rcases bI_inv h with ⟨v16, X16, hc16, h⟩ | ⟨E16, X16, hc16, hr⟩
      · refine mr_ret (mRunV (pc := 16) (q := 0) (As := [.int (a1), .int (a2)]) (rest := []) rfl lkRX0_94 rfl rfl rfl (Nat.le_of_ble_eq_true rfl) (Nat.le_of_ble_eq_true rfl) (F_X0_passBoat hc16)) rfl (Nat.le_of_ble_eq_true rfl) (Nat.le_of_ble_eq_true rfl) ?_
        refine mr_goto (pc := 19) 23 rfl (by decide) ?_
        cases h; exact mr_ireturn (pc := 23) rfl rfl (Nat.le_of_ble_eq_true rfl) (Nat.le_of_ble_eq_true rfl)
      · cases hr; exact mr_thrown (mRunV (pc := 16) (q := 0) (As := [.int (a1), .int (a2)]) (rest := []) rfl lkRX0_94 rfl rfl rfl (Nat.le_of_ble_eq_true rfl) (Nat.le_of_ble_eq_true rfl) (F_X0_passBoat hc16)) rfl rfl (Nat.le_of_ble_eq_true rfl) (Nat.le_of_ble_eq_true rfl)
  · cases hr; exact mr_thrown (mRunV (pc := 3) (q := 0) (As := [.int (a1), .int (a2)]) (rest := []) rfl lkRX0_94 rfl rfl rfl (Nat.le_of_ble_eq_true rfl) (Nat.le_of_ble_eq_true rfl) (F_X0_passBoat hc3)) rfl rfl (Nat.le_of_ble_eq_true rfl) (Nat.le_of_ble_eq_true rfl)
def g_X0_convoy_13 : Nat → cS → Int32 → Int32 → Int32 → Int32 → Option (mO × cS)
  | 0, _, _, _, _, _ => none
  | f9 + 1, X, b1, b2, b3, b4 => if ((10) : Int32) ≤ ((b4) : Int32) then (some (.inl (some (.int (b3))), X)) else (if ((((b1) >>> ((b4) &&& 31)) &&& (1)) : Int32) = ((1) : Int32) then (bI (g_X0_canSetOut X (b4) (b2)) (fun v34 X34 => if ((v34) : Int32) = 0 then (g_X0_convoy_13 f9 X34 (b1) (b2) (b3) (b4 + 1)) else (bI (g_X0_passInConvoy X34 (b4) (b2)) (fun v44 X44 => if ((v44) : Int32) = (((-2)) : Int32) then (some (.inl (some (.int (b3))), X44)) else (if ((v44) : Int32) < 0 then (g_X0_convoy_13 f9 X44 (b1) (b2) ((b3) + (0)) (b4 + 1)) else (g_X0_convoy_13 f9 X44 (b1) (b2) ((b3) + (1)) (b4 + 1))))))) else (g_X0_convoy_13 f9 X (b1) (b2) (b3) (b4 + 1)))
set_option maxRecDepth 100000 in
set_option maxHeartbeats 4000000 in
theorem FL_X0_convoy_13 {S : Nat × (Nat → Int32)} {T : mH} : ∀ (f9 : Nat) (X : cS) (b1 b2 b3 b4 : Int32) (o9 : mO) (R9 : cS), g_X0_convoy_13 f9 X b1 b2 b3 b4 = some (o9, R9) → mF S MX0_convoy 13 [some (.ref 0), some (.int (b1)), some (.int (b2)), some (.int (b3)), some (.int (b4)), none] [] (xw X T) 1 8 (o9, (xw R9 T), 1, 8) := by
  intro f9
  induction f9 with
  | zero => intro X b1 b2 b3 b4 o9 R9 h; cases h
  | succ f9 ih9 =>
    intro X b1 b2 b3 b4 o9 R9 h
    rw [g_X0_convoy_13] at h
    refine mr_iload (pc := 13) (x := b4) rfl rfl ?_
    refine mr_bipush (pc := 15) (v := 10) rfl (by decide) ?_
    refine mr_icmp_ge (pc := 17) 78 rfl (by decide) (fun c17 => ?_) (fun c17 => ?_)
    · have h := (if_pos c17).symm.trans h
      refine mr_iload_n (pc := 78) (x := b3) rfl rfl ?_
      cases h; exact mr_ireturn (pc := 79) rfl rfl (Nat.le_of_ble_eq_true rfl) (Nat.le_of_ble_eq_true rfl)
    · have h := (if_neg c17).symm.trans h
      refine mr_iload_n (pc := 20) (x := b1) rfl rfl ?_
      refine mr_iload (pc := 21) (x := b4) rfl rfl ?_
      refine mr_ishr (pc := 23) rfl ?_
      refine mr_iconst (pc := 24) (v := 1) rfl (by decide) ?_
      refine mr_iand (pc := 25) rfl ?_
      refine mr_iconst (pc := 26) (v := 1) rfl (by decide) ?_
      refine mr_icmp_ne (pc := 27) 72 rfl (by decide) (fun c27 => ?_) (fun c27 => ?_)
      · have h := (if_neg c27).symm.trans h
        refine ms_iinc (pc := 72) (x := b4) (v := 1) (L' := [some (.ref 0), some (.int (b1)), some (.int (b2)), some (.int (b3)), some (.int (b4 + 1)), none]) rfl rfl (by decide) (by decide) rfl rfl ?_
        refine mr_goto (pc := 75) 13 rfl (by decide) ?_
        exact ih9 _ _ _ _ _ _ _ h
      · have h := (if_pos c27).symm.trans h
        refine mr_aload_n (pc := 30) (x := 0) rfl rfl ?_
        refine mr_iload (pc := 31) (x := b4) rfl rfl ?_
        refine mr_iload_n (pc := 33) (x := b2) rfl rfl ?_
        rcases bI_inv h with ⟨v34, X34, hc34, h⟩ | ⟨E34, X34, hc34, hr⟩
        · refine mr_ret (mRunV (pc := 34) (q := 0) (As := [.int (b4), .int (b2)]) (rest := []) rfl lkRX0_101 rfl rfl rfl (Nat.le_of_ble_eq_true rfl) (Nat.le_of_ble_eq_true rfl) (F_X0_canSetOut hc34)) rfl (Nat.le_of_ble_eq_true rfl) (Nat.le_of_ble_eq_true rfl) ?_
          refine mr_if_eq (pc := 37) 72 rfl (by decide) (fun c37 => ?_) (fun c37 => ?_)
          · have h := (if_pos c37).symm.trans h
            refine ms_iinc (pc := 72) (x := b4) (v := 1) (L' := [some (.ref 0), some (.int (b1)), some (.int (b2)), some (.int (b3)), some (.int (b4 + 1)), none]) rfl rfl (by decide) (by decide) rfl rfl ?_
            refine mr_goto (pc := 75) 13 rfl (by decide) ?_
            exact ih9 _ _ _ _ _ _ _ h
          · have h := (if_neg c37).symm.trans h
            refine mr_aload_n (pc := 40) (x := 0) rfl rfl ?_
            refine mr_iload (pc := 41) (x := b4) rfl rfl ?_
            refine mr_iload_n (pc := 43) (x := b2) rfl rfl ?_
            rcases bI_inv h with ⟨v44, X44, hc44, h⟩ | ⟨E44, X44, hc44, hr⟩
            · refine mr_ret (mRunV (pc := 44) (q := 0) (As := [.int (b4), .int (b2)]) (rest := []) rfl lkRX0_104 rfl rfl rfl (Nat.le_of_ble_eq_true rfl) (Nat.le_of_ble_eq_true rfl) (F_X0_passInConvoy hc44)) rfl (Nat.le_of_ble_eq_true rfl) (Nat.le_of_ble_eq_true rfl) ?_
              refine ms_istore (pc := 47) (L' := [some (.ref 0), some (.int (b1)), some (.int (b2)), some (.int (b3)), some (.int (b4)), some (.int (v44))]) rfl (by decide) rfl rfl ?_
              refine mr_iload (pc := 49) (x := v44) rfl rfl ?_
              refine mr_bipush (pc := 51) (v := -2) rfl (by decide) ?_
              refine mr_icmp_ne (pc := 53) 59 rfl (by decide) (fun c53 => ?_) (fun c53 => ?_)
              · have h := (if_neg c53).symm.trans h
                refine mr_iload_n (pc := 59) (x := b3) rfl rfl ?_
                refine mr_iload (pc := 60) (x := v44) rfl rfl ?_
                refine mr_if_lt (pc := 62) 69 rfl (by decide) (fun c62 => ?_) (fun c62 => ?_)
                · have h := (if_pos c62).symm.trans h
                  refine mr_iconst (pc := 69) (v := 0) rfl (by decide) ?_
                  refine mr_iadd (pc := 70) rfl ?_
                  refine ms_istore_n (pc := 71) (L' := [some (.ref 0), some (.int (b1)), some (.int (b2)), some (.int ((b3) + (0))), some (.int (b4)), some (.int (v44))]) rfl (by decide) rfl rfl ?_
                  refine ms_iinc (pc := 72) (x := b4) (v := 1) (L' := [some (.ref 0), some (.int (b1)), some (.int (b2)), some (.int ((b3) + (0))), some (.int (b4 + 1)), some (.int (v44))]) rfl rfl (by decide) (by decide) rfl rfl ?_
                  refine mr_goto (pc := 75) 13 rfl (by decide) ?_
                  refine ms_drop (i := 5) (L' := [some (.ref 0), some (.int (b1)), some (.int (b2)), some (.int ((b3) + (0))), some (.int (b4 + 1)), none]) rfl ?_
                  exact ih9 _ _ _ _ _ _ _ h
                · have h := (if_neg c62).symm.trans h
                  refine mr_iconst (pc := 65) (v := 1) rfl (by decide) ?_
                  refine mr_goto (pc := 66) 70 rfl (by decide) ?_
                  refine mr_iadd (pc := 70) rfl ?_
                  refine ms_istore_n (pc := 71) (L' := [some (.ref 0), some (.int (b1)), some (.int (b2)), some (.int ((b3) + (1))), some (.int (b4)), some (.int (v44))]) rfl (by decide) rfl rfl ?_
                  refine ms_iinc (pc := 72) (x := b4) (v := 1) (L' := [some (.ref 0), some (.int (b1)), some (.int (b2)), some (.int ((b3) + (1))), some (.int (b4 + 1)), some (.int (v44))]) rfl rfl (by decide) (by decide) rfl rfl ?_
                  refine mr_goto (pc := 75) 13 rfl (by decide) ?_
                  refine ms_drop (i := 5) (L' := [some (.ref 0), some (.int (b1)), some (.int (b2)), some (.int ((b3) + (1))), some (.int (b4 + 1)), none]) rfl ?_
                  exact ih9 _ _ _ _ _ _ _ h
              · have h := (if_pos c53).symm.trans h
                refine mr_goto (pc := 56) 78 rfl (by decide) ?_
                refine mr_iload_n (pc := 78) (x := b3) rfl rfl ?_
                cases h; exact mr_ireturn (pc := 79) rfl rfl (Nat.le_of_ble_eq_true rfl) (Nat.le_of_ble_eq_true rfl)
            · cases hr; exact mr_thrown (mRunV (pc := 44) (q := 0) (As := [.int (b4), .int (b2)]) (rest := []) rfl lkRX0_104 rfl rfl rfl (Nat.le_of_ble_eq_true rfl) (Nat.le_of_ble_eq_true rfl) (F_X0_passInConvoy hc44)) rfl rfl (Nat.le_of_ble_eq_true rfl) (Nat.le_of_ble_eq_true rfl)
        · cases hr; exact mr_thrown (mRunV (pc := 34) (q := 0) (As := [.int (b4), .int (b2)]) (rest := []) rfl lkRX0_101 rfl rfl rfl (Nat.le_of_ble_eq_true rfl) (Nat.le_of_ble_eq_true rfl) (F_X0_canSetOut hc34)) rfl rfl (Nat.le_of_ble_eq_true rfl) (Nat.le_of_ble_eq_true rfl)
def g_X0_convoy (X : cS) (a1 a2 : Int32) : Option (mO × cS) := cV (g_X0_checkRange (a1) (0) (1023)) X (g_X0_convoy_13 mK X (a1) (a2) (0) (0))
set_option maxRecDepth 100000 in
set_option maxHeartbeats 4000000 in
theorem F_X0_convoy {S : Nat × (Nat → Int32)} {T : mH} {X R9 : cS} {o9 : mO} {a1 a2 : Int32} (h : g_X0_convoy X a1 a2 = some (o9, R9)) : mF S MX0_convoy 0 (mEnt [.ref 0, .int a1, .int a2] 6) [] (xw X T) 0 0 (o9, (xw R9 T), 1, 8) := by
  unfold g_X0_convoy at h
  refine mr_iload_n (pc := 0) (x := a1) rfl rfl ?_
  refine mr_iconst (pc := 1) (v := 0) rfl (by decide) ?_
  refine mr_sipush (pc := 2) (v := 1023) rfl (by decide) ?_
  rcases cV_inv h with ⟨hc5, h⟩ | ⟨E5, hc5, hr⟩
  · refine mr_ret (mRunS (pc := 5) (As := [.int (a1), .int (0), .int (1023)]) (rest := []) rfl lkRX0_38 rfl (Nat.le_of_ble_eq_true rfl) (Nat.le_of_ble_eq_true rfl) (F_X0_checkRange hc5)) rfl (Nat.le_of_ble_eq_true rfl) (Nat.le_of_ble_eq_true rfl) ?_
    refine mr_iconst (pc := 8) (v := 0) rfl (by decide) ?_
    refine ms_istore_n (pc := 9) (L' := [some (.ref 0), some (.int (a1)), some (.int (a2)), some (.int (0)), none, none]) rfl (by decide) rfl rfl ?_
    refine mr_iconst (pc := 10) (v := 0) rfl (by decide) ?_
    refine ms_istore (pc := 11) (L' := [some (.ref 0), some (.int (a1)), some (.int (a2)), some (.int (0)), some (.int (0)), none]) rfl (by decide) rfl rfl ?_
    exact FL_X0_convoy_13 mK _ _ _ _ _ _ _ h
  · cases hr; exact mr_thrown (mRunS (pc := 5) (As := [.int (a1), .int (0), .int (1023)]) (rest := []) rfl lkRX0_38 rfl (Nat.le_of_ble_eq_true rfl) (Nat.le_of_ble_eq_true rfl) (F_X0_checkRange hc5)) rfl rfl (Nat.le_of_ble_eq_true rfl) (Nat.le_of_ble_eq_true rfl)
def g_X0_portion (a0 a1 a2 : Int32) : Option mO := if ((a2) : Int32) ≤ 0 then (some (.inl (some (.int (0))))) else (if ¬ ((((a2) : Int32).toInt64) : Int64) = 0 then (some (.inl (some (.int (((((((a0) : Int32).toInt64) * (((a1) : Int32).toInt64)) / (((a2) : Int32).toInt64)) : Int64).toInt32))))) else none)
set_option maxRecDepth 100000 in
set_option maxHeartbeats 4000000 in
theorem F_X0_portion {S : Nat × (Nat → Int32)} {hw : mH} {o9 : mO} {a0 a1 a2 : Int32} (h : g_X0_portion a0 a1 a2 = some o9) : mF S MX0_portion 0 (mEnt [.int a0, .int a1, .int a2] 3) [] hw 0 0 (o9, hw, 0, 0) := by
  unfold g_X0_portion at h
  refine mr_iload_n (pc := 0) (x := a2) rfl rfl ?_
  refine mr_if_le (pc := 1) 16 rfl (by decide) (fun c1 => ?_) (fun c1 => ?_)
  · have h := (if_pos c1).symm.trans h
    refine mr_iconst (pc := 16) (v := 0) rfl (by decide) ?_
    cases h; exact mr_ireturn (pc := 17) rfl rfl (Nat.le_of_ble_eq_true rfl) (Nat.le_of_ble_eq_true rfl)
  · have h := (if_neg c1).symm.trans h
    refine mr_iload_n (pc := 4) (x := a0) rfl rfl ?_
    refine mr_i2l (pc := 5) rfl ?_
    refine mr_iload_n (pc := 6) (x := a1) rfl rfl ?_
    refine mr_i2l (pc := 7) rfl ?_
    refine mr_lmul (pc := 8) rfl ?_
    refine mr_iload_n (pc := 9) (x := a2) rfl rfl ?_
    refine mr_i2l (pc := 10) rfl ?_
    obtain ⟨g11, h⟩ := m_gd h
    refine mr_ldiv (pc := 11) rfl g11 ?_
    refine mr_l2i (pc := 12) rfl ?_
    refine mr_goto (pc := 13) 17 rfl (by decide) ?_
    cases h; exact mr_ireturn (pc := 17) rfl rfl (Nat.le_of_ble_eq_true rfl) (Nat.le_of_ble_eq_true rfl)
