/-! THE METHODS OF X1 AS FUNCTIONS, by program (wip/whole/gencode.py) -/
def g_X1_fill_46 : Nat → rS → Int32 → Int32 → Int32 → Option (mO × rS)
  | 0, _, _, _, _ => none
  | f9 + 1, Y, b1, b2, b3 => if ((10) : Int32) ≤ ((b3) : Int32) then (bV (g_X1_leave Y (1)) (fun Y80 => if vpb (b1) 8 then (some (.inl (some (.int (b2))), (upd (Y80.1) ((b1) : Int32).toNatClampNeg (vp_nar .boolean (0)), Y80.2.1, Y80.2.2.1, Y80.2.2.2.1, Y80.2.2.2.2.1, Y80.2.2.2.2.2.1, Y80.2.2.2.2.2.2.1, Y80.2.2.2.2.2.2.2.1, Y80.2.2.2.2.2.2.2.2.1, Y80.2.2.2.2.2.2.2.2.2.1, Y80.2.2.2.2.2.2.2.2.2.2.1, Y80.2.2.2.2.2.2.2.2.2.2.2.1, Y80.2.2.2.2.2.2.2.2.2.2.2.2.1, Y80.2.2.2.2.2.2.2.2.2.2.2.2.2.1, Y80.2.2.2.2.2.2.2.2.2.2.2.2.2.2))) else none)) else (if vpb (b3) 10 then (if (((Y.2.2.2.2.1) ((b3) : Int32).toNatClampNeg) : Int32) = ((b1) : Int32) then (if vpb (b3) 10 then (g_X1_fill_46 f9 (Y.1, Y.2.1, Y.2.2.1, Y.2.2.2.1, upd (Y.2.2.2.2.1) ((b3) : Int32).toNatClampNeg ((-1)), Y.2.2.2.2.2.1, Y.2.2.2.2.2.2.1, Y.2.2.2.2.2.2.2.1, Y.2.2.2.2.2.2.2.2.1, Y.2.2.2.2.2.2.2.2.2.1, Y.2.2.2.2.2.2.2.2.2.2.1, Y.2.2.2.2.2.2.2.2.2.2.2.1, Y.2.2.2.2.2.2.2.2.2.2.2.2.1, Y.2.2.2.2.2.2.2.2.2.2.2.2.2.1, Y.2.2.2.2.2.2.2.2.2.2.2.2.2.2) (b1) (b2 + 1) (b3 + 1)) else none) else (g_X1_fill_46 f9 Y (b1) (b2) (b3 + 1))) else none)
set_option maxRecDepth 100000 in
set_option maxHeartbeats 4000000 in
theorem FL_X1_fill_46 {S : Nat × (Nat → Int32)} {Z : cS} {T : mH} : ∀ (f9 : Nat) (Y : rS) (b1 b2 b3 : Int32) (o9 : mO) (R9 : rS), g_X1_fill_46 f9 Y b1 b2 b3 = some (o9, R9) → mF S MX1_fill 46 [some (.ref 8), some (.int (b1)), some (.int (b2)), some (.int (b3))] [] (xw Z (yw Y T)) 0 0 (o9, (xw Z (yw R9 T)), 0, 0) := by
  intro f9
  induction f9 with
  | zero => intro Y b1 b2 b3 o9 R9 h; cases h
  | succ f9 ih9 =>
    intro Y b1 b2 b3 o9 R9 h
    rw [g_X1_fill_46] at h
    refine mr_iload_n (pc := 46) (x := b3) rfl rfl ?_
    refine mr_bipush (pc := 47) (v := 10) rfl (by decide) ?_
    refine mr_icmp_ge (pc := 49) 78 rfl (by decide) (fun c49 => ?_) (fun c49 => ?_)
    · have h := (if_pos c49).symm.trans h
      refine mr_aload_n (pc := 78) (x := 8) rfl rfl ?_
      refine mr_iconst (pc := 79) (v := 1) rfl (by decide) ?_
      rcases bV_inv h with ⟨Y80, hc80, h⟩ | ⟨E80, Y80, hc80, hr⟩
      · refine mr_ret (mRunV (pc := 80) (q := 8) (As := [.int (1)]) (rest := []) rfl lkRX1_72 rfl rfl rfl (Nat.le_of_ble_eq_true rfl) (Nat.le_of_ble_eq_true rfl) (F_X1_leave hc80)) rfl (Nat.le_of_ble_eq_true rfl) (Nat.le_of_ble_eq_true rfl) ?_
        refine mr_aload_n (pc := 83) (x := 8) rfl rfl ?_
        refine mr_getfield (pc := 84) (v := .ref 9) rfl lfRX1_7 rfl rfl ?_
        refine mr_iload_n (pc := 87) (x := b1) rfl rfl ?_
        refine mr_iconst (pc := 88) (v := 0) rfl (by decide) ?_
        obtain ⟨g89, h⟩ := m_gd h
        refine ms_bastore (pc := 89) (f := Y80.1) (h' := (xw Z (yw (upd (Y80.1) ((b1) : Int32).toNatClampNeg (vp_nar .boolean (0)), Y80.2.1, Y80.2.2.1, Y80.2.2.2.1, Y80.2.2.2.2.1, Y80.2.2.2.2.2.1, Y80.2.2.2.2.2.2.1, Y80.2.2.2.2.2.2.2.1, Y80.2.2.2.2.2.2.2.2.1, Y80.2.2.2.2.2.2.2.2.2.1, Y80.2.2.2.2.2.2.2.2.2.2.1, Y80.2.2.2.2.2.2.2.2.2.2.2.1, Y80.2.2.2.2.2.2.2.2.2.2.2.2.1, Y80.2.2.2.2.2.2.2.2.2.2.2.2.2.1, Y80.2.2.2.2.2.2.2.2.2.2.2.2.2.2) T))) rfl rfl g89 rfl ?_
        refine mr_iload_n (pc := 90) (x := b2) rfl rfl ?_
        cases h; exact mr_ireturn (pc := 91) rfl rfl (Nat.le_of_ble_eq_true rfl) (Nat.le_of_ble_eq_true rfl)
      · cases hr; exact mr_thrown (mRunV (pc := 80) (q := 8) (As := [.int (1)]) (rest := []) rfl lkRX1_72 rfl rfl rfl (Nat.le_of_ble_eq_true rfl) (Nat.le_of_ble_eq_true rfl) (F_X1_leave hc80)) rfl rfl (Nat.le_of_ble_eq_true rfl) (Nat.le_of_ble_eq_true rfl)
    · have h := (if_neg c49).symm.trans h
      refine mr_aload_n (pc := 52) (x := 8) rfl rfl ?_
      refine mr_getfield (pc := 53) (v := .ref 13) rfl lfRX1_23 rfl rfl ?_
      refine mr_iload_n (pc := 56) (x := b3) rfl rfl ?_
      obtain ⟨g57, h⟩ := m_gd h
      refine mr_iaload (pc := 57) (f := Y.2.2.2.2.1) rfl rfl (vpb_in g57) ?_
      refine mr_iload_n (pc := 58) (x := b1) rfl rfl ?_
      refine mr_icmp_ne (pc := 59) 72 rfl (by decide) (fun c59 => ?_) (fun c59 => ?_)
      · have h := (if_neg c59).symm.trans h
        refine ms_iinc (pc := 72) (x := b3) (v := 1) (L' := [some (.ref 8), some (.int (b1)), some (.int (b2)), some (.int (b3 + 1))]) rfl rfl (by decide) (by decide) rfl rfl ?_
        refine mr_goto (pc := 75) 46 rfl (by decide) ?_
        exact ih9 _ _ _ _ _ _ h
      · have h := (if_pos c59).symm.trans h
        refine mr_aload_n (pc := 62) (x := 8) rfl rfl ?_
        refine mr_getfield (pc := 63) (v := .ref 13) rfl lfRX1_23 rfl rfl ?_
        refine mr_iload_n (pc := 66) (x := b3) rfl rfl ?_
        refine mr_iconst (pc := 67) (v := -1) rfl (by decide) ?_
        obtain ⟨g68, h⟩ := m_gd h
        refine ms_iastore (pc := 68) (f := Y.2.2.2.2.1) (h' := (xw Z (yw (Y.1, Y.2.1, Y.2.2.1, Y.2.2.2.1, upd (Y.2.2.2.2.1) ((b3) : Int32).toNatClampNeg ((-1)), Y.2.2.2.2.2.1, Y.2.2.2.2.2.2.1, Y.2.2.2.2.2.2.2.1, Y.2.2.2.2.2.2.2.2.1, Y.2.2.2.2.2.2.2.2.2.1, Y.2.2.2.2.2.2.2.2.2.2.1, Y.2.2.2.2.2.2.2.2.2.2.2.1, Y.2.2.2.2.2.2.2.2.2.2.2.2.1, Y.2.2.2.2.2.2.2.2.2.2.2.2.2.1, Y.2.2.2.2.2.2.2.2.2.2.2.2.2.2) T))) rfl rfl g68 rfl ?_
        refine ms_iinc (pc := 69) (x := b2) (v := 1) (L' := [some (.ref 8), some (.int (b1)), some (.int (b2 + 1)), some (.int (b3))]) rfl rfl (by decide) (by decide) rfl rfl ?_
        refine ms_iinc (pc := 72) (x := b3) (v := 1) (L' := [some (.ref 8), some (.int (b1)), some (.int (b2 + 1)), some (.int (b3 + 1))]) rfl rfl (by decide) (by decide) rfl rfl ?_
        refine mr_goto (pc := 75) 46 rfl (by decide) ?_
        exact ih9 _ _ _ _ _ _ h
def g_X1_fill (Y : rS) (a1 : Int32) : Option (mO × rS) := cI (g_X1_isPool (a1)) Y (fun v2 => if ((v2) : Int32) = 0 then (if ((1) : Int32) ≤ 0 then (bI (g_X1_hold (Y.1, Y.2.1, Y.2.2.1, Y.2.2.2.1, Y.2.2.2.2.1, Y.2.2.2.2.2.1, Y.2.2.2.2.2.2.1, Y.2.2.2.2.2.2.2.1, 1, Y.2.2.2.2.2.2.2.2.2.1, Y.2.2.2.2.2.2.2.2.2.2.1, Y.2.2.2.2.2.2.2.2.2.2.2.1, Y.2.2.2.2.2.2.2.2.2.2.2.2.1, Y.2.2.2.2.2.2.2.2.2.2.2.2.2.1, Y.2.2.2.2.2.2.2.2.2.2.2.2.2.2) (a1)) (fun v27 Y27 => if ((v27) : Int32) = 0 then (bI (g_X1_told Y27 (2) (0) (0) (0)) (fun v38 Y38 => some (.inl (some (.int (v38))), Y38))) else (g_X1_fill_46 mK Y27 (a1) (0) (0)))) else (some (.inl (some (.int (0))), (Y.1, Y.2.1, Y.2.2.1, Y.2.2.2.1, Y.2.2.2.2.1, Y.2.2.2.2.2.1, Y.2.2.2.2.2.2.1, Y.2.2.2.2.2.2.2.1, 1, Y.2.2.2.2.2.2.2.2.2.1, Y.2.2.2.2.2.2.2.2.2.2.1, Y.2.2.2.2.2.2.2.2.2.2.2.1, Y.2.2.2.2.2.2.2.2.2.2.2.2.1, Y.2.2.2.2.2.2.2.2.2.2.2.2.2.1, Y.2.2.2.2.2.2.2.2.2.2.2.2.2.2)))) else (if ((0) : Int32) ≤ 0 then (bI (g_X1_hold (Y.1, Y.2.1, Y.2.2.1, Y.2.2.2.1, Y.2.2.2.2.1, Y.2.2.2.2.2.1, Y.2.2.2.2.2.2.1, Y.2.2.2.2.2.2.2.1, 0, Y.2.2.2.2.2.2.2.2.2.1, Y.2.2.2.2.2.2.2.2.2.2.1, Y.2.2.2.2.2.2.2.2.2.2.2.1, Y.2.2.2.2.2.2.2.2.2.2.2.2.1, Y.2.2.2.2.2.2.2.2.2.2.2.2.2.1, Y.2.2.2.2.2.2.2.2.2.2.2.2.2.2) (a1)) (fun v27 Y27 => if ((v27) : Int32) = 0 then (bI (g_X1_told Y27 (2) (0) (0) (0)) (fun v38 Y38 => some (.inl (some (.int (v38))), Y38))) else (g_X1_fill_46 mK Y27 (a1) (0) (0)))) else (some (.inl (some (.int (0))), (Y.1, Y.2.1, Y.2.2.1, Y.2.2.2.1, Y.2.2.2.2.1, Y.2.2.2.2.2.1, Y.2.2.2.2.2.2.1, Y.2.2.2.2.2.2.2.1, 0, Y.2.2.2.2.2.2.2.2.2.1, Y.2.2.2.2.2.2.2.2.2.2.1, Y.2.2.2.2.2.2.2.2.2.2.2.1, Y.2.2.2.2.2.2.2.2.2.2.2.2.1, Y.2.2.2.2.2.2.2.2.2.2.2.2.2.1, Y.2.2.2.2.2.2.2.2.2.2.2.2.2.2)))))
set_option maxRecDepth 100000 in
set_option maxHeartbeats 4000000 in
theorem F_X1_fill {S : Nat × (Nat → Int32)} {Z : cS} {T : mH} {Y R9 : rS} {o9 : mO} {a1 : Int32} (h : g_X1_fill Y a1 = some (o9, R9)) : mF S MX1_fill 0 (mEnt [.ref 8, .int a1] 4) [] (xw Z (yw Y T)) 0 0 (o9, (xw Z (yw R9 T)), 0, 0) := by
  unfold g_X1_fill at h
  refine mr_aload_n (pc := 0) (x := 8) rfl rfl ?_
  refine mr_iload_n (pc := 1) (x := a1) rfl rfl ?_
  rcases cI_inv h with ⟨v2, hc2, h⟩ | ⟨E2, hc2, hr⟩
  · refine mr_ret (mRunS (pc := 2) (As := [.int (a1)]) (rest := [.ref 8]) rfl lkRX1_62 rfl (Nat.le_of_ble_eq_true rfl) (Nat.le_of_ble_eq_true rfl) (F_X1_isPool hc2)) rfl (Nat.le_of_ble_eq_true rfl) (Nat.le_of_ble_eq_true rfl) ?_
    refine mr_if_eq (pc := 5) 12 rfl (by decide) (fun c5 => ?_) (fun c5 => ?_)
    · have h := (if_pos c5).symm.trans h
      refine mr_iconst (pc := 12) (v := 1) rfl (by decide) ?_
      refine ms_putfield (pc := 13) (h' := (xw Z (yw (Y.1, Y.2.1, Y.2.2.1, Y.2.2.2.1, Y.2.2.2.2.1, Y.2.2.2.2.2.1, Y.2.2.2.2.2.2.1, Y.2.2.2.2.2.2.2.1, 1, Y.2.2.2.2.2.2.2.2.2.1, Y.2.2.2.2.2.2.2.2.2.2.1, Y.2.2.2.2.2.2.2.2.2.2.2.1, Y.2.2.2.2.2.2.2.2.2.2.2.2.1, Y.2.2.2.2.2.2.2.2.2.2.2.2.2.1, Y.2.2.2.2.2.2.2.2.2.2.2.2.2.2) T))) rfl lfRX1_38 rfl (Nat.le_of_ble_eq_true rfl) (by intro q hq; cases hq; rfl) rfl ?_
      refine mr_aload_n (pc := 16) (x := 8) rfl rfl ?_
      refine mr_getfield (pc := 17) (v := .int (1)) rfl lfRX1_38 rfl rfl ?_
      refine mr_if_le (pc := 20) 25 rfl (by decide) (fun c20 => ?_) (fun c20 => ?_)
      · have h := (if_pos c20).symm.trans h
        refine mr_aload_n (pc := 25) (x := 8) rfl rfl ?_
        refine mr_iload_n (pc := 26) (x := a1) rfl rfl ?_
        rcases bI_inv h with ⟨v27, Y27, hc27, h⟩ | ⟨E27, Y27, hc27, hr⟩
        · refine mr_ret (mRunV (pc := 27) (q := 8) (As := [.int (a1)]) (rest := []) rfl lkRX1_65 rfl rfl rfl (Nat.le_of_ble_eq_true rfl) (Nat.le_of_ble_eq_true rfl) (F_X1_hold hc27)) rfl (Nat.le_of_ble_eq_true rfl) (Nat.le_of_ble_eq_true rfl) ?_
          refine mr_if_ne (pc := 30) 42 rfl (by decide) (fun c30 => ?_) (fun c30 => ?_)
          · have h := (if_neg c30).symm.trans h
            refine mr_iconst (pc := 42) (v := 0) rfl (by decide) ?_
            refine ms_istore_n (pc := 43) (L' := [some (.ref 8), some (.int (a1)), some (.int (0)), none]) rfl (by decide) rfl rfl ?_
            refine mr_iconst (pc := 44) (v := 0) rfl (by decide) ?_
            refine ms_istore_n (pc := 45) (L' := [some (.ref 8), some (.int (a1)), some (.int (0)), some (.int (0))]) rfl (by decide) rfl rfl ?_
            exact FL_X1_fill_46 mK _ _ _ _ _ _ h
          · have h := (if_pos c30).symm.trans h
            refine mr_aload_n (pc := 33) (x := 8) rfl rfl ?_
            refine mr_iconst (pc := 34) (v := 2) rfl (by decide) ?_
            refine mr_iconst (pc := 35) (v := 0) rfl (by decide) ?_
            refine mr_iconst (pc := 36) (v := 0) rfl (by decide) ?_
            refine mr_iconst (pc := 37) (v := 0) rfl (by decide) ?_
            rcases bI_inv h with ⟨v38, Y38, hc38, h⟩ | ⟨E38, Y38, hc38, hr⟩
            · refine mr_ret (mRunV (pc := 38) (q := 8) (As := [.int (2), .int (0), .int (0), .int (0)]) (rest := []) rfl lkRX1_68 rfl rfl rfl (Nat.le_of_ble_eq_true rfl) (Nat.le_of_ble_eq_true rfl) (F_X1_told hc38)) rfl (Nat.le_of_ble_eq_true rfl) (Nat.le_of_ble_eq_true rfl) ?_
              cases h; exact mr_ireturn (pc := 41) rfl rfl (Nat.le_of_ble_eq_true rfl) (Nat.le_of_ble_eq_true rfl)
            · cases hr; exact mr_thrown (mRunV (pc := 38) (q := 8) (As := [.int (2), .int (0), .int (0), .int (0)]) (rest := []) rfl lkRX1_68 rfl rfl rfl (Nat.le_of_ble_eq_true rfl) (Nat.le_of_ble_eq_true rfl) (F_X1_told hc38)) rfl rfl (Nat.le_of_ble_eq_true rfl) (Nat.le_of_ble_eq_true rfl)
        · cases hr; exact mr_thrown (mRunV (pc := 27) (q := 8) (As := [.int (a1)]) (rest := []) rfl lkRX1_65 rfl rfl rfl (Nat.le_of_ble_eq_true rfl) (Nat.le_of_ble_eq_true rfl) (F_X1_hold hc27)) rfl rfl (Nat.le_of_ble_eq_true rfl) (Nat.le_of_ble_eq_true rfl)
      · have h := (if_neg c20).symm.trans h
        refine mr_iconst (pc := 23) (v := 0) rfl (by decide) ?_
        cases h; exact mr_ireturn (pc := 24) rfl rfl (Nat.le_of_ble_eq_true rfl) (Nat.le_of_ble_eq_true rfl)
    · have h := (if_neg c5).symm.trans h
      refine mr_iconst (pc := 8) (v := 0) rfl (by decide) ?_
      refine mr_goto (pc := 9) 13 rfl (by decide) ?_
      refine ms_putfield (pc := 13) (h' := (xw Z (yw (Y.1, Y.2.1, Y.2.2.1, Y.2.2.2.1, Y.2.2.2.2.1, Y.2.2.2.2.2.1, Y.2.2.2.2.2.2.1, Y.2.2.2.2.2.2.2.1, 0, Y.2.2.2.2.2.2.2.2.2.1, Y.2.2.2.2.2.2.2.2.2.2.1, Y.2.2.2.2.2.2.2.2.2.2.2.1, Y.2.2.2.2.2.2.2.2.2.2.2.2.1, Y.2.2.2.2.2.2.2.2.2.2.2.2.2.1, Y.2.2.2.2.2.2.2.2.2.2.2.2.2.2) T))) rfl lfRX1_38 rfl (Nat.le_of_ble_eq_true rfl) (by intro q hq; cases hq; rfl) rfl ?_
      refine mr_aload_n (pc := 16) (x := 8) rfl rfl ?_
      refine mr_getfield (pc := 17) (v := .int (0)) rfl lfRX1_38 rfl rfl ?_
      refine mr_if_le (pc := 20) 25 rfl (by decide) (fun c20 => ?_) (fun c20 => ?_)
      · have h := (if_pos c20).symm.trans h
        refine mr_aload_n (pc := 25) (x := 8) rfl rfl ?_
        refine mr_iload_n (pc := 26) (x := a1) rfl rfl ?_
        rcases bI_inv h with ⟨v27, Y27, hc27, h⟩ | ⟨E27, Y27, hc27, hr⟩
        · refine mr_ret (mRunV (pc := 27) (q := 8) (As := [.int (a1)]) (rest := []) rfl lkRX1_65 rfl rfl rfl (Nat.le_of_ble_eq_true rfl) (Nat.le_of_ble_eq_true rfl) (F_X1_hold hc27)) rfl (Nat.le_of_ble_eq_true rfl) (Nat.le_of_ble_eq_true rfl) ?_
          refine mr_if_ne (pc := 30) 42 rfl (by decide) (fun c30 => ?_) (fun c30 => ?_)
          · have h := (if_neg c30).symm.trans h
            refine mr_iconst (pc := 42) (v := 0) rfl (by decide) ?_
            refine ms_istore_n (pc := 43) (L' := [some (.ref 8), some (.int (a1)), some (.int (0)), none]) rfl (by decide) rfl rfl ?_
            refine mr_iconst (pc := 44) (v := 0) rfl (by decide) ?_
            refine ms_istore_n (pc := 45) (L' := [some (.ref 8), some (.int (a1)), some (.int (0)), some (.int (0))]) rfl (by decide) rfl rfl ?_
            exact FL_X1_fill_46 mK _ _ _ _ _ _ h
          · have h := (if_pos c30).symm.trans h
            refine mr_aload_n (pc := 33) (x := 8) rfl rfl ?_
            refine mr_iconst (pc := 34) (v := 2) rfl (by decide) ?_
            refine mr_iconst (pc := 35) (v := 0) rfl (by decide) ?_
            refine mr_iconst (pc := 36) (v := 0) rfl (by decide) ?_
            refine mr_iconst (pc := 37) (v := 0) rfl (by decide) ?_
            rcases bI_inv h with ⟨v38, Y38, hc38, h⟩ | ⟨E38, Y38, hc38, hr⟩
            · refine mr_ret (mRunV (pc := 38) (q := 8) (As := [.int (2), .int (0), .int (0), .int (0)]) (rest := []) rfl lkRX1_68 rfl rfl rfl (Nat.le_of_ble_eq_true rfl) (Nat.le_of_ble_eq_true rfl) (F_X1_told hc38)) rfl (Nat.le_of_ble_eq_true rfl) (Nat.le_of_ble_eq_true rfl) ?_
              cases h; exact mr_ireturn (pc := 41) rfl rfl (Nat.le_of_ble_eq_true rfl) (Nat.le_of_ble_eq_true rfl)
            · cases hr; exact mr_thrown (mRunV (pc := 38) (q := 8) (As := [.int (2), .int (0), .int (0), .int (0)]) (rest := []) rfl lkRX1_68 rfl rfl rfl (Nat.le_of_ble_eq_true rfl) (Nat.le_of_ble_eq_true rfl) (F_X1_told hc38)) rfl rfl (Nat.le_of_ble_eq_true rfl) (Nat.le_of_ble_eq_true rfl)
        · cases hr; exact mr_thrown (mRunV (pc := 27) (q := 8) (As := [.int (a1)]) (rest := []) rfl lkRX1_65 rfl rfl rfl (Nat.le_of_ble_eq_true rfl) (Nat.le_of_ble_eq_true rfl) (F_X1_hold hc27)) rfl rfl (Nat.le_of_ble_eq_true rfl) (Nat.le_of_ble_eq_true rfl)
      · have h := (if_neg c20).symm.trans h
        refine mr_iconst (pc := 23) (v := 0) rfl (by decide) ?_
        cases h; exact mr_ireturn (pc := 24) rfl rfl (Nat.le_of_ble_eq_true rfl) (Nat.le_of_ble_eq_true rfl)
  · cases hr; exact mr_thrown (mRunS (pc := 2) (As := [.int (a1)]) (rest := [.ref 8]) rfl lkRX1_62 rfl (Nat.le_of_ble_eq_true rfl) (Nat.le_of_ble_eq_true rfl) (F_X1_isPool hc2)) rfl rfl (Nat.le_of_ble_eq_true rfl) (Nat.le_of_ble_eq_true rfl)
def g_X1_pour (Y : rS) (a1 a2 : Int32) : Option (mO × rS) := cI (g_X1_isPool (a1)) Y (fun v2 => if ((v2) : Int32) = 0 then (if ((1) : Int32) ≤ 0 then (bI (g_X1_hold (Y.1, Y.2.1, Y.2.2.1, Y.2.2.2.1, Y.2.2.2.2.1, Y.2.2.2.2.2.1, Y.2.2.2.2.2.2.1, Y.2.2.2.2.2.2.2.1, 1, Y.2.2.2.2.2.2.2.2.2.1, Y.2.2.2.2.2.2.2.2.2.2.1, Y.2.2.2.2.2.2.2.2.2.2.2.1, Y.2.2.2.2.2.2.2.2.2.2.2.2.1, Y.2.2.2.2.2.2.2.2.2.2.2.2.2.1, Y.2.2.2.2.2.2.2.2.2.2.2.2.2.2) (a1)) (fun v42 Y42 => if ((v42) : Int32) = 0 then (bI (g_X1_told Y42 (3) (0) (0) (0)) (fun v53 Y53 => some (.inl (some (.int (v53))), Y53))) else (if vpb (a1) 8 then (if ((((Y42.2.2.1) ((a1) : Int32).toNatClampNeg) + (a2)) : Int32) ≤ ((9999) : Int32) then (if vpb (a1) 8 then (if ((((Y42.2.2.1) ((a1) : Int32).toNatClampNeg) + (a2)) : Int32) ≤ (((Y42.2.2.1) ((a1) : Int32).toNatClampNeg) : Int32) then (if vpb (a1) 8 then (if vpb (a1) 8 then (bV (g_X1_leave (Y42.1, Y42.2.1, upd (Y42.2.2.1) ((a1) : Int32).toNatClampNeg ((Y42.2.2.1) ((a1) : Int32).toNatClampNeg), Y42.2.2.2.1, Y42.2.2.2.2.1, Y42.2.2.2.2.2.1, Y42.2.2.2.2.2.2.1, Y42.2.2.2.2.2.2.2.1, Y42.2.2.2.2.2.2.2.2.1, Y42.2.2.2.2.2.2.2.2.2.1, Y42.2.2.2.2.2.2.2.2.2.2.1, Y42.2.2.2.2.2.2.2.2.2.2.2.1, Y42.2.2.2.2.2.2.2.2.2.2.2.2.1, Y42.2.2.2.2.2.2.2.2.2.2.2.2.2.1, Y42.2.2.2.2.2.2.2.2.2.2.2.2.2.2) (1)) (fun Y112 => if vpb (a1) 8 then (some (.inl (some (.int ((Y112.2.2.1) ((a1) : Int32).toNatClampNeg))), Y112)) else none)) else none) else none) else (if vpb (a1) 8 then (bV (g_X1_leave (Y42.1, Y42.2.1, upd (Y42.2.2.1) ((a1) : Int32).toNatClampNeg (((Y42.2.2.1) ((a1) : Int32).toNatClampNeg) + (a2)), Y42.2.2.2.1, Y42.2.2.2.2.1, Y42.2.2.2.2.2.1, Y42.2.2.2.2.2.2.1, Y42.2.2.2.2.2.2.2.1, Y42.2.2.2.2.2.2.2.2.1, Y42.2.2.2.2.2.2.2.2.2.1, Y42.2.2.2.2.2.2.2.2.2.2.1, Y42.2.2.2.2.2.2.2.2.2.2.2.1, Y42.2.2.2.2.2.2.2.2.2.2.2.2.1, Y42.2.2.2.2.2.2.2.2.2.2.2.2.2.1, Y42.2.2.2.2.2.2.2.2.2.2.2.2.2.2) (1)) (fun Y112 => if vpb (a1) 8 then (some (.inl (some (.int ((Y112.2.2.1) ((a1) : Int32).toNatClampNeg))), Y112)) else none)) else none)) else none) else (if vpb (a1) 8 then (if ((9999) : Int32) ≤ (((Y42.2.2.1) ((a1) : Int32).toNatClampNeg) : Int32) then (if vpb (a1) 8 then (if vpb (a1) 8 then (bV (g_X1_leave (Y42.1, Y42.2.1, upd (Y42.2.2.1) ((a1) : Int32).toNatClampNeg ((Y42.2.2.1) ((a1) : Int32).toNatClampNeg), Y42.2.2.2.1, Y42.2.2.2.2.1, Y42.2.2.2.2.2.1, Y42.2.2.2.2.2.2.1, Y42.2.2.2.2.2.2.2.1, Y42.2.2.2.2.2.2.2.2.1, Y42.2.2.2.2.2.2.2.2.2.1, Y42.2.2.2.2.2.2.2.2.2.2.1, Y42.2.2.2.2.2.2.2.2.2.2.2.1, Y42.2.2.2.2.2.2.2.2.2.2.2.2.1, Y42.2.2.2.2.2.2.2.2.2.2.2.2.2.1, Y42.2.2.2.2.2.2.2.2.2.2.2.2.2.2) (1)) (fun Y112 => if vpb (a1) 8 then (some (.inl (some (.int ((Y112.2.2.1) ((a1) : Int32).toNatClampNeg))), Y112)) else none)) else none) else none) else (if vpb (a1) 8 then (bV (g_X1_leave (Y42.1, Y42.2.1, upd (Y42.2.2.1) ((a1) : Int32).toNatClampNeg (9999), Y42.2.2.2.1, Y42.2.2.2.2.1, Y42.2.2.2.2.2.1, Y42.2.2.2.2.2.2.1, Y42.2.2.2.2.2.2.2.1, Y42.2.2.2.2.2.2.2.2.1, Y42.2.2.2.2.2.2.2.2.2.1, Y42.2.2.2.2.2.2.2.2.2.2.1, Y42.2.2.2.2.2.2.2.2.2.2.2.1, Y42.2.2.2.2.2.2.2.2.2.2.2.2.1, Y42.2.2.2.2.2.2.2.2.2.2.2.2.2.1, Y42.2.2.2.2.2.2.2.2.2.2.2.2.2.2) (1)) (fun Y112 => if vpb (a1) 8 then (some (.inl (some (.int ((Y112.2.2.1) ((a1) : Int32).toNatClampNeg))), Y112)) else none)) else none)) else none)) else none))) else (some (.inl (some (.int (0))), (Y.1, Y.2.1, Y.2.2.1, Y.2.2.2.1, Y.2.2.2.2.1, Y.2.2.2.2.2.1, Y.2.2.2.2.2.2.1, Y.2.2.2.2.2.2.2.1, 1, Y.2.2.2.2.2.2.2.2.2.1, Y.2.2.2.2.2.2.2.2.2.2.1, Y.2.2.2.2.2.2.2.2.2.2.2.1, Y.2.2.2.2.2.2.2.2.2.2.2.2.1, Y.2.2.2.2.2.2.2.2.2.2.2.2.2.1, Y.2.2.2.2.2.2.2.2.2.2.2.2.2.2)))) else (cI (g_X1_in (a2) (0) (9999)) Y (fun v17 => if ((v17) : Int32) = 0 then (if ((2) : Int32) ≤ 0 then (bI (g_X1_hold (Y.1, Y.2.1, Y.2.2.1, Y.2.2.2.1, Y.2.2.2.2.1, Y.2.2.2.2.2.1, Y.2.2.2.2.2.2.1, Y.2.2.2.2.2.2.2.1, 2, Y.2.2.2.2.2.2.2.2.2.1, Y.2.2.2.2.2.2.2.2.2.2.1, Y.2.2.2.2.2.2.2.2.2.2.2.1, Y.2.2.2.2.2.2.2.2.2.2.2.2.1, Y.2.2.2.2.2.2.2.2.2.2.2.2.2.1, Y.2.2.2.2.2.2.2.2.2.2.2.2.2.2) (a1)) (fun v42 Y42 => if ((v42) : Int32) = 0 then (bI (g_X1_told Y42 (3) (0) (0) (0)) (fun v53 Y53 => some (.inl (some (.int (v53))), Y53))) else (if vpb (a1) 8 then (if ((((Y42.2.2.1) ((a1) : Int32).toNatClampNeg) + (a2)) : Int32) ≤ ((9999) : Int32) then (if vpb (a1) 8 then (if ((((Y42.2.2.1) ((a1) : Int32).toNatClampNeg) + (a2)) : Int32) ≤ (((Y42.2.2.1) ((a1) : Int32).toNatClampNeg) : Int32) then (if vpb (a1) 8 then (if vpb (a1) 8 then (bV (g_X1_leave (Y42.1, Y42.2.1, upd (Y42.2.2.1) ((a1) : Int32).toNatClampNeg ((Y42.2.2.1) ((a1) : Int32).toNatClampNeg), Y42.2.2.2.1, Y42.2.2.2.2.1, Y42.2.2.2.2.2.1, Y42.2.2.2.2.2.2.1, Y42.2.2.2.2.2.2.2.1, Y42.2.2.2.2.2.2.2.2.1, Y42.2.2.2.2.2.2.2.2.2.1, Y42.2.2.2.2.2.2.2.2.2.2.1, Y42.2.2.2.2.2.2.2.2.2.2.2.1, Y42.2.2.2.2.2.2.2.2.2.2.2.2.1, Y42.2.2.2.2.2.2.2.2.2.2.2.2.2.1, Y42.2.2.2.2.2.2.2.2.2.2.2.2.2.2) (1)) (fun Y112 => if vpb (a1) 8 then (some (.inl (some (.int ((Y112.2.2.1) ((a1) : Int32).toNatClampNeg))), Y112)) else none)) else none) else none) else (if vpb (a1) 8 then (bV (g_X1_leave (Y42.1, Y42.2.1, upd (Y42.2.2.1) ((a1) : Int32).toNatClampNeg (((Y42.2.2.1) ((a1) : Int32).toNatClampNeg) + (a2)), Y42.2.2.2.1, Y42.2.2.2.2.1, Y42.2.2.2.2.2.1, Y42.2.2.2.2.2.2.1, Y42.2.2.2.2.2.2.2.1, Y42.2.2.2.2.2.2.2.2.1, Y42.2.2.2.2.2.2.2.2.2.1, Y42.2.2.2.2.2.2.2.2.2.2.1, Y42.2.2.2.2.2.2.2.2.2.2.2.1, Y42.2.2.2.2.2.2.2.2.2.2.2.2.1, Y42.2.2.2.2.2.2.2.2.2.2.2.2.2.1, Y42.2.2.2.2.2.2.2.2.2.2.2.2.2.2) (1)) (fun Y112 => if vpb (a1) 8 then (some (.inl (some (.int ((Y112.2.2.1) ((a1) : Int32).toNatClampNeg))), Y112)) else none)) else none)) else none) else (if vpb (a1) 8 then (if ((9999) : Int32) ≤ (((Y42.2.2.1) ((a1) : Int32).toNatClampNeg) : Int32) then (if vpb (a1) 8 then (if vpb (a1) 8 then (bV (g_X1_leave (Y42.1, Y42.2.1, upd (Y42.2.2.1) ((a1) : Int32).toNatClampNeg ((Y42.2.2.1) ((a1) : Int32).toNatClampNeg), Y42.2.2.2.1, Y42.2.2.2.2.1, Y42.2.2.2.2.2.1, Y42.2.2.2.2.2.2.1, Y42.2.2.2.2.2.2.2.1, Y42.2.2.2.2.2.2.2.2.1, Y42.2.2.2.2.2.2.2.2.2.1, Y42.2.2.2.2.2.2.2.2.2.2.1, Y42.2.2.2.2.2.2.2.2.2.2.2.1, Y42.2.2.2.2.2.2.2.2.2.2.2.2.1, Y42.2.2.2.2.2.2.2.2.2.2.2.2.2.1, Y42.2.2.2.2.2.2.2.2.2.2.2.2.2.2) (1)) (fun Y112 => if vpb (a1) 8 then (some (.inl (some (.int ((Y112.2.2.1) ((a1) : Int32).toNatClampNeg))), Y112)) else none)) else none) else none) else (if vpb (a1) 8 then (bV (g_X1_leave (Y42.1, Y42.2.1, upd (Y42.2.2.1) ((a1) : Int32).toNatClampNeg (9999), Y42.2.2.2.1, Y42.2.2.2.2.1, Y42.2.2.2.2.2.1, Y42.2.2.2.2.2.2.1, Y42.2.2.2.2.2.2.2.1, Y42.2.2.2.2.2.2.2.2.1, Y42.2.2.2.2.2.2.2.2.2.1, Y42.2.2.2.2.2.2.2.2.2.2.1, Y42.2.2.2.2.2.2.2.2.2.2.2.1, Y42.2.2.2.2.2.2.2.2.2.2.2.2.1, Y42.2.2.2.2.2.2.2.2.2.2.2.2.2.1, Y42.2.2.2.2.2.2.2.2.2.2.2.2.2.2) (1)) (fun Y112 => if vpb (a1) 8 then (some (.inl (some (.int ((Y112.2.2.1) ((a1) : Int32).toNatClampNeg))), Y112)) else none)) else none)) else none)) else none))) else (some (.inl (some (.int (0))), (Y.1, Y.2.1, Y.2.2.1, Y.2.2.2.1, Y.2.2.2.2.1, Y.2.2.2.2.2.1, Y.2.2.2.2.2.2.1, Y.2.2.2.2.2.2.2.1, 2, Y.2.2.2.2.2.2.2.2.2.1, Y.2.2.2.2.2.2.2.2.2.2.1, Y.2.2.2.2.2.2.2.2.2.2.2.1, Y.2.2.2.2.2.2.2.2.2.2.2.2.1, Y.2.2.2.2.2.2.2.2.2.2.2.2.2.1, Y.2.2.2.2.2.2.2.2.2.2.2.2.2.2)))) else (if ((0) : Int32) ≤ 0 then (bI (g_X1_hold (Y.1, Y.2.1, Y.2.2.1, Y.2.2.2.1, Y.2.2.2.2.1, Y.2.2.2.2.2.1, Y.2.2.2.2.2.2.1, Y.2.2.2.2.2.2.2.1, 0, Y.2.2.2.2.2.2.2.2.2.1, Y.2.2.2.2.2.2.2.2.2.2.1, Y.2.2.2.2.2.2.2.2.2.2.2.1, Y.2.2.2.2.2.2.2.2.2.2.2.2.1, Y.2.2.2.2.2.2.2.2.2.2.2.2.2.1, Y.2.2.2.2.2.2.2.2.2.2.2.2.2.2) (a1)) (fun v42 Y42 => if ((v42) : Int32) = 0 then (bI (g_X1_told Y42 (3) (0) (0) (0)) (fun v53 Y53 => some (.inl (some (.int (v53))), Y53))) else (if vpb (a1) 8 then (if ((((Y42.2.2.1) ((a1) : Int32).toNatClampNeg) + (a2)) : Int32) ≤ ((9999) : Int32) then (if vpb (a1) 8 then (if ((((Y42.2.2.1) ((a1) : Int32).toNatClampNeg) + (a2)) : Int32) ≤ (((Y42.2.2.1) ((a1) : Int32).toNatClampNeg) : Int32) then (if vpb (a1) 8 then (if vpb (a1) 8 then (bV (g_X1_leave (Y42.1, Y42.2.1, upd (Y42.2.2.1) ((a1) : Int32).toNatClampNeg ((Y42.2.2.1) ((a1) : Int32).toNatClampNeg), Y42.2.2.2.1, Y42.2.2.2.2.1, Y42.2.2.2.2.2.1, Y42.2.2.2.2.2.2.1, Y42.2.2.2.2.2.2.2.1, Y42.2.2.2.2.2.2.2.2.1, Y42.2.2.2.2.2.2.2.2.2.1, Y42.2.2.2.2.2.2.2.2.2.2.1, Y42.2.2.2.2.2.2.2.2.2.2.2.1, Y42.2.2.2.2.2.2.2.2.2.2.2.2.1, Y42.2.2.2.2.2.2.2.2.2.2.2.2.2.1, Y42.2.2.2.2.2.2.2.2.2.2.2.2.2.2) (1)) (fun Y112 => if vpb (a1) 8 then (some (.inl (some (.int ((Y112.2.2.1) ((a1) : Int32).toNatClampNeg))), Y112)) else none)) else none) else none) else (if vpb (a1) 8 then (bV (g_X1_leave (Y42.1, Y42.2.1, upd (Y42.2.2.1) ((a1) : Int32).toNatClampNeg (((Y42.2.2.1) ((a1) : Int32).toNatClampNeg) + (a2)), Y42.2.2.2.1, Y42.2.2.2.2.1, Y42.2.2.2.2.2.1, Y42.2.2.2.2.2.2.1, Y42.2.2.2.2.2.2.2.1, Y42.2.2.2.2.2.2.2.2.1, Y42.2.2.2.2.2.2.2.2.2.1, Y42.2.2.2.2.2.2.2.2.2.2.1, Y42.2.2.2.2.2.2.2.2.2.2.2.1, Y42.2.2.2.2.2.2.2.2.2.2.2.2.1, Y42.2.2.2.2.2.2.2.2.2.2.2.2.2.1, Y42.2.2.2.2.2.2.2.2.2.2.2.2.2.2) (1)) (fun Y112 => if vpb (a1) 8 then (some (.inl (some (.int ((Y112.2.2.1) ((a1) : Int32).toNatClampNeg))), Y112)) else none)) else none)) else none) else (if vpb (a1) 8 then (if ((9999) : Int32) ≤ (((Y42.2.2.1) ((a1) : Int32).toNatClampNeg) : Int32) then (if vpb (a1) 8 then (if vpb (a1) 8 then (bV (g_X1_leave (Y42.1, Y42.2.1, upd (Y42.2.2.1) ((a1) : Int32).toNatClampNeg ((Y42.2.2.1) ((a1) : Int32).toNatClampNeg), Y42.2.2.2.1, Y42.2.2.2.2.1, Y42.2.2.2.2.2.1, Y42.2.2.2.2.2.2.1, Y42.2.2.2.2.2.2.2.1, Y42.2.2.2.2.2.2.2.2.1, Y42.2.2.2.2.2.2.2.2.2.1, Y42.2.2.2.2.2.2.2.2.2.2.1, Y42.2.2.2.2.2.2.2.2.2.2.2.1, Y42.2.2.2.2.2.2.2.2.2.2.2.2.1, Y42.2.2.2.2.2.2.2.2.2.2.2.2.2.1, Y42.2.2.2.2.2.2.2.2.2.2.2.2.2.2) (1)) (fun Y112 => if vpb (a1) 8 then (some (.inl (some (.int ((Y112.2.2.1) ((a1) : Int32).toNatClampNeg))), Y112)) else none)) else none) else none) else (if vpb (a1) 8 then (bV (g_X1_leave (Y42.1, Y42.2.1, upd (Y42.2.2.1) ((a1) : Int32).toNatClampNeg (9999), Y42.2.2.2.1, Y42.2.2.2.2.1, Y42.2.2.2.2.2.1, Y42.2.2.2.2.2.2.1, Y42.2.2.2.2.2.2.2.1, Y42.2.2.2.2.2.2.2.2.1, Y42.2.2.2.2.2.2.2.2.2.1, Y42.2.2.2.2.2.2.2.2.2.2.1, Y42.2.2.2.2.2.2.2.2.2.2.2.1, Y42.2.2.2.2.2.2.2.2.2.2.2.2.1, Y42.2.2.2.2.2.2.2.2.2.2.2.2.2.1, Y42.2.2.2.2.2.2.2.2.2.2.2.2.2.2) (1)) (fun Y112 => if vpb (a1) 8 then (some (.inl (some (.int ((Y112.2.2.1) ((a1) : Int32).toNatClampNeg))), Y112)) else none)) else none)) else none)) else none))) else (some (.inl (some (.int (0))), (Y.1, Y.2.1, Y.2.2.1, Y.2.2.2.1, Y.2.2.2.2.1, Y.2.2.2.2.2.1, Y.2.2.2.2.2.2.1, Y.2.2.2.2.2.2.2.1, 0, Y.2.2.2.2.2.2.2.2.2.1, Y.2.2.2.2.2.2.2.2.2.2.1, Y.2.2.2.2.2.2.2.2.2.2.2.1, Y.2.2.2.2.2.2.2.2.2.2.2.2.1, Y.2.2.2.2.2.2.2.2.2.2.2.2.2.1, Y.2.2.2.2.2.2.2.2.2.2.2.2.2.2)))))))
set_option maxRecDepth 100000 in
set_option maxHeartbeats 4000000 in
theorem F_X1_pour {S : Nat × (Nat → Int32)} {Z : cS} {T : mH} {Y R9 : rS} {o9 : mO} {a1 a2 : Int32} (h : g_X1_pour Y a1 a2 = some (o9, R9)) : mF S MX1_pour 0 (mEnt [.ref 8, .int a1, .int a2] 5) [] (xw Z (yw Y T)) 0 0 (o9, (xw Z (yw R9 T)), 0, 0) := by
  unfold g_X1_pour at h
  refine mr_aload_n (pc := 0) (x := 8) rfl rfl ?_
  refine mr_iload_n (pc := 1) (x := a1) rfl rfl ?_
  rcases cI_inv h with ⟨v2, hc2, h⟩ | ⟨E2, hc2, hr⟩
  · refine mr_ret (mRunS (pc := 2) (As := [.int (a1)]) (rest := [.ref 8]) rfl lkRX1_62 rfl (Nat.le_of_ble_eq_true rfl) (Nat.le_of_ble_eq_true rfl) (F_X1_isPool hc2)) rfl (Nat.le_of_ble_eq_true rfl) (Nat.le_of_ble_eq_true rfl) ?_
    refine mr_if_ne (pc := 5) 12 rfl (by decide) (fun c5 => ?_) (fun c5 => ?_)
    · have h := (if_neg c5).symm.trans h
      refine mr_iload_n (pc := 12) (x := a2) rfl rfl ?_
      refine mr_iconst (pc := 13) (v := 0) rfl (by decide) ?_
      refine mr_sipush (pc := 14) (v := 9999) rfl (by decide) ?_
      rcases cI_inv h with ⟨v17, hc17, h⟩ | ⟨E17, hc17, hr⟩
      · refine mr_ret (mRunS (pc := 17) (As := [.int (a2), .int (0), .int (9999)]) (rest := [.ref 8]) rfl lkRX1_54 rfl (Nat.le_of_ble_eq_true rfl) (Nat.le_of_ble_eq_true rfl) (F_X1_in hc17)) rfl (Nat.le_of_ble_eq_true rfl) (Nat.le_of_ble_eq_true rfl) ?_
        refine mr_if_ne (pc := 20) 27 rfl (by decide) (fun c20 => ?_) (fun c20 => ?_)
        · have h := (if_neg c20).symm.trans h
          refine mr_iconst (pc := 27) (v := 0) rfl (by decide) ?_
          refine ms_putfield (pc := 28) (h' := (xw Z (yw (Y.1, Y.2.1, Y.2.2.1, Y.2.2.2.1, Y.2.2.2.2.1, Y.2.2.2.2.2.1, Y.2.2.2.2.2.2.1, Y.2.2.2.2.2.2.2.1, 0, Y.2.2.2.2.2.2.2.2.2.1, Y.2.2.2.2.2.2.2.2.2.2.1, Y.2.2.2.2.2.2.2.2.2.2.2.1, Y.2.2.2.2.2.2.2.2.2.2.2.2.1, Y.2.2.2.2.2.2.2.2.2.2.2.2.2.1, Y.2.2.2.2.2.2.2.2.2.2.2.2.2.2) T))) rfl lfRX1_38 rfl (Nat.le_of_ble_eq_true rfl) (by intro q hq; cases hq; rfl) rfl ?_
          refine mr_aload_n (pc := 31) (x := 8) rfl rfl ?_
          refine mr_getfield (pc := 32) (v := .int (0)) rfl lfRX1_38 rfl rfl ?_
          refine mr_if_le (pc := 35) 40 rfl (by decide) (fun c35 => ?_) (fun c35 => ?_)
          · have h := (if_pos c35).symm.trans h
            refine mr_aload_n (pc := 40) (x := 8) rfl rfl ?_
            refine mr_iload_n (pc := 41) (x := a1) rfl rfl ?_
            rcases bI_inv h with ⟨v42, Y42, hc42, h⟩ | ⟨E42, Y42, hc42, hr⟩
            · refine mr_ret (mRunV (pc := 42) (q := 8) (As := [.int (a1)]) (rest := []) rfl lkRX1_65 rfl rfl rfl (Nat.le_of_ble_eq_true rfl) (Nat.le_of_ble_eq_true rfl) (F_X1_hold hc42)) rfl (Nat.le_of_ble_eq_true rfl) (Nat.le_of_ble_eq_true rfl) ?_
              refine mr_if_ne (pc := 45) 57 rfl (by decide) (fun c45 => ?_) (fun c45 => ?_)
              · have h := (if_neg c45).symm.trans h
                refine mr_aload_n (pc := 57) (x := 8) rfl rfl ?_
                refine mr_getfield (pc := 58) (v := .ref 11) rfl lfRX1_17 rfl rfl ?_
                refine mr_iload_n (pc := 61) (x := a1) rfl rfl ?_
                obtain ⟨g62, h⟩ := m_gd h
                refine mr_iaload (pc := 62) (f := Y42.2.2.1) rfl rfl (vpb_in g62) ?_
                refine mr_iload_n (pc := 63) (x := a2) rfl rfl ?_
                refine mr_iadd (pc := 64) rfl ?_
                refine ms_istore_n (pc := 65) (L' := [some (.ref 8), some (.int (a1)), some (.int (a2)), some (.int (((Y42.2.2.1) ((a1) : Int32).toNatClampNeg) + (a2))), none]) rfl (by decide) rfl rfl ?_
                refine mr_iload_n (pc := 66) (x := ((Y42.2.2.1) ((a1) : Int32).toNatClampNeg) + (a2)) rfl rfl ?_
                refine mr_sipush (pc := 67) (v := 9999) rfl (by decide) ?_
                refine mr_icmp_le (pc := 70) 79 rfl (by decide) (fun c70 => ?_) (fun c70 => ?_)
                · have h := (if_pos c70).symm.trans h
                  refine mr_iload_n (pc := 79) (x := ((Y42.2.2.1) ((a1) : Int32).toNatClampNeg) + (a2)) rfl rfl ?_
                  refine ms_istore (pc := 80) (L' := [some (.ref 8), some (.int (a1)), some (.int (a2)), some (.int (((Y42.2.2.1) ((a1) : Int32).toNatClampNeg) + (a2))), some (.int (((Y42.2.2.1) ((a1) : Int32).toNatClampNeg) + (a2)))]) rfl (by decide) rfl rfl ?_
                  refine mr_aload_n (pc := 82) (x := 8) rfl rfl ?_
                  refine mr_getfield (pc := 83) (v := .ref 11) rfl lfRX1_17 rfl rfl ?_
                  refine mr_iload_n (pc := 86) (x := a1) rfl rfl ?_
                  refine mr_iload (pc := 87) (x := ((Y42.2.2.1) ((a1) : Int32).toNatClampNeg) + (a2)) rfl rfl ?_
                  refine mr_aload_n (pc := 89) (x := 8) rfl rfl ?_
                  refine mr_getfield (pc := 90) (v := .ref 11) rfl lfRX1_17 rfl rfl ?_
                  refine mr_iload_n (pc := 93) (x := a1) rfl rfl ?_
                  obtain ⟨g94, h⟩ := m_gd h
                  refine mr_iaload (pc := 94) (f := Y42.2.2.1) rfl rfl (vpb_in g94) ?_
                  refine mr_icmp_le (pc := 95) 103 rfl (by decide) (fun c95 => ?_) (fun c95 => ?_)
                  · have h := (if_pos c95).symm.trans h
                    refine mr_aload_n (pc := 103) (x := 8) rfl rfl ?_
                    refine mr_getfield (pc := 104) (v := .ref 11) rfl lfRX1_17 rfl rfl ?_
                    refine mr_iload_n (pc := 107) (x := a1) rfl rfl ?_
                    obtain ⟨g108, h⟩ := m_gd h
                    refine mr_iaload (pc := 108) (f := Y42.2.2.1) rfl rfl (vpb_in g108) ?_
                    obtain ⟨g109, h⟩ := m_gd h
                    refine ms_iastore (pc := 109) (f := Y42.2.2.1) (h' := (xw Z (yw (Y42.1, Y42.2.1, upd (Y42.2.2.1) ((a1) : Int32).toNatClampNeg ((Y42.2.2.1) ((a1) : Int32).toNatClampNeg), Y42.2.2.2.1, Y42.2.2.2.2.1, Y42.2.2.2.2.2.1, Y42.2.2.2.2.2.2.1, Y42.2.2.2.2.2.2.2.1, Y42.2.2.2.2.2.2.2.2.1, Y42.2.2.2.2.2.2.2.2.2.1, Y42.2.2.2.2.2.2.2.2.2.2.1, Y42.2.2.2.2.2.2.2.2.2.2.2.1, Y42.2.2.2.2.2.2.2.2.2.2.2.2.1, Y42.2.2.2.2.2.2.2.2.2.2.2.2.2.1, Y42.2.2.2.2.2.2.2.2.2.2.2.2.2.2) T))) rfl rfl g109 rfl ?_
                    refine mr_aload_n (pc := 110) (x := 8) rfl rfl ?_
                    refine mr_iconst (pc := 111) (v := 1) rfl (by decide) ?_
                    rcases bV_inv h with ⟨Y112, hc112, h⟩ | ⟨E112, Y112, hc112, hr⟩
                    · refine mr_ret (mRunV (pc := 112) (q := 8) (As := [.int (1)]) (rest := []) rfl lkRX1_72 rfl rfl rfl (Nat.le_of_ble_eq_true rfl) (Nat.le_of_ble_eq_true rfl) (F_X1_leave hc112)) rfl (Nat.le_of_ble_eq_true rfl) (Nat.le_of_ble_eq_true rfl) ?_
                      refine mr_aload_n (pc := 115) (x := 8) rfl rfl ?_
                      refine mr_getfield (pc := 116) (v := .ref 11) rfl lfRX1_17 rfl rfl ?_
                      refine mr_iload_n (pc := 119) (x := a1) rfl rfl ?_
                      obtain ⟨g120, h⟩ := m_gd h
                      refine mr_iaload (pc := 120) (f := Y112.2.2.1) rfl rfl (vpb_in g120) ?_
                      cases h; exact mr_ireturn (pc := 121) rfl rfl (Nat.le_of_ble_eq_true rfl) (Nat.le_of_ble_eq_true rfl)
                    · cases hr; exact mr_thrown (mRunV (pc := 112) (q := 8) (As := [.int (1)]) (rest := []) rfl lkRX1_72 rfl rfl rfl (Nat.le_of_ble_eq_true rfl) (Nat.le_of_ble_eq_true rfl) (F_X1_leave hc112)) rfl rfl (Nat.le_of_ble_eq_true rfl) (Nat.le_of_ble_eq_true rfl)
                  · have h := (if_neg c95).symm.trans h
                    refine mr_iload (pc := 98) (x := ((Y42.2.2.1) ((a1) : Int32).toNatClampNeg) + (a2)) rfl rfl ?_
                    refine mr_goto (pc := 100) 109 rfl (by decide) ?_
                    obtain ⟨g109, h⟩ := m_gd h
                    refine ms_iastore (pc := 109) (f := Y42.2.2.1) (h' := (xw Z (yw (Y42.1, Y42.2.1, upd (Y42.2.2.1) ((a1) : Int32).toNatClampNeg (((Y42.2.2.1) ((a1) : Int32).toNatClampNeg) + (a2)), Y42.2.2.2.1, Y42.2.2.2.2.1, Y42.2.2.2.2.2.1, Y42.2.2.2.2.2.2.1, Y42.2.2.2.2.2.2.2.1, Y42.2.2.2.2.2.2.2.2.1, Y42.2.2.2.2.2.2.2.2.2.1, Y42.2.2.2.2.2.2.2.2.2.2.1, Y42.2.2.2.2.2.2.2.2.2.2.2.1, Y42.2.2.2.2.2.2.2.2.2.2.2.2.1, Y42.2.2.2.2.2.2.2.2.2.2.2.2.2.1, Y42.2.2.2.2.2.2.2.2.2.2.2.2.2.2) T))) rfl rfl g109 rfl ?_
                    refine mr_aload_n (pc := 110) (x := 8) rfl rfl ?_
                    refine mr_iconst (pc := 111) (v := 1) rfl (by decide) ?_
                    rcases bV_inv h with ⟨Y112, hc112, h⟩ | ⟨E112, Y112, hc112, hr⟩
                    · refine mr_ret (mRunV (pc := 112) (q := 8) (As := [.int (1)]) (rest := []) rfl lkRX1_72 rfl rfl rfl (Nat.le_of_ble_eq_true rfl) (Nat.le_of_ble_eq_true rfl) (F_X1_leave hc112)) rfl (Nat.le_of_ble_eq_true rfl) (Nat.le_of_ble_eq_true rfl) ?_
                      refine mr_aload_n (pc := 115) (x := 8) rfl rfl ?_
                      refine mr_getfield (pc := 116) (v := .ref 11) rfl lfRX1_17 rfl rfl ?_
                      refine mr_iload_n (pc := 119) (x := a1) rfl rfl ?_
                      obtain ⟨g120, h⟩ := m_gd h
                      refine mr_iaload (pc := 120) (f := Y112.2.2.1) rfl rfl (vpb_in g120) ?_
                      cases h; exact mr_ireturn (pc := 121) rfl rfl (Nat.le_of_ble_eq_true rfl) (Nat.le_of_ble_eq_true rfl)
                    · cases hr; exact mr_thrown (mRunV (pc := 112) (q := 8) (As := [.int (1)]) (rest := []) rfl lkRX1_72 rfl rfl rfl (Nat.le_of_ble_eq_true rfl) (Nat.le_of_ble_eq_true rfl) (F_X1_leave hc112)) rfl rfl (Nat.le_of_ble_eq_true rfl) (Nat.le_of_ble_eq_true rfl)
                · have h := (if_neg c70).symm.trans h
                  refine mr_sipush (pc := 73) (v := 9999) rfl (by decide) ?_
                  refine mr_goto (pc := 76) 80 rfl (by decide) ?_
                  refine ms_istore (pc := 80) (L' := [some (.ref 8), some (.int (a1)), some (.int (a2)), some (.int (((Y42.2.2.1) ((a1) : Int32).toNatClampNeg) + (a2))), some (.int (9999))]) rfl (by decide) rfl rfl ?_
                  refine mr_aload_n (pc := 82) (x := 8) rfl rfl ?_
                  refine mr_getfield (pc := 83) (v := .ref 11) rfl lfRX1_17 rfl rfl ?_
                  refine mr_iload_n (pc := 86) (x := a1) rfl rfl ?_
                  refine mr_iload (pc := 87) (x := 9999) rfl rfl ?_
                  refine mr_aload_n (pc := 89) (x := 8) rfl rfl ?_
                  refine mr_getfield (pc := 90) (v := .ref 11) rfl lfRX1_17 rfl rfl ?_
                  refine mr_iload_n (pc := 93) (x := a1) rfl rfl ?_
                  obtain ⟨g94, h⟩ := m_gd h
                  refine mr_iaload (pc := 94) (f := Y42.2.2.1) rfl rfl (vpb_in g94) ?_
                  refine mr_icmp_le (pc := 95) 103 rfl (by decide) (fun c95 => ?_) (fun c95 => ?_)
                  · have h := (if_pos c95).symm.trans h
                    refine mr_aload_n (pc := 103) (x := 8) rfl rfl ?_
                    refine mr_getfield (pc := 104) (v := .ref 11) rfl lfRX1_17 rfl rfl ?_
                    refine mr_iload_n (pc := 107) (x := a1) rfl rfl ?_
                    obtain ⟨g108, h⟩ := m_gd h
                    refine mr_iaload (pc := 108) (f := Y42.2.2.1) rfl rfl (vpb_in g108) ?_
                    obtain ⟨g109, h⟩ := m_gd h
                    refine ms_iastore (pc := 109) (f := Y42.2.2.1) (h' := (xw Z (yw (Y42.1, Y42.2.1, upd (Y42.2.2.1) ((a1) : Int32).toNatClampNeg ((Y42.2.2.1) ((a1) : Int32).toNatClampNeg), Y42.2.2.2.1, Y42.2.2.2.2.1, Y42.2.2.2.2.2.1, Y42.2.2.2.2.2.2.1, Y42.2.2.2.2.2.2.2.1, Y42.2.2.2.2.2.2.2.2.1, Y42.2.2.2.2.2.2.2.2.2.1, Y42.2.2.2.2.2.2.2.2.2.2.1, Y42.2.2.2.2.2.2.2.2.2.2.2.1, Y42.2.2.2.2.2.2.2.2.2.2.2.2.1, Y42.2.2.2.2.2.2.2.2.2.2.2.2.2.1, Y42.2.2.2.2.2.2.2.2.2.2.2.2.2.2) T))) rfl rfl g109 rfl ?_
                    refine mr_aload_n (pc := 110) (x := 8) rfl rfl ?_
                    refine mr_iconst (pc := 111) (v := 1) rfl (by decide) ?_
                    rcases bV_inv h with ⟨Y112, hc112, h⟩ | ⟨E112, Y112, hc112, hr⟩
                    · refine mr_ret (mRunV (pc := 112) (q := 8) (As := [.int (1)]) (rest := []) rfl lkRX1_72 rfl rfl rfl (Nat.le_of_ble_eq_true rfl) (Nat.le_of_ble_eq_true rfl) (F_X1_leave hc112)) rfl (Nat.le_of_ble_eq_true rfl) (Nat.le_of_ble_eq_true rfl) ?_
                      refine mr_aload_n (pc := 115) (x := 8) rfl rfl ?_
                      refine mr_getfield (pc := 116) (v := .ref 11) rfl lfRX1_17 rfl rfl ?_
                      refine mr_iload_n (pc := 119) (x := a1) rfl rfl ?_
                      obtain ⟨g120, h⟩ := m_gd h
                      refine mr_iaload (pc := 120) (f := Y112.2.2.1) rfl rfl (vpb_in g120) ?_
                      cases h; exact mr_ireturn (pc := 121) rfl rfl (Nat.le_of_ble_eq_true rfl) (Nat.le_of_ble_eq_true rfl)
                    · cases hr; exact mr_thrown (mRunV (pc := 112) (q := 8) (As := [.int (1)]) (rest := []) rfl lkRX1_72 rfl rfl rfl (Nat.le_of_ble_eq_true rfl) (Nat.le_of_ble_eq_true rfl) (F_X1_leave hc112)) rfl rfl (Nat.le_of_ble_eq_true rfl) (Nat.le_of_ble_eq_true rfl)
                  · have h := (if_neg c95).symm.trans h
                    refine mr_iload (pc := 98) (x := 9999) rfl rfl ?_
                    refine mr_goto (pc := 100) 109 rfl (by decide) ?_
                    obtain ⟨g109, h⟩ := m_gd h
                    refine ms_iastore (pc := 109) (f := Y42.2.2.1) (h' := (xw Z (yw (Y42.1, Y42.2.1, upd (Y42.2.2.1) ((a1) : Int32).toNatClampNeg (9999), Y42.2.2.2.1, Y42.2.2.2.2.1, Y42.2.2.2.2.2.1, Y42.2.2.2.2.2.2.1, Y42.2.2.2.2.2.2.2.1, Y42.2.2.2.2.2.2.2.2.1, Y42.2.2.2.2.2.2.2.2.2.1, Y42.2.2.2.2.2.2.2.2.2.2.1, Y42.2.2.2.2.2.2.2.2.2.2.2.1, Y42.2.2.2.2.2.2.2.2.2.2.2.2.1, Y42.2.2.2.2.2.2.2.2.2.2.2.2.2.1, Y42.2.2.2.2.2.2.2.2.2.2.2.2.2.2) T))) rfl rfl g109 rfl ?_
                    refine mr_aload_n (pc := 110) (x := 8) rfl rfl ?_
                    refine mr_iconst (pc := 111) (v := 1) rfl (by decide) ?_
                    rcases bV_inv h with ⟨Y112, hc112, h⟩ | ⟨E112, Y112, hc112, hr⟩
                    · refine mr_ret (mRunV (pc := 112) (q := 8) (As := [.int (1)]) (rest := []) rfl lkRX1_72 rfl rfl rfl (Nat.le_of_ble_eq_true rfl) (Nat.le_of_ble_eq_true rfl) (F_X1_leave hc112)) rfl (Nat.le_of_ble_eq_true rfl) (Nat.le_of_ble_eq_true rfl) ?_
                      refine mr_aload_n (pc := 115) (x := 8) rfl rfl ?_
                      refine mr_getfield (pc := 116) (v := .ref 11) rfl lfRX1_17 rfl rfl ?_
                      refine mr_iload_n (pc := 119) (x := a1) rfl rfl ?_
                      obtain ⟨g120, h⟩ := m_gd h
                      refine mr_iaload (pc := 120) (f := Y112.2.2.1) rfl rfl (vpb_in g120) ?_
                      cases h; exact mr_ireturn (pc := 121) rfl rfl (Nat.le_of_ble_eq_true rfl) (Nat.le_of_ble_eq_true rfl)
                    · cases hr; exact mr_thrown (mRunV (pc := 112) (q := 8) (As := [.int (1)]) (rest := []) rfl lkRX1_72 rfl rfl rfl (Nat.le_of_ble_eq_true rfl) (Nat.le_of_ble_eq_true rfl) (F_X1_leave hc112)) rfl rfl (Nat.le_of_ble_eq_true rfl) (Nat.le_of_ble_eq_true rfl)
              · have h := (if_pos c45).symm.trans h
                refine mr_aload_n (pc := 48) (x := 8) rfl rfl ?_
                refine mr_iconst (pc := 49) (v := 3) rfl (by decide) ?_
                refine mr_iconst (pc := 50) (v := 0) rfl (by decide) ?_
                refine mr_iconst (pc := 51) (v := 0) rfl (by decide) ?_
                refine mr_iconst (pc := 52) (v := 0) rfl (by decide) ?_
                rcases bI_inv h with ⟨v53, Y53, hc53, h⟩ | ⟨E53, Y53, hc53, hr⟩
                · refine mr_ret (mRunV (pc := 53) (q := 8) (As := [.int (3), .int (0), .int (0), .int (0)]) (rest := []) rfl lkRX1_68 rfl rfl rfl (Nat.le_of_ble_eq_true rfl) (Nat.le_of_ble_eq_true rfl) (F_X1_told hc53)) rfl (Nat.le_of_ble_eq_true rfl) (Nat.le_of_ble_eq_true rfl) ?_
                  cases h; exact mr_ireturn (pc := 56) rfl rfl (Nat.le_of_ble_eq_true rfl) (Nat.le_of_ble_eq_true rfl)
                · cases hr; exact mr_thrown (mRunV (pc := 53) (q := 8) (As := [.int (3), .int (0), .int (0), .int (0)]) (rest := []) rfl lkRX1_68 rfl rfl rfl (Nat.le_of_ble_eq_true rfl) (Nat.le_of_ble_eq_true rfl) (F_X1_told hc53)) rfl rfl (Nat.le_of_ble_eq_true rfl) (Nat.le_of_ble_eq_true rfl)
            · cases hr; exact mr_thrown (mRunV (pc := 42) (q := 8) (As := [.int (a1)]) (rest := []) rfl lkRX1_65 rfl rfl rfl (Nat.le_of_ble_eq_true rfl) (Nat.le_of_ble_eq_true rfl) (F_X1_hold hc42)) rfl rfl (Nat.le_of_ble_eq_true rfl) (Nat.le_of_ble_eq_true rfl)
          · have h := (if_neg c35).symm.trans h
            refine mr_iconst (pc := 38) (v := 0) rfl (by decide) ?_
            cases h; exact mr_ireturn (pc := 39) rfl rfl (Nat.le_of_ble_eq_true rfl) (Nat.le_of_ble_eq_true rfl)
        · have h := (if_pos c20).symm.trans h
          refine mr_iconst (pc := 23) (v := 2) rfl (by decide) ?_
          refine mr_goto (pc := 24) 28 rfl (by decide) ?_
          refine ms_putfield (pc := 28) (h' := (xw Z (yw (Y.1, Y.2.1, Y.2.2.1, Y.2.2.2.1, Y.2.2.2.2.1, Y.2.2.2.2.2.1, Y.2.2.2.2.2.2.1, Y.2.2.2.2.2.2.2.1, 2, Y.2.2.2.2.2.2.2.2.2.1, Y.2.2.2.2.2.2.2.2.2.2.1, Y.2.2.2.2.2.2.2.2.2.2.2.1, Y.2.2.2.2.2.2.2.2.2.2.2.2.1, Y.2.2.2.2.2.2.2.2.2.2.2.2.2.1, Y.2.2.2.2.2.2.2.2.2.2.2.2.2.2) T))) rfl lfRX1_38 rfl (Nat.le_of_ble_eq_true rfl) (by intro q hq; cases hq; rfl) rfl ?_
          refine mr_aload_n (pc := 31) (x := 8) rfl rfl ?_
          refine mr_getfield (pc := 32) (v := .int (2)) rfl lfRX1_38 rfl rfl ?_
          refine mr_if_le (pc := 35) 40 rfl (by decide) (fun c35 => ?_) (fun c35 => ?_)
          · have h := (if_pos c35).symm.trans h
            refine mr_aload_n (pc := 40) (x := 8) rfl rfl ?_
            refine mr_iload_n (pc := 41) (x := a1) rfl rfl ?_
            rcases bI_inv h with ⟨v42, Y42, hc42, h⟩ | ⟨E42, Y42, hc42, hr⟩
            · refine mr_ret (mRunV (pc := 42) (q := 8) (As := [.int (a1)]) (rest := []) rfl lkRX1_65 rfl rfl rfl (Nat.le_of_ble_eq_true rfl) (Nat.le_of_ble_eq_true rfl) (F_X1_hold hc42)) rfl (Nat.le_of_ble_eq_true rfl) (Nat.le_of_ble_eq_true rfl) ?_
              refine mr_if_ne (pc := 45) 57 rfl (by decide) (fun c45 => ?_) (fun c45 => ?_)
              · have h := (if_neg c45).symm.trans h
                refine mr_aload_n (pc := 57) (x := 8) rfl rfl ?_
                refine mr_getfield (pc := 58) (v := .ref 11) rfl lfRX1_17 rfl rfl ?_
                refine mr_iload_n (pc := 61) (x := a1) rfl rfl ?_
                obtain ⟨g62, h⟩ := m_gd h
                refine mr_iaload (pc := 62) (f := Y42.2.2.1) rfl rfl (vpb_in g62) ?_
                refine mr_iload_n (pc := 63) (x := a2) rfl rfl ?_
                refine mr_iadd (pc := 64) rfl ?_
                refine ms_istore_n (pc := 65) (L' := [some (.ref 8), some (.int (a1)), some (.int (a2)), some (.int (((Y42.2.2.1) ((a1) : Int32).toNatClampNeg) + (a2))), none]) rfl (by decide) rfl rfl ?_
                refine mr_iload_n (pc := 66) (x := ((Y42.2.2.1) ((a1) : Int32).toNatClampNeg) + (a2)) rfl rfl ?_
                refine mr_sipush (pc := 67) (v := 9999) rfl (by decide) ?_
                refine mr_icmp_le (pc := 70) 79 rfl (by decide) (fun c70 => ?_) (fun c70 => ?_)
                · have h := (if_pos c70).symm.trans h
                  refine mr_iload_n (pc := 79) (x := ((Y42.2.2.1) ((a1) : Int32).toNatClampNeg) + (a2)) rfl rfl ?_
                  refine ms_istore (pc := 80) (L' := [some (.ref 8), some (.int (a1)), some (.int (a2)), some (.int (((Y42.2.2.1) ((a1) : Int32).toNatClampNeg) + (a2))), some (.int (((Y42.2.2.1) ((a1) : Int32).toNatClampNeg) + (a2)))]) rfl (by decide) rfl rfl ?_
                  refine mr_aload_n (pc := 82) (x := 8) rfl rfl ?_
                  refine mr_getfield (pc := 83) (v := .ref 11) rfl lfRX1_17 rfl rfl ?_
                  refine mr_iload_n (pc := 86) (x := a1) rfl rfl ?_
                  refine mr_iload (pc := 87) (x := ((Y42.2.2.1) ((a1) : Int32).toNatClampNeg) + (a2)) rfl rfl ?_
                  refine mr_aload_n (pc := 89) (x := 8) rfl rfl ?_
                  refine mr_getfield (pc := 90) (v := .ref 11) rfl lfRX1_17 rfl rfl ?_
                  refine mr_iload_n (pc := 93) (x := a1) rfl rfl ?_
                  obtain ⟨g94, h⟩ := m_gd h
                  refine mr_iaload (pc := 94) (f := Y42.2.2.1) rfl rfl (vpb_in g94) ?_
                  refine mr_icmp_le (pc := 95) 103 rfl (by decide) (fun c95 => ?_) (fun c95 => ?_)
                  · have h := (if_pos c95).symm.trans h
                    refine mr_aload_n (pc := 103) (x := 8) rfl rfl ?_
                    refine mr_getfield (pc := 104) (v := .ref 11) rfl lfRX1_17 rfl rfl ?_
                    refine mr_iload_n (pc := 107) (x := a1) rfl rfl ?_
                    obtain ⟨g108, h⟩ := m_gd h
                    refine mr_iaload (pc := 108) (f := Y42.2.2.1) rfl rfl (vpb_in g108) ?_
                    obtain ⟨g109, h⟩ := m_gd h
                    refine ms_iastore (pc := 109) (f := Y42.2.2.1) (h' := (xw Z (yw (Y42.1, Y42.2.1, upd (Y42.2.2.1) ((a1) : Int32).toNatClampNeg ((Y42.2.2.1) ((a1) : Int32).toNatClampNeg), Y42.2.2.2.1, Y42.2.2.2.2.1, Y42.2.2.2.2.2.1, Y42.2.2.2.2.2.2.1, Y42.2.2.2.2.2.2.2.1, Y42.2.2.2.2.2.2.2.2.1, Y42.2.2.2.2.2.2.2.2.2.1, Y42.2.2.2.2.2.2.2.2.2.2.1, Y42.2.2.2.2.2.2.2.2.2.2.2.1, Y42.2.2.2.2.2.2.2.2.2.2.2.2.1, Y42.2.2.2.2.2.2.2.2.2.2.2.2.2.1, Y42.2.2.2.2.2.2.2.2.2.2.2.2.2.2) T))) rfl rfl g109 rfl ?_
                    refine mr_aload_n (pc := 110) (x := 8) rfl rfl ?_
                    refine mr_iconst (pc := 111) (v := 1) rfl (by decide) ?_
                    rcases bV_inv h with ⟨Y112, hc112, h⟩ | ⟨E112, Y112, hc112, hr⟩
                    · refine mr_ret (mRunV (pc := 112) (q := 8) (As := [.int (1)]) (rest := []) rfl lkRX1_72 rfl rfl rfl (Nat.le_of_ble_eq_true rfl) (Nat.le_of_ble_eq_true rfl) (F_X1_leave hc112)) rfl (Nat.le_of_ble_eq_true rfl) (Nat.le_of_ble_eq_true rfl) ?_
                      refine mr_aload_n (pc := 115) (x := 8) rfl rfl ?_
                      refine mr_getfield (pc := 116) (v := .ref 11) rfl lfRX1_17 rfl rfl ?_
                      refine mr_iload_n (pc := 119) (x := a1) rfl rfl ?_
                      obtain ⟨g120, h⟩ := m_gd h
                      refine mr_iaload (pc := 120) (f := Y112.2.2.1) rfl rfl (vpb_in g120) ?_
                      cases h; exact mr_ireturn (pc := 121) rfl rfl (Nat.le_of_ble_eq_true rfl) (Nat.le_of_ble_eq_true rfl)
                    · cases hr; exact mr_thrown (mRunV (pc := 112) (q := 8) (As := [.int (1)]) (rest := []) rfl lkRX1_72 rfl rfl rfl (Nat.le_of_ble_eq_true rfl) (Nat.le_of_ble_eq_true rfl) (F_X1_leave hc112)) rfl rfl (Nat.le_of_ble_eq_true rfl) (Nat.le_of_ble_eq_true rfl)
                  · have h := (if_neg c95).symm.trans h
                    refine mr_iload (pc := 98) (x := ((Y42.2.2.1) ((a1) : Int32).toNatClampNeg) + (a2)) rfl rfl ?_
                    refine mr_goto (pc := 100) 109 rfl (by decide) ?_
                    obtain ⟨g109, h⟩ := m_gd h
                    refine ms_iastore (pc := 109) (f := Y42.2.2.1) (h' := (xw Z (yw (Y42.1, Y42.2.1, upd (Y42.2.2.1) ((a1) : Int32).toNatClampNeg (((Y42.2.2.1) ((a1) : Int32).toNatClampNeg) + (a2)), Y42.2.2.2.1, Y42.2.2.2.2.1, Y42.2.2.2.2.2.1, Y42.2.2.2.2.2.2.1, Y42.2.2.2.2.2.2.2.1, Y42.2.2.2.2.2.2.2.2.1, Y42.2.2.2.2.2.2.2.2.2.1, Y42.2.2.2.2.2.2.2.2.2.2.1, Y42.2.2.2.2.2.2.2.2.2.2.2.1, Y42.2.2.2.2.2.2.2.2.2.2.2.2.1, Y42.2.2.2.2.2.2.2.2.2.2.2.2.2.1, Y42.2.2.2.2.2.2.2.2.2.2.2.2.2.2) T))) rfl rfl g109 rfl ?_
                    refine mr_aload_n (pc := 110) (x := 8) rfl rfl ?_
                    refine mr_iconst (pc := 111) (v := 1) rfl (by decide) ?_
                    rcases bV_inv h with ⟨Y112, hc112, h⟩ | ⟨E112, Y112, hc112, hr⟩
                    · refine mr_ret (mRunV (pc := 112) (q := 8) (As := [.int (1)]) (rest := []) rfl lkRX1_72 rfl rfl rfl (Nat.le_of_ble_eq_true rfl) (Nat.le_of_ble_eq_true rfl) (F_X1_leave hc112)) rfl (Nat.le_of_ble_eq_true rfl) (Nat.le_of_ble_eq_true rfl) ?_
                      refine mr_aload_n (pc := 115) (x := 8) rfl rfl ?_
                      refine mr_getfield (pc := 116) (v := .ref 11) rfl lfRX1_17 rfl rfl ?_
                      refine mr_iload_n (pc := 119) (x := a1) rfl rfl ?_
                      obtain ⟨g120, h⟩ := m_gd h
                      refine mr_iaload (pc := 120) (f := Y112.2.2.1) rfl rfl (vpb_in g120) ?_
                      cases h; exact mr_ireturn (pc := 121) rfl rfl (Nat.le_of_ble_eq_true rfl) (Nat.le_of_ble_eq_true rfl)
                    · cases hr; exact mr_thrown (mRunV (pc := 112) (q := 8) (As := [.int (1)]) (rest := []) rfl lkRX1_72 rfl rfl rfl (Nat.le_of_ble_eq_true rfl) (Nat.le_of_ble_eq_true rfl) (F_X1_leave hc112)) rfl rfl (Nat.le_of_ble_eq_true rfl) (Nat.le_of_ble_eq_true rfl)
                · have h := (if_neg c70).symm.trans h
                  refine mr_sipush (pc := 73) (v := 9999) rfl (by decide) ?_
                  refine mr_goto (pc := 76) 80 rfl (by decide) ?_
                  refine ms_istore (pc := 80) (L' := [some (.ref 8), some (.int (a1)), some (.int (a2)), some (.int (((Y42.2.2.1) ((a1) : Int32).toNatClampNeg) + (a2))), some (.int (9999))]) rfl (by decide) rfl rfl ?_
                  refine mr_aload_n (pc := 82) (x := 8) rfl rfl ?_
                  refine mr_getfield (pc := 83) (v := .ref 11) rfl lfRX1_17 rfl rfl ?_
                  refine mr_iload_n (pc := 86) (x := a1) rfl rfl ?_
                  refine mr_iload (pc := 87) (x := 9999) rfl rfl ?_
                  refine mr_aload_n (pc := 89) (x := 8) rfl rfl ?_
                  refine mr_getfield (pc := 90) (v := .ref 11) rfl lfRX1_17 rfl rfl ?_
                  refine mr_iload_n (pc := 93) (x := a1) rfl rfl ?_
                  obtain ⟨g94, h⟩ := m_gd h
                  refine mr_iaload (pc := 94) (f := Y42.2.2.1) rfl rfl (vpb_in g94) ?_
                  refine mr_icmp_le (pc := 95) 103 rfl (by decide) (fun c95 => ?_) (fun c95 => ?_)
                  · have h := (if_pos c95).symm.trans h
                    refine mr_aload_n (pc := 103) (x := 8) rfl rfl ?_
                    refine mr_getfield (pc := 104) (v := .ref 11) rfl lfRX1_17 rfl rfl ?_
                    refine mr_iload_n (pc := 107) (x := a1) rfl rfl ?_
                    obtain ⟨g108, h⟩ := m_gd h
                    refine mr_iaload (pc := 108) (f := Y42.2.2.1) rfl rfl (vpb_in g108) ?_
                    obtain ⟨g109, h⟩ := m_gd h
                    refine ms_iastore (pc := 109) (f := Y42.2.2.1) (h' := (xw Z (yw (Y42.1, Y42.2.1, upd (Y42.2.2.1) ((a1) : Int32).toNatClampNeg ((Y42.2.2.1) ((a1) : Int32).toNatClampNeg), Y42.2.2.2.1, Y42.2.2.2.2.1, Y42.2.2.2.2.2.1, Y42.2.2.2.2.2.2.1, Y42.2.2.2.2.2.2.2.1, Y42.2.2.2.2.2.2.2.2.1, Y42.2.2.2.2.2.2.2.2.2.1, Y42.2.2.2.2.2.2.2.2.2.2.1, Y42.2.2.2.2.2.2.2.2.2.2.2.1, Y42.2.2.2.2.2.2.2.2.2.2.2.2.1, Y42.2.2.2.2.2.2.2.2.2.2.2.2.2.1, Y42.2.2.2.2.2.2.2.2.2.2.2.2.2.2) T))) rfl rfl g109 rfl ?_
                    refine mr_aload_n (pc := 110) (x := 8) rfl rfl ?_
                    refine mr_iconst (pc := 111) (v := 1) rfl (by decide) ?_
                    rcases bV_inv h with ⟨Y112, hc112, h⟩ | ⟨E112, Y112, hc112, hr⟩
                    · refine mr_ret (mRunV (pc := 112) (q := 8) (As := [.int (1)]) (rest := []) rfl lkRX1_72 rfl rfl rfl (Nat.le_of_ble_eq_true rfl) (Nat.le_of_ble_eq_true rfl) (F_X1_leave hc112)) rfl (Nat.le_of_ble_eq_true rfl) (Nat.le_of_ble_eq_true rfl) ?_
                      refine mr_aload_n (pc := 115) (x := 8) rfl rfl ?_
                      refine mr_getfield (pc := 116) (v := .ref 11) rfl lfRX1_17 rfl rfl ?_
                      refine mr_iload_n (pc := 119) (x := a1) rfl rfl ?_
                      obtain ⟨g120, h⟩ := m_gd h
                      refine mr_iaload (pc := 120) (f := Y112.2.2.1) rfl rfl (vpb_in g120) ?_
                      cases h; exact mr_ireturn (pc := 121) rfl rfl (Nat.le_of_ble_eq_true rfl) (Nat.le_of_ble_eq_true rfl)
                    · cases hr; exact mr_thrown (mRunV (pc := 112) (q := 8) (As := [.int (1)]) (rest := []) rfl lkRX1_72 rfl rfl rfl (Nat.le_of_ble_eq_true rfl) (Nat.le_of_ble_eq_true rfl) (F_X1_leave hc112)) rfl rfl (Nat.le_of_ble_eq_true rfl) (Nat.le_of_ble_eq_true rfl)
                  · have h := (if_neg c95).symm.trans h
                    refine mr_iload (pc := 98) (x := 9999) rfl rfl ?_
                    refine mr_goto (pc := 100) 109 rfl (by decide) ?_
                    obtain ⟨g109, h⟩ := m_gd h
                    refine ms_iastore (pc := 109) (f := Y42.2.2.1) (h' := (xw Z (yw (Y42.1, Y42.2.1, upd (Y42.2.2.1) ((a1) : Int32).toNatClampNeg (9999), Y42.2.2.2.1, Y42.2.2.2.2.1, Y42.2.2.2.2.2.1, Y42.2.2.2.2.2.2.1, Y42.2.2.2.2.2.2.2.1, Y42.2.2.2.2.2.2.2.2.1, Y42.2.2.2.2.2.2.2.2.2.1, Y42.2.2.2.2.2.2.2.2.2.2.1, Y42.2.2.2.2.2.2.2.2.2.2.2.1, Y42.2.2.2.2.2.2.2.2.2.2.2.2.1, Y42.2.2.2.2.2.2.2.2.2.2.2.2.2.1, Y42.2.2.2.2.2.2.2.2.2.2.2.2.2.2) T))) rfl rfl g109 rfl ?_
                    refine mr_aload_n (pc := 110) (x := 8) rfl rfl ?_
                    refine mr_iconst (pc := 111) (v := 1) rfl (by decide) ?_
                    rcases bV_inv h with ⟨Y112, hc112, h⟩ | ⟨E112, Y112, hc112, hr⟩
                    · refine mr_ret (mRunV (pc := 112) (q := 8) (As := [.int (1)]) (rest := []) rfl lkRX1_72 rfl rfl rfl (Nat.le_of_ble_eq_true rfl) (Nat.le_of_ble_eq_true rfl) (F_X1_leave hc112)) rfl (Nat.le_of_ble_eq_true rfl) (Nat.le_of_ble_eq_true rfl) ?_
                      refine mr_aload_n (pc := 115) (x := 8) rfl rfl ?_
                      refine mr_getfield (pc := 116) (v := .ref 11) rfl lfRX1_17 rfl rfl ?_
                      refine mr_iload_n (pc := 119) (x := a1) rfl rfl ?_
                      obtain ⟨g120, h⟩ := m_gd h
                      refine mr_iaload (pc := 120) (f := Y112.2.2.1) rfl rfl (vpb_in g120) ?_
                      cases h; exact mr_ireturn (pc := 121) rfl rfl (Nat.le_of_ble_eq_true rfl) (Nat.le_of_ble_eq_true rfl)
                    · cases hr; exact mr_thrown (mRunV (pc := 112) (q := 8) (As := [.int (1)]) (rest := []) rfl lkRX1_72 rfl rfl rfl (Nat.le_of_ble_eq_true rfl) (Nat.le_of_ble_eq_true rfl) (F_X1_leave hc112)) rfl rfl (Nat.le_of_ble_eq_true rfl) (Nat.le_of_ble_eq_true rfl)
              · have h := (if_pos c45).symm.trans h
                refine mr_aload_n (pc := 48) (x := 8) rfl rfl ?_
                refine mr_iconst (pc := 49) (v := 3) rfl (by decide) ?_
                refine mr_iconst (pc := 50) (v := 0) rfl (by decide) ?_
                refine mr_iconst (pc := 51) (v := 0) rfl (by decide) ?_
                refine mr_iconst (pc := 52) (v := 0) rfl (by decide) ?_
                rcases bI_inv h with ⟨v53, Y53, hc53, h⟩ | ⟨E53, Y53, hc53, hr⟩
                · refine mr_ret (mRunV (pc := 53) (q := 8) (As := [.int (3), .int (0), .int (0), .int (0)]) (rest := []) rfl lkRX1_68 rfl rfl rfl (Nat.le_of_ble_eq_true rfl) (Nat.le_of_ble_eq_true rfl) (F_X1_told hc53)) rfl (Nat.le_of_ble_eq_true rfl) (Nat.le_of_ble_eq_true rfl) ?_
                  cases h; exact mr_ireturn (pc := 56) rfl rfl (Nat.le_of_ble_eq_true rfl) (Nat.le_of_ble_eq_true rfl)
                · cases hr; exact mr_thrown (mRunV (pc := 53) (q := 8) (As := [.int (3), .int (0), .int (0), .int (0)]) (rest := []) rfl lkRX1_68 rfl rfl rfl (Nat.le_of_ble_eq_true rfl) (Nat.le_of_ble_eq_true rfl) (F_X1_told hc53)) rfl rfl (Nat.le_of_ble_eq_true rfl) (Nat.le_of_ble_eq_true rfl)
            · cases hr; exact mr_thrown (mRunV (pc := 42) (q := 8) (As := [.int (a1)]) (rest := []) rfl lkRX1_65 rfl rfl rfl (Nat.le_of_ble_eq_true rfl) (Nat.le_of_ble_eq_true rfl) (F_X1_hold hc42)) rfl rfl (Nat.le_of_ble_eq_true rfl) (Nat.le_of_ble_eq_true rfl)
          · have h := (if_neg c35).symm.trans h
            refine mr_iconst (pc := 38) (v := 0) rfl (by decide) ?_
            cases h; exact mr_ireturn (pc := 39) rfl rfl (Nat.le_of_ble_eq_true rfl) (Nat.le_of_ble_eq_true rfl)
      · cases hr; exact mr_thrown (mRunS (pc := 17) (As := [.int (a2), .int (0), .int (9999)]) (rest := [.ref 8]) rfl lkRX1_54 rfl (Nat.le_of_ble_eq_true rfl) (Nat.le_of_ble_eq_true rfl) (F_X1_in hc17)) rfl rfl (Nat.le_of_ble_eq_true rfl) (Nat.le_of_ble_eq_true rfl)
    · have h := (if_pos c5).symm.trans h
      refine mr_iconst (pc := 8) (v := 1) rfl (by decide) ?_
      refine mr_goto (pc := 9) 28 rfl (by decide) ?_
      refine ms_putfield (pc := 28) (h' := (xw Z (yw (Y.1, Y.2.1, Y.2.2.1, Y.2.2.2.1, Y.2.2.2.2.1, Y.2.2.2.2.2.1, Y.2.2.2.2.2.2.1, Y.2.2.2.2.2.2.2.1, 1, Y.2.2.2.2.2.2.2.2.2.1, Y.2.2.2.2.2.2.2.2.2.2.1, Y.2.2.2.2.2.2.2.2.2.2.2.1, Y.2.2.2.2.2.2.2.2.2.2.2.2.1, Y.2.2.2.2.2.2.2.2.2.2.2.2.2.1, Y.2.2.2.2.2.2.2.2.2.2.2.2.2.2) T))) rfl lfRX1_38 rfl (Nat.le_of_ble_eq_true rfl) (by intro q hq; cases hq; rfl) rfl ?_
      refine mr_aload_n (pc := 31) (x := 8) rfl rfl ?_
      refine mr_getfield (pc := 32) (v := .int (1)) rfl lfRX1_38 rfl rfl ?_
      refine mr_if_le (pc := 35) 40 rfl (by decide) (fun c35 => ?_) (fun c35 => ?_)
      · have h := (if_pos c35).symm.trans h
        refine mr_aload_n (pc := 40) (x := 8) rfl rfl ?_
        refine mr_iload_n (pc := 41) (x := a1) rfl rfl ?_
        rcases bI_inv h with ⟨v42, Y42, hc42, h⟩ | ⟨E42, Y42, hc42, hr⟩
        · refine mr_ret (mRunV (pc := 42) (q := 8) (As := [.int (a1)]) (rest := []) rfl lkRX1_65 rfl rfl rfl (Nat.le_of_ble_eq_true rfl) (Nat.le_of_ble_eq_true rfl) (F_X1_hold hc42)) rfl (Nat.le_of_ble_eq_true rfl) (Nat.le_of_ble_eq_true rfl) ?_
          refine mr_if_ne (pc := 45) 57 rfl (by decide) (fun c45 => ?_) (fun c45 => ?_)
          · have h := (if_neg c45).symm.trans h
            refine mr_aload_n (pc := 57) (x := 8) rfl rfl ?_
            refine mr_getfield (pc := 58) (v := .ref 11) rfl lfRX1_17 rfl rfl ?_
            refine mr_iload_n (pc := 61) (x := a1) rfl rfl ?_
            obtain ⟨g62, h⟩ := m_gd h
            refine mr_iaload (pc := 62) (f := Y42.2.2.1) rfl rfl (vpb_in g62) ?_
            refine mr_iload_n (pc := 63) (x := a2) rfl rfl ?_
            refine mr_iadd (pc := 64) rfl ?_
            refine ms_istore_n (pc := 65) (L' := [some (.ref 8), some (.int (a1)), some (.int (a2)), some (.int (((Y42.2.2.1) ((a1) : Int32).toNatClampNeg) + (a2))), none]) rfl (by decide) rfl rfl ?_
            refine mr_iload_n (pc := 66) (x := ((Y42.2.2.1) ((a1) : Int32).toNatClampNeg) + (a2)) rfl rfl ?_
            refine mr_sipush (pc := 67) (v := 9999) rfl (by decide) ?_
            refine mr_icmp_le (pc := 70) 79 rfl (by decide) (fun c70 => ?_) (fun c70 => ?_)
            · have h := (if_pos c70).symm.trans h
              refine mr_iload_n (pc := 79) (x := ((Y42.2.2.1) ((a1) : Int32).toNatClampNeg) + (a2)) rfl rfl ?_
              refine ms_istore (pc := 80) (L' := [some (.ref 8), some (.int (a1)), some (.int (a2)), some (.int (((Y42.2.2.1) ((a1) : Int32).toNatClampNeg) + (a2))), some (.int (((Y42.2.2.1) ((a1) : Int32).toNatClampNeg) + (a2)))]) rfl (by decide) rfl rfl ?_
              refine mr_aload_n (pc := 82) (x := 8) rfl rfl ?_
              refine mr_getfield (pc := 83) (v := .ref 11) rfl lfRX1_17 rfl rfl ?_
              refine mr_iload_n (pc := 86) (x := a1) rfl rfl ?_
              refine mr_iload (pc := 87) (x := ((Y42.2.2.1) ((a1) : Int32).toNatClampNeg) + (a2)) rfl rfl ?_
              refine mr_aload_n (pc := 89) (x := 8) rfl rfl ?_
              refine mr_getfield (pc := 90) (v := .ref 11) rfl lfRX1_17 rfl rfl ?_
              refine mr_iload_n (pc := 93) (x := a1) rfl rfl ?_
              obtain ⟨g94, h⟩ := m_gd h
              refine mr_iaload (pc := 94) (f := Y42.2.2.1) rfl rfl (vpb_in g94) ?_
              refine mr_icmp_le (pc := 95) 103 rfl (by decide) (fun c95 => ?_) (fun c95 => ?_)
              · have h := (if_pos c95).symm.trans h
                refine mr_aload_n (pc := 103) (x := 8) rfl rfl ?_
                refine mr_getfield (pc := 104) (v := .ref 11) rfl lfRX1_17 rfl rfl ?_
                refine mr_iload_n (pc := 107) (x := a1) rfl rfl ?_
                obtain ⟨g108, h⟩ := m_gd h
                refine mr_iaload (pc := 108) (f := Y42.2.2.1) rfl rfl (vpb_in g108) ?_
                obtain ⟨g109, h⟩ := m_gd h
                refine ms_iastore (pc := 109) (f := Y42.2.2.1) (h' := (xw Z (yw (Y42.1, Y42.2.1, upd (Y42.2.2.1) ((a1) : Int32).toNatClampNeg ((Y42.2.2.1) ((a1) : Int32).toNatClampNeg), Y42.2.2.2.1, Y42.2.2.2.2.1, Y42.2.2.2.2.2.1, Y42.2.2.2.2.2.2.1, Y42.2.2.2.2.2.2.2.1, Y42.2.2.2.2.2.2.2.2.1, Y42.2.2.2.2.2.2.2.2.2.1, Y42.2.2.2.2.2.2.2.2.2.2.1, Y42.2.2.2.2.2.2.2.2.2.2.2.1, Y42.2.2.2.2.2.2.2.2.2.2.2.2.1, Y42.2.2.2.2.2.2.2.2.2.2.2.2.2.1, Y42.2.2.2.2.2.2.2.2.2.2.2.2.2.2) T))) rfl rfl g109 rfl ?_
                refine mr_aload_n (pc := 110) (x := 8) rfl rfl ?_
                refine mr_iconst (pc := 111) (v := 1) rfl (by decide) ?_
                rcases bV_inv h with ⟨Y112, hc112, h⟩ | ⟨E112, Y112, hc112, hr⟩
                · refine mr_ret (mRunV (pc := 112) (q := 8) (As := [.int (1)]) (rest := []) rfl lkRX1_72 rfl rfl rfl (Nat.le_of_ble_eq_true rfl) (Nat.le_of_ble_eq_true rfl) (F_X1_leave hc112)) rfl (Nat.le_of_ble_eq_true rfl) (Nat.le_of_ble_eq_true rfl) ?_
                  refine mr_aload_n (pc := 115) (x := 8) rfl rfl ?_
                  refine mr_getfield (pc := 116) (v := .ref 11) rfl lfRX1_17 rfl rfl ?_
                  refine mr_iload_n (pc := 119) (x := a1) rfl rfl ?_
                  obtain ⟨g120, h⟩ := m_gd h
                  refine mr_iaload (pc := 120) (f := Y112.2.2.1) rfl rfl (vpb_in g120) ?_
                  cases h; exact mr_ireturn (pc := 121) rfl rfl (Nat.le_of_ble_eq_true rfl) (Nat.le_of_ble_eq_true rfl)
                · cases hr; exact mr_thrown (mRunV (pc := 112) (q := 8) (As := [.int (1)]) (rest := []) rfl lkRX1_72 rfl rfl rfl (Nat.le_of_ble_eq_true rfl) (Nat.le_of_ble_eq_true rfl) (F_X1_leave hc112)) rfl rfl (Nat.le_of_ble_eq_true rfl) (Nat.le_of_ble_eq_true rfl)
              · have h := (if_neg c95).symm.trans h
                refine mr_iload (pc := 98) (x := ((Y42.2.2.1) ((a1) : Int32).toNatClampNeg) + (a2)) rfl rfl ?_
                refine mr_goto (pc := 100) 109 rfl (by decide) ?_
                obtain ⟨g109, h⟩ := m_gd h
                refine ms_iastore (pc := 109) (f := Y42.2.2.1) (h' := (xw Z (yw (Y42.1, Y42.2.1, upd (Y42.2.2.1) ((a1) : Int32).toNatClampNeg (((Y42.2.2.1) ((a1) : Int32).toNatClampNeg) + (a2)), Y42.2.2.2.1, Y42.2.2.2.2.1, Y42.2.2.2.2.2.1, Y42.2.2.2.2.2.2.1, Y42.2.2.2.2.2.2.2.1, Y42.2.2.2.2.2.2.2.2.1, Y42.2.2.2.2.2.2.2.2.2.1, Y42.2.2.2.2.2.2.2.2.2.2.1, Y42.2.2.2.2.2.2.2.2.2.2.2.1, Y42.2.2.2.2.2.2.2.2.2.2.2.2.1, Y42.2.2.2.2.2.2.2.2.2.2.2.2.2.1, Y42.2.2.2.2.2.2.2.2.2.2.2.2.2.2) T))) rfl rfl g109 rfl ?_
                refine mr_aload_n (pc := 110) (x := 8) rfl rfl ?_
                refine mr_iconst (pc := 111) (v := 1) rfl (by decide) ?_
                rcases bV_inv h with ⟨Y112, hc112, h⟩ | ⟨E112, Y112, hc112, hr⟩
                · refine mr_ret (mRunV (pc := 112) (q := 8) (As := [.int (1)]) (rest := []) rfl lkRX1_72 rfl rfl rfl (Nat.le_of_ble_eq_true rfl) (Nat.le_of_ble_eq_true rfl) (F_X1_leave hc112)) rfl (Nat.le_of_ble_eq_true rfl) (Nat.le_of_ble_eq_true rfl) ?_
                  refine mr_aload_n (pc := 115) (x := 8) rfl rfl ?_
                  refine mr_getfield (pc := 116) (v := .ref 11) rfl lfRX1_17 rfl rfl ?_
                  refine mr_iload_n (pc := 119) (x := a1) rfl rfl ?_
                  obtain ⟨g120, h⟩ := m_gd h
                  refine mr_iaload (pc := 120) (f := Y112.2.2.1) rfl rfl (vpb_in g120) ?_
                  cases h; exact mr_ireturn (pc := 121) rfl rfl (Nat.le_of_ble_eq_true rfl) (Nat.le_of_ble_eq_true rfl)
                · cases hr; exact mr_thrown (mRunV (pc := 112) (q := 8) (As := [.int (1)]) (rest := []) rfl lkRX1_72 rfl rfl rfl (Nat.le_of_ble_eq_true rfl) (Nat.le_of_ble_eq_true rfl) (F_X1_leave hc112)) rfl rfl (Nat.le_of_ble_eq_true rfl) (Nat.le_of_ble_eq_true rfl)
            · have h := (if_neg c70).symm.trans h
              refine mr_sipush (pc := 73) (v := 9999) rfl (by decide) ?_
              refine mr_goto (pc := 76) 80 rfl (by decide) ?_
              refine ms_istore (pc := 80) (L' := [some (.ref 8), some (.int (a1)), some (.int (a2)), some (.int (((Y42.2.2.1) ((a1) : Int32).toNatClampNeg) + (a2))), some (.int (9999))]) rfl (by decide) rfl rfl ?_
              refine mr_aload_n (pc := 82) (x := 8) rfl rfl ?_
              refine mr_getfield (pc := 83) (v := .ref 11) rfl lfRX1_17 rfl rfl ?_
              refine mr_iload_n (pc := 86) (x := a1) rfl rfl ?_
              refine mr_iload (pc := 87) (x := 9999) rfl rfl ?_
              refine mr_aload_n (pc := 89) (x := 8) rfl rfl ?_
              refine mr_getfield (pc := 90) (v := .ref 11) rfl lfRX1_17 rfl rfl ?_
              refine mr_iload_n (pc := 93) (x := a1) rfl rfl ?_
              obtain ⟨g94, h⟩ := m_gd h
              refine mr_iaload (pc := 94) (f := Y42.2.2.1) rfl rfl (vpb_in g94) ?_
              refine mr_icmp_le (pc := 95) 103 rfl (by decide) (fun c95 => ?_) (fun c95 => ?_)
              · have h := (if_pos c95).symm.trans h
                refine mr_aload_n (pc := 103) (x := 8) rfl rfl ?_
                refine mr_getfield (pc := 104) (v := .ref 11) rfl lfRX1_17 rfl rfl ?_
                refine mr_iload_n (pc := 107) (x := a1) rfl rfl ?_
                obtain ⟨g108, h⟩ := m_gd h
                refine mr_iaload (pc := 108) (f := Y42.2.2.1) rfl rfl (vpb_in g108) ?_
                obtain ⟨g109, h⟩ := m_gd h
                refine ms_iastore (pc := 109) (f := Y42.2.2.1) (h' := (xw Z (yw (Y42.1, Y42.2.1, upd (Y42.2.2.1) ((a1) : Int32).toNatClampNeg ((Y42.2.2.1) ((a1) : Int32).toNatClampNeg), Y42.2.2.2.1, Y42.2.2.2.2.1, Y42.2.2.2.2.2.1, Y42.2.2.2.2.2.2.1, Y42.2.2.2.2.2.2.2.1, Y42.2.2.2.2.2.2.2.2.1, Y42.2.2.2.2.2.2.2.2.2.1, Y42.2.2.2.2.2.2.2.2.2.2.1, Y42.2.2.2.2.2.2.2.2.2.2.2.1, Y42.2.2.2.2.2.2.2.2.2.2.2.2.1, Y42.2.2.2.2.2.2.2.2.2.2.2.2.2.1, Y42.2.2.2.2.2.2.2.2.2.2.2.2.2.2) T))) rfl rfl g109 rfl ?_
                refine mr_aload_n (pc := 110) (x := 8) rfl rfl ?_
                refine mr_iconst (pc := 111) (v := 1) rfl (by decide) ?_
                rcases bV_inv h with ⟨Y112, hc112, h⟩ | ⟨E112, Y112, hc112, hr⟩
                · refine mr_ret (mRunV (pc := 112) (q := 8) (As := [.int (1)]) (rest := []) rfl lkRX1_72 rfl rfl rfl (Nat.le_of_ble_eq_true rfl) (Nat.le_of_ble_eq_true rfl) (F_X1_leave hc112)) rfl (Nat.le_of_ble_eq_true rfl) (Nat.le_of_ble_eq_true rfl) ?_
                  refine mr_aload_n (pc := 115) (x := 8) rfl rfl ?_
                  refine mr_getfield (pc := 116) (v := .ref 11) rfl lfRX1_17 rfl rfl ?_
                  refine mr_iload_n (pc := 119) (x := a1) rfl rfl ?_
                  obtain ⟨g120, h⟩ := m_gd h
                  refine mr_iaload (pc := 120) (f := Y112.2.2.1) rfl rfl (vpb_in g120) ?_
                  cases h; exact mr_ireturn (pc := 121) rfl rfl (Nat.le_of_ble_eq_true rfl) (Nat.le_of_ble_eq_true rfl)
                · cases hr; exact mr_thrown (mRunV (pc := 112) (q := 8) (As := [.int (1)]) (rest := []) rfl lkRX1_72 rfl rfl rfl (Nat.le_of_ble_eq_true rfl) (Nat.le_of_ble_eq_true rfl) (F_X1_leave hc112)) rfl rfl (Nat.le_of_ble_eq_true rfl) (Nat.le_of_ble_eq_true rfl)
              · have h := (if_neg c95).symm.trans h
                refine mr_iload (pc := 98) (x := 9999) rfl rfl ?_
                refine mr_goto (pc := 100) 109 rfl (by decide) ?_
                obtain ⟨g109, h⟩ := m_gd h
                refine ms_iastore (pc := 109) (f := Y42.2.2.1) (h' := (xw Z (yw (Y42.1, Y42.2.1, upd (Y42.2.2.1) ((a1) : Int32).toNatClampNeg (9999), Y42.2.2.2.1, Y42.2.2.2.2.1, Y42.2.2.2.2.2.1, Y42.2.2.2.2.2.2.1, Y42.2.2.2.2.2.2.2.1, Y42.2.2.2.2.2.2.2.2.1, Y42.2.2.2.2.2.2.2.2.2.1, Y42.2.2.2.2.2.2.2.2.2.2.1, Y42.2.2.2.2.2.2.2.2.2.2.2.1, Y42.2.2.2.2.2.2.2.2.2.2.2.2.1, Y42.2.2.2.2.2.2.2.2.2.2.2.2.2.1, Y42.2.2.2.2.2.2.2.2.2.2.2.2.2.2) T))) rfl rfl g109 rfl ?_
                refine mr_aload_n (pc := 110) (x := 8) rfl rfl ?_
                refine mr_iconst (pc := 111) (v := 1) rfl (by decide) ?_
                rcases bV_inv h with ⟨Y112, hc112, h⟩ | ⟨E112, Y112, hc112, hr⟩
                · refine mr_ret (mRunV (pc := 112) (q := 8) (As := [.int (1)]) (rest := []) rfl lkRX1_72 rfl rfl rfl (Nat.le_of_ble_eq_true rfl) (Nat.le_of_ble_eq_true rfl) (F_X1_leave hc112)) rfl (Nat.le_of_ble_eq_true rfl) (Nat.le_of_ble_eq_true rfl) ?_
                  refine mr_aload_n (pc := 115) (x := 8) rfl rfl ?_
                  refine mr_getfield (pc := 116) (v := .ref 11) rfl lfRX1_17 rfl rfl ?_
                  refine mr_iload_n (pc := 119) (x := a1) rfl rfl ?_
                  obtain ⟨g120, h⟩ := m_gd h
                  refine mr_iaload (pc := 120) (f := Y112.2.2.1) rfl rfl (vpb_in g120) ?_
                  cases h; exact mr_ireturn (pc := 121) rfl rfl (Nat.le_of_ble_eq_true rfl) (Nat.le_of_ble_eq_true rfl)
                · cases hr; exact mr_thrown (mRunV (pc := 112) (q := 8) (As := [.int (1)]) (rest := []) rfl lkRX1_72 rfl rfl rfl (Nat.le_of_ble_eq_true rfl) (Nat.le_of_ble_eq_true rfl) (F_X1_leave hc112)) rfl rfl (Nat.le_of_ble_eq_true rfl) (Nat.le_of_ble_eq_true rfl)
          · have h := (if_pos c45).symm.trans h
            refine mr_aload_n (pc := 48) (x := 8) rfl rfl ?_
            refine mr_iconst (pc := 49) (v := 3) rfl (by decide) ?_
            refine mr_iconst (pc := 50) (v := 0) rfl (by decide) ?_
            refine mr_iconst (pc := 51) (v := 0) rfl (by decide) ?_
            refine mr_iconst (pc := 52) (v := 0) rfl (by decide) ?_
            rcases bI_inv h with ⟨v53, Y53, hc53, h⟩ | ⟨E53, Y53, hc53, hr⟩
            · refine mr_ret (mRunV (pc := 53) (q := 8) (As := [.int (3), .int (0), .int (0), .int (0)]) (rest := []) rfl lkRX1_68 rfl rfl rfl (Nat.le_of_ble_eq_true rfl) (Nat.le_of_ble_eq_true rfl) (F_X1_told hc53)) rfl (Nat.le_of_ble_eq_true rfl) (Nat.le_of_ble_eq_true rfl) ?_
              cases h; exact mr_ireturn (pc := 56) rfl rfl (Nat.le_of_ble_eq_true rfl) (Nat.le_of_ble_eq_true rfl)
            · cases hr; exact mr_thrown (mRunV (pc := 53) (q := 8) (As := [.int (3), .int (0), .int (0), .int (0)]) (rest := []) rfl lkRX1_68 rfl rfl rfl (Nat.le_of_ble_eq_true rfl) (Nat.le_of_ble_eq_true rfl) (F_X1_told hc53)) rfl rfl (Nat.le_of_ble_eq_true rfl) (Nat.le_of_ble_eq_true rfl)
        · cases hr; exact mr_thrown (mRunV (pc := 42) (q := 8) (As := [.int (a1)]) (rest := []) rfl lkRX1_65 rfl rfl rfl (Nat.le_of_ble_eq_true rfl) (Nat.le_of_ble_eq_true rfl) (F_X1_hold hc42)) rfl rfl (Nat.le_of_ble_eq_true rfl) (Nat.le_of_ble_eq_true rfl)
      · have h := (if_neg c35).symm.trans h
        refine mr_iconst (pc := 38) (v := 0) rfl (by decide) ?_
        cases h; exact mr_ireturn (pc := 39) rfl rfl (Nat.le_of_ble_eq_true rfl) (Nat.le_of_ble_eq_true rfl)
  · cases hr; exact mr_thrown (mRunS (pc := 2) (As := [.int (a1)]) (rest := [.ref 8]) rfl lkRX1_62 rfl (Nat.le_of_ble_eq_true rfl) (Nat.le_of_ble_eq_true rfl) (F_X1_isPool hc2)) rfl rfl (Nat.le_of_ble_eq_true rfl) (Nat.le_of_ble_eq_true rfl)
