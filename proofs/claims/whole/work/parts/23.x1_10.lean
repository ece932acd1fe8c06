/-! THE METHODS OF X1 AS FUNCTIONS, by program (wip/whole/gencode.py) -/
def g_X1_told__9 : Nat → rS → Int32 → Int32 → Int32 → Option (mO × rS)
  | 0, _, _, _, _ => none
  | f9 + 1, Y, b1, b2, b3 => if ((8) : Int32) ≤ ((b3) : Int32) then (if ((b1) : Int32) = 0 then (some (.inl (some (.int (Y.2.2.2.2.2.2.2.2.2.2.1))), Y)) else (if ((b1) : Int32) = ((1) : Int32) then (some (.inl (some (.int (Y.2.2.2.2.2.2.2.2.2.2.2.1))), Y)) else (if ((b1) : Int32) = ((2) : Int32) then (bI (g_X1_dug Y ) (fun v72 Y72 => some (.inl (some (.int (v72))), Y72))) else (if ((b1) : Int32) = ((3) : Int32) then (some (.inl (some (.int (b2))), Y)) else (some (.inl (some (.int ((-1)))), Y)))))) else (if vpb (b3) 8 then (if (((Y.1) ((b3) : Int32).toNatClampNeg) : Int32) = 0 then (g_X1_told__9 f9 Y (b1) ((b2) + (0)) (b3 + 1)) else (if vpb (b3) 8 then (g_X1_told__9 f9 Y (b1) ((b2) + ((Y.2.2.1) ((b3) : Int32).toNatClampNeg)) (b3 + 1)) else none)) else none)
set_option maxRecDepth 100000 in
set_option maxHeartbeats 4000000 in
theorem FL_X1_told__9 {S : Nat × (Nat → Int32)} {Z : cS} {T : mH} : ∀ (f9 : Nat) (Y : rS) (b1 b2 b3 : Int32) (o9 : mO) (R9 : rS), g_X1_told__9 f9 Y b1 b2 b3 = some (o9, R9) → mF S MX1_told_ 9 [some (.ref 8), some (.int (b1)), some (.int (b2)), some (.int (b3))] [] (xw Z (yw Y T)) 0 0 (o9, (xw Z (yw R9 T)), 0, 0) := by
  intro f9
  induction f9 with
  | zero => intro Y b1 b2 b3 o9 R9 h; cases h
  | succ f9 ih9 =>
    intro Y b1 b2 b3 o9 R9 h
    rw [g_X1_told__9] at h
    refine mr_iload_n (pc := 9) (x := b3) rfl rfl ?_
    refine mr_bipush (pc := 10) (v := 8) rfl (by decide) ?_
    refine mr_icmp_ge (pc := 12) 43 rfl (by decide) (fun c12 => ?_) (fun c12 => ?_)
    · have h := (if_pos c12).symm.trans h
      refine mr_iload_n (pc := 43) (x := b1) rfl rfl ?_
      refine mr_if_ne (pc := 44) 54 rfl (by decide) (fun c44 => ?_) (fun c44 => ?_)
      · have h := (if_neg c44).symm.trans h
        refine mr_iload_n (pc := 54) (x := b1) rfl rfl ?_
        refine mr_iconst (pc := 55) (v := 1) rfl (by decide) ?_
        refine mr_icmp_ne (pc := 56) 66 rfl (by decide) (fun c56 => ?_) (fun c56 => ?_)
        · have h := (if_neg c56).symm.trans h
          refine mr_iload_n (pc := 66) (x := b1) rfl rfl ?_
          refine mr_iconst (pc := 67) (v := 2) rfl (by decide) ?_
          refine mr_icmp_ne (pc := 68) 78 rfl (by decide) (fun c68 => ?_) (fun c68 => ?_)
          · have h := (if_neg c68).symm.trans h
            refine mr_iload_n (pc := 78) (x := b1) rfl rfl ?_
            refine mr_iconst (pc := 79) (v := 3) rfl (by decide) ?_
            refine mr_icmp_ne (pc := 80) 87 rfl (by decide) (fun c80 => ?_) (fun c80 => ?_)
            · have h := (if_neg c80).symm.trans h
              refine mr_iconst (pc := 87) (v := -1) rfl (by decide) ?_
              cases h; exact mr_ireturn (pc := 88) rfl rfl (Nat.le_of_ble_eq_true rfl) (Nat.le_of_ble_eq_true rfl)
            · have h := (if_pos c80).symm.trans h
              refine mr_iload_n (pc := 83) (x := b2) rfl rfl ?_
              refine mr_goto (pc := 84) 88 rfl (by decide) ?_
              cases h; exact mr_ireturn (pc := 88) rfl rfl (Nat.le_of_ble_eq_true rfl) (Nat.le_of_ble_eq_true rfl)
          · have h := (if_pos c68).symm.trans h
            refine mr_aload_n (pc := 71) (x := 8) rfl rfl ?_
            rcases bI_inv h with ⟨v72, Y72, hc72, h⟩ | ⟨E72, Y72, hc72, hr⟩
            · refine mr_ret (mRunV (pc := 72) (q := 8) (As := []) (rest := []) rfl lkRX1_103 rfl rfl rfl (Nat.le_of_ble_eq_true rfl) (Nat.le_of_ble_eq_true rfl) (F_X1_dug hc72)) rfl (Nat.le_of_ble_eq_true rfl) (Nat.le_of_ble_eq_true rfl) ?_
              refine mr_goto (pc := 75) 88 rfl (by decide) ?_
              cases h; exact mr_ireturn (pc := 88) rfl rfl (Nat.le_of_ble_eq_true rfl) (Nat.le_of_ble_eq_true rfl)
            · cases hr; exact mr_thrown (mRunV (pc := 72) (q := 8) (As := []) (rest := []) rfl lkRX1_103 rfl rfl rfl (Nat.le_of_ble_eq_true rfl) (Nat.le_of_ble_eq_true rfl) (F_X1_dug hc72)) rfl rfl (Nat.le_of_ble_eq_true rfl) (Nat.le_of_ble_eq_true rfl)
        · have h := (if_pos c56).symm.trans h
          refine mr_aload_n (pc := 59) (x := 8) rfl rfl ?_
          refine mr_getfield (pc := 60) (v := .int (Y.2.2.2.2.2.2.2.2.2.2.2.1)) rfl lfRX1_48 rfl rfl ?_
          refine mr_goto (pc := 63) 88 rfl (by decide) ?_
          cases h; exact mr_ireturn (pc := 88) rfl rfl (Nat.le_of_ble_eq_true rfl) (Nat.le_of_ble_eq_true rfl)
      · have h := (if_pos c44).symm.trans h
        refine mr_aload_n (pc := 47) (x := 8) rfl rfl ?_
        refine mr_getfield (pc := 48) (v := .int (Y.2.2.2.2.2.2.2.2.2.2.1)) rfl lfRX1_45 rfl rfl ?_
        refine mr_goto (pc := 51) 88 rfl (by decide) ?_
        cases h; exact mr_ireturn (pc := 88) rfl rfl (Nat.le_of_ble_eq_true rfl) (Nat.le_of_ble_eq_true rfl)
    · have h := (if_neg c12).symm.trans h
      refine mr_iload_n (pc := 15) (x := b2) rfl rfl ?_
      refine mr_aload_n (pc := 16) (x := 8) rfl rfl ?_
      refine mr_getfield (pc := 17) (v := .ref 9) rfl lfRX1_7 rfl rfl ?_
      refine mr_iload_n (pc := 20) (x := b3) rfl rfl ?_
      obtain ⟨g21, h⟩ := m_gd h
      refine mr_baload (pc := 21) (f := Y.1) rfl rfl (vpb_in g21) ?_
      refine mr_if_eq (pc := 22) 34 rfl (by decide) (fun c22 => ?_) (fun c22 => ?_)
      · have h := (if_pos c22).symm.trans h
        refine mr_iconst (pc := 34) (v := 0) rfl (by decide) ?_
        refine mr_iadd (pc := 35) rfl ?_
        refine ms_istore_n (pc := 36) (L' := [some (.ref 8), some (.int (b1)), some (.int ((b2) + (0))), some (.int (b3))]) rfl (by decide) rfl rfl ?_
        refine ms_iinc (pc := 37) (x := b3) (v := 1) (L' := [some (.ref 8), some (.int (b1)), some (.int ((b2) + (0))), some (.int (b3 + 1))]) rfl rfl (by decide) (by decide) rfl rfl ?_
        refine mr_goto (pc := 40) 9 rfl (by decide) ?_
        exact ih9 _ _ _ _ _ _ h
      · have h := (if_neg c22).symm.trans h
        refine mr_aload_n (pc := 25) (x := 8) rfl rfl ?_
        refine mr_getfield (pc := 26) (v := .ref 11) rfl lfRX1_17 rfl rfl ?_
        refine mr_iload_n (pc := 29) (x := b3) rfl rfl ?_
        obtain ⟨g30, h⟩ := m_gd h
        refine mr_iaload (pc := 30) (f := Y.2.2.1) rfl rfl (vpb_in g30) ?_
        refine mr_goto (pc := 31) 35 rfl (by decide) ?_
        refine mr_iadd (pc := 35) rfl ?_
        refine ms_istore_n (pc := 36) (L' := [some (.ref 8), some (.int (b1)), some (.int ((b2) + ((Y.2.2.1) ((b3) : Int32).toNatClampNeg))), some (.int (b3))]) rfl (by decide) rfl rfl ?_
        refine ms_iinc (pc := 37) (x := b3) (v := 1) (L' := [some (.ref 8), some (.int (b1)), some (.int ((b2) + ((Y.2.2.1) ((b3) : Int32).toNatClampNeg))), some (.int (b3 + 1))]) rfl rfl (by decide) (by decide) rfl rfl ?_
        refine mr_goto (pc := 40) 9 rfl (by decide) ?_
        exact ih9 _ _ _ _ _ _ h
def g_X1_told_ (Y : rS) (a1 : Int32) : Option (mO × rS) := g_X1_told__9 mK (Y.1, Y.2.1, Y.2.2.1, Y.2.2.2.1, Y.2.2.2.2.1, Y.2.2.2.2.2.1, Y.2.2.2.2.2.2.1, Y.2.2.2.2.2.2.2.1, 0, Y.2.2.2.2.2.2.2.2.2.1, Y.2.2.2.2.2.2.2.2.2.2.1, Y.2.2.2.2.2.2.2.2.2.2.2.1, Y.2.2.2.2.2.2.2.2.2.2.2.2.1, Y.2.2.2.2.2.2.2.2.2.2.2.2.2.1, Y.2.2.2.2.2.2.2.2.2.2.2.2.2.2) (a1) (0) (0)
set_option maxRecDepth 100000 in
set_option maxHeartbeats 4000000 in
theorem F_X1_told_ {S : Nat × (Nat → Int32)} {Z : cS} {T : mH} {Y R9 : rS} {o9 : mO} {a1 : Int32} (h : g_X1_told_ Y a1 = some (o9, R9)) : mF S MX1_told_ 0 (mEnt [.ref 8, .int a1] 4) [] (xw Z (yw Y T)) 0 0 (o9, (xw Z (yw R9 T)), 0, 0) := by
  unfold g_X1_told_ at h
  refine mr_aload_n (pc := 0) (x := 8) rfl rfl ?_
  refine mr_iconst (pc := 1) (v := 0) rfl (by decide) ?_
  refine ms_putfield (pc := 2) (h' := (xw Z (yw (Y.1, Y.2.1, Y.2.2.1, Y.2.2.2.1, Y.2.2.2.2.1, Y.2.2.2.2.2.1, Y.2.2.2.2.2.2.1, Y.2.2.2.2.2.2.2.1, 0, Y.2.2.2.2.2.2.2.2.2.1, Y.2.2.2.2.2.2.2.2.2.2.1, Y.2.2.2.2.2.2.2.2.2.2.2.1, Y.2.2.2.2.2.2.2.2.2.2.2.2.1, Y.2.2.2.2.2.2.2.2.2.2.2.2.2.1, Y.2.2.2.2.2.2.2.2.2.2.2.2.2.2) T))) rfl lfRX1_38 rfl (Nat.le_of_ble_eq_true rfl) (by intro q hq; cases hq; rfl) rfl ?_
  refine mr_iconst (pc := 5) (v := 0) rfl (by decide) ?_
  refine ms_istore_n (pc := 6) (L' := [some (.ref 8), some (.int (a1)), some (.int (0)), none]) rfl (by decide) rfl rfl ?_
  refine mr_iconst (pc := 7) (v := 0) rfl (by decide) ?_
  refine ms_istore_n (pc := 8) (L' := [some (.ref 8), some (.int (a1)), some (.int (0)), some (.int (0))]) rfl (by decide) rfl rfl ?_
  exact FL_X1_told__9 mK _ _ _ _ _ _ h
def g_X1_clear (Y : rS) : Option (mO × rS) := bI (g_X1_dug (Y.1, Y.2.1, Y.2.2.1, Y.2.2.2.1, Y.2.2.2.2.1, Y.2.2.2.2.2.1, Y.2.2.2.2.2.2.1, Y.2.2.2.2.2.2.2.1, 0, Y.2.2.2.2.2.2.2.2.2.1, Y.2.2.2.2.2.2.2.2.2.2.1, Y.2.2.2.2.2.2.2.2.2.2.2.1, Y.2.2.2.2.2.2.2.2.2.2.2.2.1, Y.2.2.2.2.2.2.2.2.2.2.2.2.2.1, Y.2.2.2.2.2.2.2.2.2.2.2.2.2.2) ) (fun v6 Y6 => bV (g_X1_begin Y6 ) (fun Y11 => some (.inl (some (.int (v6))), Y11)))
set_option maxRecDepth 100000 in
set_option maxHeartbeats 4000000 in
theorem F_X1_clear {S : Nat × (Nat → Int32)} {Z : cS} {T : mH} {Y R9 : rS} {o9 : mO} (h : g_X1_clear Y  = some (o9, R9)) : mF S MX1_clear 0 (mEnt [.ref 8] 2) [] (xw Z (yw Y T)) 0 0 (o9, (xw Z (yw R9 T)), 0, 0) := by
  unfold g_X1_clear at h
  refine mr_aload_n (pc := 0) (x := 8) rfl rfl ?_
  refine mr_iconst (pc := 1) (v := 0) rfl (by decide) ?_
  refine ms_putfield (pc := 2) (h' := (xw Z (yw (Y.1, Y.2.1, Y.2.2.1, Y.2.2.2.1, Y.2.2.2.2.1, Y.2.2.2.2.2.1, Y.2.2.2.2.2.2.1, Y.2.2.2.2.2.2.2.1, 0, Y.2.2.2.2.2.2.2.2.2.1, Y.2.2.2.2.2.2.2.2.2.2.1, Y.2.2.2.2.2.2.2.2.2.2.2.1, Y.2.2.2.2.2.2.2.2.2.2.2.2.1, Y.2.2.2.2.2.2.2.2.2.2.2.2.2.1, Y.2.2.2.2.2.2.2.2.2.2.2.2.2.2) T))) rfl lfRX1_38 rfl (Nat.le_of_ble_eq_true rfl) (by intro q hq; cases hq; rfl) rfl ?_
  refine mr_aload_n (pc := 5) (x := 8) rfl rfl ?_
  rcases bI_inv h with ⟨v6, Y6, hc6, h⟩ | ⟨E6, Y6, hc6, hr⟩
  · refine mr_ret (mRunV (pc := 6) (q := 8) (As := []) (rest := []) rfl lkRX1_103 rfl rfl rfl (Nat.le_of_ble_eq_true rfl) (Nat.le_of_ble_eq_true rfl) (F_X1_dug hc6)) rfl (Nat.le_of_ble_eq_true rfl) (Nat.le_of_ble_eq_true rfl) ?_
    refine ms_istore_n (pc := 9) (L' := [some (.ref 8), some (.int (v6))]) rfl (by decide) rfl rfl ?_
    refine mr_aload_n (pc := 10) (x := 8) rfl rfl ?_
    rcases bV_inv h with ⟨Y11, hc11, h⟩ | ⟨E11, Y11, hc11, hr⟩
    · refine mr_ret (mRunV (pc := 11) (q := 8) (As := []) (rest := []) rfl lkRX1_35 rfl rfl rfl (Nat.le_of_ble_eq_true rfl) (Nat.le_of_ble_eq_true rfl) (F_X1_begin hc11)) rfl (Nat.le_of_ble_eq_true rfl) (Nat.le_of_ble_eq_true rfl) ?_
      refine mr_iload_n (pc := 14) (x := v6) rfl rfl ?_
      cases h; exact mr_ireturn (pc := 15) rfl rfl (Nat.le_of_ble_eq_true rfl) (Nat.le_of_ble_eq_true rfl)
    · cases hr; exact mr_thrown (mRunV (pc := 11) (q := 8) (As := []) (rest := []) rfl lkRX1_35 rfl rfl rfl (Nat.le_of_ble_eq_true rfl) (Nat.le_of_ble_eq_true rfl) (F_X1_begin hc11)) rfl rfl (Nat.le_of_ble_eq_true rfl) (Nat.le_of_ble_eq_true rfl)
  · cases hr; exact mr_thrown (mRunV (pc := 6) (q := 8) (As := []) (rest := []) rfl lkRX1_103 rfl rfl rfl (Nat.le_of_ble_eq_true rfl) (Nat.le_of_ble_eq_true rfl) (F_X1_dug hc6)) rfl rfl (Nat.le_of_ble_eq_true rfl) (Nat.le_of_ble_eq_true rfl)
