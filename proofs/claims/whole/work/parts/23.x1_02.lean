/-! THE METHODS OF X1 AS FUNCTIONS, by program (wip/whole/gencode.py) -/
def g_X1_draw_52 : Nat → rS → Int32 → Int32 → Int32 → Option (mO × rS)
  | 0, _, _, _, _ => none
  | f9 + 1, Y, b1, b2, b3 => bI (g_X1_heightOf Y (b1)) (fun v54 Y54 => if ((v54) : Int32) ≤ ((b2) : Int32) then (bV (g_X1_leave Y54 (1)) (fun Y79 => some (.inl (some (.int (b3))), Y79))) else (if vpb (b1) 8 then (if vpb (b1) 8 then (g_X1_draw_52 f9 (Y54.1, Y54.2.1, upd (Y54.2.2.1) ((b1) : Int32).toNatClampNeg (((Y54.2.2.1) ((b1) : Int32).toNatClampNeg) - (1)), Y54.2.2.2.1, Y54.2.2.2.2.1, Y54.2.2.2.2.2.1, Y54.2.2.2.2.2.2.1, Y54.2.2.2.2.2.2.2.1, Y54.2.2.2.2.2.2.2.2.1, Y54.2.2.2.2.2.2.2.2.2.1, Y54.2.2.2.2.2.2.2.2.2.2.1, Y54.2.2.2.2.2.2.2.2.2.2.2.1, Y54.2.2.2.2.2.2.2.2.2.2.2.2.1, Y54.2.2.2.2.2.2.2.2.2.2.2.2.2.1, Y54.2.2.2.2.2.2.2.2.2.2.2.2.2.2) (b1) (b2) (b3 + 1)) else none) else none))
set_option maxRecDepth 100000 in
set_option maxHeartbeats 4000000 in
theorem FL_X1_draw_52 {S : Nat × (Nat → Int32)} {Z : cS} {T : mH} : ∀ (f9 : Nat) (Y : rS) (b1 b2 b3 : Int32) (o9 : mO) (R9 : rS), g_X1_draw_52 f9 Y b1 b2 b3 = some (o9, R9) → mF S MX1_draw 52 [some (.ref 8), some (.int (b1)), some (.int (b2)), some (.int (b3))] [] (xw Z (yw Y T)) 0 0 (o9, (xw Z (yw R9 T)), 0, 0) := by
  intro f9
  induction f9 with
  | zero => intro Y b1 b2 b3 o9 R9 h; cases h
  | succ f9 ih9 =>
    intro Y b1 b2 b3 o9 R9 h
    rw [g_X1_draw_52] at h
    refine mr_aload_n (pc := 52) (x := 8) rfl rfl ?_
    refine mr_iload_n (pc := 53) (x := b1) rfl rfl ?_
    rcases bI_inv h with ⟨v54, Y54, hc54, h⟩ | ⟨E54, Y54, hc54, hr⟩
    · refine mr_ret (mRunV (pc := 54) (q := 8) (As := [.int (b1)]) (rest := []) rfl lkRX1_76 rfl rfl rfl (Nat.le_of_ble_eq_true rfl) (Nat.le_of_ble_eq_true rfl) (F_X1_heightOf hc54)) rfl (Nat.le_of_ble_eq_true rfl) (Nat.le_of_ble_eq_true rfl) ?_
      refine mr_iload_n (pc := 57) (x := b2) rfl rfl ?_
      refine mr_icmp_le (pc := 58) 77 rfl (by decide) (fun c58 => ?_) (fun c58 => ?_)
      · have h := (if_pos c58).symm.trans h
        refine mr_aload_n (pc := 77) (x := 8) rfl rfl ?_
        refine mr_iconst (pc := 78) (v := 1) rfl (by decide) ?_
        rcases bV_inv h with ⟨Y79, hc79, h⟩ | ⟨E79, Y79, hc79, hr⟩
        · refine mr_ret (mRunV (pc := 79) (q := 8) (As := [.int (1)]) (rest := []) rfl lkRX1_72 rfl rfl rfl (Nat.le_of_ble_eq_true rfl) (Nat.le_of_ble_eq_true rfl) (F_X1_leave hc79)) rfl (Nat.le_of_ble_eq_true rfl) (Nat.le_of_ble_eq_true rfl) ?_
          refine mr_iload_n (pc := 82) (x := b3) rfl rfl ?_
          cases h; exact mr_ireturn (pc := 83) rfl rfl (Nat.le_of_ble_eq_true rfl) (Nat.le_of_ble_eq_true rfl)
        · cases hr; exact mr_thrown (mRunV (pc := 79) (q := 8) (As := [.int (1)]) (rest := []) rfl lkRX1_72 rfl rfl rfl (Nat.le_of_ble_eq_true rfl) (Nat.le_of_ble_eq_true rfl) (F_X1_leave hc79)) rfl rfl (Nat.le_of_ble_eq_true rfl) (Nat.le_of_ble_eq_true rfl)
      · have h := (if_neg c58).symm.trans h
        refine mr_aload_n (pc := 61) (x := 8) rfl rfl ?_
        refine mr_getfield (pc := 62) (v := .ref 11) rfl lfRX1_17 rfl rfl ?_
        refine mr_iload_n (pc := 65) (x := b1) rfl rfl ?_
        refine mr_dup2 (pc := 66) rfl rfl rfl ?_
        obtain ⟨g67, h⟩ := m_gd h
        refine mr_iaload (pc := 67) (f := Y54.2.2.1) rfl rfl (vpb_in g67) ?_
        refine mr_iconst (pc := 68) (v := 1) rfl (by decide) ?_
        refine mr_isub (pc := 69) rfl ?_
        obtain ⟨g70, h⟩ := m_gd h
        refine ms_iastore (pc := 70) (f := Y54.2.2.1) (h' := (xw Z (yw (Y54.1, Y54.2.1, upd (Y54.2.2.1) ((b1) : Int32).toNatClampNeg (((Y54.2.2.1) ((b1) : Int32).toNatClampNeg) - (1)), Y54.2.2.2.1, Y54.2.2.2.2.1, Y54.2.2.2.2.2.1, Y54.2.2.2.2.2.2.1, Y54.2.2.2.2.2.2.2.1, Y54.2.2.2.2.2.2.2.2.1, Y54.2.2.2.2.2.2.2.2.2.1, Y54.2.2.2.2.2.2.2.2.2.2.1, Y54.2.2.2.2.2.2.2.2.2.2.2.1, Y54.2.2.2.2.2.2.2.2.2.2.2.2.1, Y54.2.2.2.2.2.2.2.2.2.2.2.2.2.1, Y54.2.2.2.2.2.2.2.2.2.2.2.2.2.2) T))) rfl rfl g70 rfl ?_
        refine ms_iinc (pc := 71) (x := b3) (v := 1) (L' := [some (.ref 8), some (.int (b1)), some (.int (b2)), some (.int (b3 + 1))]) rfl rfl (by decide) (by decide) rfl rfl ?_
        refine mr_goto (pc := 74) 52 rfl (by decide) ?_
        exact ih9 _ _ _ _ _ _ h
    · cases hr; exact mr_thrown (mRunV (pc := 54) (q := 8) (As := [.int (b1)]) (rest := []) rfl lkRX1_76 rfl rfl rfl (Nat.le_of_ble_eq_true rfl) (Nat.le_of_ble_eq_true rfl) (F_X1_heightOf hc54)) rfl rfl (Nat.le_of_ble_eq_true rfl) (Nat.le_of_ble_eq_true rfl)
def g_X1_draw (Y : rS) (a1 a2 : Int32) : Option (mO × rS) := cI (g_X1_isPool (a1)) Y (fun v2 => if ((v2) : Int32) = 0 then (if ((1) : Int32) ≤ 0 then (bI (g_X1_hold (Y.1, Y.2.1, Y.2.2.1, Y.2.2.2.1, Y.2.2.2.2.1, Y.2.2.2.2.2.1, Y.2.2.2.2.2.2.1, Y.2.2.2.2.2.2.2.1, 1, Y.2.2.2.2.2.2.2.2.2.1, Y.2.2.2.2.2.2.2.2.2.2.1, Y.2.2.2.2.2.2.2.2.2.2.2.1, Y.2.2.2.2.2.2.2.2.2.2.2.2.1, Y.2.2.2.2.2.2.2.2.2.2.2.2.2.1, Y.2.2.2.2.2.2.2.2.2.2.2.2.2.2) (a1)) (fun v35 Y35 => if ((v35) : Int32) = 0 then (bI (g_X1_told Y35 (3) (0) (0) (0)) (fun v46 Y46 => some (.inl (some (.int (v46))), Y46))) else (g_X1_draw_52 mK Y35 (a1) (a2) (0)))) else (some (.inl (some (.int (0))), (Y.1, Y.2.1, Y.2.2.1, Y.2.2.2.1, Y.2.2.2.2.1, Y.2.2.2.2.2.1, Y.2.2.2.2.2.2.1, Y.2.2.2.2.2.2.2.1, 1, Y.2.2.2.2.2.2.2.2.2.1, Y.2.2.2.2.2.2.2.2.2.2.1, Y.2.2.2.2.2.2.2.2.2.2.2.1, Y.2.2.2.2.2.2.2.2.2.2.2.2.1, Y.2.2.2.2.2.2.2.2.2.2.2.2.2.1, Y.2.2.2.2.2.2.2.2.2.2.2.2.2.2)))) else (if 0 ≤ ((a2) : Int32) then (if ((0) : Int32) ≤ 0 then (bI (g_X1_hold (Y.1, Y.2.1, Y.2.2.1, Y.2.2.2.1, Y.2.2.2.2.1, Y.2.2.2.2.2.1, Y.2.2.2.2.2.2.1, Y.2.2.2.2.2.2.2.1, 0, Y.2.2.2.2.2.2.2.2.2.1, Y.2.2.2.2.2.2.2.2.2.2.1, Y.2.2.2.2.2.2.2.2.2.2.2.1, Y.2.2.2.2.2.2.2.2.2.2.2.2.1, Y.2.2.2.2.2.2.2.2.2.2.2.2.2.1, Y.2.2.2.2.2.2.2.2.2.2.2.2.2.2) (a1)) (fun v35 Y35 => if ((v35) : Int32) = 0 then (bI (g_X1_told Y35 (3) (0) (0) (0)) (fun v46 Y46 => some (.inl (some (.int (v46))), Y46))) else (g_X1_draw_52 mK Y35 (a1) (a2) (0)))) else (some (.inl (some (.int (0))), (Y.1, Y.2.1, Y.2.2.1, Y.2.2.2.1, Y.2.2.2.2.1, Y.2.2.2.2.2.1, Y.2.2.2.2.2.2.1, Y.2.2.2.2.2.2.2.1, 0, Y.2.2.2.2.2.2.2.2.2.1, Y.2.2.2.2.2.2.2.2.2.2.1, Y.2.2.2.2.2.2.2.2.2.2.2.1, Y.2.2.2.2.2.2.2.2.2.2.2.2.1, Y.2.2.2.2.2.2.2.2.2.2.2.2.2.1, Y.2.2.2.2.2.2.2.2.2.2.2.2.2.2)))) else (if ((2) : Int32) ≤ 0 then (bI (g_X1_hold (Y.1, Y.2.1, Y.2.2.1, Y.2.2.2.1, Y.2.2.2.2.1, Y.2.2.2.2.2.1, Y.2.2.2.2.2.2.1, Y.2.2.2.2.2.2.2.1, 2, Y.2.2.2.2.2.2.2.2.2.1, Y.2.2.2.2.2.2.2.2.2.2.1, Y.2.2.2.2.2.2.2.2.2.2.2.1, Y.2.2.2.2.2.2.2.2.2.2.2.2.1, Y.2.2.2.2.2.2.2.2.2.2.2.2.2.1, Y.2.2.2.2.2.2.2.2.2.2.2.2.2.2) (a1)) (fun v35 Y35 => if ((v35) : Int32) = 0 then (bI (g_X1_told Y35 (3) (0) (0) (0)) (fun v46 Y46 => some (.inl (some (.int (v46))), Y46))) else (g_X1_draw_52 mK Y35 (a1) (a2) (0)))) else (some (.inl (some (.int (0))), (Y.1, Y.2.1, Y.2.2.1, Y.2.2.2.1, Y.2.2.2.2.1, Y.2.2.2.2.2.1, Y.2.2.2.2.2.2.1, Y.2.2.2.2.2.2.2.1, 2, Y.2.2.2.2.2.2.2.2.2.1, Y.2.2.2.2.2.2.2.2.2.2.1, Y.2.2.2.2.2.2.2.2.2.2.2.1, Y.2.2.2.2.2.2.2.2.2.2.2.2.1, Y.2.2.2.2.2.2.2.2.2.2.2.2.2.1, Y.2.2.2.2.2.2.2.2.2.2.2.2.2.2))))))
set_option maxRecDepth 100000 in
set_option maxHeartbeats 4000000 in
theorem F_X1_draw {S : Nat × (Nat → Int32)} {Z : cS} {T : mH} {Y R9 : rS} {o9 : mO} {a1 a2 : Int32} (h : g_X1_draw Y a1 a2 = some (o9, R9)) : mF S MX1_draw 0 (mEnt [.ref 8, .int a1, .int a2] 4) [] (xw Z (yw Y T)) 0 0 (o9, (xw Z (yw R9 T)), 0, 0) := by
  unfold g_X1_draw at h
  refine mr_aload_n (pc := 0) (x := 8) rfl rfl ?_
  refine mr_iload_n (pc := 1) (x := a1) rfl rfl ?_
  rcases cI_inv h with ⟨v2, hc2, h⟩ | ⟨E2, hc2, hr⟩
  · refine mr_ret (mRunS (pc := 2) (As := [.int (a1)]) (rest := [.ref 8]) rfl lkRX1_62 rfl (Nat.le_of_ble_eq_true rfl) (Nat.le_of_ble_eq_true rfl) (F_X1_isPool hc2)) rfl (Nat.le_of_ble_eq_true rfl) (Nat.le_of_ble_eq_true rfl) ?_
    refine mr_if_ne (pc := 5) 12 rfl (by decide) (fun c5 => ?_) (fun c5 => ?_)
    · have h := (if_neg c5).symm.trans h
      refine mr_iload_n (pc := 12) (x := a2) rfl rfl ?_
      refine mr_if_ge (pc := 13) 20 rfl (by decide) (fun c13 => ?_) (fun c13 => ?_)
      · have h := (if_pos c13).symm.trans h
        refine mr_iconst (pc := 20) (v := 0) rfl (by decide) ?_
        refine ms_putfield (pc := 21) (h' := (xw Z (yw (Y.1, Y.2.1, Y.2.2.1, Y.2.2.2.1, Y.2.2.2.2.1, Y.2.2.2.2.2.1, Y.2.2.2.2.2.2.1, Y.2.2.2.2.2.2.2.1, 0, Y.2.2.2.2.2.2.2.2.2.1, Y.2.2.2.2.2.2.2.2.2.2.1, Y.2.2.2.2.2.2.2.2.2.2.2.1, Y.2.2.2.2.2.2.2.2.2.2.2.2.1, Y.2.2.2.2.2.2.2.2.2.2.2.2.2.1, Y.2.2.2.2.2.2.2.2.2.2.2.2.2.2) T))) rfl lfRX1_38 rfl (Nat.le_of_ble_eq_true rfl) (by intro q hq; cases hq; rfl) rfl ?_
        refine mr_aload_n (pc := 24) (x := 8) rfl rfl ?_
        refine mr_getfield (pc := 25) (v := .int (0)) rfl lfRX1_38 rfl rfl ?_
        refine mr_if_le (pc := 28) 33 rfl (by decide) (fun c28 => ?_) (fun c28 => ?_)
        · have h := (if_pos c28).symm.trans h
          refine mr_aload_n (pc := 33) (x := 8) rfl rfl ?_
          refine mr_iload_n (pc := 34) (x := a1) rfl rfl ?_
          rcases bI_inv h with ⟨v35, Y35, hc35, h⟩ | ⟨E35, Y35, hc35, hr⟩
          · refine mr_ret (mRunV (pc := 35) (q := 8) (As := [.int (a1)]) (rest := []) rfl lkRX1_65 rfl rfl rfl (Nat.le_of_ble_eq_true rfl) (Nat.le_of_ble_eq_true rfl) (F_X1_hold hc35)) rfl (Nat.le_of_ble_eq_true rfl) (Nat.le_of_ble_eq_true rfl) ?_
            refine mr_if_ne (pc := 38) 50 rfl (by decide) (fun c38 => ?_) (fun c38 => ?_)
            · have h := (if_neg c38).symm.trans h
              refine mr_iconst (pc := 50) (v := 0) rfl (by decide) ?_
              refine ms_istore_n (pc := 51) (L' := [some (.ref 8), some (.int (a1)), some (.int (a2)), some (.int (0))]) rfl (by decide) rfl rfl ?_
              exact FL_X1_draw_52 mK _ _ _ _ _ _ h
            · have h := (if_pos c38).symm.trans h
              refine mr_aload_n (pc := 41) (x := 8) rfl rfl ?_
              refine mr_iconst (pc := 42) (v := 3) rfl (by decide) ?_
              refine mr_iconst (pc := 43) (v := 0) rfl (by decide) ?_
              refine mr_iconst (pc := 44) (v := 0) rfl (by decide) ?_
              refine mr_iconst (pc := 45) (v := 0) rfl (by decide) ?_
              rcases bI_inv h with ⟨v46, Y46, hc46, h⟩ | ⟨E46, Y46, hc46, hr⟩
              · refine mr_ret (mRunV (pc := 46) (q := 8) (As := [.int (3), .int (0), .int (0), .int (0)]) (rest := []) rfl lkRX1_68 rfl rfl rfl (Nat.le_of_ble_eq_true rfl) (Nat.le_of_ble_eq_true rfl) (F_X1_told hc46)) rfl (Nat.le_of_ble_eq_true rfl) (Nat.le_of_ble_eq_true rfl) ?_
                cases h; exact mr_ireturn (pc := 49) rfl rfl (Nat.le_of_ble_eq_true rfl) (Nat.le_of_ble_eq_true rfl)
              · cases hr; exact mr_thrown (mRunV (pc := 46) (q := 8) (As := [.int (3), .int (0), .int (0), .int (0)]) (rest := []) rfl lkRX1_68 rfl rfl rfl (Nat.le_of_ble_eq_true rfl) (Nat.le_of_ble_eq_true rfl) (F_X1_told hc46)) rfl rfl (Nat.le_of_ble_eq_true rfl) (Nat.le_of_ble_eq_true rfl)
          · cases hr; exact mr_thrown (mRunV (pc := 35) (q := 8) (As := [.int (a1)]) (rest := []) rfl lkRX1_65 rfl rfl rfl (Nat.le_of_ble_eq_true rfl) (Nat.le_of_ble_eq_true rfl) (F_X1_hold hc35)) rfl rfl (Nat.le_of_ble_eq_true rfl) (Nat.le_of_ble_eq_true rfl)
        · have h := (if_neg c28).symm.trans h
          refine mr_iconst (pc := 31) (v := 0) rfl (by decide) ?_
          cases h; exact mr_ireturn (pc := 32) rfl rfl (Nat.le_of_ble_eq_true rfl) (Nat.le_of_ble_eq_true rfl)
      · have h := (if_neg c13).symm.trans h
        refine mr_iconst (pc := 16) (v := 2) rfl (by decide) ?_
        refine mr_goto (pc := 17) 21 rfl (by decide) ?_
        refine ms_putfield (pc := 21) (h' := (xw Z (yw (Y.1, Y.2.1, Y.2.2.1, Y.2.2.2.1, Y.2.2.2.2.1, Y.2.2.2.2.2.1, Y.2.2.2.2.2.2.1, Y.2.2.2.2.2.2.2.1, 2, Y.2.2.2.2.2.2.2.2.2.1, Y.2.2.2.2.2.2.2.2.2.2.1, Y.2.2.2.2.2.2.2.2.2.2.2.1, Y.2.2.2.2.2.2.2.2.2.2.2.2.1, Y.2.2.2.2.2.2.2.2.2.2.2.2.2.1, Y.2.2.2.2.2.2.2.2.2.2.2.2.2.2) T))) rfl lfRX1_38 rfl (Nat.le_of_ble_eq_true rfl) (by intro q hq; cases hq; rfl) rfl ?_
        refine mr_aload_n (pc := 24) (x := 8) rfl rfl ?_
        refine mr_getfield (pc := 25) (v := .int (2)) rfl lfRX1_38 rfl rfl ?_
        refine mr_if_le (pc := 28) 33 rfl (by decide) (fun c28 => ?_) (fun c28 => ?_)
        · have h := (if_pos c28).symm.trans h
          refine mr_aload_n (pc := 33) (x := 8) rfl rfl ?_
          refine mr_iload_n (pc := 34) (x := a1) rfl rfl ?_
          rcases bI_inv h with ⟨v35, Y35, hc35, h⟩ | ⟨E35, Y35, hc35, hr⟩
          · refine mr_ret (mRunV (pc := 35) (q := 8) (As := [.int (a1)]) (rest := []) rfl lkRX1_65 rfl rfl rfl (Nat.le_of_ble_eq_true rfl) (Nat.le_of_ble_eq_true rfl) (F_X1_hold hc35)) rfl (Nat.le_of_ble_eq_true rfl) (Nat.le_of_ble_eq_true rfl) ?_
            refine mr_if_ne (pc := 38) 50 rfl (by decide) (fun c38 => ?_) (fun c38 => ?_)
            · have h := (if_neg c38).symm.trans h
              refine mr_iconst (pc := 50) (v := 0) rfl (by decide) ?_
              refine ms_istore_n (pc := 51) (L' := [some (.ref 8), some (.int (a1)), some (.int (a2)), some (.int (0))]) rfl (by decide) rfl rfl ?_
              exact FL_X1_draw_52 mK _ _ _ _ _ _ h
            · have h := (if_pos c38).symm.trans h
              refine mr_aload_n (pc := 41) (x := 8) rfl rfl ?_
              refine mr_iconst (pc := 42) (v := 3) rfl (by decide) ?_
              refine mr_iconst (pc := 43) (v := 0) rfl (by decide) ?_
              refine mr_iconst (pc := 44) (v := 0) rfl (by decide) ?_
              refine mr_iconst (pc := 45) (v := 0) rfl (by decide) ?_
              rcases bI_inv h with ⟨v46, Y46, hc46, h⟩ | ⟨E46, Y46, hc46, hr⟩
              · refine mr_ret (mRunV (pc := 46) (q := 8) (As := [.int (3), .int (0), .int (0), .int (0)]) (rest := []) rfl lkRX1_68 rfl rfl rfl (Nat.le_of_ble_eq_true rfl) (Nat.le_of_ble_eq_true rfl) (F_X1_told hc46)) rfl (Nat.le_of_ble_eq_true rfl) (Nat.le_of_ble_eq_true rfl) ?_
                cases h; exact mr_ireturn (pc := 49) rfl rfl (Nat.le_of_ble_eq_true rfl) (Nat.le_of_ble_eq_true rfl)
              · cases hr; exact mr_thrown (mRunV (pc := 46) (q := 8) (As := [.int (3), .int (0), .int (0), .int (0)]) (rest := []) rfl lkRX1_68 rfl rfl rfl (Nat.le_of_ble_eq_true rfl) (Nat.le_of_ble_eq_true rfl) (F_X1_told hc46)) rfl rfl (Nat.le_of_ble_eq_true rfl) (Nat.le_of_ble_eq_true rfl)
          · cases hr; exact mr_thrown (mRunV (pc := 35) (q := 8) (As := [.int (a1)]) (rest := []) rfl lkRX1_65 rfl rfl rfl (Nat.le_of_ble_eq_true rfl) (Nat.le_of_ble_eq_true rfl) (F_X1_hold hc35)) rfl rfl (Nat.le_of_ble_eq_true rfl) (Nat.le_of_ble_eq_true rfl)
        · have h := (if_neg c28).symm.trans h
          refine mr_iconst (pc := 31) (v := 0) rfl (by decide) ?_
          cases h; exact mr_ireturn (pc := 32) rfl rfl (Nat.le_of_ble_eq_true rfl) (Nat.le_of_ble_eq_true rfl)
    · have h := (if_pos c5).symm.trans h
      refine mr_iconst (pc := 8) (v := 1) rfl (by decide) ?_
      refine mr_goto (pc := 9) 21 rfl (by decide) ?_
      refine ms_putfield (pc := 21) (h' := (xw Z (yw (Y.1, Y.2.1, Y.2.2.1, Y.2.2.2.1, Y.2.2.2.2.1, Y.2.2.2.2.2.1, Y.2.2.2.2.2.2.1, Y.2.2.2.2.2.2.2.1, 1, Y.2.2.2.2.2.2.2.2.2.1, Y.2.2.2.2.2.2.2.2.2.2.1, Y.2.2.2.2.2.2.2.2.2.2.2.1, Y.2.2.2.2.2.2.2.2.2.2.2.2.1, Y.2.2.2.2.2.2.2.2.2.2.2.2.2.1, Y.2.2.2.2.2.2.2.2.2.2.2.2.2.2) T))) rfl lfRX1_38 rfl (Nat.le_of_ble_eq_true rfl) (by intro q hq; cases hq; rfl) rfl ?_
      refine mr_aload_n (pc := 24) (x := 8) rfl rfl ?_
      refine mr_getfield (pc := 25) (v := .int (1)) rfl lfRX1_38 rfl rfl ?_
      refine mr_if_le (pc := 28) 33 rfl (by decide) (fun c28 => ?_) (fun c28 => ?_)
      · have h := (if_pos c28).symm.trans h
        refine mr_aload_n (pc := 33) (x := 8) rfl rfl ?_
        refine mr_iload_n (pc := 34) (x := a1) rfl rfl ?_
        rcases bI_inv h with ⟨v35, Y35, hc35, h⟩ | ⟨E35, Y35, hc35, hr⟩
        · refine mr_ret (mRunV (pc := 35) (q := 8) (As := [.int (a1)]) (rest := []) rfl lkRX1_65 rfl rfl rfl (Nat.le_of_ble_eq_true rfl) (Nat.le_of_ble_eq_true rfl) (F_X1_hold hc35)) rfl (Nat.le_of_ble_eq_true rfl) (Nat.le_of_ble_eq_true rfl) ?_
          refine mr_if_ne (pc := 38) 50 rfl (by decide) (fun c38 => ?_) (fun c38 => ?_)
          · have h := (if_neg c38).symm.trans h
            refine mr_iconst (pc := 50) (v := 0) rfl (by decide) ?_
            refine ms_istore_n (pc := 51) (L' := [some (.ref 8), some (.int (a1)), some (.int (a2)), some (.int (0))]) rfl (by decide) rfl rfl ?_
            exact FL_X1_draw_52 mK _ _ _ _ _ _ h
          · have h := (if_pos c38).symm.trans h
            refine mr_aload_n (pc := 41) (x := 8) rfl rfl ?_
            refine mr_iconst (pc := 42) (v := 3) rfl (by decide) ?_
            refine mr_iconst (pc := 43) (v := 0) rfl (by decide) ?_
            refine mr_iconst (pc := 44) (v := 0) rfl (by decide) ?_
            refine mr_iconst (pc := 45) (v := 0) rfl (by decide) ?_
            rcases bI_inv h with ⟨v46, Y46, hc46, h⟩ | ⟨E46, Y46, hc46, hr⟩
            · refine mr_ret (mRunV (pc := 46) (q := 8) (As := [.int (3), .int (0), .int (0), .int (0)]) (rest := []) rfl lkRX1_68 rfl rfl rfl (Nat.le_of_ble_eq_true rfl) (Nat.le_of_ble_eq_true rfl) (F_X1_told hc46)) rfl (Nat.le_of_ble_eq_true rfl) (Nat.le_of_ble_eq_true rfl) ?_
              cases h; exact mr_ireturn (pc := 49) rfl rfl (Nat.le_of_ble_eq_true rfl) (Nat.le_of_ble_eq_true rfl)
            · cases hr; exact mr_thrown (mRunV (pc := 46) (q := 8) (As := [.int (3), .int (0), .int (0), .int (0)]) (rest := []) rfl lkRX1_68 rfl rfl rfl (Nat.le_of_ble_eq_true rfl) (Nat.le_of_ble_eq_true rfl) (F_X1_told hc46)) rfl rfl (Nat.le_of_ble_eq_true rfl) (Nat.le_of_ble_eq_true rfl)
        · cases hr; exact mr_thrown (mRunV (pc := 35) (q := 8) (As := [.int (a1)]) (rest := []) rfl lkRX1_65 rfl rfl rfl (Nat.le_of_ble_eq_true rfl) (Nat.le_of_ble_eq_true rfl) (F_X1_hold hc35)) rfl rfl (Nat.le_of_ble_eq_true rfl) (Nat.le_of_ble_eq_true rfl)
      · have h := (if_neg c28).symm.trans h
        refine mr_iconst (pc := 31) (v := 0) rfl (by decide) ?_
        cases h; exact mr_ireturn (pc := 32) rfl rfl (Nat.le_of_ble_eq_true rfl) (Nat.le_of_ble_eq_true rfl)
  · cases hr; exact mr_thrown (mRunS (pc := 2) (As := [.int (a1)]) (rest := [.ref 8]) rfl lkRX1_62 rfl (Nat.le_of_ble_eq_true rfl) (Nat.le_of_ble_eq_true rfl) (F_X1_isPool hc2)) rfl rfl (Nat.le_of_ble_eq_true rfl) (Nat.le_of_ble_eq_true rfl)
