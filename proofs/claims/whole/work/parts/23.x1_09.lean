/-! THE METHODS OF X1 AS FUNCTIONS, by program (wip/whole/gencode.py) -/
def g_X1_share_107 : Nat → rS → Int32 → Int32 → Int32 → Int32 → Int32 → Int32 → Option (mO × rS)
  | 0, _, _, _, _, _, _, _ => none
  | f9 + 1, Y, b1, b2, b3, b4, b5, b6 => if ((b2) : Int32) < ((b6) : Int32) then (if vpb (b1) 8 then (if vpb (b1) 8 then (bV (g_X1_leave (Y.1, Y.2.1, upd (Y.2.2.1) ((b1) : Int32).toNatClampNeg (((Y.2.2.1) ((b1) : Int32).toNatClampNeg) + (b5)), Y.2.2.2.1, Y.2.2.2.2.1, Y.2.2.2.2.2.1, Y.2.2.2.2.2.2.1, Y.2.2.2.2.2.2.2.1, Y.2.2.2.2.2.2.2.2.1, Y.2.2.2.2.2.2.2.2.2.1, Y.2.2.2.2.2.2.2.2.2.2.1, Y.2.2.2.2.2.2.2.2.2.2.2.1, Y.2.2.2.2.2.2.2.2.2.2.2.2.1, Y.2.2.2.2.2.2.2.2.2.2.2.2.2.1, Y.2.2.2.2.2.2.2.2.2.2.2.2.2.2) (((b2) - (b1)) + (1))) (fun Y167 => if vpb (b1) 8 then (some (.inl (some (.int ((Y167.2.2.1) ((b1) : Int32).toNatClampNeg))), Y167)) else none)) else none) else none) else (if vpb (b6) 8 then (if ¬ ((b4) : Int32) = 0 then (if vpb (b6) 8 then (if vpb (b6) 8 then (g_X1_share_107 f9 (Y.1, Y.2.1, upd (Y.2.2.1) ((b6) : Int32).toNatClampNeg ((((Y.2.1) ((b6) : Int32).toNatClampNeg) * (b3)) / (b4)), Y.2.2.2.1, Y.2.2.2.2.1, Y.2.2.2.2.2.1, Y.2.2.2.2.2.2.1, Y.2.2.2.2.2.2.2.1, Y.2.2.2.2.2.2.2.2.1, Y.2.2.2.2.2.2.2.2.2.1, Y.2.2.2.2.2.2.2.2.2.2.1, Y.2.2.2.2.2.2.2.2.2.2.2.1, Y.2.2.2.2.2.2.2.2.2.2.2.2.1, Y.2.2.2.2.2.2.2.2.2.2.2.2.2.1, Y.2.2.2.2.2.2.2.2.2.2.2.2.2.2) (b1) (b2) (b3) (b4) ((b5) - ((upd (Y.2.2.1) ((b6) : Int32).toNatClampNeg ((((Y.2.1) ((b6) : Int32).toNatClampNeg) * (b3)) / (b4))) ((b6) : Int32).toNatClampNeg)) (b6 + 1)) else none) else none) else none) else none)
set_option maxRecDepth 100000 in
set_option maxHeartbeats 4000000 in
theorem FL_X1_share_107 {S : Nat × (Nat → Int32)} {Z : cS} {T : mH} : ∀ (f9 : Nat) (Y : rS) (b1 b2 b3 b4 b5 b6 : Int32) (o9 : mO) (R9 : rS), g_X1_share_107 f9 Y b1 b2 b3 b4 b5 b6 = some (o9, R9) → mF S MX1_share 107 [some (.ref 8), some (.int (b1)), some (.int (b2)), some (.int (b3)), some (.int (b4)), some (.int (b5)), some (.int (b6))] [] (xw Z (yw Y T)) 0 0 (o9, (xw Z (yw R9 T)), 0, 0) := by
  intro f9
  induction f9 with
  | zero => intro Y b1 b2 b3 b4 b5 b6 o9 R9 h; cases h
  | succ f9 ih9 =>
    intro Y b1 b2 b3 b4 b5 b6 o9 R9 h
    rw [g_X1_share_107] at h
    refine mr_iload (pc := 107) (x := b6) rfl rfl ?_
    refine mr_iload_n (pc := 109) (x := b2) rfl rfl ?_
    refine mr_icmp_gt (pc := 110) 150 rfl (by decide) (fun c110 => ?_) (fun c110 => ?_)
    · have h := (if_pos c110).symm.trans h
      refine mr_aload_n (pc := 150) (x := 8) rfl rfl ?_
      refine mr_getfield (pc := 151) (v := .ref 11) rfl lfRX1_17 rfl rfl ?_
      refine mr_iload_n (pc := 154) (x := b1) rfl rfl ?_
      refine mr_dup2 (pc := 155) rfl rfl rfl ?_
      obtain ⟨g156, h⟩ := m_gd h
      refine mr_iaload (pc := 156) (f := Y.2.2.1) rfl rfl (vpb_in g156) ?_
      refine mr_iload (pc := 157) (x := b5) rfl rfl ?_
      refine mr_iadd (pc := 159) rfl ?_
      obtain ⟨g160, h⟩ := m_gd h
      refine ms_iastore (pc := 160) (f := Y.2.2.1) (h' := (xw Z (yw (Y.1, Y.2.1, upd (Y.2.2.1) ((b1) : Int32).toNatClampNeg (((Y.2.2.1) ((b1) : Int32).toNatClampNeg) + (b5)), Y.2.2.2.1, Y.2.2.2.2.1, Y.2.2.2.2.2.1, Y.2.2.2.2.2.2.1, Y.2.2.2.2.2.2.2.1, Y.2.2.2.2.2.2.2.2.1, Y.2.2.2.2.2.2.2.2.2.1, Y.2.2.2.2.2.2.2.2.2.2.1, Y.2.2.2.2.2.2.2.2.2.2.2.1, Y.2.2.2.2.2.2.2.2.2.2.2.2.1, Y.2.2.2.2.2.2.2.2.2.2.2.2.2.1, Y.2.2.2.2.2.2.2.2.2.2.2.2.2.2) T))) rfl rfl g160 rfl ?_
      refine mr_aload_n (pc := 161) (x := 8) rfl rfl ?_
      refine mr_iload_n (pc := 162) (x := b2) rfl rfl ?_
      refine mr_iload_n (pc := 163) (x := b1) rfl rfl ?_
      refine mr_isub (pc := 164) rfl ?_
      refine mr_iconst (pc := 165) (v := 1) rfl (by decide) ?_
      refine mr_iadd (pc := 166) rfl ?_
      rcases bV_inv h with ⟨Y167, hc167, h⟩ | ⟨E167, Y167, hc167, hr⟩
      · refine mr_ret (mRunV (pc := 167) (q := 8) (As := [.int (((b2) - (b1)) + (1))]) (rest := []) rfl lkRX1_72 rfl rfl rfl (Nat.le_of_ble_eq_true rfl) (Nat.le_of_ble_eq_true rfl) (F_X1_leave hc167)) rfl (Nat.le_of_ble_eq_true rfl) (Nat.le_of_ble_eq_true rfl) ?_
        refine mr_aload_n (pc := 170) (x := 8) rfl rfl ?_
        refine mr_getfield (pc := 171) (v := .ref 11) rfl lfRX1_17 rfl rfl ?_
        refine mr_iload_n (pc := 174) (x := b1) rfl rfl ?_
        obtain ⟨g175, h⟩ := m_gd h
        refine mr_iaload (pc := 175) (f := Y167.2.2.1) rfl rfl (vpb_in g175) ?_
        cases h; exact mr_ireturn (pc := 176) rfl rfl (Nat.le_of_ble_eq_true rfl) (Nat.le_of_ble_eq_true rfl)
      · cases hr; exact mr_thrown (mRunV (pc := 167) (q := 8) (As := [.int (((b2) - (b1)) + (1))]) (rest := []) rfl lkRX1_72 rfl rfl rfl (Nat.le_of_ble_eq_true rfl) (Nat.le_of_ble_eq_true rfl) (F_X1_leave hc167)) rfl rfl (Nat.le_of_ble_eq_true rfl) (Nat.le_of_ble_eq_true rfl)
    · have h := (if_neg c110).symm.trans h
      refine mr_aload_n (pc := 113) (x := 8) rfl rfl ?_
      refine mr_getfield (pc := 114) (v := .ref 11) rfl lfRX1_17 rfl rfl ?_
      refine mr_iload (pc := 117) (x := b6) rfl rfl ?_
      refine mr_aload_n (pc := 119) (x := 8) rfl rfl ?_
      refine mr_getfield (pc := 120) (v := .ref 10) rfl lfRX1_13 rfl rfl ?_
      refine mr_iload (pc := 123) (x := b6) rfl rfl ?_
      obtain ⟨g125, h⟩ := m_gd h
      refine mr_iaload (pc := 125) (f := Y.2.1) rfl rfl (vpb_in g125) ?_
      refine mr_iload_n (pc := 126) (x := b3) rfl rfl ?_
      refine mr_imul (pc := 127) rfl ?_
      refine mr_iload (pc := 128) (x := b4) rfl rfl ?_
      obtain ⟨g130, h⟩ := m_gd h
      refine mr_idiv (pc := 130) rfl g130 ?_
      obtain ⟨g131, h⟩ := m_gd h
      refine ms_iastore (pc := 131) (f := Y.2.2.1) (h' := (xw Z (yw (Y.1, Y.2.1, upd (Y.2.2.1) ((b6) : Int32).toNatClampNeg ((((Y.2.1) ((b6) : Int32).toNatClampNeg) * (b3)) / (b4)), Y.2.2.2.1, Y.2.2.2.2.1, Y.2.2.2.2.2.1, Y.2.2.2.2.2.2.1, Y.2.2.2.2.2.2.2.1, Y.2.2.2.2.2.2.2.2.1, Y.2.2.2.2.2.2.2.2.2.1, Y.2.2.2.2.2.2.2.2.2.2.1, Y.2.2.2.2.2.2.2.2.2.2.2.1, Y.2.2.2.2.2.2.2.2.2.2.2.2.1, Y.2.2.2.2.2.2.2.2.2.2.2.2.2.1, Y.2.2.2.2.2.2.2.2.2.2.2.2.2.2) T))) rfl rfl g131 rfl ?_
      refine mr_iload (pc := 132) (x := b5) rfl rfl ?_
      refine mr_aload_n (pc := 134) (x := 8) rfl rfl ?_
      refine mr_getfield (pc := 135) (v := .ref 11) rfl lfRX1_17 rfl rfl ?_
      refine mr_iload (pc := 138) (x := b6) rfl rfl ?_
      obtain ⟨g140, h⟩ := m_gd h
      refine mr_iaload (pc := 140) (f := upd (Y.2.2.1) ((b6) : Int32).toNatClampNeg ((((Y.2.1) ((b6) : Int32).toNatClampNeg) * (b3)) / (b4))) rfl rfl (vpb_in g140) ?_
      refine mr_isub (pc := 141) rfl ?_
      refine ms_istore (pc := 142) (L' := [some (.ref 8), some (.int (b1)), some (.int (b2)), some (.int (b3)), some (.int (b4)), some (.int ((b5) - ((upd (Y.2.2.1) ((b6) : Int32).toNatClampNeg ((((Y.2.1) ((b6) : Int32).toNatClampNeg) * (b3)) / (b4))) ((b6) : Int32).toNatClampNeg))), some (.int (b6))]) rfl (by decide) rfl rfl ?_
      refine ms_iinc (pc := 144) (x := b6) (v := 1) (L' := [some (.ref 8), some (.int (b1)), some (.int (b2)), some (.int (b3)), some (.int (b4)), some (.int ((b5) - ((upd (Y.2.2.1) ((b6) : Int32).toNatClampNeg ((((Y.2.1) ((b6) : Int32).toNatClampNeg) * (b3)) / (b4))) ((b6) : Int32).toNatClampNeg))), some (.int (b6 + 1))]) rfl rfl (by decide) (by decide) rfl rfl ?_
      refine mr_goto (pc := 147) 107 rfl (by decide) ?_
      exact ih9 _ _ _ _ _ _ _ _ _ h
def g_X1_share_49 : Nat → rS → Int32 → Int32 → Int32 → Int32 → Int32 → Option (mO × rS)
  | 0, _, _, _, _, _, _ => none
  | f9 + 1, Y, b1, b2, b3, b4, b5 => if ((b2) : Int32) < ((b5) : Int32) then (g_X1_share_107 mK Y (b1) (b2) (b3) (b4) (b3) (b1)) else (bI (g_X1_hold Y (b5)) (fun v58 Y58 => if ((v58) : Int32) = 0 then (bI (g_X1_told Y58 (3) (0) (0) (0)) (fun v69 Y69 => some (.inl (some (.int (v69))), Y69))) else (if vpb (b5) 8 then (if vpb (b5) 8 then (g_X1_share_49 f9 Y58 (b1) (b2) ((b3) + ((Y58.2.2.1) ((b5) : Int32).toNatClampNeg)) ((b4) + ((Y58.2.1) ((b5) : Int32).toNatClampNeg)) (b5 + 1)) else none) else none)))
set_option maxRecDepth 100000 in
set_option maxHeartbeats 4000000 in
theorem FL_X1_share_49 {S : Nat × (Nat → Int32)} {Z : cS} {T : mH} : ∀ (f9 : Nat) (Y : rS) (b1 b2 b3 b4 b5 : Int32) (o9 : mO) (R9 : rS), g_X1_share_49 f9 Y b1 b2 b3 b4 b5 = some (o9, R9) → mF S MX1_share 49 [some (.ref 8), some (.int (b1)), some (.int (b2)), some (.int (b3)), some (.int (b4)), some (.int (b5)), none] [] (xw Z (yw Y T)) 0 0 (o9, (xw Z (yw R9 T)), 0, 0) := by
  intro f9
  induction f9 with
  | zero => intro Y b1 b2 b3 b4 b5 o9 R9 h; cases h
  | succ f9 ih9 =>
    intro Y b1 b2 b3 b4 b5 o9 R9 h
    rw [g_X1_share_49] at h
    refine mr_iload (pc := 49) (x := b5) rfl rfl ?_
    refine mr_iload_n (pc := 51) (x := b2) rfl rfl ?_
    refine mr_icmp_gt (pc := 52) 101 rfl (by decide) (fun c52 => ?_) (fun c52 => ?_)
    · have h := (if_pos c52).symm.trans h
      refine mr_iload_n (pc := 101) (x := b3) rfl rfl ?_
      refine ms_istore (pc := 102) (L' := [some (.ref 8), some (.int (b1)), some (.int (b2)), some (.int (b3)), some (.int (b4)), some (.int (b3)), none]) rfl (by decide) rfl rfl ?_
      refine mr_iload_n (pc := 104) (x := b1) rfl rfl ?_
      refine ms_istore (pc := 105) (L' := [some (.ref 8), some (.int (b1)), some (.int (b2)), some (.int (b3)), some (.int (b4)), some (.int (b3)), some (.int (b1))]) rfl (by decide) rfl rfl ?_
      exact FL_X1_share_107 mK _ _ _ _ _ _ _ _ _ h
    · have h := (if_neg c52).symm.trans h
      refine mr_aload_n (pc := 55) (x := 8) rfl rfl ?_
      refine mr_iload (pc := 56) (x := b5) rfl rfl ?_
      rcases bI_inv h with ⟨v58, Y58, hc58, h⟩ | ⟨E58, Y58, hc58, hr⟩
      · refine mr_ret (mRunV (pc := 58) (q := 8) (As := [.int (b5)]) (rest := []) rfl lkRX1_65 rfl rfl rfl (Nat.le_of_ble_eq_true rfl) (Nat.le_of_ble_eq_true rfl) (F_X1_hold hc58)) rfl (Nat.le_of_ble_eq_true rfl) (Nat.le_of_ble_eq_true rfl) ?_
        refine mr_if_ne (pc := 61) 73 rfl (by decide) (fun c61 => ?_) (fun c61 => ?_)
        · have h := (if_neg c61).symm.trans h
          refine mr_iload_n (pc := 73) (x := b3) rfl rfl ?_
          refine mr_aload_n (pc := 74) (x := 8) rfl rfl ?_
          refine mr_getfield (pc := 75) (v := .ref 11) rfl lfRX1_17 rfl rfl ?_
          refine mr_iload (pc := 78) (x := b5) rfl rfl ?_
          obtain ⟨g80, h⟩ := m_gd h
          refine mr_iaload (pc := 80) (f := Y58.2.2.1) rfl rfl (vpb_in g80) ?_
          refine mr_iadd (pc := 81) rfl ?_
          refine ms_istore_n (pc := 82) (L' := [some (.ref 8), some (.int (b1)), some (.int (b2)), some (.int ((b3) + ((Y58.2.2.1) ((b5) : Int32).toNatClampNeg))), some (.int (b4)), some (.int (b5)), none]) rfl (by decide) rfl rfl ?_
          refine mr_iload (pc := 83) (x := b4) rfl rfl ?_
          refine mr_aload_n (pc := 85) (x := 8) rfl rfl ?_
          refine mr_getfield (pc := 86) (v := .ref 10) rfl lfRX1_13 rfl rfl ?_
          refine mr_iload (pc := 89) (x := b5) rfl rfl ?_
          obtain ⟨g91, h⟩ := m_gd h
          refine mr_iaload (pc := 91) (f := Y58.2.1) rfl rfl (vpb_in g91) ?_
          refine mr_iadd (pc := 92) rfl ?_
          refine ms_istore (pc := 93) (L' := [some (.ref 8), some (.int (b1)), some (.int (b2)), some (.int ((b3) + ((Y58.2.2.1) ((b5) : Int32).toNatClampNeg))), some (.int ((b4) + ((Y58.2.1) ((b5) : Int32).toNatClampNeg))), some (.int (b5)), none]) rfl (by decide) rfl rfl ?_
          refine ms_iinc (pc := 95) (x := b5) (v := 1) (L' := [some (.ref 8), some (.int (b1)), some (.int (b2)), some (.int ((b3) + ((Y58.2.2.1) ((b5) : Int32).toNatClampNeg))), some (.int ((b4) + ((Y58.2.1) ((b5) : Int32).toNatClampNeg))), some (.int (b5 + 1)), none]) rfl rfl (by decide) (by decide) rfl rfl ?_
          refine mr_goto (pc := 98) 49 rfl (by decide) ?_
          exact ih9 _ _ _ _ _ _ _ _ h
        · have h := (if_pos c61).symm.trans h
          refine mr_aload_n (pc := 64) (x := 8) rfl rfl ?_
          refine mr_iconst (pc := 65) (v := 3) rfl (by decide) ?_
          refine mr_iconst (pc := 66) (v := 0) rfl (by decide) ?_
          refine mr_iconst (pc := 67) (v := 0) rfl (by decide) ?_
          refine mr_iconst (pc := 68) (v := 0) rfl (by decide) ?_
          rcases bI_inv h with ⟨v69, Y69, hc69, h⟩ | ⟨E69, Y69, hc69, hr⟩
          · refine mr_ret (mRunV (pc := 69) (q := 8) (As := [.int (3), .int (0), .int (0), .int (0)]) (rest := []) rfl lkRX1_68 rfl rfl rfl (Nat.le_of_ble_eq_true rfl) (Nat.le_of_ble_eq_true rfl) (F_X1_told hc69)) rfl (Nat.le_of_ble_eq_true rfl) (Nat.le_of_ble_eq_true rfl) ?_
            cases h; exact mr_ireturn (pc := 72) rfl rfl (Nat.le_of_ble_eq_true rfl) (Nat.le_of_ble_eq_true rfl)
          · cases hr; exact mr_thrown (mRunV (pc := 69) (q := 8) (As := [.int (3), .int (0), .int (0), .int (0)]) (rest := []) rfl lkRX1_68 rfl rfl rfl (Nat.le_of_ble_eq_true rfl) (Nat.le_of_ble_eq_true rfl) (F_X1_told hc69)) rfl rfl (Nat.le_of_ble_eq_true rfl) (Nat.le_of_ble_eq_true rfl)
      · cases hr; exact mr_thrown (mRunV (pc := 58) (q := 8) (As := [.int (b5)]) (rest := []) rfl lkRX1_65 rfl rfl rfl (Nat.le_of_ble_eq_true rfl) (Nat.le_of_ble_eq_true rfl) (F_X1_hold hc58)) rfl rfl (Nat.le_of_ble_eq_true rfl) (Nat.le_of_ble_eq_true rfl)
def g_X1_share (Y : rS) (a1 a2 : Int32) : Option (mO × rS) := cI (g_X1_isPool (a1)) Y (fun v2 => if ((v2) : Int32) = 0 then (if ((1) : Int32) ≤ 0 then (g_X1_share_49 mK (Y.1, Y.2.1, Y.2.2.1, Y.2.2.2.1, Y.2.2.2.2.1, Y.2.2.2.2.2.1, Y.2.2.2.2.2.2.1, Y.2.2.2.2.2.2.2.1, 1, Y.2.2.2.2.2.2.2.2.2.1, Y.2.2.2.2.2.2.2.2.2.2.1, Y.2.2.2.2.2.2.2.2.2.2.2.1, Y.2.2.2.2.2.2.2.2.2.2.2.2.1, Y.2.2.2.2.2.2.2.2.2.2.2.2.2.1, Y.2.2.2.2.2.2.2.2.2.2.2.2.2.2) (a1) (a2) (0) (0) (a1)) else (some (.inl (some (.int (0))), (Y.1, Y.2.1, Y.2.2.1, Y.2.2.2.1, Y.2.2.2.2.1, Y.2.2.2.2.2.1, Y.2.2.2.2.2.2.1, Y.2.2.2.2.2.2.2.1, 1, Y.2.2.2.2.2.2.2.2.2.1, Y.2.2.2.2.2.2.2.2.2.2.1, Y.2.2.2.2.2.2.2.2.2.2.2.1, Y.2.2.2.2.2.2.2.2.2.2.2.2.1, Y.2.2.2.2.2.2.2.2.2.2.2.2.2.1, Y.2.2.2.2.2.2.2.2.2.2.2.2.2.2)))) else (cI (g_X1_isPool (a2)) Y (fun v9 => if ((v9) : Int32) = 0 then (if ((1) : Int32) ≤ 0 then (g_X1_share_49 mK (Y.1, Y.2.1, Y.2.2.1, Y.2.2.2.1, Y.2.2.2.2.1, Y.2.2.2.2.2.1, Y.2.2.2.2.2.2.1, Y.2.2.2.2.2.2.2.1, 1, Y.2.2.2.2.2.2.2.2.2.1, Y.2.2.2.2.2.2.2.2.2.2.1, Y.2.2.2.2.2.2.2.2.2.2.2.1, Y.2.2.2.2.2.2.2.2.2.2.2.2.1, Y.2.2.2.2.2.2.2.2.2.2.2.2.2.1, Y.2.2.2.2.2.2.2.2.2.2.2.2.2.2) (a1) (a2) (0) (0) (a1)) else (some (.inl (some (.int (0))), (Y.1, Y.2.1, Y.2.2.1, Y.2.2.2.1, Y.2.2.2.2.1, Y.2.2.2.2.2.1, Y.2.2.2.2.2.2.1, Y.2.2.2.2.2.2.2.1, 1, Y.2.2.2.2.2.2.2.2.2.1, Y.2.2.2.2.2.2.2.2.2.2.1, Y.2.2.2.2.2.2.2.2.2.2.2.1, Y.2.2.2.2.2.2.2.2.2.2.2.2.1, Y.2.2.2.2.2.2.2.2.2.2.2.2.2.1, Y.2.2.2.2.2.2.2.2.2.2.2.2.2.2)))) else (if ((a1) : Int32) ≤ ((a2) : Int32) then (if ((0) : Int32) ≤ 0 then (g_X1_share_49 mK (Y.1, Y.2.1, Y.2.2.1, Y.2.2.2.1, Y.2.2.2.2.1, Y.2.2.2.2.2.1, Y.2.2.2.2.2.2.1, Y.2.2.2.2.2.2.2.1, 0, Y.2.2.2.2.2.2.2.2.2.1, Y.2.2.2.2.2.2.2.2.2.2.1, Y.2.2.2.2.2.2.2.2.2.2.2.1, Y.2.2.2.2.2.2.2.2.2.2.2.2.1, Y.2.2.2.2.2.2.2.2.2.2.2.2.2.1, Y.2.2.2.2.2.2.2.2.2.2.2.2.2.2) (a1) (a2) (0) (0) (a1)) else (some (.inl (some (.int (0))), (Y.1, Y.2.1, Y.2.2.1, Y.2.2.2.1, Y.2.2.2.2.1, Y.2.2.2.2.2.1, Y.2.2.2.2.2.2.1, Y.2.2.2.2.2.2.2.1, 0, Y.2.2.2.2.2.2.2.2.2.1, Y.2.2.2.2.2.2.2.2.2.2.1, Y.2.2.2.2.2.2.2.2.2.2.2.1, Y.2.2.2.2.2.2.2.2.2.2.2.2.1, Y.2.2.2.2.2.2.2.2.2.2.2.2.2.1, Y.2.2.2.2.2.2.2.2.2.2.2.2.2.2)))) else (if ((2) : Int32) ≤ 0 then (g_X1_share_49 mK (Y.1, Y.2.1, Y.2.2.1, Y.2.2.2.1, Y.2.2.2.2.1, Y.2.2.2.2.2.1, Y.2.2.2.2.2.2.1, Y.2.2.2.2.2.2.2.1, 2, Y.2.2.2.2.2.2.2.2.2.1, Y.2.2.2.2.2.2.2.2.2.2.1, Y.2.2.2.2.2.2.2.2.2.2.2.1, Y.2.2.2.2.2.2.2.2.2.2.2.2.1, Y.2.2.2.2.2.2.2.2.2.2.2.2.2.1, Y.2.2.2.2.2.2.2.2.2.2.2.2.2.2) (a1) (a2) (0) (0) (a1)) else (some (.inl (some (.int (0))), (Y.1, Y.2.1, Y.2.2.1, Y.2.2.2.1, Y.2.2.2.2.1, Y.2.2.2.2.2.1, Y.2.2.2.2.2.2.1, Y.2.2.2.2.2.2.2.1, 2, Y.2.2.2.2.2.2.2.2.2.1, Y.2.2.2.2.2.2.2.2.2.2.1, Y.2.2.2.2.2.2.2.2.2.2.2.1, Y.2.2.2.2.2.2.2.2.2.2.2.2.1, Y.2.2.2.2.2.2.2.2.2.2.2.2.2.1, Y.2.2.2.2.2.2.2.2.2.2.2.2.2.2))))))))
set_option maxRecDepth 100000 in
set_option maxHeartbeats 4000000 in
theorem F_X1_share {S : Nat × (Nat → Int32)} {Z : cS} {T : mH} {Y R9 : rS} {o9 : mO} {a1 a2 : Int32} (h : g_X1_share Y a1 a2 = some (o9, R9)) : mF S MX1_share 0 (mEnt [.ref 8, .int a1, .int a2] 7) [] (xw Z (yw Y T)) 0 0 (o9, (xw Z (yw R9 T)), 0, 0) := by
  unfold g_X1_share at h
  refine mr_aload_n (pc := 0) (x := 8) rfl rfl ?_
  refine mr_iload_n (pc := 1) (x := a1) rfl rfl ?_
  rcases cI_inv h with ⟨v2, hc2, h⟩ | ⟨E2, hc2, hr⟩
  · refine mr_ret (mRunS (pc := 2) (As := [.int (a1)]) (rest := [.ref 8]) rfl lkRX1_62 rfl (Nat.le_of_ble_eq_true rfl) (Nat.le_of_ble_eq_true rfl) (F_X1_isPool hc2)) rfl (Nat.le_of_ble_eq_true rfl) (Nat.le_of_ble_eq_true rfl) ?_
    refine mr_if_eq (pc := 5) 15 rfl (by decide) (fun c5 => ?_) (fun c5 => ?_)
    · have h := (if_pos c5).symm.trans h
      refine mr_iconst (pc := 15) (v := 1) rfl (by decide) ?_
      refine mr_goto (pc := 16) 29 rfl (by decide) ?_
      refine ms_putfield (pc := 29) (h' := (xw Z (yw (Y.1, Y.2.1, Y.2.2.1, Y.2.2.2.1, Y.2.2.2.2.1, Y.2.2.2.2.2.1, Y.2.2.2.2.2.2.1, Y.2.2.2.2.2.2.2.1, 1, Y.2.2.2.2.2.2.2.2.2.1, Y.2.2.2.2.2.2.2.2.2.2.1, Y.2.2.2.2.2.2.2.2.2.2.2.1, Y.2.2.2.2.2.2.2.2.2.2.2.2.1, Y.2.2.2.2.2.2.2.2.2.2.2.2.2.1, Y.2.2.2.2.2.2.2.2.2.2.2.2.2.2) T))) rfl lfRX1_38 rfl (Nat.le_of_ble_eq_true rfl) (by intro q hq; cases hq; rfl) rfl ?_
      refine mr_aload_n (pc := 32) (x := 8) rfl rfl ?_
      refine mr_getfield (pc := 33) (v := .int (1)) rfl lfRX1_38 rfl rfl ?_
      refine mr_if_le (pc := 36) 41 rfl (by decide) (fun c36 => ?_) (fun c36 => ?_)
      · have h := (if_pos c36).symm.trans h
        refine mr_iconst (pc := 41) (v := 0) rfl (by decide) ?_
        refine ms_istore_n (pc := 42) (L' := [some (.ref 8), some (.int (a1)), some (.int (a2)), some (.int (0)), none, none, none]) rfl (by decide) rfl rfl ?_
        refine mr_iconst (pc := 43) (v := 0) rfl (by decide) ?_
        refine ms_istore (pc := 44) (L' := [some (.ref 8), some (.int (a1)), some (.int (a2)), some (.int (0)), some (.int (0)), none, none]) rfl (by decide) rfl rfl ?_
        refine mr_iload_n (pc := 46) (x := a1) rfl rfl ?_
        refine ms_istore (pc := 47) (L' := [some (.ref 8), some (.int (a1)), some (.int (a2)), some (.int (0)), some (.int (0)), some (.int (a1)), none]) rfl (by decide) rfl rfl ?_
        exact FL_X1_share_49 mK _ _ _ _ _ _ _ _ h
      · have h := (if_neg c36).symm.trans h
        refine mr_iconst (pc := 39) (v := 0) rfl (by decide) ?_
        cases h; exact mr_ireturn (pc := 40) rfl rfl (Nat.le_of_ble_eq_true rfl) (Nat.le_of_ble_eq_true rfl)
    · have h := (if_neg c5).symm.trans h
      refine mr_iload_n (pc := 8) (x := a2) rfl rfl ?_
      rcases cI_inv h with ⟨v9, hc9, h⟩ | ⟨E9, hc9, hr⟩
      · refine mr_ret (mRunS (pc := 9) (As := [.int (a2)]) (rest := [.ref 8]) rfl lkRX1_62 rfl (Nat.le_of_ble_eq_true rfl) (Nat.le_of_ble_eq_true rfl) (F_X1_isPool hc9)) rfl (Nat.le_of_ble_eq_true rfl) (Nat.le_of_ble_eq_true rfl) ?_
        refine mr_if_ne (pc := 12) 19 rfl (by decide) (fun c12 => ?_) (fun c12 => ?_)
        · have h := (if_neg c12).symm.trans h
          refine mr_iload_n (pc := 19) (x := a1) rfl rfl ?_
          refine mr_iload_n (pc := 20) (x := a2) rfl rfl ?_
          refine mr_icmp_le (pc := 21) 28 rfl (by decide) (fun c21 => ?_) (fun c21 => ?_)
          · have h := (if_pos c21).symm.trans h
            refine mr_iconst (pc := 28) (v := 0) rfl (by decide) ?_
            refine ms_putfield (pc := 29) (h' := (xw Z (yw (Y.1, Y.2.1, Y.2.2.1, Y.2.2.2.1, Y.2.2.2.2.1, Y.2.2.2.2.2.1, Y.2.2.2.2.2.2.1, Y.2.2.2.2.2.2.2.1, 0, Y.2.2.2.2.2.2.2.2.2.1, Y.2.2.2.2.2.2.2.2.2.2.1, Y.2.2.2.2.2.2.2.2.2.2.2.1, Y.2.2.2.2.2.2.2.2.2.2.2.2.1, Y.2.2.2.2.2.2.2.2.2.2.2.2.2.1, Y.2.2.2.2.2.2.2.2.2.2.2.2.2.2) T))) rfl lfRX1_38 rfl (Nat.le_of_ble_eq_true rfl) (by intro q hq; cases hq; rfl) rfl ?_
            refine mr_aload_n (pc := 32) (x := 8) rfl rfl ?_
            refine mr_getfield (pc := 33) (v := .int (0)) rfl lfRX1_38 rfl rfl ?_
            refine mr_if_le (pc := 36) 41 rfl (by decide) (fun c36 => ?_) (fun c36 => ?_)
            · have h := (if_pos c36).symm.trans h
              refine mr_iconst (pc := 41) (v := 0) rfl (by decide) ?_
              refine ms_istore_n (pc := 42) (L' := [some (.ref 8), some (.int (a1)), some (.int (a2)), some (.int (0)), none, none, none]) rfl (by decide) rfl rfl ?_
              refine mr_iconst (pc := 43) (v := 0) rfl (by decide) ?_
              refine ms_istore (pc := 44) (L' := [some (.ref 8), some (.int (a1)), some (.int (a2)), some (.int (0)), some (.int (0)), none, none]) rfl (by decide) rfl rfl ?_
              refine mr_iload_n (pc := 46) (x := a1) rfl rfl ?_
              refine ms_istore (pc := 47) (L' := [some (.ref 8), some (.int (a1)), some (.int (a2)), some (.int (0)), some (.int (0)), some (.int (a1)), none]) rfl (by decide) rfl rfl ?_
              exact FL_X1_share_49 mK _ _ _ _ _ _ _ _ h
            · have h := (if_neg c36).symm.trans h
              refine mr_iconst (pc := 39) (v := 0) rfl (by decide) ?_
              cases h; exact mr_ireturn (pc := 40) rfl rfl (Nat.le_of_ble_eq_true rfl) (Nat.le_of_ble_eq_true rfl)
          · have h := (if_neg c21).symm.trans h
            refine mr_iconst (pc := 24) (v := 2) rfl (by decide) ?_
            refine mr_goto (pc := 25) 29 rfl (by decide) ?_
            refine ms_putfield (pc := 29) (h' := (xw Z (yw (Y.1, Y.2.1, Y.2.2.1, Y.2.2.2.1, Y.2.2.2.2.1, Y.2.2.2.2.2.1, Y.2.2.2.2.2.2.1, Y.2.2.2.2.2.2.2.1, 2, Y.2.2.2.2.2.2.2.2.2.1, Y.2.2.2.2.2.2.2.2.2.2.1, Y.2.2.2.2.2.2.2.2.2.2.2.1, Y.2.2.2.2.2.2.2.2.2.2.2.2.1, Y.2.2.2.2.2.2.2.2.2.2.2.2.2.1, Y.2.2.2.2.2.2.2.2.2.2.2.2.2.2) T))) rfl lfRX1_38 rfl (Nat.le_of_ble_eq_true rfl) (by intro q hq; cases hq; rfl) rfl ?_
            refine mr_aload_n (pc := 32) (x := 8) rfl rfl ?_
            refine mr_getfield (pc := 33) (v := .int (2)) rfl lfRX1_38 rfl rfl ?_
            refine mr_if_le (pc := 36) 41 rfl (by decide) (fun c36 => ?_) (fun c36 => ?_)
            · have h := (if_pos c36).symm.trans h
              refine mr_iconst (pc := 41) (v := 0) rfl (by decide) ?_
              refine ms_istore_n (pc := 42) (L' := [some (.ref 8), some (.int (a1)), some (.int (a2)), some (.int (0)), none, none, none]) rfl (by decide) rfl rfl ?_
              refine mr_iconst (pc := 43) (v := 0) rfl (by decide) ?_
              refine ms_istore (pc := 44) (L' := [some (.ref 8), some (.int (a1)), some (.int (a2)), some (.int (0)), some (.int (0)), none, none]) rfl (by decide) rfl rfl ?_
              refine mr_iload_n (pc := 46) (x := a1) rfl rfl ?_
              refine ms_istore (pc := 47) (L' := [some (.ref 8), some (.int (a1)), some (.int (a2)), some (.int (0)), some (.int (0)), some (.int (a1)), none]) rfl (by decide) rfl rfl ?_
              exact FL_X1_share_49 mK _ _ _ _ _ _ _ _ h
            · have h := (if_neg c36).symm.trans h
              refine mr_iconst (pc := 39) (v := 0) rfl (by decide) ?_
              cases h; exact mr_ireturn (pc := 40) rfl rfl (Nat.le_of_ble_eq_true rfl) (Nat.le_of_ble_eq_true rfl)
        · have h := (if_pos c12).symm.trans h
          refine mr_iconst (pc := 15) (v := 1) rfl (by decide) ?_
          refine mr_goto (pc := 16) 29 rfl (by decide) ?_
          refine ms_putfield (pc := 29) (h' := (xw Z (yw (Y.1, Y.2.1, Y.2.2.1, Y.2.2.2.1, Y.2.2.2.2.1, Y.2.2.2.2.2.1, Y.2.2.2.2.2.2.1, Y.2.2.2.2.2.2.2.1, 1, Y.2.2.2.2.2.2.2.2.2.1, Y.2.2.2.2.2.2.2.2.2.2.1, Y.2.2.2.2.2.2.2.2.2.2.2.1, Y.2.2.2.2.2.2.2.2.2.2.2.2.1, Y.2.2.2.2.2.2.2.2.2.2.2.2.2.1, Y.2.2.2.2.2.2.2.2.2.2.2.2.2.2) T))) rfl lfRX1_38 rfl (Nat.le_of_ble_eq_true rfl) (by intro q hq; cases hq; rfl) rfl ?_
          refine mr_aload_n (pc := 32) (x := 8) rfl rfl ?_
          refine mr_getfield (pc := 33) (v := .int (1)) rfl lfRX1_38 rfl rfl ?_
          refine mr_if_le (pc := 36) 41 rfl (by decide) (fun c36 => ?_) (fun c36 => ?_)
          · have h := (if_pos c36).symm.trans h
            refine mr_iconst (pc := 41) (v := 0) rfl (by decide) ?_
            refine ms_istore_n (pc := 42) (L' := [some (.ref 8), some (.int (a1)), some (.int (a2)), some (.int (0)), none, none, none]) rfl (by decide) rfl rfl ?_
            refine mr_iconst (pc := 43) (v := 0) rfl (by decide) ?_
            refine ms_istore (pc := 44) (L' := [some (.ref 8), some (.int (a1)), some (.int (a2)), some (.int (0)), some (.int (0)), none, none]) rfl (by decide) rfl rfl ?_
            refine mr_iload_n (pc := 46) (x := a1) rfl rfl ?_
            refine ms_istore (pc := 47) (L' := [some (.ref 8), some (.int (a1)), some (.int (a2)), some (.int (0)), some (.int (0)), some (.int (a1)), none]) rfl (by decide) rfl rfl ?_
            exact FL_X1_share_49 mK _ _ _ _ _ _ _ _ h
          · have h := (if_neg c36).symm.trans h
            refine mr_iconst (pc := 39) (v := 0) rfl (by decide) ?_
            cases h; exact mr_ireturn (pc := 40) rfl rfl (Nat.le_of_ble_eq_true rfl) (Nat.le_of_ble_eq_true rfl)
      · cases hr; exact mr_thrown (mRunS (pc := 9) (As := [.int (a2)]) (rest := [.ref 8]) rfl lkRX1_62 rfl (Nat.le_of_ble_eq_true rfl) (Nat.le_of_ble_eq_true rfl) (F_X1_isPool hc9)) rfl rfl (Nat.le_of_ble_eq_true rfl) (Nat.le_of_ble_eq_true rfl)
  · cases hr; exact mr_thrown (mRunS (pc := 2) (As := [.int (a1)]) (rest := [.ref 8]) rfl lkRX1_62 rfl (Nat.le_of_ble_eq_true rfl) (Nat.le_of_ble_eq_true rfl) (F_X1_isPool hc2)) rfl rfl (Nat.le_of_ble_eq_true rfl) (Nat.le_of_ble_eq_true rfl)
def g_X1_first_7 : Nat → rS → Int32 → Int32 → Option (mO × rS)
  | 0, _, _, _ => none
  | f9 + 1, Y, b1, b2 => if ((8) : Int32) ≤ ((b2) : Int32) then (some (.inl (some (.int ((-1)))), Y)) else (if vpb (b2) 8 then (if (((Y.1) ((b2) : Int32).toNatClampNeg) : Int32) = 0 then (g_X1_first_7 f9 Y (b1) (b2 + 1)) else (bI (g_X1_hold Y (b2)) (fun v24 Y24 => if ((v24) : Int32) = 0 then (bV (g_X1_leave Y24 (1)) (fun Y47 => if ((0) : Int32) = 0 then (g_X1_first_7 f9 Y47 (b1) (b2 + 1)) else (some (.inl (some (.int (b2))), Y47)))) else (bI (g_X1_heightOf Y24 (b2)) (fun v32 Y32 => if ((v32) : Int32) < ((b1) : Int32) then (bV (g_X1_leave Y32 (1)) (fun Y47 => if ((0) : Int32) = 0 then (g_X1_first_7 f9 Y47 (b1) (b2 + 1)) else (some (.inl (some (.int (b2))), Y47)))) else (bV (g_X1_leave Y32 (1)) (fun Y47 => if ((1) : Int32) = 0 then (g_X1_first_7 f9 Y47 (b1) (b2 + 1)) else (some (.inl (some (.int (b2))), Y47))))))))) else none)
set_option maxRecDepth 100000 in
set_option maxHeartbeats 4000000 in
theorem FL_X1_first_7 {S : Nat × (Nat → Int32)} {Z : cS} {T : mH} : ∀ (f9 : Nat) (Y : rS) (b1 b2 : Int32) (o9 : mO) (R9 : rS), g_X1_first_7 f9 Y b1 b2 = some (o9, R9) → mF S MX1_first 7 [some (.ref 8), some (.int (b1)), some (.int (b2)), none] [] (xw Z (yw Y T)) 0 0 (o9, (xw Z (yw R9 T)), 0, 0) := by
  intro f9
  induction f9 with
  | zero => intro Y b1 b2 o9 R9 h; cases h
  | succ f9 ih9 =>
    intro Y b1 b2 o9 R9 h
    rw [g_X1_first_7] at h
    refine mr_iload_n (pc := 7) (x := b2) rfl rfl ?_
    refine mr_bipush (pc := 8) (v := 8) rfl (by decide) ?_
    refine mr_icmp_ge (pc := 10) 62 rfl (by decide) (fun c10 => ?_) (fun c10 => ?_)
    · have h := (if_pos c10).symm.trans h
      refine mr_iconst (pc := 62) (v := -1) rfl (by decide) ?_
      cases h; exact mr_ireturn (pc := 63) rfl rfl (Nat.le_of_ble_eq_true rfl) (Nat.le_of_ble_eq_true rfl)
    · have h := (if_neg c10).symm.trans h
      refine mr_aload_n (pc := 13) (x := 8) rfl rfl ?_
      refine mr_getfield (pc := 14) (v := .ref 9) rfl lfRX1_7 rfl rfl ?_
      refine mr_iload_n (pc := 17) (x := b2) rfl rfl ?_
      obtain ⟨g18, h⟩ := m_gd h
      refine mr_baload (pc := 18) (f := Y.1) rfl rfl (vpb_in g18) ?_
      refine mr_if_eq (pc := 19) 56 rfl (by decide) (fun c19 => ?_) (fun c19 => ?_)
      · have h := (if_pos c19).symm.trans h
        refine ms_iinc (pc := 56) (x := b2) (v := 1) (L' := [some (.ref 8), some (.int (b1)), some (.int (b2 + 1)), none]) rfl rfl (by decide) (by decide) rfl rfl ?_
        refine mr_goto (pc := 59) 7 rfl (by decide) ?_
        exact ih9 _ _ _ _ _ h
      · have h := (if_neg c19).symm.trans h
        refine mr_aload_n (pc := 22) (x := 8) rfl rfl ?_
        refine mr_iload_n (pc := 23) (x := b2) rfl rfl ?_
        rcases bI_inv h with ⟨v24, Y24, hc24, h⟩ | ⟨E24, Y24, hc24, hr⟩
        · refine mr_ret (mRunV (pc := 24) (q := 8) (As := [.int (b2)]) (rest := []) rfl lkRX1_65 rfl rfl rfl (Nat.le_of_ble_eq_true rfl) (Nat.le_of_ble_eq_true rfl) (F_X1_hold hc24)) rfl (Nat.le_of_ble_eq_true rfl) (Nat.le_of_ble_eq_true rfl) ?_
          refine mr_if_eq (pc := 27) 43 rfl (by decide) (fun c27 => ?_) (fun c27 => ?_)
          · have h := (if_pos c27).symm.trans h
            refine mr_iconst (pc := 43) (v := 0) rfl (by decide) ?_
            refine ms_istore_n (pc := 44) (L' := [some (.ref 8), some (.int (b1)), some (.int (b2)), some (.int (0))]) rfl (by decide) rfl rfl ?_
            refine mr_aload_n (pc := 45) (x := 8) rfl rfl ?_
            refine mr_iconst (pc := 46) (v := 1) rfl (by decide) ?_
            rcases bV_inv h with ⟨Y47, hc47, h⟩ | ⟨E47, Y47, hc47, hr⟩
            · refine mr_ret (mRunV (pc := 47) (q := 8) (As := [.int (1)]) (rest := []) rfl lkRX1_72 rfl rfl rfl (Nat.le_of_ble_eq_true rfl) (Nat.le_of_ble_eq_true rfl) (F_X1_leave hc47)) rfl (Nat.le_of_ble_eq_true rfl) (Nat.le_of_ble_eq_true rfl) ?_
              refine mr_iload_n (pc := 50) (x := 0) rfl rfl ?_
              refine mr_if_eq (pc := 51) 56 rfl (by decide) (fun c51 => ?_) (fun c51 => ?_)
              · have h := (if_pos c51).symm.trans h
                refine ms_iinc (pc := 56) (x := b2) (v := 1) (L' := [some (.ref 8), some (.int (b1)), some (.int (b2 + 1)), some (.int (0))]) rfl rfl (by decide) (by decide) rfl rfl ?_
                refine mr_goto (pc := 59) 7 rfl (by decide) ?_
                refine ms_drop (i := 3) (L' := [some (.ref 8), some (.int (b1)), some (.int (b2 + 1)), none]) rfl ?_
                exact ih9 _ _ _ _ _ h
              · have h := (if_neg c51).symm.trans h
                refine mr_iload_n (pc := 54) (x := b2) rfl rfl ?_
                cases h; exact mr_ireturn (pc := 55) rfl rfl (Nat.le_of_ble_eq_true rfl) (Nat.le_of_ble_eq_true rfl)
            · cases hr; exact mr_thrown (mRunV (pc := 47) (q := 8) (As := [.int (1)]) (rest := []) rfl lkRX1_72 rfl rfl rfl (Nat.le_of_ble_eq_true rfl) (Nat.le_of_ble_eq_true rfl) (F_X1_leave hc47)) rfl rfl (Nat.le_of_ble_eq_true rfl) (Nat.le_of_ble_eq_true rfl)
          · have h := (if_neg c27).symm.trans h
            refine mr_aload_n (pc := 30) (x := 8) rfl rfl ?_
            refine mr_iload_n (pc := 31) (x := b2) rfl rfl ?_
            rcases bI_inv h with ⟨v32, Y32, hc32, h⟩ | ⟨E32, Y32, hc32, hr⟩
            · refine mr_ret (mRunV (pc := 32) (q := 8) (As := [.int (b2)]) (rest := []) rfl lkRX1_76 rfl rfl rfl (Nat.le_of_ble_eq_true rfl) (Nat.le_of_ble_eq_true rfl) (F_X1_heightOf hc32)) rfl (Nat.le_of_ble_eq_true rfl) (Nat.le_of_ble_eq_true rfl) ?_
              refine mr_iload_n (pc := 35) (x := b1) rfl rfl ?_
              refine mr_icmp_lt (pc := 36) 43 rfl (by decide) (fun c36 => ?_) (fun c36 => ?_)
              · have h := (if_pos c36).symm.trans h
                refine mr_iconst (pc := 43) (v := 0) rfl (by decide) ?_
                refine ms_istore_n (pc := 44) (L' := [some (.ref 8), some (.int (b1)), some (.int (b2)), some (.int (0))]) rfl (by decide) rfl rfl ?_
                refine mr_aload_n (pc := 45) (x := 8) rfl rfl ?_
                refine mr_iconst (pc := 46) (v := 1) rfl (by decide) ?_
                rcases bV_inv h with ⟨Y47, hc47, h⟩ | ⟨E47, Y47, hc47, hr⟩
                · refine mr_ret (mRunV (pc := 47) (q := 8) (As := [.int (1)]) (rest := []) rfl lkRX1_72 rfl rfl rfl (Nat.le_of_ble_eq_true rfl) (Nat.le_of_ble_eq_true rfl) (F_X1_leave hc47)) rfl (Nat.le_of_ble_eq_true rfl) (Nat.le_of_ble_eq_true rfl) ?_
                  refine mr_iload_n (pc := 50) (x := 0) rfl rfl ?_
                  refine mr_if_eq (pc := 51) 56 rfl (by decide) (fun c51 => ?_) (fun c51 => ?_)
                  · have h := (if_pos c51).symm.trans h
                    refine ms_iinc (pc := 56) (x := b2) (v := 1) (L' := [some (.ref 8), some (.int (b1)), some (.int (b2 + 1)), some (.int (0))]) rfl rfl (by decide) (by decide) rfl rfl ?_
                    refine mr_goto (pc := 59) 7 rfl (by decide) ?_
                    refine ms_drop (i := 3) (L' := [some (.ref 8), some (.int (b1)), some (.int (b2 + 1)), none]) rfl ?_
                    exact ih9 _ _ _ _ _ h
                  · have h := (if_neg c51).symm.trans h
                    refine mr_iload_n (pc := 54) (x := b2) rfl rfl ?_
                    cases h; exact mr_ireturn (pc := 55) rfl rfl (Nat.le_of_ble_eq_true rfl) (Nat.le_of_ble_eq_true rfl)
                · cases hr; exact mr_thrown (mRunV (pc := 47) (q := 8) (As := [.int (1)]) (rest := []) rfl lkRX1_72 rfl rfl rfl (Nat.le_of_ble_eq_true rfl) (Nat.le_of_ble_eq_true rfl) (F_X1_leave hc47)) rfl rfl (Nat.le_of_ble_eq_true rfl) (Nat.le_of_ble_eq_true rfl)
              · have h := (if_neg c36).symm.trans h
                refine mr_iconst (pc := 39) (v := 1) rfl (by decide) ?_
                refine mr_goto (pc := 40) 44 rfl (by decide) ?_
                refine ms_istore_n (pc := 44) (L' := [some (.ref 8), some (.int (b1)), some (.int (b2)), some (.int (1))]) rfl (by decide) rfl rfl ?_
                refine mr_aload_n (pc := 45) (x := 8) rfl rfl ?_
                refine mr_iconst (pc := 46) (v := 1) rfl (by decide) ?_
                rcases bV_inv h with ⟨Y47, hc47, h⟩ | ⟨E47, Y47, hc47, hr⟩
                · refine mr_ret (mRunV (pc := 47) (q := 8) (As := [.int (1)]) (rest := []) rfl lkRX1_72 rfl rfl rfl (Nat.le_of_ble_eq_true rfl) (Nat.le_of_ble_eq_true rfl) (F_X1_leave hc47)) rfl (Nat.le_of_ble_eq_true rfl) (Nat.le_of_ble_eq_true rfl) ?_
                  refine mr_iload_n (pc := 50) (x := 1) rfl rfl ?_
                  refine mr_if_eq (pc := 51) 56 rfl (by decide) (fun c51 => ?_) (fun c51 => ?_)
                  · have h := (if_pos c51).symm.trans h
                    refine ms_iinc (pc := 56) (x := b2) (v := 1) (L' := [some (.ref 8), some (.int (b1)), some (.int (b2 + 1)), some (.int (1))]) rfl rfl (by decide) (by decide) rfl rfl ?_
                    refine mr_goto (pc := 59) 7 rfl (by decide) ?_
                    refine ms_drop (i := 3) (L' := [some (.ref 8), some (.int (b1)), some (.int (b2 + 1)), none]) rfl ?_
                    exact ih9 _ _ _ _ _ h
                  · have h := (if_neg c51).symm.trans h
                    refine mr_iload_n (pc := 54) (x := b2) rfl rfl ?_
                    cases h; exact mr_ireturn (pc := 55) rfl rfl (Nat.le_of_ble_eq_true rfl) (Nat.le_of_ble_eq_true rfl)
                · cases hr; exact mr_thrown (mRunV (pc := 47) (q := 8) (As := [.int (1)]) (rest := []) rfl lkRX1_72 rfl rfl rfl (Nat.le_of_ble_eq_true rfl) (Nat.le_of_ble_eq_true rfl) (F_X1_leave hc47)) rfl rfl (Nat.le_of_ble_eq_true rfl) (Nat.le_of_ble_eq_true rfl)
            · cases hr; exact mr_thrown (mRunV (pc := 32) (q := 8) (As := [.int (b2)]) (rest := []) rfl lkRX1_76 rfl rfl rfl (Nat.le_of_ble_eq_true rfl) (Nat.le_of_ble_eq_true rfl) (F_X1_heightOf hc32)) rfl rfl (Nat.le_of_ble_eq_true rfl) (Nat.le_of_ble_eq_true rfl)
        · cases hr; exact mr_thrown (mRunV (pc := 24) (q := 8) (As := [.int (b2)]) (rest := []) rfl lkRX1_65 rfl rfl rfl (Nat.le_of_ble_eq_true rfl) (Nat.le_of_ble_eq_true rfl) (F_X1_hold hc24)) rfl rfl (Nat.le_of_ble_eq_true rfl) (Nat.le_of_ble_eq_true rfl)
def g_X1_first (Y : rS) (a1 : Int32) : Option (mO × rS) := g_X1_first_7 mK (Y.1, Y.2.1, Y.2.2.1, Y.2.2.2.1, Y.2.2.2.2.1, Y.2.2.2.2.2.1, Y.2.2.2.2.2.2.1, Y.2.2.2.2.2.2.2.1, 0, Y.2.2.2.2.2.2.2.2.2.1, Y.2.2.2.2.2.2.2.2.2.2.1, Y.2.2.2.2.2.2.2.2.2.2.2.1, Y.2.2.2.2.2.2.2.2.2.2.2.2.1, Y.2.2.2.2.2.2.2.2.2.2.2.2.2.1, Y.2.2.2.2.2.2.2.2.2.2.2.2.2.2) (a1) (0)
set_option maxRecDepth 100000 in
set_option maxHeartbeats 4000000 in
theorem F_X1_first {S : Nat × (Nat → Int32)} {Z : cS} {T : mH} {Y R9 : rS} {o9 : mO} {a1 : Int32} (h : g_X1_first Y a1 = some (o9, R9)) : mF S MX1_first 0 (mEnt [.ref 8, .int a1] 4) [] (xw Z (yw Y T)) 0 0 (o9, (xw Z (yw R9 T)), 0, 0) := by
  unfold g_X1_first at h
  refine mr_aload_n (pc := 0) (x := 8) rfl rfl ?_
  refine mr_iconst (pc := 1) (v := 0) rfl (by decide) ?_
  refine ms_putfield (pc := 2) (h' := (xw Z (yw (Y.1, Y.2.1, Y.2.2.1, Y.2.2.2.1, Y.2.2.2.2.1, Y.2.2.2.2.2.1, Y.2.2.2.2.2.2.1, Y.2.2.2.2.2.2.2.1, 0, Y.2.2.2.2.2.2.2.2.2.1, Y.2.2.2.2.2.2.2.2.2.2.1, Y.2.2.2.2.2.2.2.2.2.2.2.1, Y.2.2.2.2.2.2.2.2.2.2.2.2.1, Y.2.2.2.2.2.2.2.2.2.2.2.2.2.1, Y.2.2.2.2.2.2.2.2.2.2.2.2.2.2) T))) rfl lfRX1_38 rfl (Nat.le_of_ble_eq_true rfl) (by intro q hq; cases hq; rfl) rfl ?_
  refine mr_iconst (pc := 5) (v := 0) rfl (by decide) ?_
  refine ms_istore_n (pc := 6) (L' := [some (.ref 8), some (.int (a1)), some (.int (0)), none]) rfl (by decide) rfl rfl ?_
  exact FL_X1_first_7 mK _ _ _ _ _ h
def g_X1_pool (Y : rS) (a1 a2 : Int32) : Option (mO × rS) := cI (g_X1_isPool (a1)) Y (fun v2 => if ((v2) : Int32) = 0 then (if ((1) : Int32) ≤ 0 then (if ((a2) : Int32) = 0 then (if vpb (a1) 8 then (some (.inl (some (.int ((Y.2.1) ((a1) : Int32).toNatClampNeg))), (Y.1, Y.2.1, Y.2.2.1, Y.2.2.2.1, Y.2.2.2.2.1, Y.2.2.2.2.2.1, Y.2.2.2.2.2.2.1, Y.2.2.2.2.2.2.2.1, 1, Y.2.2.2.2.2.2.2.2.2.1, Y.2.2.2.2.2.2.2.2.2.2.1, Y.2.2.2.2.2.2.2.2.2.2.2.1, Y.2.2.2.2.2.2.2.2.2.2.2.2.1, Y.2.2.2.2.2.2.2.2.2.2.2.2.2.1, Y.2.2.2.2.2.2.2.2.2.2.2.2.2.2))) else none) else (if ((a2) : Int32) = 1 then (if vpb (a1) 8 then (some (.inl (some (.int ((Y.2.2.1) ((a1) : Int32).toNatClampNeg))), (Y.1, Y.2.1, Y.2.2.1, Y.2.2.2.1, Y.2.2.2.2.1, Y.2.2.2.2.2.1, Y.2.2.2.2.2.2.1, Y.2.2.2.2.2.2.2.1, 1, Y.2.2.2.2.2.2.2.2.2.1, Y.2.2.2.2.2.2.2.2.2.2.1, Y.2.2.2.2.2.2.2.2.2.2.2.1, Y.2.2.2.2.2.2.2.2.2.2.2.2.1, Y.2.2.2.2.2.2.2.2.2.2.2.2.2.1, Y.2.2.2.2.2.2.2.2.2.2.2.2.2.2))) else none) else (if ((a2) : Int32) = 2 then (bI (g_X1_heightOf (Y.1, Y.2.1, Y.2.2.1, Y.2.2.2.1, Y.2.2.2.2.1, Y.2.2.2.2.2.1, Y.2.2.2.2.2.2.1, Y.2.2.2.2.2.2.2.1, 1, Y.2.2.2.2.2.2.2.2.2.1, Y.2.2.2.2.2.2.2.2.2.2.1, Y.2.2.2.2.2.2.2.2.2.2.2.1, Y.2.2.2.2.2.2.2.2.2.2.2.2.1, Y.2.2.2.2.2.2.2.2.2.2.2.2.2.1, Y.2.2.2.2.2.2.2.2.2.2.2.2.2.2) (a1)) (fun v88 Y88 => some (.inl (some (.int (v88))), Y88))) else (if ((a2) : Int32) = 3 then (bI (g_X1_lieIn (Y.1, Y.2.1, Y.2.2.1, Y.2.2.2.1, Y.2.2.2.2.1, Y.2.2.2.2.2.1, Y.2.2.2.2.2.2.1, Y.2.2.2.2.2.2.2.1, 1, Y.2.2.2.2.2.2.2.2.2.1, Y.2.2.2.2.2.2.2.2.2.2.1, Y.2.2.2.2.2.2.2.2.2.2.2.1, Y.2.2.2.2.2.2.2.2.2.2.2.2.1, Y.2.2.2.2.2.2.2.2.2.2.2.2.2.1, Y.2.2.2.2.2.2.2.2.2.2.2.2.2.2) (a1)) (fun v94 Y94 => some (.inl (some (.int (v94))), Y94))) else (if ((a2) : Int32) = 4 then (if vpb (a1) 8 then (some (.inl (some (.int ((Y.2.2.2.1) ((a1) : Int32).toNatClampNeg))), (Y.1, Y.2.1, Y.2.2.1, Y.2.2.2.1, Y.2.2.2.2.1, Y.2.2.2.2.2.1, Y.2.2.2.2.2.2.1, Y.2.2.2.2.2.2.2.1, 1, Y.2.2.2.2.2.2.2.2.2.1, Y.2.2.2.2.2.2.2.2.2.2.1, Y.2.2.2.2.2.2.2.2.2.2.2.1, Y.2.2.2.2.2.2.2.2.2.2.2.2.1, Y.2.2.2.2.2.2.2.2.2.2.2.2.2.1, Y.2.2.2.2.2.2.2.2.2.2.2.2.2.2))) else none) else (some (.inl (some (.int ((-1)))), (Y.1, Y.2.1, Y.2.2.1, Y.2.2.2.1, Y.2.2.2.2.1, Y.2.2.2.2.2.1, Y.2.2.2.2.2.2.1, Y.2.2.2.2.2.2.2.1, 1, Y.2.2.2.2.2.2.2.2.2.1, Y.2.2.2.2.2.2.2.2.2.2.1, Y.2.2.2.2.2.2.2.2.2.2.2.1, Y.2.2.2.2.2.2.2.2.2.2.2.2.1, Y.2.2.2.2.2.2.2.2.2.2.2.2.2.1, Y.2.2.2.2.2.2.2.2.2.2.2.2.2.2)))))))) else (some (.inl (some (.int (0))), (Y.1, Y.2.1, Y.2.2.1, Y.2.2.2.1, Y.2.2.2.2.1, Y.2.2.2.2.2.1, Y.2.2.2.2.2.2.1, Y.2.2.2.2.2.2.2.1, 1, Y.2.2.2.2.2.2.2.2.2.1, Y.2.2.2.2.2.2.2.2.2.2.1, Y.2.2.2.2.2.2.2.2.2.2.2.1, Y.2.2.2.2.2.2.2.2.2.2.2.2.1, Y.2.2.2.2.2.2.2.2.2.2.2.2.2.1, Y.2.2.2.2.2.2.2.2.2.2.2.2.2.2)))) else (if vpb (a1) 8 then (if (((Y.1) ((a1) : Int32).toNatClampNeg) : Int32) = 0 then (if ((2) : Int32) ≤ 0 then (if ((a2) : Int32) = 0 then (if vpb (a1) 8 then (some (.inl (some (.int ((Y.2.1) ((a1) : Int32).toNatClampNeg))), (Y.1, Y.2.1, Y.2.2.1, Y.2.2.2.1, Y.2.2.2.2.1, Y.2.2.2.2.2.1, Y.2.2.2.2.2.2.1, Y.2.2.2.2.2.2.2.1, 2, Y.2.2.2.2.2.2.2.2.2.1, Y.2.2.2.2.2.2.2.2.2.2.1, Y.2.2.2.2.2.2.2.2.2.2.2.1, Y.2.2.2.2.2.2.2.2.2.2.2.2.1, Y.2.2.2.2.2.2.2.2.2.2.2.2.2.1, Y.2.2.2.2.2.2.2.2.2.2.2.2.2.2))) else none) else (if ((a2) : Int32) = 1 then (if vpb (a1) 8 then (some (.inl (some (.int ((Y.2.2.1) ((a1) : Int32).toNatClampNeg))), (Y.1, Y.2.1, Y.2.2.1, Y.2.2.2.1, Y.2.2.2.2.1, Y.2.2.2.2.2.1, Y.2.2.2.2.2.2.1, Y.2.2.2.2.2.2.2.1, 2, Y.2.2.2.2.2.2.2.2.2.1, Y.2.2.2.2.2.2.2.2.2.2.1, Y.2.2.2.2.2.2.2.2.2.2.2.1, Y.2.2.2.2.2.2.2.2.2.2.2.2.1, Y.2.2.2.2.2.2.2.2.2.2.2.2.2.1, Y.2.2.2.2.2.2.2.2.2.2.2.2.2.2))) else none) else (if ((a2) : Int32) = 2 then (bI (g_X1_heightOf (Y.1, Y.2.1, Y.2.2.1, Y.2.2.2.1, Y.2.2.2.2.1, Y.2.2.2.2.2.1, Y.2.2.2.2.2.2.1, Y.2.2.2.2.2.2.2.1, 2, Y.2.2.2.2.2.2.2.2.2.1, Y.2.2.2.2.2.2.2.2.2.2.1, Y.2.2.2.2.2.2.2.2.2.2.2.1, Y.2.2.2.2.2.2.2.2.2.2.2.2.1, Y.2.2.2.2.2.2.2.2.2.2.2.2.2.1, Y.2.2.2.2.2.2.2.2.2.2.2.2.2.2) (a1)) (fun v88 Y88 => some (.inl (some (.int (v88))), Y88))) else (if ((a2) : Int32) = 3 then (bI (g_X1_lieIn (Y.1, Y.2.1, Y.2.2.1, Y.2.2.2.1, Y.2.2.2.2.1, Y.2.2.2.2.2.1, Y.2.2.2.2.2.2.1, Y.2.2.2.2.2.2.2.1, 2, Y.2.2.2.2.2.2.2.2.2.1, Y.2.2.2.2.2.2.2.2.2.2.1, Y.2.2.2.2.2.2.2.2.2.2.2.1, Y.2.2.2.2.2.2.2.2.2.2.2.2.1, Y.2.2.2.2.2.2.2.2.2.2.2.2.2.1, Y.2.2.2.2.2.2.2.2.2.2.2.2.2.2) (a1)) (fun v94 Y94 => some (.inl (some (.int (v94))), Y94))) else (if ((a2) : Int32) = 4 then (if vpb (a1) 8 then (some (.inl (some (.int ((Y.2.2.2.1) ((a1) : Int32).toNatClampNeg))), (Y.1, Y.2.1, Y.2.2.1, Y.2.2.2.1, Y.2.2.2.2.1, Y.2.2.2.2.2.1, Y.2.2.2.2.2.2.1, Y.2.2.2.2.2.2.2.1, 2, Y.2.2.2.2.2.2.2.2.2.1, Y.2.2.2.2.2.2.2.2.2.2.1, Y.2.2.2.2.2.2.2.2.2.2.2.1, Y.2.2.2.2.2.2.2.2.2.2.2.2.1, Y.2.2.2.2.2.2.2.2.2.2.2.2.2.1, Y.2.2.2.2.2.2.2.2.2.2.2.2.2.2))) else none) else (some (.inl (some (.int ((-1)))), (Y.1, Y.2.1, Y.2.2.1, Y.2.2.2.1, Y.2.2.2.2.1, Y.2.2.2.2.2.1, Y.2.2.2.2.2.2.1, Y.2.2.2.2.2.2.2.1, 2, Y.2.2.2.2.2.2.2.2.2.1, Y.2.2.2.2.2.2.2.2.2.2.1, Y.2.2.2.2.2.2.2.2.2.2.2.1, Y.2.2.2.2.2.2.2.2.2.2.2.2.1, Y.2.2.2.2.2.2.2.2.2.2.2.2.2.1, Y.2.2.2.2.2.2.2.2.2.2.2.2.2.2)))))))) else (some (.inl (some (.int (0))), (Y.1, Y.2.1, Y.2.2.1, Y.2.2.2.1, Y.2.2.2.2.1, Y.2.2.2.2.2.1, Y.2.2.2.2.2.2.1, Y.2.2.2.2.2.2.2.1, 2, Y.2.2.2.2.2.2.2.2.2.1, Y.2.2.2.2.2.2.2.2.2.2.1, Y.2.2.2.2.2.2.2.2.2.2.2.1, Y.2.2.2.2.2.2.2.2.2.2.2.2.1, Y.2.2.2.2.2.2.2.2.2.2.2.2.2.1, Y.2.2.2.2.2.2.2.2.2.2.2.2.2.2)))) else (if ((0) : Int32) ≤ 0 then (if ((a2) : Int32) = 0 then (if vpb (a1) 8 then (some (.inl (some (.int ((Y.2.1) ((a1) : Int32).toNatClampNeg))), (Y.1, Y.2.1, Y.2.2.1, Y.2.2.2.1, Y.2.2.2.2.1, Y.2.2.2.2.2.1, Y.2.2.2.2.2.2.1, Y.2.2.2.2.2.2.2.1, 0, Y.2.2.2.2.2.2.2.2.2.1, Y.2.2.2.2.2.2.2.2.2.2.1, Y.2.2.2.2.2.2.2.2.2.2.2.1, Y.2.2.2.2.2.2.2.2.2.2.2.2.1, Y.2.2.2.2.2.2.2.2.2.2.2.2.2.1, Y.2.2.2.2.2.2.2.2.2.2.2.2.2.2))) else none) else (if ((a2) : Int32) = 1 then (if vpb (a1) 8 then (some (.inl (some (.int ((Y.2.2.1) ((a1) : Int32).toNatClampNeg))), (Y.1, Y.2.1, Y.2.2.1, Y.2.2.2.1, Y.2.2.2.2.1, Y.2.2.2.2.2.1, Y.2.2.2.2.2.2.1, Y.2.2.2.2.2.2.2.1, 0, Y.2.2.2.2.2.2.2.2.2.1, Y.2.2.2.2.2.2.2.2.2.2.1, Y.2.2.2.2.2.2.2.2.2.2.2.1, Y.2.2.2.2.2.2.2.2.2.2.2.2.1, Y.2.2.2.2.2.2.2.2.2.2.2.2.2.1, Y.2.2.2.2.2.2.2.2.2.2.2.2.2.2))) else none) else (if ((a2) : Int32) = 2 then (bI (g_X1_heightOf (Y.1, Y.2.1, Y.2.2.1, Y.2.2.2.1, Y.2.2.2.2.1, Y.2.2.2.2.2.1, Y.2.2.2.2.2.2.1, Y.2.2.2.2.2.2.2.1, 0, Y.2.2.2.2.2.2.2.2.2.1, Y.2.2.2.2.2.2.2.2.2.2.1, Y.2.2.2.2.2.2.2.2.2.2.2.1, Y.2.2.2.2.2.2.2.2.2.2.2.2.1, Y.2.2.2.2.2.2.2.2.2.2.2.2.2.1, Y.2.2.2.2.2.2.2.2.2.2.2.2.2.2) (a1)) (fun v88 Y88 => some (.inl (some (.int (v88))), Y88))) else (if ((a2) : Int32) = 3 then (bI (g_X1_lieIn (Y.1, Y.2.1, Y.2.2.1, Y.2.2.2.1, Y.2.2.2.2.1, Y.2.2.2.2.2.1, Y.2.2.2.2.2.2.1, Y.2.2.2.2.2.2.2.1, 0, Y.2.2.2.2.2.2.2.2.2.1, Y.2.2.2.2.2.2.2.2.2.2.1, Y.2.2.2.2.2.2.2.2.2.2.2.1, Y.2.2.2.2.2.2.2.2.2.2.2.2.1, Y.2.2.2.2.2.2.2.2.2.2.2.2.2.1, Y.2.2.2.2.2.2.2.2.2.2.2.2.2.2) (a1)) (fun v94 Y94 => some (.inl (some (.int (v94))), Y94))) else (if ((a2) : Int32) = 4 then (if vpb (a1) 8 then (some (.inl (some (.int ((Y.2.2.2.1) ((a1) : Int32).toNatClampNeg))), (Y.1, Y.2.1, Y.2.2.1, Y.2.2.2.1, Y.2.2.2.2.1, Y.2.2.2.2.2.1, Y.2.2.2.2.2.2.1, Y.2.2.2.2.2.2.2.1, 0, Y.2.2.2.2.2.2.2.2.2.1, Y.2.2.2.2.2.2.2.2.2.2.1, Y.2.2.2.2.2.2.2.2.2.2.2.1, Y.2.2.2.2.2.2.2.2.2.2.2.2.1, Y.2.2.2.2.2.2.2.2.2.2.2.2.2.1, Y.2.2.2.2.2.2.2.2.2.2.2.2.2.2))) else none) else (some (.inl (some (.int ((-1)))), (Y.1, Y.2.1, Y.2.2.1, Y.2.2.2.1, Y.2.2.2.2.1, Y.2.2.2.2.2.1, Y.2.2.2.2.2.2.1, Y.2.2.2.2.2.2.2.1, 0, Y.2.2.2.2.2.2.2.2.2.1, Y.2.2.2.2.2.2.2.2.2.2.1, Y.2.2.2.2.2.2.2.2.2.2.2.1, Y.2.2.2.2.2.2.2.2.2.2.2.2.1, Y.2.2.2.2.2.2.2.2.2.2.2.2.2.1, Y.2.2.2.2.2.2.2.2.2.2.2.2.2.2)))))))) else (some (.inl (some (.int (0))), (Y.1, Y.2.1, Y.2.2.1, Y.2.2.2.1, Y.2.2.2.2.1, Y.2.2.2.2.2.1, Y.2.2.2.2.2.2.1, Y.2.2.2.2.2.2.2.1, 0, Y.2.2.2.2.2.2.2.2.2.1, Y.2.2.2.2.2.2.2.2.2.2.1, Y.2.2.2.2.2.2.2.2.2.2.2.1, Y.2.2.2.2.2.2.2.2.2.2.2.2.1, Y.2.2.2.2.2.2.2.2.2.2.2.2.2.1, Y.2.2.2.2.2.2.2.2.2.2.2.2.2.2))))) else none))
set_option maxRecDepth 100000 in
set_option maxHeartbeats 4000000 in
theorem F_X1_pool {S : Nat × (Nat → Int32)} {Z : cS} {T : mH} {Y R9 : rS} {o9 : mO} {a1 a2 : Int32} (h : g_X1_pool Y a1 a2 = some (o9, R9)) : mF S MX1_pool 0 (mEnt [.ref 8, .int a1, .int a2] 3) [] (xw Z (yw Y T)) 0 0 (o9, (xw Z (yw R9 T)), 0, 0) := by
  unfold g_X1_pool at h
  refine mr_aload_n (pc := 0) (x := 8) rfl rfl ?_
  refine mr_iload_n (pc := 1) (x := a1) rfl rfl ?_
  rcases cI_inv h with ⟨v2, hc2, h⟩ | ⟨E2, hc2, hr⟩
  · refine mr_ret (mRunS (pc := 2) (As := [.int (a1)]) (rest := [.ref 8]) rfl lkRX1_62 rfl (Nat.le_of_ble_eq_true rfl) (Nat.le_of_ble_eq_true rfl) (F_X1_isPool hc2)) rfl (Nat.le_of_ble_eq_true rfl) (Nat.le_of_ble_eq_true rfl) ?_
    refine mr_if_ne (pc := 5) 12 rfl (by decide) (fun c5 => ?_) (fun c5 => ?_)
    · have h := (if_neg c5).symm.trans h
      refine mr_aload_n (pc := 12) (x := 8) rfl rfl ?_
      refine mr_getfield (pc := 13) (v := .ref 9) rfl lfRX1_7 rfl rfl ?_
      refine mr_iload_n (pc := 16) (x := a1) rfl rfl ?_
      obtain ⟨g17, h⟩ := m_gd h
      refine mr_baload (pc := 17) (f := Y.1) rfl rfl (vpb_in g17) ?_
      refine mr_if_ne (pc := 18) 25 rfl (by decide) (fun c18 => ?_) (fun c18 => ?_)
      · have h := (if_neg c18).symm.trans h
        refine mr_iconst (pc := 25) (v := 0) rfl (by decide) ?_
        refine ms_putfield (pc := 26) (h' := (xw Z (yw (Y.1, Y.2.1, Y.2.2.1, Y.2.2.2.1, Y.2.2.2.2.1, Y.2.2.2.2.2.1, Y.2.2.2.2.2.2.1, Y.2.2.2.2.2.2.2.1, 0, Y.2.2.2.2.2.2.2.2.2.1, Y.2.2.2.2.2.2.2.2.2.2.1, Y.2.2.2.2.2.2.2.2.2.2.2.1, Y.2.2.2.2.2.2.2.2.2.2.2.2.1, Y.2.2.2.2.2.2.2.2.2.2.2.2.2.1, Y.2.2.2.2.2.2.2.2.2.2.2.2.2.2) T))) rfl lfRX1_38 rfl (Nat.le_of_ble_eq_true rfl) (by intro q hq; cases hq; rfl) rfl ?_
        refine mr_aload_n (pc := 29) (x := 8) rfl rfl ?_
        refine mr_getfield (pc := 30) (v := .int (0)) rfl lfRX1_38 rfl rfl ?_
        refine mr_if_le (pc := 33) 38 rfl (by decide) (fun c33 => ?_) (fun c33 => ?_)
        · have h := (if_pos c33).symm.trans h
          refine mr_iload_n (pc := 38) (x := a2) rfl rfl ?_
          by_cases c39_0 : ((a2) : Int32) = 0
          · have h := (if_pos c39_0).symm.trans h
            refine mr_tabIn (pc := 39) 72 rfl (by rw [c39_0]; decide) (by rw [c39_0]; decide) (by rw [c39_0]; rfl) (by decide) ?_
            refine mr_aload_n (pc := 72) (x := 8) rfl rfl ?_
            refine mr_getfield (pc := 73) (v := .ref 10) rfl lfRX1_13 rfl rfl ?_
            refine mr_iload_n (pc := 76) (x := a1) rfl rfl ?_
            obtain ⟨g77, h⟩ := m_gd h
            refine mr_iaload (pc := 77) (f := Y.2.1) rfl rfl (vpb_in g77) ?_
            cases h; exact mr_ireturn (pc := 78) rfl rfl (Nat.le_of_ble_eq_true rfl) (Nat.le_of_ble_eq_true rfl)
          · have h := (if_neg c39_0).symm.trans h
            by_cases c39_1 : ((a2) : Int32) = 1
            · have h := (if_pos c39_1).symm.trans h
              refine mr_tabIn (pc := 39) 79 rfl (by rw [c39_1]; decide) (by rw [c39_1]; decide) (by rw [c39_1]; rfl) (by decide) ?_
              refine mr_aload_n (pc := 79) (x := 8) rfl rfl ?_
              refine mr_getfield (pc := 80) (v := .ref 11) rfl lfRX1_17 rfl rfl ?_
              refine mr_iload_n (pc := 83) (x := a1) rfl rfl ?_
              obtain ⟨g84, h⟩ := m_gd h
              refine mr_iaload (pc := 84) (f := Y.2.2.1) rfl rfl (vpb_in g84) ?_
              cases h; exact mr_ireturn (pc := 85) rfl rfl (Nat.le_of_ble_eq_true rfl) (Nat.le_of_ble_eq_true rfl)
            · have h := (if_neg c39_1).symm.trans h
              by_cases c39_2 : ((a2) : Int32) = 2
              · have h := (if_pos c39_2).symm.trans h
                refine mr_tabIn (pc := 39) 86 rfl (by rw [c39_2]; decide) (by rw [c39_2]; decide) (by rw [c39_2]; rfl) (by decide) ?_
                refine mr_aload_n (pc := 86) (x := 8) rfl rfl ?_
                refine mr_iload_n (pc := 87) (x := a1) rfl rfl ?_
                rcases bI_inv h with ⟨v88, Y88, hc88, h⟩ | ⟨E88, Y88, hc88, hr⟩
                · refine mr_ret (mRunV (pc := 88) (q := 8) (As := [.int (a1)]) (rest := []) rfl lkRX1_76 rfl rfl rfl (Nat.le_of_ble_eq_true rfl) (Nat.le_of_ble_eq_true rfl) (F_X1_heightOf hc88)) rfl (Nat.le_of_ble_eq_true rfl) (Nat.le_of_ble_eq_true rfl) ?_
                  cases h; exact mr_ireturn (pc := 91) rfl rfl (Nat.le_of_ble_eq_true rfl) (Nat.le_of_ble_eq_true rfl)
                · cases hr; exact mr_thrown (mRunV (pc := 88) (q := 8) (As := [.int (a1)]) (rest := []) rfl lkRX1_76 rfl rfl rfl (Nat.le_of_ble_eq_true rfl) (Nat.le_of_ble_eq_true rfl) (F_X1_heightOf hc88)) rfl rfl (Nat.le_of_ble_eq_true rfl) (Nat.le_of_ble_eq_true rfl)
              · have h := (if_neg c39_2).symm.trans h
                by_cases c39_3 : ((a2) : Int32) = 3
                · have h := (if_pos c39_3).symm.trans h
                  refine mr_tabIn (pc := 39) 92 rfl (by rw [c39_3]; decide) (by rw [c39_3]; decide) (by rw [c39_3]; rfl) (by decide) ?_
                  refine mr_aload_n (pc := 92) (x := 8) rfl rfl ?_
                  refine mr_iload_n (pc := 93) (x := a1) rfl rfl ?_
                  rcases bI_inv h with ⟨v94, Y94, hc94, h⟩ | ⟨E94, Y94, hc94, hr⟩
                  · refine mr_ret (mRunV (pc := 94) (q := 8) (As := [.int (a1)]) (rest := []) rfl lkRX1_83 rfl rfl rfl (Nat.le_of_ble_eq_true rfl) (Nat.le_of_ble_eq_true rfl) (F_X1_lieIn hc94)) rfl (Nat.le_of_ble_eq_true rfl) (Nat.le_of_ble_eq_true rfl) ?_
                    cases h; exact mr_ireturn (pc := 97) rfl rfl (Nat.le_of_ble_eq_true rfl) (Nat.le_of_ble_eq_true rfl)
                  · cases hr; exact mr_thrown (mRunV (pc := 94) (q := 8) (As := [.int (a1)]) (rest := []) rfl lkRX1_83 rfl rfl rfl (Nat.le_of_ble_eq_true rfl) (Nat.le_of_ble_eq_true rfl) (F_X1_lieIn hc94)) rfl rfl (Nat.le_of_ble_eq_true rfl) (Nat.le_of_ble_eq_true rfl)
                · have h := (if_neg c39_3).symm.trans h
                  by_cases c39_4 : ((a2) : Int32) = 4
                  · have h := (if_pos c39_4).symm.trans h
                    refine mr_tabIn (pc := 39) 98 rfl (by rw [c39_4]; decide) (by rw [c39_4]; decide) (by rw [c39_4]; rfl) (by decide) ?_
                    refine mr_aload_n (pc := 98) (x := 8) rfl rfl ?_
                    refine mr_getfield (pc := 99) (v := .ref 12) rfl lfRX1_20 rfl rfl ?_
                    refine mr_iload_n (pc := 102) (x := a1) rfl rfl ?_
                    obtain ⟨g103, h⟩ := m_gd h
                    refine mr_iaload (pc := 103) (f := Y.2.2.2.1) rfl rfl (vpb_in g103) ?_
                    cases h; exact mr_ireturn (pc := 104) rfl rfl (Nat.le_of_ble_eq_true rfl) (Nat.le_of_ble_eq_true rfl)
                  · have h := (if_neg c39_4).symm.trans h
                    refine mr_tabOut (pc := 39) 105 rfl (m_tabOut _ _ _ (fun c h1 h2 => by rcases (show c = 0 ∨ c = 1 ∨ c = 2 ∨ c = 3 ∨ c = 4 by omega) with rfl | rfl | rfl | rfl | rfl <;> assumption)) (by decide) ?_
                    refine mr_iconst (pc := 105) (v := -1) rfl (by decide) ?_
                    cases h; exact mr_ireturn (pc := 106) rfl rfl (Nat.le_of_ble_eq_true rfl) (Nat.le_of_ble_eq_true rfl)
        · have h := (if_neg c33).symm.trans h
          refine mr_iconst (pc := 36) (v := 0) rfl (by decide) ?_
          cases h; exact mr_ireturn (pc := 37) rfl rfl (Nat.le_of_ble_eq_true rfl) (Nat.le_of_ble_eq_true rfl)
      · have h := (if_pos c18).symm.trans h
        refine mr_iconst (pc := 21) (v := 2) rfl (by decide) ?_
        refine mr_goto (pc := 22) 26 rfl (by decide) ?_
        refine ms_putfield (pc := 26) (h' := (xw Z (yw (Y.1, Y.2.1, Y.2.2.1, Y.2.2.2.1, Y.2.2.2.2.1, Y.2.2.2.2.2.1, Y.2.2.2.2.2.2.1, Y.2.2.2.2.2.2.2.1, 2, Y.2.2.2.2.2.2.2.2.2.1, Y.2.2.2.2.2.2.2.2.2.2.1, Y.2.2.2.2.2.2.2.2.2.2.2.1, Y.2.2.2.2.2.2.2.2.2.2.2.2.1, Y.2.2.2.2.2.2.2.2.2.2.2.2.2.1, Y.2.2.2.2.2.2.2.2.2.2.2.2.2.2) T))) rfl lfRX1_38 rfl (Nat.le_of_ble_eq_true rfl) (by intro q hq; cases hq; rfl) rfl ?_
        refine mr_aload_n (pc := 29) (x := 8) rfl rfl ?_
        refine mr_getfield (pc := 30) (v := .int (2)) rfl lfRX1_38 rfl rfl ?_
        refine mr_if_le (pc := 33) 38 rfl (by decide) (fun c33 => ?_) (fun c33 => ?_)
        · have h := (if_pos c33).symm.trans h
          refine mr_iload_n (pc := 38) (x := a2) rfl rfl ?_
          by_cases c39_0 : ((a2) : Int32) = 0
          · have h := (if_pos c39_0).symm.trans h
            refine mr_tabIn (pc := 39) 72 rfl (by rw [c39_0]; decide) (by rw [c39_0]; decide) (by rw [c39_0]; rfl) (by decide) ?_
            refine mr_aload_n (pc := 72) (x := 8) rfl rfl ?_
            refine mr_getfield (pc := 73) (v := .ref 10) rfl lfRX1_13 rfl rfl ?_
            refine mr_iload_n (pc := 76) (x := a1) rfl rfl ?_
            obtain ⟨g77, h⟩ := m_gd h
            refine mr_iaload (pc := 77) (f := Y.2.1) rfl rfl (vpb_in g77) ?_
            cases h; exact mr_ireturn (pc := 78) rfl rfl (Nat.le_of_ble_eq_true rfl) (Nat.le_of_ble_eq_true rfl)
          · have h := (if_neg c39_0).symm.trans h
            by_cases c39_1 : ((a2) : Int32) = 1
            · have h := (if_pos c39_1).symm.trans h
              refine mr_tabIn (pc := 39) 79 rfl (by rw [c39_1]; decide) (by rw [c39_1]; decide) (by rw [c39_1]; rfl) (by decide) ?_
              refine mr_aload_n (pc := 79) (x := 8) rfl rfl ?_
              refine mr_getfield (pc := 80) (v := .ref 11) rfl lfRX1_17 rfl rfl ?_
              refine mr_iload_n (pc := 83) (x := a1) rfl rfl ?_
              obtain ⟨g84, h⟩ := m_gd h
              refine mr_iaload (pc := 84) (f := Y.2.2.1) rfl rfl (vpb_in g84) ?_
              cases h; exact mr_ireturn (pc := 85) rfl rfl (Nat.le_of_ble_eq_true rfl) (Nat.le_of_ble_eq_true rfl)
            · have h := (if_neg c39_1).symm.trans h
              by_cases c39_2 : ((a2) : Int32) = 2
              · have h := (if_pos c39_2).symm.trans h
                refine mr_tabIn (pc := 39) 86 rfl (by rw [c39_2]; decide) (by rw [c39_2]; decide) (by rw [c39_2]; rfl) (by decide) ?_
                refine mr_aload_n (pc := 86) (x := 8) rfl rfl ?_
                refine mr_iload_n (pc := 87) (x := a1) rfl rfl ?_
                rcases bI_inv h with ⟨v88, Y88, hc88, h⟩ | ⟨E88, Y88, hc88, hr⟩
                · refine mr_ret (mRunV (pc := 88) (q := 8) (As := [.int (a1)]) (rest := []) rfl lkRX1_76 rfl rfl rfl (Nat.le_of_ble_eq_true rfl) (Nat.le_of_ble_eq_true rfl) (F_X1_heightOf hc88)) rfl (Nat.le_of_ble_eq_true rfl) (Nat.le_of_ble_eq_true rfl) ?_
                  cases h; exact mr_ireturn (pc := 91) rfl rfl (Nat.le_of_ble_eq_true rfl) (Nat.le_of_ble_eq_true rfl)
                · cases hr; exact mr_thrown (mRunV (pc := 88) (q := 8) (As := [.int (a1)]) (rest := []) rfl lkRX1_76 rfl rfl rfl (Nat.le_of_ble_eq_true rfl) (Nat.le_of_ble_eq_true rfl) (F_X1_heightOf hc88)) rfl rfl (Nat.le_of_ble_eq_true rfl) (Nat.le_of_ble_eq_true rfl)
              · have h := (if_neg c39_2).symm.trans h
                by_cases c39_3 : ((a2) : Int32) = 3
                · have h := (if_pos c39_3).symm.trans h
                  refine mr_tabIn (pc := 39) 92 rfl (by rw [c39_3]; decide) (by rw [c39_3]; decide) (by rw [c39_3]; rfl) (by decide) ?_
                  refine mr_aload_n (pc := 92) (x := 8) rfl rfl ?_
                  refine mr_iload_n (pc := 93) (x := a1) rfl rfl ?_
                  rcases bI_inv h with ⟨v94, Y94, hc94, h⟩ | ⟨E94, Y94, hc94, hr⟩
                  · refine mr_ret (mRunV (pc := 94) (q := 8) (As := [.int (a1)]) (rest := []) rfl lkRX1_83 rfl rfl rfl (Nat.le_of_ble_eq_true rfl) (Nat.le_of_ble_eq_true rfl) (F_X1_lieIn hc94)) rfl (Nat.le_of_ble_eq_true rfl) (Nat.le_of_ble_eq_true rfl) ?_
                    cases h; exact mr_ireturn (pc := 97) rfl rfl (Nat.le_of_ble_eq_true rfl) (Nat.le_of_ble_eq_true rfl)
                  · cases hr; exact mr_thrown (mRunV (pc := 94) (q := 8) (As := [.int (a1)]) (rest := []) rfl lkRX1_83 rfl rfl rfl (Nat.le_of_ble_eq_true rfl) (Nat.le_of_ble_eq_true rfl) (F_X1_lieIn hc94)) rfl rfl (Nat.le_of_ble_eq_true rfl) (Nat.le_of_ble_eq_true rfl)
                · have h := (if_neg c39_3).symm.trans h
                  by_cases c39_4 : ((a2) : Int32) = 4
                  · have h := (if_pos c39_4).symm.trans h
                    refine mr_tabIn (pc := 39) 98 rfl (by rw [c39_4]; decide) (by rw [c39_4]; decide) (by rw [c39_4]; rfl) (by decide) ?_
                    refine mr_aload_n (pc := 98) (x := 8) rfl rfl ?_
                    refine mr_getfield (pc := 99) (v := .ref 12) rfl lfRX1_20 rfl rfl ?_
                    refine mr_iload_n (pc := 102) (x := a1) rfl rfl ?_
                    obtain ⟨g103, h⟩ := m_gd h
                    refine mr_iaload (pc := 103) (f := Y.2.2.2.1) rfl rfl (vpb_in g103) ?_
                    cases h; exact mr_ireturn (pc := 104) rfl rfl (Nat.le_of_ble_eq_true rfl) (Nat.le_of_ble_eq_true rfl)
                  · have h := (if_neg c39_4).symm.trans h
                    refine mr_tabOut (pc := 39) 105 rfl (m_tabOut _ _ _ (fun c h1 h2 => by rcases (show c = 0 ∨ c = 1 ∨ c = 2 ∨ c = 3 ∨ c = 4 by omega) with rfl | rfl | rfl | rfl | rfl <;> assumption)) (by decide) ?_
                    refine mr_iconst (pc := 105) (v := -1) rfl (by decide) ?_
                    cases h; exact mr_ireturn (pc := 106) rfl rfl (Nat.le_of_ble_eq_true rfl) (Nat.le_of_ble_eq_true rfl)
        · have h := (if_neg c33).symm.trans h
          refine mr_iconst (pc := 36) (v := 0) rfl (by decide) ?_
          cases h; exact mr_ireturn (pc := 37) rfl rfl (Nat.le_of_ble_eq_true rfl) (Nat.le_of_ble_eq_true rfl)
    · have h := (if_pos c5).symm.trans h
      refine mr_iconst (pc := 8) (v := 1) rfl (by decide) ?_
      refine mr_goto (pc := 9) 26 rfl (by decide) ?_
      refine ms_putfield (pc := 26) (h' := (xw Z (yw (Y.1, Y.2.1, Y.2.2.1, Y.2.2.2.1, Y.2.2.2.2.1, Y.2.2.2.2.2.1, Y.2.2.2.2.2.2.1, Y.2.2.2.2.2.2.2.1, 1, Y.2.2.2.2.2.2.2.2.2.1, Y.2.2.2.2.2.2.2.2.2.2.1, Y.2.2.2.2.2.2.2.2.2.2.2.1, Y.2.2.2.2.2.2.2.2.2.2.2.2.1, Y.2.2.2.2.2.2.2.2.2.2.2.2.2.1, Y.2.2.2.2.2.2.2.2.2.2.2.2.2.2) T))) rfl lfRX1_38 rfl (Nat.le_of_ble_eq_true rfl) (by intro q hq; cases hq; rfl) rfl ?_
      refine mr_aload_n (pc := 29) (x := 8) rfl rfl ?_
      refine mr_getfield (pc := 30) (v := .int (1)) rfl lfRX1_38 rfl rfl ?_
      refine mr_if_le (pc := 33) 38 rfl (by decide) (fun c33 => ?_) (fun c33 => ?_)
      · have h := (if_pos c33).symm.trans h
        refine mr_iload_n (pc := 38) (x := a2) rfl rfl ?_
        by_cases c39_0 : ((a2) : Int32) = 0
        · have h := (if_pos c39_0).symm.trans h
          refine mr_tabIn (pc := 39) 72 rfl (by rw [c39_0]; decide) (by rw [c39_0]; decide) (by rw [c39_0]; rfl) (by decide) ?_
          refine mr_aload_n (pc := 72) (x := 8) rfl rfl ?_
          refine mr_getfield (pc := 73) (v := .ref 10) rfl lfRX1_13 rfl rfl ?_
          refine mr_iload_n (pc := 76) (x := a1) rfl rfl ?_
          obtain ⟨g77, h⟩ := m_gd h
          refine mr_iaload (pc := 77) (f := Y.2.1) rfl rfl (vpb_in g77) ?_
          cases h; exact mr_ireturn (pc := 78) rfl rfl (Nat.le_of_ble_eq_true rfl) (Nat.le_of_ble_eq_true rfl)
        · have h := (if_neg c39_0).symm.trans h
          by_cases c39_1 : ((a2) : Int32) = 1
          · have h := (if_pos c39_1).symm.trans h
            refine mr_tabIn (pc := 39) 79 rfl (by rw [c39_1]; decide) (by rw [c39_1]; decide) (by rw [c39_1]; rfl) (by decide) ?_
            refine mr_aload_n (pc := 79) (x := 8) rfl rfl ?_
            refine mr_getfield (pc := 80) (v := .ref 11) rfl lfRX1_17 rfl rfl ?_
            refine mr_iload_n (pc := 83) (x := a1) rfl rfl ?_
            obtain ⟨g84, h⟩ := m_gd h
            refine mr_iaload (pc := 84) (f := Y.2.2.1) rfl rfl (vpb_in g84) ?_
            cases h; exact mr_ireturn (pc := 85) rfl rfl (Nat.le_of_ble_eq_true rfl) (Nat.le_of_ble_eq_true rfl)
          · have h := (if_neg c39_1).symm.trans h
            by_cases c39_2 : ((a2) : Int32) = 2
            · have h := (if_pos c39_2).symm.trans h
              refine mr_tabIn (pc := 39) 86 rfl (by rw [c39_2]; decide) (by rw [c39_2]; decide) (by rw [c39_2]; rfl) (by decide) ?_
              refine mr_aload_n (pc := 86) (x := 8) rfl rfl ?_
              refine mr_iload_n (pc := 87) (x := a1) rfl rfl ?_
              rcases bI_inv h with ⟨v88, Y88, hc88, h⟩ | ⟨E88, Y88, hc88, hr⟩
              · refine mr_ret (mRunV (pc := 88) (q := 8) (As := [.int (a1)]) (rest := []) rfl lkRX1_76 rfl rfl rfl (Nat.le_of_ble_eq_true rfl) (Nat.le_of_ble_eq_true rfl) (F_X1_heightOf hc88)) rfl (Nat.le_of_ble_eq_true rfl) (Nat.le_of_ble_eq_true rfl) ?_
                cases h; exact mr_ireturn (pc := 91) rfl rfl (Nat.le_of_ble_eq_true rfl) (Nat.le_of_ble_eq_true rfl)
              · cases hr; exact mr_thrown (mRunV (pc := 88) (q := 8) (As := [.int (a1)]) (rest := []) rfl lkRX1_76 rfl rfl rfl (Nat.le_of_ble_eq_true rfl) (Nat.le_of_ble_eq_true rfl) (F_X1_heightOf hc88)) rfl rfl (Nat.le_of_ble_eq_true rfl) (Nat.le_of_ble_eq_true rfl)
            · have h := (if_neg c39_2).symm.trans h
              by_cases c39_3 : ((a2) : Int32) = 3
              · have h := (if_pos c39_3).symm.trans h
                refine mr_tabIn (pc := 39) 92 rfl (by rw [c39_3]; decide) (by rw [c39_3]; decide) (by rw [c39_3]; rfl) (by decide) ?_
                refine mr_aload_n (pc := 92) (x := 8) rfl rfl ?_
                refine mr_iload_n (pc := 93) (x := a1) rfl rfl ?_
                rcases bI_inv h with ⟨v94, Y94, hc94, h⟩ | ⟨E94, Y94, hc94, hr⟩
                · refine mr_ret (mRunV (pc := 94) (q := 8) (As := [.int (a1)]) (rest := []) rfl lkRX1_83 rfl rfl rfl (Nat.le_of_ble_eq_true rfl) (Nat.le_of_ble_eq_true rfl) (F_X1_lieIn hc94)) rfl (Nat.le_of_ble_eq_true rfl) (Nat.le_of_ble_eq_true rfl) ?_
                  cases h; exact mr_ireturn (pc := 97) rfl rfl (Nat.le_of_ble_eq_true rfl) (Nat.le_of_ble_eq_true rfl)
                · cases hr; exact mr_thrown (mRunV (pc := 94) (q := 8) (As := [.int (a1)]) (rest := []) rfl lkRX1_83 rfl rfl rfl (Nat.le_of_ble_eq_true rfl) (Nat.le_of_ble_eq_true rfl) (F_X1_lieIn hc94)) rfl rfl (Nat.le_of_ble_eq_true rfl) (Nat.le_of_ble_eq_true rfl)
              · have h := (if_neg c39_3).symm.trans h
                by_cases c39_4 : ((a2) : Int32) = 4
                · have h := (if_pos c39_4).symm.trans h
                  refine mr_tabIn (pc := 39) 98 rfl (by rw [c39_4]; decide) (by rw [c39_4]; decide) (by rw [c39_4]; rfl) (by decide) ?_
                  refine mr_aload_n (pc := 98) (x := 8) rfl rfl ?_
                  refine mr_getfield (pc := 99) (v := .ref 12) rfl lfRX1_20 rfl rfl ?_
                  refine mr_iload_n (pc := 102) (x := a1) rfl rfl ?_
                  obtain ⟨g103, h⟩ := m_gd h
                  refine mr_iaload (pc := 103) (f := Y.2.2.2.1) rfl rfl (vpb_in g103) ?_
                  cases h; exact mr_ireturn (pc := 104) rfl rfl (Nat.le_of_ble_eq_true rfl) (Nat.le_of_ble_eq_true rfl)
                · have h := (if_neg c39_4).symm.trans h
                  refine mr_tabOut (pc := 39) 105 rfl (m_tabOut _ _ _ (fun c h1 h2 => by rcases (show c = 0 ∨ c = 1 ∨ c = 2 ∨ c = 3 ∨ c = 4 by omega) with rfl | rfl | rfl | rfl | rfl <;> assumption)) (by decide) ?_
                  refine mr_iconst (pc := 105) (v := -1) rfl (by decide) ?_
                  cases h; exact mr_ireturn (pc := 106) rfl rfl (Nat.le_of_ble_eq_true rfl) (Nat.le_of_ble_eq_true rfl)
      · have h := (if_neg c33).symm.trans h
        refine mr_iconst (pc := 36) (v := 0) rfl (by decide) ?_
        cases h; exact mr_ireturn (pc := 37) rfl rfl (Nat.le_of_ble_eq_true rfl) (Nat.le_of_ble_eq_true rfl)
  · cases hr; exact mr_thrown (mRunS (pc := 2) (As := [.int (a1)]) (rest := [.ref 8]) rfl lkRX1_62 rfl (Nat.le_of_ble_eq_true rfl) (Nat.le_of_ble_eq_true rfl) (F_X1_isPool hc2)) rfl rfl (Nat.le_of_ble_eq_true rfl) (Nat.le_of_ble_eq_true rfl)
def g_X1_where (Y : rS) (a1 : Int32) : Option (mO × rS) := cI (g_X1_isBoat (a1)) Y (fun v2 => if ((v2) : Int32) = 0 then (if ((1) : Int32) ≤ 0 then (if vpb (a1) 10 then (some (.inl (some (.int ((Y.2.2.2.2.1) ((a1) : Int32).toNatClampNeg))), (Y.1, Y.2.1, Y.2.2.1, Y.2.2.2.1, Y.2.2.2.2.1, Y.2.2.2.2.2.1, Y.2.2.2.2.2.2.1, Y.2.2.2.2.2.2.2.1, 1, Y.2.2.2.2.2.2.2.2.2.1, Y.2.2.2.2.2.2.2.2.2.2.1, Y.2.2.2.2.2.2.2.2.2.2.2.1, Y.2.2.2.2.2.2.2.2.2.2.2.2.1, Y.2.2.2.2.2.2.2.2.2.2.2.2.2.1, Y.2.2.2.2.2.2.2.2.2.2.2.2.2.2))) else none) else (some (.inl (some (.int (0))), (Y.1, Y.2.1, Y.2.2.1, Y.2.2.2.1, Y.2.2.2.2.1, Y.2.2.2.2.2.1, Y.2.2.2.2.2.2.1, Y.2.2.2.2.2.2.2.1, 1, Y.2.2.2.2.2.2.2.2.2.1, Y.2.2.2.2.2.2.2.2.2.2.1, Y.2.2.2.2.2.2.2.2.2.2.2.1, Y.2.2.2.2.2.2.2.2.2.2.2.2.1, Y.2.2.2.2.2.2.2.2.2.2.2.2.2.1, Y.2.2.2.2.2.2.2.2.2.2.2.2.2.2)))) else (if ((0) : Int32) ≤ 0 then (if vpb (a1) 10 then (some (.inl (some (.int ((Y.2.2.2.2.1) ((a1) : Int32).toNatClampNeg))), (Y.1, Y.2.1, Y.2.2.1, Y.2.2.2.1, Y.2.2.2.2.1, Y.2.2.2.2.2.1, Y.2.2.2.2.2.2.1, Y.2.2.2.2.2.2.2.1, 0, Y.2.2.2.2.2.2.2.2.2.1, Y.2.2.2.2.2.2.2.2.2.2.1, Y.2.2.2.2.2.2.2.2.2.2.2.1, Y.2.2.2.2.2.2.2.2.2.2.2.2.1, Y.2.2.2.2.2.2.2.2.2.2.2.2.2.1, Y.2.2.2.2.2.2.2.2.2.2.2.2.2.2))) else none) else (some (.inl (some (.int (0))), (Y.1, Y.2.1, Y.2.2.1, Y.2.2.2.1, Y.2.2.2.2.1, Y.2.2.2.2.2.1, Y.2.2.2.2.2.2.1, Y.2.2.2.2.2.2.2.1, 0, Y.2.2.2.2.2.2.2.2.2.1, Y.2.2.2.2.2.2.2.2.2.2.1, Y.2.2.2.2.2.2.2.2.2.2.2.1, Y.2.2.2.2.2.2.2.2.2.2.2.2.1, Y.2.2.2.2.2.2.2.2.2.2.2.2.2.1, Y.2.2.2.2.2.2.2.2.2.2.2.2.2.2)))))
set_option maxRecDepth 100000 in
set_option maxHeartbeats 4000000 in
theorem F_X1_where {S : Nat × (Nat → Int32)} {Z : cS} {T : mH} {Y R9 : rS} {o9 : mO} {a1 : Int32} (h : g_X1_where Y a1 = some (o9, R9)) : mF S MX1_where 0 (mEnt [.ref 8, .int a1] 2) [] (xw Z (yw Y T)) 0 0 (o9, (xw Z (yw R9 T)), 0, 0) := by
  unfold g_X1_where at h
  refine mr_aload_n (pc := 0) (x := 8) rfl rfl ?_
  refine mr_iload_n (pc := 1) (x := a1) rfl rfl ?_
  rcases cI_inv h with ⟨v2, hc2, h⟩ | ⟨E2, hc2, hr⟩
  · refine mr_ret (mRunS (pc := 2) (As := [.int (a1)]) (rest := [.ref 8]) rfl lkRX1_80 rfl (Nat.le_of_ble_eq_true rfl) (Nat.le_of_ble_eq_true rfl) (F_X1_isBoat hc2)) rfl (Nat.le_of_ble_eq_true rfl) (Nat.le_of_ble_eq_true rfl) ?_
    refine mr_if_eq (pc := 5) 12 rfl (by decide) (fun c5 => ?_) (fun c5 => ?_)
    · have h := (if_pos c5).symm.trans h
      refine mr_iconst (pc := 12) (v := 1) rfl (by decide) ?_
      refine ms_putfield (pc := 13) (h' := (xw Z (yw (Y.1, Y.2.1, Y.2.2.1, Y.2.2.2.1, Y.2.2.2.2.1, Y.2.2.2.2.2.1, Y.2.2.2.2.2.2.1, Y.2.2.2.2.2.2.2.1, 1, Y.2.2.2.2.2.2.2.2.2.1, Y.2.2.2.2.2.2.2.2.2.2.1, Y.2.2.2.2.2.2.2.2.2.2.2.1, Y.2.2.2.2.2.2.2.2.2.2.2.2.1, Y.2.2.2.2.2.2.2.2.2.2.2.2.2.1, Y.2.2.2.2.2.2.2.2.2.2.2.2.2.2) T))) rfl lfRX1_38 rfl (Nat.le_of_ble_eq_true rfl) (by intro q hq; cases hq; rfl) rfl ?_
      refine mr_aload_n (pc := 16) (x := 8) rfl rfl ?_
      refine mr_getfield (pc := 17) (v := .int (1)) rfl lfRX1_38 rfl rfl ?_
      refine mr_if_le (pc := 20) 27 rfl (by decide) (fun c20 => ?_) (fun c20 => ?_)
      · have h := (if_pos c20).symm.trans h
        refine mr_aload_n (pc := 27) (x := 8) rfl rfl ?_
        refine mr_getfield (pc := 28) (v := .ref 13) rfl lfRX1_23 rfl rfl ?_
        refine mr_iload_n (pc := 31) (x := a1) rfl rfl ?_
        obtain ⟨g32, h⟩ := m_gd h
        refine mr_iaload (pc := 32) (f := Y.2.2.2.2.1) rfl rfl (vpb_in g32) ?_
        cases h; exact mr_ireturn (pc := 33) rfl rfl (Nat.le_of_ble_eq_true rfl) (Nat.le_of_ble_eq_true rfl)
      · have h := (if_neg c20).symm.trans h
        refine mr_iconst (pc := 23) (v := 0) rfl (by decide) ?_
        refine mr_goto (pc := 24) 33 rfl (by decide) ?_
        cases h; exact mr_ireturn (pc := 33) rfl rfl (Nat.le_of_ble_eq_true rfl) (Nat.le_of_ble_eq_true rfl)
    · have h := (if_neg c5).symm.trans h
      refine mr_iconst (pc := 8) (v := 0) rfl (by decide) ?_
      refine mr_goto (pc := 9) 13 rfl (by decide) ?_
      refine ms_putfield (pc := 13) (h' := (xw Z (yw (Y.1, Y.2.1, Y.2.2.1, Y.2.2.2.1, Y.2.2.2.2.1, Y.2.2.2.2.2.1, Y.2.2.2.2.2.2.1, Y.2.2.2.2.2.2.2.1, 0, Y.2.2.2.2.2.2.2.2.2.1, Y.2.2.2.2.2.2.2.2.2.2.1, Y.2.2.2.2.2.2.2.2.2.2.2.1, Y.2.2.2.2.2.2.2.2.2.2.2.2.1, Y.2.2.2.2.2.2.2.2.2.2.2.2.2.1, Y.2.2.2.2.2.2.2.2.2.2.2.2.2.2) T))) rfl lfRX1_38 rfl (Nat.le_of_ble_eq_true rfl) (by intro q hq; cases hq; rfl) rfl ?_
      refine mr_aload_n (pc := 16) (x := 8) rfl rfl ?_
      refine mr_getfield (pc := 17) (v := .int (0)) rfl lfRX1_38 rfl rfl ?_
      refine mr_if_le (pc := 20) 27 rfl (by decide) (fun c20 => ?_) (fun c20 => ?_)
      · have h := (if_pos c20).symm.trans h
        refine mr_aload_n (pc := 27) (x := 8) rfl rfl ?_
        refine mr_getfield (pc := 28) (v := .ref 13) rfl lfRX1_23 rfl rfl ?_
        refine mr_iload_n (pc := 31) (x := a1) rfl rfl ?_
        obtain ⟨g32, h⟩ := m_gd h
        refine mr_iaload (pc := 32) (f := Y.2.2.2.2.1) rfl rfl (vpb_in g32) ?_
        cases h; exact mr_ireturn (pc := 33) rfl rfl (Nat.le_of_ble_eq_true rfl) (Nat.le_of_ble_eq_true rfl)
      · have h := (if_neg c20).symm.trans h
        refine mr_iconst (pc := 23) (v := 0) rfl (by decide) ?_
        refine mr_goto (pc := 24) 33 rfl (by decide) ?_
        cases h; exact mr_ireturn (pc := 33) rfl rfl (Nat.le_of_ble_eq_true rfl) (Nat.le_of_ble_eq_true rfl)
  · cases hr; exact mr_thrown (mRunS (pc := 2) (As := [.int (a1)]) (rest := [.ref 8]) rfl lkRX1_80 rfl (Nat.le_of_ble_eq_true rfl) (Nat.le_of_ble_eq_true rfl) (F_X1_isBoat hc2)) rfl rfl (Nat.le_of_ble_eq_true rfl) (Nat.le_of_ble_eq_true rfl)
def g_X1_dug_4 : Nat → rS → Int32 → Int32 → Option (mO × rS)
  | 0, _, _, _ => none
  | f9 + 1, Y, b1, b2 => if ((8) : Int32) ≤ ((b2) : Int32) then (some (.inl (some (.int (b1))), Y)) else (if vpb (b2) 8 then (if (((Y.1) ((b2) : Int32).toNatClampNeg) : Int32) = 0 then (g_X1_dug_4 f9 Y ((b1) + (0)) (b2 + 1)) else (g_X1_dug_4 f9 Y ((b1) + (1)) (b2 + 1))) else none)
set_option maxRecDepth 100000 in
set_option maxHeartbeats 4000000 in
theorem FL_X1_dug_4 {S : Nat × (Nat → Int32)} {Z : cS} {T : mH} : ∀ (f9 : Nat) (Y : rS) (b1 b2 : Int32) (o9 : mO) (R9 : rS), g_X1_dug_4 f9 Y b1 b2 = some (o9, R9) → mF S MX1_dug 4 [some (.ref 8), some (.int (b1)), some (.int (b2))] [] (xw Z (yw Y T)) 0 0 (o9, (xw Z (yw R9 T)), 0, 0) := by
  intro f9
  induction f9 with
  | zero => intro Y b1 b2 o9 R9 h; cases h
  | succ f9 ih9 =>
    intro Y b1 b2 o9 R9 h
    rw [g_X1_dug_4] at h
    refine mr_iload_n (pc := 4) (x := b2) rfl rfl ?_
    refine mr_bipush (pc := 5) (v := 8) rfl (by decide) ?_
    refine mr_icmp_ge (pc := 7) 33 rfl (by decide) (fun c7 => ?_) (fun c7 => ?_)
    · have h := (if_pos c7).symm.trans h
      refine mr_iload_n (pc := 33) (x := b1) rfl rfl ?_
      cases h; exact mr_ireturn (pc := 34) rfl rfl (Nat.le_of_ble_eq_true rfl) (Nat.le_of_ble_eq_true rfl)
    · have h := (if_neg c7).symm.trans h
      refine mr_iload_n (pc := 10) (x := b1) rfl rfl ?_
      refine mr_aload_n (pc := 11) (x := 8) rfl rfl ?_
      refine mr_getfield (pc := 12) (v := .ref 9) rfl lfRX1_7 rfl rfl ?_
      refine mr_iload_n (pc := 15) (x := b2) rfl rfl ?_
      obtain ⟨g16, h⟩ := m_gd h
      refine mr_baload (pc := 16) (f := Y.1) rfl rfl (vpb_in g16) ?_
      refine mr_if_eq (pc := 17) 24 rfl (by decide) (fun c17 => ?_) (fun c17 => ?_)
      · have h := (if_pos c17).symm.trans h
        refine mr_iconst (pc := 24) (v := 0) rfl (by decide) ?_
        refine mr_iadd (pc := 25) rfl ?_
        refine ms_istore_n (pc := 26) (L' := [some (.ref 8), some (.int ((b1) + (0))), some (.int (b2))]) rfl (by decide) rfl rfl ?_
        refine ms_iinc (pc := 27) (x := b2) (v := 1) (L' := [some (.ref 8), some (.int ((b1) + (0))), some (.int (b2 + 1))]) rfl rfl (by decide) (by decide) rfl rfl ?_
        refine mr_goto (pc := 30) 4 rfl (by decide) ?_
        exact ih9 _ _ _ _ _ h
      · have h := (if_neg c17).symm.trans h
        refine mr_iconst (pc := 20) (v := 1) rfl (by decide) ?_
        refine mr_goto (pc := 21) 25 rfl (by decide) ?_
        refine mr_iadd (pc := 25) rfl ?_
        refine ms_istore_n (pc := 26) (L' := [some (.ref 8), some (.int ((b1) + (1))), some (.int (b2))]) rfl (by decide) rfl rfl ?_
        refine ms_iinc (pc := 27) (x := b2) (v := 1) (L' := [some (.ref 8), some (.int ((b1) + (1))), some (.int (b2 + 1))]) rfl rfl (by decide) (by decide) rfl rfl ?_
        refine mr_goto (pc := 30) 4 rfl (by decide) ?_
        exact ih9 _ _ _ _ _ h
def g_X1_dug (Y : rS) : Option (mO × rS) := g_X1_dug_4 mK Y (0) (0)
set_option maxRecDepth 100000 in
set_option maxHeartbeats 4000000 in
theorem F_X1_dug {S : Nat × (Nat → Int32)} {Z : cS} {T : mH} {Y R9 : rS} {o9 : mO} (h : g_X1_dug Y  = some (o9, R9)) : mF S MX1_dug 0 (mEnt [.ref 8] 3) [] (xw Z (yw Y T)) 0 0 (o9, (xw Z (yw R9 T)), 0, 0) := by
  unfold g_X1_dug at h
  refine mr_iconst (pc := 0) (v := 0) rfl (by decide) ?_
  refine ms_istore_n (pc := 1) (L' := [some (.ref 8), some (.int (0)), none]) rfl (by decide) rfl rfl ?_
  refine mr_iconst (pc := 2) (v := 0) rfl (by decide) ?_
  refine ms_istore_n (pc := 3) (L' := [some (.ref 8), some (.int (0)), some (.int (0))]) rfl (by decide) rfl rfl ?_
  exact FL_X1_dug_4 mK _ _ _ _ _ h
