/-! THE METHODS OF X1 AS FUNCTIONS, by program (wip/whole/gencode.py) -/
def g_X1_convoy_39 : Nat → rS → Int32 → Int32 → Int32 → Int32 → Int32 → Option (mO × rS)
  | 0, _, _, _, _, _, _ => none
  | f9 + 1, Y, b1, b2, b3, b4, b5 => if ((10) : Int32) ≤ ((b5) : Int32) then (some (.inl (some (.int (b3))), Y)) else (if ((b4) : Int32) = 0 then (if vpb (b5) 10 then (if (((Y.2.2.2.2.1) ((b5) : Int32).toNatClampNeg) : Int32) = (((-1)) : Int32) then (if ((((b1) >>> ((b5) &&& 31)) &&& (1)) : Int32) = ((1) : Int32) then (cI (g_X1_isPool ((-1))) Y (fun v105 => if ((v105) : Int32) = 0 then (g_X1_convoy_39 f9 Y (b1) (b2) (b3) (b4) (b5 + 1)) else (bI (g_X1_passes Y (b5) (b2)) (fun v115 Y115 => if ((v115) : Int32) = 0 then (if ((Y115.2.2.2.2.2.2.2.2.2.2.2.2.1) : Int32) = ((4) : Int32) then (bI (g_X1_passes Y115 (b5) (b2)) (fun v137 Y137 => if ((v137) : Int32) = 0 then (if ((v137) : Int32) = 0 then (if ((Y137.2.2.2.2.2.2.2.2.2.2.2.2.1) : Int32) = ((2) : Int32) then (g_X1_convoy_39 f9 Y137 (b1) (b2) ((b3) + (0)) (1) (b5 + 1)) else (g_X1_convoy_39 f9 Y137 (b1) (b2) ((b3) + (0)) (0) (b5 + 1))) else (g_X1_convoy_39 f9 Y137 (b1) (b2) ((b3) + (0)) (0) (b5 + 1))) else (if ((v137) : Int32) = 0 then (if ((Y137.2.2.2.2.2.2.2.2.2.2.2.2.1) : Int32) = ((2) : Int32) then (g_X1_convoy_39 f9 Y137 (b1) (b2) ((b3) + (1)) (1) (b5 + 1)) else (g_X1_convoy_39 f9 Y137 (b1) (b2) ((b3) + (1)) (0) (b5 + 1))) else (g_X1_convoy_39 f9 Y137 (b1) (b2) ((b3) + (1)) (0) (b5 + 1))))) else (if ((v115) : Int32) = 0 then (if ((v115) : Int32) = 0 then (if ((Y115.2.2.2.2.2.2.2.2.2.2.2.2.1) : Int32) = ((2) : Int32) then (g_X1_convoy_39 f9 Y115 (b1) (b2) ((b3) + (0)) (1) (b5 + 1)) else (g_X1_convoy_39 f9 Y115 (b1) (b2) ((b3) + (0)) (0) (b5 + 1))) else (g_X1_convoy_39 f9 Y115 (b1) (b2) ((b3) + (0)) (0) (b5 + 1))) else (if ((v115) : Int32) = 0 then (if ((Y115.2.2.2.2.2.2.2.2.2.2.2.2.1) : Int32) = ((2) : Int32) then (g_X1_convoy_39 f9 Y115 (b1) (b2) ((b3) + (1)) (1) (b5 + 1)) else (g_X1_convoy_39 f9 Y115 (b1) (b2) ((b3) + (1)) (0) (b5 + 1))) else (g_X1_convoy_39 f9 Y115 (b1) (b2) ((b3) + (1)) (0) (b5 + 1))))) else (if ((v115) : Int32) = 0 then (if ((v115) : Int32) = 0 then (if ((Y115.2.2.2.2.2.2.2.2.2.2.2.2.1) : Int32) = ((2) : Int32) then (g_X1_convoy_39 f9 Y115 (b1) (b2) ((b3) + (0)) (1) (b5 + 1)) else (g_X1_convoy_39 f9 Y115 (b1) (b2) ((b3) + (0)) (0) (b5 + 1))) else (g_X1_convoy_39 f9 Y115 (b1) (b2) ((b3) + (0)) (0) (b5 + 1))) else (if ((v115) : Int32) = 0 then (if ((Y115.2.2.2.2.2.2.2.2.2.2.2.2.1) : Int32) = ((2) : Int32) then (g_X1_convoy_39 f9 Y115 (b1) (b2) ((b3) + (1)) (1) (b5 + 1)) else (g_X1_convoy_39 f9 Y115 (b1) (b2) ((b3) + (1)) (0) (b5 + 1))) else (g_X1_convoy_39 f9 Y115 (b1) (b2) ((b3) + (1)) (0) (b5 + 1)))))))) else (g_X1_convoy_39 f9 Y (b1) (b2) (b3) (b4) (b5 + 1))) else (if ((b2) : Int32) = 0 then (if vpb (b5) 10 then (if ((((b1) >>> ((b5) &&& 31)) &&& (1)) : Int32) = ((1) : Int32) then (cI (g_X1_isPool (((Y.2.2.2.2.1) ((b5) : Int32).toNatClampNeg) - (1))) Y (fun v105 => if ((v105) : Int32) = 0 then (g_X1_convoy_39 f9 Y (b1) (b2) (b3) (b4) (b5 + 1)) else (bI (g_X1_passes Y (b5) (b2)) (fun v115 Y115 => if ((v115) : Int32) = 0 then (if ((Y115.2.2.2.2.2.2.2.2.2.2.2.2.1) : Int32) = ((4) : Int32) then (bI (g_X1_passes Y115 (b5) (b2)) (fun v137 Y137 => if ((v137) : Int32) = 0 then (if ((v137) : Int32) = 0 then (if ((Y137.2.2.2.2.2.2.2.2.2.2.2.2.1) : Int32) = ((2) : Int32) then (g_X1_convoy_39 f9 Y137 (b1) (b2) ((b3) + (0)) (1) (b5 + 1)) else (g_X1_convoy_39 f9 Y137 (b1) (b2) ((b3) + (0)) (0) (b5 + 1))) else (g_X1_convoy_39 f9 Y137 (b1) (b2) ((b3) + (0)) (0) (b5 + 1))) else (if ((v137) : Int32) = 0 then (if ((Y137.2.2.2.2.2.2.2.2.2.2.2.2.1) : Int32) = ((2) : Int32) then (g_X1_convoy_39 f9 Y137 (b1) (b2) ((b3) + (1)) (1) (b5 + 1)) else (g_X1_convoy_39 f9 Y137 (b1) (b2) ((b3) + (1)) (0) (b5 + 1))) else (g_X1_convoy_39 f9 Y137 (b1) (b2) ((b3) + (1)) (0) (b5 + 1))))) else (if ((v115) : Int32) = 0 then (if ((v115) : Int32) = 0 then (if ((Y115.2.2.2.2.2.2.2.2.2.2.2.2.1) : Int32) = ((2) : Int32) then (g_X1_convoy_39 f9 Y115 (b1) (b2) ((b3) + (0)) (1) (b5 + 1)) else (g_X1_convoy_39 f9 Y115 (b1) (b2) ((b3) + (0)) (0) (b5 + 1))) else (g_X1_convoy_39 f9 Y115 (b1) (b2) ((b3) + (0)) (0) (b5 + 1))) else (if ((v115) : Int32) = 0 then (if ((Y115.2.2.2.2.2.2.2.2.2.2.2.2.1) : Int32) = ((2) : Int32) then (g_X1_convoy_39 f9 Y115 (b1) (b2) ((b3) + (1)) (1) (b5 + 1)) else (g_X1_convoy_39 f9 Y115 (b1) (b2) ((b3) + (1)) (0) (b5 + 1))) else (g_X1_convoy_39 f9 Y115 (b1) (b2) ((b3) + (1)) (0) (b5 + 1))))) else (if ((v115) : Int32) = 0 then (if ((v115) : Int32) = 0 then (if ((Y115.2.2.2.2.2.2.2.2.2.2.2.2.1) : Int32) = ((2) : Int32) then (g_X1_convoy_39 f9 Y115 (b1) (b2) ((b3) + (0)) (1) (b5 + 1)) else (g_X1_convoy_39 f9 Y115 (b1) (b2) ((b3) + (0)) (0) (b5 + 1))) else (g_X1_convoy_39 f9 Y115 (b1) (b2) ((b3) + (0)) (0) (b5 + 1))) else (if ((v115) : Int32) = 0 then (if ((Y115.2.2.2.2.2.2.2.2.2.2.2.2.1) : Int32) = ((2) : Int32) then (g_X1_convoy_39 f9 Y115 (b1) (b2) ((b3) + (1)) (1) (b5 + 1)) else (g_X1_convoy_39 f9 Y115 (b1) (b2) ((b3) + (1)) (0) (b5 + 1))) else (g_X1_convoy_39 f9 Y115 (b1) (b2) ((b3) + (1)) (0) (b5 + 1)))))))) else (g_X1_convoy_39 f9 Y (b1) (b2) (b3) (b4) (b5 + 1))) else none) else (if vpb (b5) 10 then (if ((((b1) >>> ((b5) &&& 31)) &&& (1)) : Int32) = ((1) : Int32) then (cI (g_X1_isPool (((Y.2.2.2.2.1) ((b5) : Int32).toNatClampNeg) + (1))) Y (fun v105 => if ((v105) : Int32) = 0 then (g_X1_convoy_39 f9 Y (b1) (b2) (b3) (b4) (b5 + 1)) else (bI (g_X1_passes Y (b5) (b2)) (fun v115 Y115 => if ((v115) : Int32) = 0 then (if ((Y115.2.2.2.2.2.2.2.2.2.2.2.2.1) : Int32) = ((4) : Int32) then (bI (g_X1_passes Y115 (b5) (b2)) (fun v137 Y137 => if ((v137) : Int32) = 0 then (if ((v137) : Int32) = 0 then (if ((Y137.2.2.2.2.2.2.2.2.2.2.2.2.1) : Int32) = ((2) : Int32) then (g_X1_convoy_39 f9 Y137 (b1) (b2) ((b3) + (0)) (1) (b5 + 1)) else (g_X1_convoy_39 f9 Y137 (b1) (b2) ((b3) + (0)) (0) (b5 + 1))) else (g_X1_convoy_39 f9 Y137 (b1) (b2) ((b3) + (0)) (0) (b5 + 1))) else (if ((v137) : Int32) = 0 then (if ((Y137.2.2.2.2.2.2.2.2.2.2.2.2.1) : Int32) = ((2) : Int32) then (g_X1_convoy_39 f9 Y137 (b1) (b2) ((b3) + (1)) (1) (b5 + 1)) else (g_X1_convoy_39 f9 Y137 (b1) (b2) ((b3) + (1)) (0) (b5 + 1))) else (g_X1_convoy_39 f9 Y137 (b1) (b2) ((b3) + (1)) (0) (b5 + 1))))) else (if ((v115) : Int32) = 0 then (if ((v115) : Int32) = 0 then (if ((Y115.2.2.2.2.2.2.2.2.2.2.2.2.1) : Int32) = ((2) : Int32) then (g_X1_convoy_39 f9 Y115 (b1) (b2) ((b3) + (0)) (1) (b5 + 1)) else (g_X1_convoy_39 f9 Y115 (b1) (b2) ((b3) + (0)) (0) (b5 + 1))) else (g_X1_convoy_39 f9 Y115 (b1) (b2) ((b3) + (0)) (0) (b5 + 1))) else (if ((v115) : Int32) = 0 then (if ((Y115.2.2.2.2.2.2.2.2.2.2.2.2.1) : Int32) = ((2) : Int32) then (g_X1_convoy_39 f9 Y115 (b1) (b2) ((b3) + (1)) (1) (b5 + 1)) else (g_X1_convoy_39 f9 Y115 (b1) (b2) ((b3) + (1)) (0) (b5 + 1))) else (g_X1_convoy_39 f9 Y115 (b1) (b2) ((b3) + (1)) (0) (b5 + 1))))) else (if ((v115) : Int32) = 0 then (if ((v115) : Int32) = 0 then (if ((Y115.2.2.2.2.2.2.2.2.2.2.2.2.1) : Int32) = ((2) : Int32) then (g_X1_convoy_39 f9 Y115 (b1) (b2) ((b3) + (0)) (1) (b5 + 1)) else (g_X1_convoy_39 f9 Y115 (b1) (b2) ((b3) + (0)) (0) (b5 + 1))) else (g_X1_convoy_39 f9 Y115 (b1) (b2) ((b3) + (0)) (0) (b5 + 1))) else (if ((v115) : Int32) = 0 then (if ((Y115.2.2.2.2.2.2.2.2.2.2.2.2.1) : Int32) = ((2) : Int32) then (g_X1_convoy_39 f9 Y115 (b1) (b2) ((b3) + (1)) (1) (b5 + 1)) else (g_X1_convoy_39 f9 Y115 (b1) (b2) ((b3) + (1)) (0) (b5 + 1))) else (g_X1_convoy_39 f9 Y115 (b1) (b2) ((b3) + (1)) (0) (b5 + 1)))))))) else (g_X1_convoy_39 f9 Y (b1) (b2) (b3) (b4) (b5 + 1))) else none))) else none) else (some (.inl (some (.int (b3))), Y)))
set_option maxRecDepth 100000 in
set_option maxHeartbeats 4000000 in
theorem FL_X1_convoy_39 {S : Nat × (Nat → Int32)} {Z : cS} {T : mH} : ∀ (f9 : Nat) (Y : rS) (b1 b2 b3 b4 b5 : Int32) (o9 : mO) (R9 : rS), g_X1_convoy_39 f9 Y b1 b2 b3 b4 b5 = some (o9, R9) → mF S MX1_convoy 39 [some (.ref 8), some (.int (b1)), some (.int (b2)), some (.int (b3)), some (.int (b4)), some (.int (b5)), none, none] [] (xw Z (yw Y T)) 0 0 (o9, (xw Z (yw R9 T)), 0, 0) := by
  intro f9
  induction f9 with
  | zero => intro Y b1 b2 b3 b4 b5 o9 R9 h; cases h
  | succ f9 ih9 =>
    intro Y b1 b2 b3 b4 b5 o9 R9 h
    rw [g_X1_convoy_39] at h
    refine mr_iload (pc := 39) (x := b5) rfl rfl ?_
    refine mr_bipush (pc := 41) (v := 10) rfl (by decide) ?_
    refine mr_icmp_ge (pc := 43) 181 rfl (by decide) (fun c43 => ?_) (fun c43 => ?_)
    · have h := (if_pos c43).symm.trans h
      refine mr_iload_n (pc := 181) (x := b3) rfl rfl ?_
      cases h; exact mr_ireturn (pc := 182) rfl rfl (Nat.le_of_ble_eq_true rfl) (Nat.le_of_ble_eq_true rfl)
    · have h := (if_neg c43).symm.trans h
      refine mr_iload (pc := 46) (x := b4) rfl rfl ?_
      refine mr_if_ne (pc := 48) 181 rfl (by decide) (fun c48 => ?_) (fun c48 => ?_)
      · have h := (if_neg c48).symm.trans h
        refine mr_iload_n (pc := 181) (x := b3) rfl rfl ?_
        cases h; exact mr_ireturn (pc := 182) rfl rfl (Nat.le_of_ble_eq_true rfl) (Nat.le_of_ble_eq_true rfl)
      · have h := (if_pos c48).symm.trans h
        refine mr_aload_n (pc := 51) (x := 8) rfl rfl ?_
        refine mr_getfield (pc := 52) (v := .ref 13) rfl lfRX1_23 rfl rfl ?_
        refine mr_iload (pc := 55) (x := b5) rfl rfl ?_
        obtain ⟨g57, h⟩ := m_gd h
        refine mr_iaload (pc := 57) (f := Y.2.2.2.2.1) rfl rfl (vpb_in g57) ?_
        refine mr_iconst (pc := 58) (v := -1) rfl (by decide) ?_
        refine mr_icmp_ne (pc := 59) 66 rfl (by decide) (fun c59 => ?_) (fun c59 => ?_)
        · have h := (if_neg c59).symm.trans h
          refine mr_iload_n (pc := 66) (x := b2) rfl rfl ?_
          refine mr_if_eq (pc := 67) 82 rfl (by decide) (fun c67 => ?_) (fun c67 => ?_)
          · have h := (if_pos c67).symm.trans h
            refine mr_aload_n (pc := 82) (x := 8) rfl rfl ?_
            refine mr_getfield (pc := 83) (v := .ref 13) rfl lfRX1_23 rfl rfl ?_
            refine mr_iload (pc := 86) (x := b5) rfl rfl ?_
            obtain ⟨g88, h⟩ := m_gd h
            refine mr_iaload (pc := 88) (f := Y.2.2.2.2.1) rfl rfl (vpb_in g88) ?_
            refine mr_iconst (pc := 89) (v := 1) rfl (by decide) ?_
            refine mr_isub (pc := 90) rfl ?_
            refine ms_istore (pc := 91) (L' := [some (.ref 8), some (.int (b1)), some (.int (b2)), some (.int (b3)), some (.int (b4)), some (.int (b5)), some (.int (((Y.2.2.2.2.1) ((b5) : Int32).toNatClampNeg) - (1))), none]) rfl (by decide) rfl rfl ?_
            refine mr_iload_n (pc := 93) (x := b1) rfl rfl ?_
            refine mr_iload (pc := 94) (x := b5) rfl rfl ?_
            refine mr_ishr (pc := 96) rfl ?_
            refine mr_iconst (pc := 97) (v := 1) rfl (by decide) ?_
            refine mr_iand (pc := 98) rfl ?_
            refine mr_iconst (pc := 99) (v := 1) rfl (by decide) ?_
            refine mr_icmp_ne (pc := 100) 175 rfl (by decide) (fun c100 => ?_) (fun c100 => ?_)
            · have h := (if_neg c100).symm.trans h
              refine ms_iinc (pc := 175) (x := b5) (v := 1) (L' := [some (.ref 8), some (.int (b1)), some (.int (b2)), some (.int (b3)), some (.int (b4)), some (.int (b5 + 1)), some (.int (((Y.2.2.2.2.1) ((b5) : Int32).toNatClampNeg) - (1))), none]) rfl rfl (by decide) (by decide) rfl rfl ?_
              refine mr_goto (pc := 178) 39 rfl (by decide) ?_
              refine ms_drop (i := 6) (L' := [some (.ref 8), some (.int (b1)), some (.int (b2)), some (.int (b3)), some (.int (b4)), some (.int (b5 + 1)), none, none]) rfl ?_
              exact ih9 _ _ _ _ _ _ _ _ h
            · have h := (if_pos c100).symm.trans h
              refine mr_iload (pc := 103) (x := ((Y.2.2.2.2.1) ((b5) : Int32).toNatClampNeg) - (1)) rfl rfl ?_
              rcases cI_inv h with ⟨v105, hc105, h⟩ | ⟨E105, hc105, hr⟩
              · refine mr_ret (mRunS (pc := 105) (As := [.int (((Y.2.2.2.2.1) ((b5) : Int32).toNatClampNeg) - (1))]) (rest := []) rfl lkRX1_62 rfl (Nat.le_of_ble_eq_true rfl) (Nat.le_of_ble_eq_true rfl) (F_X1_isPool hc105)) rfl (Nat.le_of_ble_eq_true rfl) (Nat.le_of_ble_eq_true rfl) ?_
                refine mr_if_eq (pc := 108) 175 rfl (by decide) (fun c108 => ?_) (fun c108 => ?_)
                · have h := (if_pos c108).symm.trans h
                  refine ms_iinc (pc := 175) (x := b5) (v := 1) (L' := [some (.ref 8), some (.int (b1)), some (.int (b2)), some (.int (b3)), some (.int (b4)), some (.int (b5 + 1)), some (.int (((Y.2.2.2.2.1) ((b5) : Int32).toNatClampNeg) - (1))), none]) rfl rfl (by decide) (by decide) rfl rfl ?_
                  refine mr_goto (pc := 178) 39 rfl (by decide) ?_
                  refine ms_drop (i := 6) (L' := [some (.ref 8), some (.int (b1)), some (.int (b2)), some (.int (b3)), some (.int (b4)), some (.int (b5 + 1)), none, none]) rfl ?_
                  exact ih9 _ _ _ _ _ _ _ _ h
                · have h := (if_neg c108).symm.trans h
                  refine mr_aload_n (pc := 111) (x := 8) rfl rfl ?_
                  refine mr_iload (pc := 112) (x := b5) rfl rfl ?_
                  refine mr_iload_n (pc := 114) (x := b2) rfl rfl ?_
                  rcases bI_inv h with ⟨v115, Y115, hc115, h⟩ | ⟨E115, Y115, hc115, hr⟩
                  · refine mr_ret (mRunV (pc := 115) (q := 8) (As := [.int (b5), .int (b2)]) (rest := []) rfl lkRX1_92 rfl rfl rfl (Nat.le_of_ble_eq_true rfl) (Nat.le_of_ble_eq_true rfl) (F_X1_passes hc115)) rfl (Nat.le_of_ble_eq_true rfl) (Nat.le_of_ble_eq_true rfl) ?_
                    refine ms_istore (pc := 118) (L' := [some (.ref 8), some (.int (b1)), some (.int (b2)), some (.int (b3)), some (.int (b4)), some (.int (b5)), some (.int (((Y.2.2.2.2.1) ((b5) : Int32).toNatClampNeg) - (1))), some (.int (v115))]) rfl (by decide) rfl rfl ?_
                    refine mr_iload (pc := 120) (x := v115) rfl rfl ?_
                    refine mr_if_ne (pc := 122) 142 rfl (by decide) (fun c122 => ?_) (fun c122 => ?_)
                    · have h := (if_neg c122).symm.trans h
                      refine mr_iload_n (pc := 142) (x := b3) rfl rfl ?_
                      refine mr_iload (pc := 143) (x := v115) rfl rfl ?_
                      refine mr_if_eq (pc := 145) 152 rfl (by decide) (fun c145 => ?_) (fun c145 => ?_)
                      · have h := (if_pos c145).symm.trans h
                        refine mr_iconst (pc := 152) (v := 0) rfl (by decide) ?_
                        refine mr_iadd (pc := 153) rfl ?_
                        refine ms_istore_n (pc := 154) (L' := [some (.ref 8), some (.int (b1)), some (.int (b2)), some (.int ((b3) + (0))), some (.int (b4)), some (.int (b5)), some (.int (((Y.2.2.2.2.1) ((b5) : Int32).toNatClampNeg) - (1))), some (.int (v115))]) rfl (by decide) rfl rfl ?_
                        refine mr_iload (pc := 155) (x := v115) rfl rfl ?_
                        refine mr_if_ne (pc := 157) 172 rfl (by decide) (fun c157 => ?_) (fun c157 => ?_)
                        · have h := (if_neg c157).symm.trans h
                          refine mr_iconst (pc := 172) (v := 0) rfl (by decide) ?_
                          refine ms_istore (pc := 173) (L' := [some (.ref 8), some (.int (b1)), some (.int (b2)), some (.int ((b3) + (0))), some (.int (0)), some (.int (b5)), some (.int (((Y.2.2.2.2.1) ((b5) : Int32).toNatClampNeg) - (1))), some (.int (v115))]) rfl (by decide) rfl rfl ?_
                          refine ms_iinc (pc := 175) (x := b5) (v := 1) (L' := [some (.ref 8), some (.int (b1)), some (.int (b2)), some (.int ((b3) + (0))), some (.int (0)), some (.int (b5 + 1)), some (.int (((Y.2.2.2.2.1) ((b5) : Int32).toNatClampNeg) - (1))), some (.int (v115))]) rfl rfl (by decide) (by decide) rfl rfl ?_
                          refine mr_goto (pc := 178) 39 rfl (by decide) ?_
                          refine ms_drop (i := 6) (L' := [some (.ref 8), some (.int (b1)), some (.int (b2)), some (.int ((b3) + (0))), some (.int (0)), some (.int (b5 + 1)), none, some (.int (v115))]) rfl ?_
                          refine ms_drop (i := 7) (L' := [some (.ref 8), some (.int (b1)), some (.int (b2)), some (.int ((b3) + (0))), some (.int (0)), some (.int (b5 + 1)), none, none]) rfl ?_
                          exact ih9 _ _ _ _ _ _ _ _ h
                        · have h := (if_pos c157).symm.trans h
                          refine mr_aload_n (pc := 160) (x := 8) rfl rfl ?_
                          refine mr_getfield (pc := 161) (v := .int (Y115.2.2.2.2.2.2.2.2.2.2.2.2.1)) rfl lfRX1_51 rfl rfl ?_
                          refine mr_iconst (pc := 164) (v := 2) rfl (by decide) ?_
                          refine mr_icmp_ne (pc := 165) 172 rfl (by decide) (fun c165 => ?_) (fun c165 => ?_)
                          · have h := (if_neg c165).symm.trans h
                            refine mr_iconst (pc := 172) (v := 0) rfl (by decide) ?_
                            refine ms_istore (pc := 173) (L' := [some (.ref 8), some (.int (b1)), some (.int (b2)), some (.int ((b3) + (0))), some (.int (0)), some (.int (b5)), some (.int (((Y.2.2.2.2.1) ((b5) : Int32).toNatClampNeg) - (1))), some (.int (v115))]) rfl (by decide) rfl rfl ?_
                            refine ms_iinc (pc := 175) (x := b5) (v := 1) (L' := [some (.ref 8), some (.int (b1)), some (.int (b2)), some (.int ((b3) + (0))), some (.int (0)), some (.int (b5 + 1)), some (.int (((Y.2.2.2.2.1) ((b5) : Int32).toNatClampNeg) - (1))), some (.int (v115))]) rfl rfl (by decide) (by decide) rfl rfl ?_
                            refine mr_goto (pc := 178) 39 rfl (by decide) ?_
                            refine ms_drop (i := 6) (L' := [some (.ref 8), some (.int (b1)), some (.int (b2)), some (.int ((b3) + (0))), some (.int (0)), some (.int (b5 + 1)), none, some (.int (v115))]) rfl ?_
                            refine ms_drop (i := 7) (L' := [some (.ref 8), some (.int (b1)), some (.int (b2)), some (.int ((b3) + (0))), some (.int (0)), some (.int (b5 + 1)), none, none]) rfl ?_
                            exact ih9 _ _ _ _ _ _ _ _ h
                          · have h := (if_pos c165).symm.trans h
                            refine mr_iconst (pc := 168) (v := 1) rfl (by decide) ?_
                            refine mr_goto (pc := 169) 173 rfl (by decide) ?_
                            refine ms_istore (pc := 173) (L' := [some (.ref 8), some (.int (b1)), some (.int (b2)), some (.int ((b3) + (0))), some (.int (1)), some (.int (b5)), some (.int (((Y.2.2.2.2.1) ((b5) : Int32).toNatClampNeg) - (1))), some (.int (v115))]) rfl (by decide) rfl rfl ?_
                            refine ms_iinc (pc := 175) (x := b5) (v := 1) (L' := [some (.ref 8), some (.int (b1)), some (.int (b2)), some (.int ((b3) + (0))), some (.int (1)), some (.int (b5 + 1)), some (.int (((Y.2.2.2.2.1) ((b5) : Int32).toNatClampNeg) - (1))), some (.int (v115))]) rfl rfl (by decide) (by decide) rfl rfl ?_
                            refine mr_goto (pc := 178) 39 rfl (by decide) ?_
                            refine ms_drop (i := 6) (L' := [some (.ref 8), some (.int (b1)), some (.int (b2)), some (.int ((b3) + (0))), some (.int (1)), some (.int (b5 + 1)), none, some (.int (v115))]) rfl ?_
                            refine ms_drop (i := 7) (L' := [some (.ref 8), some (.int (b1)), some (.int (b2)), some (.int ((b3) + (0))), some (.int (1)), some (.int (b5 + 1)), none, none]) rfl ?_
                            exact ih9 _ _ _ _ _ _ _ _ h
                      · have h := (if_neg c145).symm.trans h
                        refine mr_iconst (pc := 148) (v := 1) rfl (by decide) ?_
                        refine mr_goto (pc := 149) 153 rfl (by decide) ?_
                        refine mr_iadd (pc := 153) rfl ?_
                        refine ms_istore_n (pc := 154) (L' := [some (.ref 8), some (.int (b1)), some (.int (b2)), some (.int ((b3) + (1))), some (.int (b4)), some (.int (b5)), some (.int (((Y.2.2.2.2.1) ((b5) : Int32).toNatClampNeg) - (1))), some (.int (v115))]) rfl (by decide) rfl rfl ?_
                        refine mr_iload (pc := 155) (x := v115) rfl rfl ?_
                        refine mr_if_ne (pc := 157) 172 rfl (by decide) (fun c157 => ?_) (fun c157 => ?_)
                        · have h := (if_neg c157).symm.trans h
                          refine mr_iconst (pc := 172) (v := 0) rfl (by decide) ?_
                          refine ms_istore (pc := 173) (L' := [some (.ref 8), some (.int (b1)), some (.int (b2)), some (.int ((b3) + (1))), some (.int (0)), some (.int (b5)), some (.int (((Y.2.2.2.2.1) ((b5) : Int32).toNatClampNeg) - (1))), some (.int (v115))]) rfl (by decide) rfl rfl ?_
                          refine ms_iinc (pc := 175) (x := b5) (v := 1) (L' := [some (.ref 8), some (.int (b1)), some (.int (b2)), some (.int ((b3) + (1))), some (.int (0)), some (.int (b5 + 1)), some (.int (((Y.2.2.2.2.1) ((b5) : Int32).toNatClampNeg) - (1))), some (.int (v115))]) rfl rfl (by decide) (by decide) rfl rfl ?_
                          refine mr_goto (pc := 178) 39 rfl (by decide) ?_
                          refine ms_drop (i := 6) (L' := [some (.ref 8), some (.int (b1)), some (.int (b2)), some (.int ((b3) + (1))), some (.int (0)), some (.int (b5 + 1)), none, some (.int (v115))]) rfl ?_
                          refine ms_drop (i := 7) (L' := [some (.ref 8), some (.int (b1)), some (.int (b2)), some (.int ((b3) + (1))), some (.int (0)), some (.int (b5 + 1)), none, none]) rfl ?_
                          exact ih9 _ _ _ _ _ _ _ _ h
                        · have h := (if_pos c157).symm.trans h
                          refine mr_aload_n (pc := 160) (x := 8) rfl rfl ?_
                          refine mr_getfield (pc := 161) (v := .int (Y115.2.2.2.2.2.2.2.2.2.2.2.2.1)) rfl lfRX1_51 rfl rfl ?_
                          refine mr_iconst (pc := 164) (v := 2) rfl (by decide) ?_
                          refine mr_icmp_ne (pc := 165) 172 rfl (by decide) (fun c165 => ?_) (fun c165 => ?_)
                          · have h := (if_neg c165).symm.trans h
                            refine mr_iconst (pc := 172) (v := 0) rfl (by decide) ?_
                            refine ms_istore (pc := 173) (L' := [some (.ref 8), some (.int (b1)), some (.int (b2)), some (.int ((b3) + (1))), some (.int (0)), some (.int (b5)), some (.int (((Y.2.2.2.2.1) ((b5) : Int32).toNatClampNeg) - (1))), some (.int (v115))]) rfl (by decide) rfl rfl ?_
                            refine ms_iinc (pc := 175) (x := b5) (v := 1) (L' := [some (.ref 8), some (.int (b1)), some (.int (b2)), some (.int ((b3) + (1))), some (.int (0)), some (.int (b5 + 1)), some (.int (((Y.2.2.2.2.1) ((b5) : Int32).toNatClampNeg) - (1))), some (.int (v115))]) rfl rfl (by decide) (by decide) rfl rfl ?_
                            refine mr_goto (pc := 178) 39 rfl (by decide) ?_
                            refine ms_drop (i := 6) (L' := [some (.ref 8), some (.int (b1)), some (.int (b2)), some (.int ((b3) + (1))), some (.int (0)), some (.int (b5 + 1)), none, some (.int (v115))]) rfl ?_
                            refine ms_drop (i := 7) (L' := [some (.ref 8), some (.int (b1)), some (.int (b2)), some (.int ((b3) + (1))), some (.int (0)), some (.int (b5 + 1)), none, none]) rfl ?_
                            exact ih9 _ _ _ _ _ _ _ _ h
                          · have h := (if_pos c165).symm.trans h
                            refine mr_iconst (pc := 168) (v := 1) rfl (by decide) ?_
                            refine mr_goto (pc := 169) 173 rfl (by decide) ?_
                            refine ms_istore (pc := 173) (L' := [some (.ref 8), some (.int (b1)), some (.int (b2)), some (.int ((b3) + (1))), some (.int (1)), some (.int (b5)), some (.int (((Y.2.2.2.2.1) ((b5) : Int32).toNatClampNeg) - (1))), some (.int (v115))]) rfl (by decide) rfl rfl ?_
                            refine ms_iinc (pc := 175) (x := b5) (v := 1) (L' := [some (.ref 8), some (.int (b1)), some (.int (b2)), some (.int ((b3) + (1))), some (.int (1)), some (.int (b5 + 1)), some (.int (((Y.2.2.2.2.1) ((b5) : Int32).toNatClampNeg) - (1))), some (.int (v115))]) rfl rfl (by decide) (by decide) rfl rfl ?_
                            refine mr_goto (pc := 178) 39 rfl (by decide) ?_
                            refine ms_drop (i := 6) (L' := [some (.ref 8), some (.int (b1)), some (.int (b2)), some (.int ((b3) + (1))), some (.int (1)), some (.int (b5 + 1)), none, some (.int (v115))]) rfl ?_
                            refine ms_drop (i := 7) (L' := [some (.ref 8), some (.int (b1)), some (.int (b2)), some (.int ((b3) + (1))), some (.int (1)), some (.int (b5 + 1)), none, none]) rfl ?_
                            exact ih9 _ _ _ _ _ _ _ _ h
                    · have h := (if_pos c122).symm.trans h
                      refine mr_aload_n (pc := 125) (x := 8) rfl rfl ?_
                      refine mr_getfield (pc := 126) (v := .int (Y115.2.2.2.2.2.2.2.2.2.2.2.2.1)) rfl lfRX1_51 rfl rfl ?_
                      refine mr_iconst (pc := 129) (v := 4) rfl (by decide) ?_
                      refine mr_icmp_ne (pc := 130) 142 rfl (by decide) (fun c130 => ?_) (fun c130 => ?_)
                      · have h := (if_neg c130).symm.trans h
                        refine mr_iload_n (pc := 142) (x := b3) rfl rfl ?_
                        refine mr_iload (pc := 143) (x := v115) rfl rfl ?_
                        refine mr_if_eq (pc := 145) 152 rfl (by decide) (fun c145 => ?_) (fun c145 => ?_)
                        · have h := (if_pos c145).symm.trans h
                          refine mr_iconst (pc := 152) (v := 0) rfl (by decide) ?_
                          refine mr_iadd (pc := 153) rfl ?_
                          refine ms_istore_n (pc := 154) (L' := [some (.ref 8), some (.int (b1)), some (.int (b2)), some (.int ((b3) + (0))), some (.int (b4)), some (.int (b5)), some (.int (((Y.2.2.2.2.1) ((b5) : Int32).toNatClampNeg) - (1))), some (.int (v115))]) rfl (by decide) rfl rfl ?_
                          refine mr_iload (pc := 155) (x := v115) rfl rfl ?_
                          refine mr_if_ne (pc := 157) 172 rfl (by decide) (fun c157 => ?_) (fun c157 => ?_)
                          · have h := (if_neg c157).symm.trans h
                            refine mr_iconst (pc := 172) (v := 0) rfl (by decide) ?_
                            refine ms_istore (pc := 173) (L' := [some (.ref 8), some (.int (b1)), some (.int (b2)), some (.int ((b3) + (0))), some (.int (0)), some (.int (b5)), some (.int (((Y.2.2.2.2.1) ((b5) : Int32).toNatClampNeg) - (1))), some (.int (v115))]) rfl (by decide) rfl rfl ?_
                            refine ms_iinc (pc := 175) (x := b5) (v := 1) (L' := [some (.ref 8), some (.int (b1)), some (.int (b2)), some (.int ((b3) + (0))), some (.int (0)), some (.int (b5 + 1)), some (.int (((Y.2.2.2.2.1) ((b5) : Int32).toNatClampNeg) - (1))), some (.int (v115))]) rfl rfl (by decide) (by decide) rfl rfl ?_
                            refine mr_goto (pc := 178) 39 rfl (by decide) ?_
                            refine ms_drop (i := 6) (L' := [some (.ref 8), some (.int (b1)), some (.int (b2)), some (.int ((b3) + (0))), some (.int (0)), some (.int (b5 + 1)), none, some (.int (v115))]) rfl ?_
                            refine ms_drop (i := 7) (L' := [some (.ref 8), some (.int (b1)), some (.int (b2)), some (.int ((b3) + (0))), some (.int (0)), some (.int (b5 + 1)), none, none]) rfl ?_
                            exact ih9 _ _ _ _ _ _ _ _ h
                          · have h := (if_pos c157).symm.trans h
                            refine mr_aload_n (pc := 160) (x := 8) rfl rfl ?_
                            refine mr_getfield (pc := 161) (v := .int (Y115.2.2.2.2.2.2.2.2.2.2.2.2.1)) rfl lfRX1_51 rfl rfl ?_
                            refine mr_iconst (pc := 164) (v := 2) rfl (by decide) ?_
                            refine mr_icmp_ne (pc := 165) 172 rfl (by decide) (fun c165 => ?_) (fun c165 => ?_)
                            · have h := (if_neg c165).symm.trans h
                              refine mr_iconst (pc := 172) (v := 0) rfl (by decide) ?_
                              refine ms_istore (pc := 173) (L' := [some (.ref 8), some (.int (b1)), some (.int (b2)), some (.int ((b3) + (0))), some (.int (0)), some (.int (b5)), some (.int (((Y.2.2.2.2.1) ((b5) : Int32).toNatClampNeg) - (1))), some (.int (v115))]) rfl (by decide) rfl rfl ?_
                              refine ms_iinc (pc := 175) (x := b5) (v := 1) (L' := [some (.ref 8), some (.int (b1)), some (.int (b2)), some (.int ((b3) + (0))), some (.int (0)), some (.int (b5 + 1)), some (.int (((Y.2.2.2.2.1) ((b5) : Int32).toNatClampNeg) - (1))), some (.int (v115))]) rfl rfl (by decide) (by decide) rfl rfl ?_
                              refine mr_goto (pc := 178) 39 rfl (by decide) ?_
                              refine ms_drop (i := 6) (L' := [some (.ref 8), some (.int (b1)), some (.int (b2)), some (.int ((b3) + (0))), some (.int (0)), some (.int (b5 + 1)), none, some (.int (v115))]) rfl ?_
                              refine ms_drop (i := 7) (L' := [some (.ref 8), some (.int (b1)), some (.int (b2)), some (.int ((b3) + (0))), some (.int (0)), some (.int (b5 + 1)), none, none]) rfl ?_
                              exact ih9 _ _ _ _ _ _ _ _ h
                            · have h := (if_pos c165).symm.trans h
                              refine mr_iconst (pc := 168) (v := 1) rfl (by decide) ?_
                              refine mr_goto (pc := 169) 173 rfl (by decide) ?_
                              refine ms_istore (pc := 173) (L' := [some (.ref 8), some (.int (b1)), some (.int (b2)), some (.int ((b3) + (0))), some (.int (1)), some (.int (b5)), some (.int (((Y.2.2.2.2.1) ((b5) : Int32).toNatClampNeg) - (1))), some (.int (v115))]) rfl (by decide) rfl rfl ?_
                              refine ms_iinc (pc := 175) (x := b5) (v := 1) (L' := [some (.ref 8), some (.int (b1)), some (.int (b2)), some (.int ((b3) + (0))), some (.int (1)), some (.int (b5 + 1)), some (.int (((Y.2.2.2.2.1) ((b5) : Int32).toNatClampNeg) - (1))), some (.int (v115))]) rfl rfl (by decide) (by decide) rfl rfl ?_
                              refine mr_goto (pc := 178) 39 rfl (by decide) ?_
                              refine ms_drop (i := 6) (L' := [some (.ref 8), some (.int (b1)), some (.int (b2)), some (.int ((b3) + (0))), some (.int (1)), some (.int (b5 + 1)), none, some (.int (v115))]) rfl ?_
                              refine ms_drop (i := 7) (L' := [some (.ref 8), some (.int (b1)), some (.int (b2)), some (.int ((b3) + (0))), some (.int (1)), some (.int (b5 + 1)), none, none]) rfl ?_
                              exact ih9 _ _ _ _ _ _ _ _ h
                        · have h := (if_neg c145).symm.trans h
                          refine mr_iconst (pc := 148) (v := 1) rfl (by decide) ?_
                          refine mr_goto (pc := 149) 153 rfl (by decide) ?_
                          refine mr_iadd (pc := 153) rfl ?_
                          refine ms_istore_n (pc := 154) (L' := [some (.ref 8), some (.int (b1)), some (.int (b2)), some (.int ((b3) + (1))), some (.int (b4)), some (.int (b5)), some (.int (((Y.2.2.2.2.1) ((b5) : Int32).toNatClampNeg) - (1))), some (.int (v115))]) rfl (by decide) rfl rfl ?_
                          refine mr_iload (pc := 155) (x := v115) rfl rfl ?_
                          refine mr_if_ne (pc := 157) 172 rfl (by decide) (fun c157 => ?_) (fun c157 => ?_)
                          · have h := (if_neg c157).symm.trans h
                            refine mr_iconst (pc := 172) (v := 0) rfl (by decide) ?_
                            refine ms_istore (pc := 173) (L' := [some (.ref 8), some (.int (b1)), some (.int (b2)), some (.int ((b3) + (1))), some (.int (0)), some (.int (b5)), some (.int (((Y.2.2.2.2.1) ((b5) : Int32).toNatClampNeg) - (1))), some (.int (v115))]) rfl (by decide) rfl rfl ?_
                            refine ms_iinc (pc := 175) (x := b5) (v := 1) (L' := [some (.ref 8), some (.int (b1)), some (.int (b2)), some (.int ((b3) + (1))), some (.int (0)), some (.int (b5 + 1)), some (.int (((Y.2.2.2.2.1) ((b5) : Int32).toNatClampNeg) - (1))), some (.int (v115))]) rfl rfl (by decide) (by decide) rfl rfl ?_
                            refine mr_goto (pc := 178) 39 rfl (by decide) ?_
                            refine ms_drop (i := 6) (L' := [some (.ref 8), some (.int (b1)), some (.int (b2)), some (.int ((b3) + (1))), some (.int (0)), some (.int (b5 + 1)), none, some (.int (v115))]) rfl ?_
                            refine ms_drop (i := 7) (L' := [some (.ref 8), some (.int (b1)), some (.int (b2)), some (.int ((b3) + (1))), some (.int (0)), some (.int (b5 + 1)), none, none]) rfl ?_
                            exact ih9 _ _ _ _ _ _ _ _ h
                          · have h := (if_pos c157).symm.trans h
                            refine mr_aload_n (pc := 160) (x := 8) rfl rfl ?_
                            refine mr_getfield (pc := 161) (v := .int (Y115.2.2.2.2.2.2.2.2.2.2.2.2.1)) rfl lfRX1_51 rfl rfl ?_
                            refine mr_iconst (pc := 164) (v := 2) rfl (by decide) ?_
                            refine mr_icmp_ne (pc := 165) 172 rfl (by decide) (fun c165 => ?_) (fun c165 => ?_)
                            · have h := (if_neg c165).symm.trans h
                              refine mr_iconst (pc := 172) (v := 0) rfl (by decide) ?_
                              refine ms_istore (pc := 173) (L' := [some (.ref 8), some (.int (b1)), some (.int (b2)), some (.int ((b3) + (1))), some (.int (0)), some (.int (b5)), some (.int (((Y.2.2.2.2.1) ((b5) : Int32).toNatClampNeg) - (1))), some (.int (v115))]) rfl (by decide) rfl rfl ?_
                              refine ms_iinc (pc := 175) (x := b5) (v := 1) (L' := [some (.ref 8), some (.int (b1)), some (.int (b2)), some (.int ((b3) + (1))), some (.int (0)), some (.int (b5 + 1)), some (.int (((Y.2.2.2.2.1) ((b5) : Int32).toNatClampNeg) - (1))), some (.int (v115))]) rfl rfl (by decide) (by decide) rfl rfl ?_
                              refine mr_goto (pc := 178) 39 rfl (by decide) ?_
                              refine ms_drop (i := 6) (L' := [some (.ref 8), some (.int (b1)), some (.int (b2)), some (.int ((b3) + (1))), some (.int (0)), some (.int (b5 + 1)), none, some (.int (v115))]) rfl ?_
                              refine ms_drop (i := 7) (L' := [some (.ref 8), some (.int (b1)), some (.int (b2)), some (.int ((b3) + (1))), some (.int (0)), some (.int (b5 + 1)), none, none]) rfl ?_
                              exact ih9 _ _ _ _ _ _ _ _ h
                            · have h := (if_pos c165).symm.trans h
                              refine mr_iconst (pc := 168) (v := 1) rfl (by decide) ?_
                              refine mr_goto (pc := 169) 173 rfl (by decide) ?_
                              refine ms_istore (pc := 173) (L' := [some (.ref 8), some (.int (b1)), some (.int (b2)), some (.int ((b3) + (1))), some (.int (1)), some (.int (b5)), some (.int (((Y.2.2.2.2.1) ((b5) : Int32).toNatClampNeg) - (1))), some (.int (v115))]) rfl (by decide) rfl rfl ?_
                              refine ms_iinc (pc := 175) (x := b5) (v := 1) (L' := [some (.ref 8), some (.int (b1)), some (.int (b2)), some (.int ((b3) + (1))), some (.int (1)), some (.int (b5 + 1)), some (.int (((Y.2.2.2.2.1) ((b5) : Int32).toNatClampNeg) - (1))), some (.int (v115))]) rfl rfl (by decide) (by decide) rfl rfl ?_
                              refine mr_goto (pc := 178) 39 rfl (by decide) ?_
                              refine ms_drop (i := 6) (L' := [some (.ref 8), some (.int (b1)), some (.int (b2)), some (.int ((b3) + (1))), some (.int (1)), some (.int (b5 + 1)), none, some (.int (v115))]) rfl ?_
                              refine ms_drop (i := 7) (L' := [some (.ref 8), some (.int (b1)), some (.int (b2)), some (.int ((b3) + (1))), some (.int (1)), some (.int (b5 + 1)), none, none]) rfl ?_
                              exact ih9 _ _ _ _ _ _ _ _ h
                      · have h := (if_pos c130).symm.trans h
                        refine mr_aload_n (pc := 133) (x := 8) rfl rfl ?_
                        refine mr_iload (pc := 134) (x := b5) rfl rfl ?_
                        refine mr_iload_n (pc := 136) (x := b2) rfl rfl ?_
                        rcases bI_inv h with ⟨v137, Y137, hc137, h⟩ | ⟨E137, Y137, hc137, hr⟩
                        · refine mr_ret (mRunV (pc := 137) (q := 8) (As := [.int (b5), .int (b2)]) (rest := []) rfl lkRX1_92 rfl rfl rfl (Nat.le_of_ble_eq_true rfl) (Nat.le_of_ble_eq_true rfl) (F_X1_passes hc137)) rfl (Nat.le_of_ble_eq_true rfl) (Nat.le_of_ble_eq_true rfl) ?_
                          refine ms_istore (pc := 140) (L' := [some (.ref 8), some (.int (b1)), some (.int (b2)), some (.int (b3)), some (.int (b4)), some (.int (b5)), some (.int (((Y.2.2.2.2.1) ((b5) : Int32).toNatClampNeg) - (1))), some (.int (v137))]) rfl (by decide) rfl rfl ?_
                          refine mr_iload_n (pc := 142) (x := b3) rfl rfl ?_
                          refine mr_iload (pc := 143) (x := v137) rfl rfl ?_
                          refine mr_if_eq (pc := 145) 152 rfl (by decide) (fun c145 => ?_) (fun c145 => ?_)
                          · have h := (if_pos c145).symm.trans h
                            refine mr_iconst (pc := 152) (v := 0) rfl (by decide) ?_
                            refine mr_iadd (pc := 153) rfl ?_
                            refine ms_istore_n (pc := 154) (L' := [some (.ref 8), some (.int (b1)), some (.int (b2)), some (.int ((b3) + (0))), some (.int (b4)), some (.int (b5)), some (.int (((Y.2.2.2.2.1) ((b5) : Int32).toNatClampNeg) - (1))), some (.int (v137))]) rfl (by decide) rfl rfl ?_
                            refine mr_iload (pc := 155) (x := v137) rfl rfl ?_
                            refine mr_if_ne (pc := 157) 172 rfl (by decide) (fun c157 => ?_) (fun c157 => ?_)
                            · have h := (if_neg c157).symm.trans h
                              refine mr_iconst (pc := 172) (v := 0) rfl (by decide) ?_
                              refine ms_istore (pc := 173) (L' := [some (.ref 8), some (.int (b1)), some (.int (b2)), some (.int ((b3) + (0))), some (.int (0)), some (.int (b5)), some (.int (((Y.2.2.2.2.1) ((b5) : Int32).toNatClampNeg) - (1))), some (.int (v137))]) rfl (by decide) rfl rfl ?_
                              refine ms_iinc (pc := 175) (x := b5) (v := 1) (L' := [some (.ref 8), some (.int (b1)), some (.int (b2)), some (.int ((b3) + (0))), some (.int (0)), some (.int (b5 + 1)), some (.int (((Y.2.2.2.2.1) ((b5) : Int32).toNatClampNeg) - (1))), some (.int (v137))]) rfl rfl (by decide) (by decide) rfl rfl ?_
                              refine mr_goto (pc := 178) 39 rfl (by decide) ?_
                              refine ms_drop (i := 6) (L' := [some (.ref 8), some (.int (b1)), some (.int (b2)), some (.int ((b3) + (0))), some (.int (0)), some (.int (b5 + 1)), none, some (.int (v137))]) rfl ?_
                              refine ms_drop (i := 7) (L' := [some (.ref 8), some (.int (b1)), some (.int (b2)), some (.int ((b3) + (0))), some (.int (0)), some (.int (b5 + 1)), none, none]) rfl ?_
                              exact ih9 _ _ _ _ _ _ _ _ h
                            · have h := (if_pos c157).symm.trans h
                              refine mr_aload_n (pc := 160) (x := 8) rfl rfl ?_
                              refine mr_getfield (pc := 161) (v := .int (Y137.2.2.2.2.2.2.2.2.2.2.2.2.1)) rfl lfRX1_51 rfl rfl ?_
                              refine mr_iconst (pc := 164) (v := 2) rfl (by decide) ?_
                              refine mr_icmp_ne (pc := 165) 172 rfl (by decide) (fun c165 => ?_) (fun c165 => ?_)
                              · have h := (if_neg c165).symm.trans h
                                refine mr_iconst (pc := 172) (v := 0) rfl (by decide) ?_
                                refine ms_istore (pc := 173) (L' := [some (.ref 8), some (.int (b1)), some (.int (b2)), some (.int ((b3) + (0))), some (.int (0)), some (.int (b5)), some (.int (((Y.2.2.2.2.1) ((b5) : Int32).toNatClampNeg) - (1))), some (.int (v137))]) rfl (by decide) rfl rfl ?_
                                refine ms_iinc (pc := 175) (x := b5) (v := 1) (L' := [some (.ref 8), some (.int (b1)), some (.int (b2)), some (.int ((b3) + (0))), some (.int (0)), some (.int (b5 + 1)), some (.int (((Y.2.2.2.2.1) ((b5) : Int32).toNatClampNeg) - (1))), some (.int (v137))]) rfl rfl (by decide) (by decide) rfl rfl ?_
                                refine mr_goto (pc := 178) 39 rfl (by decide) ?_
                                refine ms_drop (i := 6) (L' := [some (.ref 8), some (.int (b1)), some (.int (b2)), some (.int ((b3) + (0))), some (.int (0)), some (.int (b5 + 1)), none, some (.int (v137))]) rfl ?_
                                refine ms_drop (i := 7) (L' := [some (.ref 8), some (.int (b1)), some (.int (b2)), some (.int ((b3) + (0))), some (.int (0)), some (.int (b5 + 1)), none, none]) rfl ?_
                                exact ih9 _ _ _ _ _ _ _ _ h
                              · have h := (if_pos c165).symm.trans h
                                refine mr_iconst (pc := 168) (v := 1) rfl (by decide) ?_
                                refine mr_goto (pc := 169) 173 rfl (by decide) ?_
                                refine ms_istore (pc := 173) (L' := [some (.ref 8), some (.int (b1)), some (.int (b2)), some (.int ((b3) + (0))), some (.int (1)), some (.int (b5)), some (.int (((Y.2.2.2.2.1) ((b5) : Int32).toNatClampNeg) - (1))), some (.int (v137))]) rfl (by decide) rfl rfl ?_
                                refine ms_iinc (pc := 175) (x := b5) (v := 1) (L' := [some (.ref 8), some (.int (b1)), some (.int (b2)), some (.int ((b3) + (0))), some (.int (1)), some (.int (b5 + 1)), some (.int (((Y.2.2.2.2.1) ((b5) : Int32).toNatClampNeg) - (1))), some (.int (v137))]) rfl rfl (by decide) (by decide) rfl rfl ?_
                                refine mr_goto (pc := 178) 39 rfl (by decide) ?_
                                refine ms_drop (i := 6) (L' := [some (.ref 8), some (.int (b1)), some (.int (b2)), some (.int ((b3) + (0))), some (.int (1)), some (.int (b5 + 1)), none, some (.int (v137))]) rfl ?_
                                refine ms_drop (i := 7) (L' := [some (.ref 8), some (.int (b1)), some (.int (b2)), some (.int ((b3) + (0))), some (.int (1)), some (.int (b5 + 1)), none, none]) rfl ?_
                                exact ih9 _ _ _ _ _ _ _ _ h
                          · have h := (if_neg c145).symm.trans h
                            refine mr_iconst (pc := 148) (v := 1) rfl (by decide) ?_
                            refine mr_goto (pc := 149) 153 rfl (by decide) ?_
                            refine mr_iadd (pc := 153) rfl ?_
                            refine ms_istore_n (pc := 154) (L' := [some (.ref 8), some (.int (b1)), some (.int (b2)), some (.int ((b3) + (1))), some (.int (b4)), some (.int (b5)), some (.int (((Y.2.2.2.2.1) ((b5) : Int32).toNatClampNeg) - (1))), some (.int (v137))]) rfl (by decide) rfl rfl ?_
                            refine mr_iload (pc := 155) (x := v137) rfl rfl ?_
                            refine mr_if_ne (pc := 157) 172 rfl (by decide) (fun c157 => ?_) (fun c157 => ?_)
                            · have h := (if_neg c157).symm.trans h
                              refine mr_iconst (pc := 172) (v := 0) rfl (by decide) ?_
                              refine ms_istore (pc := 173) (L' := [some (.ref 8), some (.int (b1)), some (.int (b2)), some (.int ((b3) + (1))), some (.int (0)), some (.int (b5)), some (.int (((Y.2.2.2.2.1) ((b5) : Int32).toNatClampNeg) - (1))), some (.int (v137))]) rfl (by decide) rfl rfl ?_
                              refine ms_iinc (pc := 175) (x := b5) (v := 1) (L' := [some (.ref 8), some (.int (b1)), some (.int (b2)), some (.int ((b3) + (1))), some (.int (0)), some (.int (b5 + 1)), some (.int (((Y.2.2.2.2.1) ((b5) : Int32).toNatClampNeg) - (1))), some (.int (v137))]) rfl rfl (by decide) (by decide) rfl rfl ?_
                              refine mr_goto (pc := 178) 39 rfl (by decide) ?_
                              refine ms_drop (i := 6) (L' := [some (.ref 8), some (.int (b1)), some (.int (b2)), some (.int ((b3) + (1))), some (.int (0)), some (.int (b5 + 1)), none, some (.int (v137))]) rfl ?_
                              refine ms_drop (i := 7) (L' := [some (.ref 8), some (.int (b1)), some (.int (b2)), some (.int ((b3) + (1))), some (.int (0)), some (.int (b5 + 1)), none, none]) rfl ?_
                              exact ih9 _ _ _ _ _ _ _ _ h
                            · have h := (if_pos c157).symm.trans h
                              refine mr_aload_n (pc := 160) (x := 8) rfl rfl ?_
                              refine mr_getfield (pc := 161) (v := .int (Y137.2.2.2.2.2.2.2.2.2.2.2.2.1)) rfl lfRX1_51 rfl rfl ?_
                              refine mr_iconst (pc := 164) (v := 2) rfl (by decide) ?_
                              refine mr_icmp_ne (pc := 165) 172 rfl (by decide) (fun c165 => ?_) (fun c165 => ?_)
                              · have h := (if_neg c165).symm.trans h
                                refine mr_iconst (pc := 172) (v := 0) rfl (by decide) ?_
                                refine ms_istore (pc := 173) (L' := [some (.ref 8), some (.int (b1)), some (.int (b2)), some (.int ((b3) + (1))), some (.int (0)), some (.int (b5)), some (.int (((Y.2.2.2.2.1) ((b5) : Int32).toNatClampNeg) - (1))), some (.int (v137))]) rfl (by decide) rfl rfl ?_
                                refine ms_iinc (pc := 175) (x := b5) (v := 1) (L' := [some (.ref 8), some (.int (b1)), some (.int (b2)), some (.int ((b3) + (1))), some (.int (0)), some (.int (b5 + 1)), some (.int (((Y.2.2.2.2.1) ((b5) : Int32).toNatClampNeg) - (1))), some (.int (v137))]) rfl rfl (by decide) (by decide) rfl rfl ?_
                                refine mr_goto (pc := 178) 39 rfl (by decide) ?_
                                refine ms_drop (i := 6) (L' := [some (.ref 8), some (.int (b1)), some (.int (b2)), some (.int ((b3) + (1))), some (.int (0)), some (.int (b5 + 1)), none, some (.int (v137))]) rfl ?_
                                refine ms_drop (i := 7) (L' := [some (.ref 8), some (.int (b1)), some (.int (b2)), some (.int ((b3) + (1))), some (.int (0)), some (.int (b5 + 1)), none, none]) rfl ?_
                                exact ih9 _ _ _ _ _ _ _ _ h
                              · have h := (if_pos c165).symm.trans h
                                refine mr_iconst (pc := 168) (v := 1) rfl (by decide) ?_
                                refine mr_goto (pc := 169) 173 rfl (by decide) ?_
                                refine ms_istore (pc := 173) (L' := [some (.ref 8), some (.int (b1)), some (.int (b2)), some (.int ((b3) + (1))), some (.int (1)), some (.int (b5)), some (.int (((Y.2.2.2.2.1) ((b5) : Int32).toNatClampNeg) - (1))), some (.int (v137))]) rfl (by decide) rfl rfl ?_
                                refine ms_iinc (pc := 175) (x := b5) (v := 1) (L' := [some (.ref 8), some (.int (b1)), some (.int (b2)), some (.int ((b3) + (1))), some (.int (1)), some (.int (b5 + 1)), some (.int (((Y.2.2.2.2.1) ((b5) : Int32).toNatClampNeg) - (1))), some (.int (v137))]) rfl rfl (by decide) (by decide) rfl rfl ?_
                                refine mr_goto (pc := 178) 39 rfl (by decide) ?_
                                refine ms_drop (i := 6) (L' := [some (.ref 8), some (.int (b1)), some (.int (b2)), some (.int ((b3) + (1))), some (.int (1)), some (.int (b5 + 1)), none, some (.int (v137))]) rfl ?_
                                refine ms_drop (i := 7) (L' := [some (.ref 8), some (.int (b1)), some (.int (b2)), some (.int ((b3) + (1))), some (.int (1)), some (.int (b5 + 1)), none, none]) rfl ?_
                                exact ih9 _ _ _ _ _ _ _ _ h
                        · cases hr; exact mr_thrown (mRunV (pc := 137) (q := 8) (As := [.int (b5), .int (b2)]) (rest := []) rfl lkRX1_92 rfl rfl rfl (Nat.le_of_ble_eq_true rfl) (Nat.le_of_ble_eq_true rfl) (F_X1_passes hc137)) rfl rfl (Nat.le_of_ble_eq_true rfl) (Nat.le_of_ble_eq_true rfl)
                  · cases hr; exact mr_thrown (mRunV (pc := 115) (q := 8) (As := [.int (b5), .int (b2)]) (rest := []) rfl lkRX1_92 rfl rfl rfl (Nat.le_of_ble_eq_true rfl) (Nat.le_of_ble_eq_true rfl) (F_X1_passes hc115)) rfl rfl (Nat.le_of_ble_eq_true rfl) (Nat.le_of_ble_eq_true rfl)
              · cases hr; exact mr_thrown (mRunS (pc := 105) (As := [.int (((Y.2.2.2.2.1) ((b5) : Int32).toNatClampNeg) - (1))]) (rest := []) rfl lkRX1_62 rfl (Nat.le_of_ble_eq_true rfl) (Nat.le_of_ble_eq_true rfl) (F_X1_isPool hc105)) rfl rfl (Nat.le_of_ble_eq_true rfl) (Nat.le_of_ble_eq_true rfl)
          · have h := (if_neg c67).symm.trans h
            refine mr_aload_n (pc := 70) (x := 8) rfl rfl ?_
            refine mr_getfield (pc := 71) (v := .ref 13) rfl lfRX1_23 rfl rfl ?_
            refine mr_iload (pc := 74) (x := b5) rfl rfl ?_
            obtain ⟨g76, h⟩ := m_gd h
            refine mr_iaload (pc := 76) (f := Y.2.2.2.2.1) rfl rfl (vpb_in g76) ?_
            refine mr_iconst (pc := 77) (v := 1) rfl (by decide) ?_
            refine mr_iadd (pc := 78) rfl ?_
            refine mr_goto (pc := 79) 91 rfl (by decide) ?_
            refine ms_istore (pc := 91) (L' := [some (.ref 8), some (.int (b1)), some (.int (b2)), some (.int (b3)), some (.int (b4)), some (.int (b5)), some (.int (((Y.2.2.2.2.1) ((b5) : Int32).toNatClampNeg) + (1))), none]) rfl (by decide) rfl rfl ?_
            refine mr_iload_n (pc := 93) (x := b1) rfl rfl ?_
            refine mr_iload (pc := 94) (x := b5) rfl rfl ?_
            refine mr_ishr (pc := 96) rfl ?_
            refine mr_iconst (pc := 97) (v := 1) rfl (by decide) ?_
            refine mr_iand (pc := 98) rfl ?_
            refine mr_iconst (pc := 99) (v := 1) rfl (by decide) ?_
            refine mr_icmp_ne (pc := 100) 175 rfl (by decide) (fun c100 => ?_) (fun c100 => ?_)
            · have h := (if_neg c100).symm.trans h
              refine ms_iinc (pc := 175) (x := b5) (v := 1) (L' := [some (.ref 8), some (.int (b1)), some (.int (b2)), some (.int (b3)), some (.int (b4)), some (.int (b5 + 1)), some (.int (((Y.2.2.2.2.1) ((b5) : Int32).toNatClampNeg) + (1))), none]) rfl rfl (by decide) (by decide) rfl rfl ?_
              refine mr_goto (pc := 178) 39 rfl (by decide) ?_
              refine ms_drop (i := 6) (L' := [some (.ref 8), some (.int (b1)), some (.int (b2)), some (.int (b3)), some (.int (b4)), some (.int (b5 + 1)), none, none]) rfl ?_
              exact ih9 _ _ _ _ _ _ _ _ h
            · have h := (if_pos c100).symm.trans h
              refine mr_iload (pc := 103) (x := ((Y.2.2.2.2.1) ((b5) : Int32).toNatClampNeg) + (1)) rfl rfl ?_
              rcases cI_inv h with ⟨v105, hc105, h⟩ | ⟨E105, hc105, hr⟩
              · refine mr_ret (mRunS (pc := 105) (As := [.int (((Y.2.2.2.2.1) ((b5) : Int32).toNatClampNeg) + (1))]) (rest := []) rfl lkRX1_62 rfl (Nat.le_of_ble_eq_true rfl) (Nat.le_of_ble_eq_true rfl) (F_X1_isPool hc105)) rfl (Nat.le_of_ble_eq_true rfl) (Nat.le_of_ble_eq_true rfl) ?_
                refine mr_if_eq (pc := 108) 175 rfl (by decide) (fun c108 => ?_) (fun c108 => ?_)
                · have h := (if_pos c108).symm.trans h
                  refine ms_iinc (pc := 175) (x := b5) (v := 1) (L' := [some (.ref 8), some (.int (b1)), some (.int (b2)), some (.int (b3)), some (.int (b4)), some (.int (b5 + 1)), some (.int (((Y.2.2.2.2.1) ((b5) : Int32).toNatClampNeg) + (1))), none]) rfl rfl (by decide) (by decide) rfl rfl ?_
                  refine mr_goto (pc := 178) 39 rfl (by decide) ?_
                  refine ms_drop (i := 6) (L' := [some (.ref 8), some (.int (b1)), some (.int (b2)), some (.int (b3)), some (.int (b4)), some (.int (b5 + 1)), none, none]) rfl ?_
                  exact ih9 _ _ _ _ _ _ _ _ h
                · have h := (if_neg c108).symm.trans h
                  refine mr_aload_n (pc := 111) (x := 8) rfl rfl ?_
                  refine mr_iload (pc := 112) (x := b5) rfl rfl ?_
                  refine mr_iload_n (pc := 114) (x := b2) rfl rfl ?_
                  rcases bI_inv h with ⟨v115, Y115, hc115, h⟩ | ⟨E115, Y115, hc115, hr⟩
                  · refine mr_ret (mRunV (pc := 115) (q := 8) (As := [.int (b5), .int (b2)]) (rest := []) rfl lkRX1_92 rfl rfl rfl (Nat.le_of_ble_eq_true rfl) (Nat.le_of_ble_eq_true rfl) (F_X1_passes hc115)) rfl (Nat.le_of_ble_eq_true rfl) (Nat.le_of_ble_eq_true rfl) ?_
                    refine ms_istore (pc := 118) (L' := [some (.ref 8), some (.int (b1)), some (.int (b2)), some (.int (b3)), some (.int (b4)), some (.int (b5)), some (.int (((Y.2.2.2.2.1) ((b5) : Int32).toNatClampNeg) + (1))), some (.int (v115))]) rfl (by decide) rfl rfl ?_
                    refine mr_iload (pc := 120) (x := v115) rfl rfl ?_
                    refine mr_if_ne (pc := 122) 142 rfl (by decide) (fun c122 => ?_) (fun c122 => ?_)
                    · have h := (if_neg c122).symm.trans h
                      refine mr_iload_n (pc := 142) (x := b3) rfl rfl ?_
                      refine mr_iload (pc := 143) (x := v115) rfl rfl ?_
                      refine mr_if_eq (pc := 145) 152 rfl (by decide) (fun c145 => ?_) (fun c145 => ?_)
                      · have h := (if_pos c145).symm.trans h
                        refine mr_iconst (pc := 152) (v := 0) rfl (by decide) ?_
                        refine mr_iadd (pc := 153) rfl ?_
                        refine ms_istore_n (pc := 154) (L' := [some (.ref 8), some (.int (b1)), some (.int (b2)), some (.int ((b3) + (0))), some (.int (b4)), some (.int (b5)), some (.int (((Y.2.2.2.2.1) ((b5) : Int32).toNatClampNeg) + (1))), some (.int (v115))]) rfl (by decide) rfl rfl ?_
                        refine mr_iload (pc := 155) (x := v115) rfl rfl ?_
                        refine mr_if_ne (pc := 157) 172 rfl (by decide) (fun c157 => ?_) (fun c157 => ?_)
                        · have h := (if_neg c157).symm.trans h
                          refine mr_iconst (pc := 172) (v := 0) rfl (by decide) ?_
                          refine ms_istore (pc := 173) (L' := [some (.ref 8), some (.int (b1)), some (.int (b2)), some (.int ((b3) + (0))), some (.int (0)), some (.int (b5)), some (.int (((Y.2.2.2.2.1) ((b5) : Int32).toNatClampNeg) + (1))), some (.int (v115))]) rfl (by decide) rfl rfl ?_
                          refine ms_iinc (pc := 175) (x := b5) (v := 1) (L' := [some (.ref 8), some (.int (b1)), some (.int (b2)), some (.int ((b3) + (0))), some (.int (0)), some (.int (b5 + 1)), some (.int (((Y.2.2.2.2.1) ((b5) : Int32).toNatClampNeg) + (1))), some (.int (v115))]) rfl rfl (by decide) (by decide) rfl rfl ?_
                          refine mr_goto (pc := 178) 39 rfl (by decide) ?_
                          refine ms_drop (i := 6) (L' := [some (.ref 8), some (.int (b1)), some (.int (b2)), some (.int ((b3) + (0))), some (.int (0)), some (.int (b5 + 1)), none, some (.int (v115))]) rfl ?_
                          refine ms_drop (i := 7) (L' := [some (.ref 8), some (.int (b1)), some (.int (b2)), some (.int ((b3) + (0))), some (.int (0)), some (.int (b5 + 1)), none, none]) rfl ?_
                          exact ih9 _ _ _ _ _ _ _ _ h
                        · have h := (if_pos c157).symm.trans h
                          refine mr_aload_n (pc := 160) (x := 8) rfl rfl ?_
                          refine mr_getfield (pc := 161) (v := .int (Y115.2.2.2.2.2.2.2.2.2.2.2.2.1)) rfl lfRX1_51 rfl rfl ?_
                          refine mr_iconst (pc := 164) (v := 2) rfl (by decide) ?_
                          refine mr_icmp_ne (pc := 165) 172 rfl (by decide) (fun c165 => ?_) (fun c165 => ?_)
                          · have h := (if_neg c165).symm.trans h
                            refine mr_iconst (pc := 172) (v := 0) rfl (by decide) ?_
                            refine ms_istore (pc := 173) (L' := [some (.ref 8), some (.int (b1)), some (.int (b2)), some (.int ((b3) + (0))), some (.int (0)), some (.int (b5)), some (.int (((Y.2.2.2.2.1) ((b5) : Int32).toNatClampNeg) + (1))), some (.int (v115))]) rfl (by decide) rfl rfl ?_
                            refine ms_iinc (pc := 175) (x := b5) (v := 1) (L' := [some (.ref 8), some (.int (b1)), some (.int (b2)), some (.int ((b3) + (0))), some (.int (0)), some (.int (b5 + 1)), some (.int (((Y.2.2.2.2.1) ((b5) : Int32).toNatClampNeg) + (1))), some (.int (v115))]) rfl rfl (by decide) (by decide) rfl rfl ?_
                            refine mr_goto (pc := 178) 39 rfl (by decide) ?_
                            refine ms_drop (i := 6) (L' := [some (.ref 8), some (.int (b1)), some (.int (b2)), some (.int ((b3) + (0))), some (.int (0)), some (.int (b5 + 1)), none, some (.int (v115))]) rfl ?_
                            refine ms_drop (i := 7) (L' := [some (.ref 8), some (.int (b1)), some (.int (b2)), some (.int ((b3) + (0))), some (.int (0)), some (.int (b5 + 1)), none, none]) rfl ?_
                            exact ih9 _ _ _ _ _ _ _ _ h
                          · have h := (if_pos c165).symm.trans h
                            refine mr_iconst (pc := 168) (v := 1) rfl (by decide) ?_
                            refine mr_goto (pc := 169) 173 rfl (by decide) ?_
                            refine ms_istore (pc := 173) (L' := [some (.ref 8), some (.int (b1)), some (.int (b2)), some (.int ((b3) + (0))), some (.int (1)), some (.int (b5)), some (.int (((Y.2.2.2.2.1) ((b5) : Int32).toNatClampNeg) + (1))), some (.int (v115))]) rfl (by decide) rfl rfl ?_
                            refine ms_iinc (pc := 175) (x := b5) (v := 1) (L' := [some (.ref 8), some (.int (b1)), some (.int (b2)), some (.int ((b3) + (0))), some (.int (1)), some (.int (b5 + 1)), some (.int (((Y.2.2.2.2.1) ((b5) : Int32).toNatClampNeg) + (1))), some (.int (v115))]) rfl rfl (by decide) (by decide) rfl rfl ?_
                            refine mr_goto (pc := 178) 39 rfl (by decide) ?_
                            refine ms_drop (i := 6) (L' := [some (.ref 8), some (.int (b1)), some (.int (b2)), some (.int ((b3) + (0))), some (.int (1)), some (.int (b5 + 1)), none, some (.int (v115))]) rfl ?_
                            refine ms_drop (i := 7) (L' := [some (.ref 8), some (.int (b1)), some (.int (b2)), some (.int ((b3) + (0))), some (.int (1)), some (.int (b5 + 1)), none, none]) rfl ?_
                            exact ih9 _ _ _ _ _ _ _ _ h
                      · have h := (if_neg c145).symm.trans h
                        refine mr_iconst (pc := 148) (v := 1) rfl (by decide) ?_
                        refine mr_goto (pc := 149) 153 rfl (by decide) ?_
                        refine mr_iadd (pc := 153) rfl ?_
                        refine ms_istore_n (pc := 154) (L' := [some (.ref 8), some (.int (b1)), some (.int (b2)), some (.int ((b3) + (1))), some (.int (b4)), some (.int (b5)), some (.int (((Y.2.2.2.2.1) ((b5) : Int32).toNatClampNeg) + (1))), some (.int (v115))]) rfl (by decide) rfl rfl ?_
                        refine mr_iload (pc := 155) (x := v115) rfl rfl ?_
                        refine mr_if_ne (pc := 157) 172 rfl (by decide) (fun c157 => ?_) (fun c157 => ?_)
                        · have h := (if_neg c157).symm.trans h
                          refine mr_iconst (pc := 172) (v := 0) rfl (by decide) ?_
                          refine ms_istore (pc := 173) (L' := [some (.ref 8), some (.int (b1)), some (.int (b2)), some (.int ((b3) + (1))), some (.int (0)), some (.int (b5)), some (.int (((Y.2.2.2.2.1) ((b5) : Int32).toNatClampNeg) + (1))), some (.int (v115))]) rfl (by decide) rfl rfl ?_
                          refine ms_iinc (pc := 175) (x := b5) (v := 1) (L' := [some (.ref 8), some (.int (b1)), some (.int (b2)), some (.int ((b3) + (1))), some (.int (0)), some (.int (b5 + 1)), some (.int (((Y.2.2.2.2.1) ((b5) : Int32).toNatClampNeg) + (1))), some (.int (v115))]) rfl rfl (by decide) (by decide) rfl rfl ?_
                          refine mr_goto (pc := 178) 39 rfl (by decide) ?_
                          refine ms_drop (i := 6) (L' := [some (.ref 8), some (.int (b1)), some (.int (b2)), some (.int ((b3) + (1))), some (.int (0)), some (.int (b5 + 1)), none, some (.int (v115))]) rfl ?_
                          refine ms_drop (i := 7) (L' := [some (.ref 8), some (.int (b1)), some (.int (b2)), some (.int ((b3) + (1))), some (.int (0)), some (.int (b5 + 1)), none, none]) rfl ?_
                          exact ih9 _ _ _ _ _ _ _ _ h
                        · have h := (if_pos c157).symm.trans h
                          refine mr_aload_n (pc := 160) (x := 8) rfl rfl ?_
                          refine mr_getfield (pc := 161) (v := .int (Y115.2.2.2.2.2.2.2.2.2.2.2.2.1)) rfl lfRX1_51 rfl rfl ?_
                          refine mr_iconst (pc := 164) (v := 2) rfl (by decide) ?_
                          refine mr_icmp_ne (pc := 165) 172 rfl (by decide) (fun c165 => ?_) (fun c165 => ?_)
                          · have h := (if_neg c165).symm.trans h
                            refine mr_iconst (pc := 172) (v := 0) rfl (by decide) ?_
                            refine ms_istore (pc := 173) (L' := [some (.ref 8), some (.int (b1)), some (.int (b2)), some (.int ((b3) + (1))), some (.int (0)), some (.int (b5)), some (.int (((Y.2.2.2.2.1) ((b5) : Int32).toNatClampNeg) + (1))), some (.int (v115))]) rfl (by decide) rfl rfl ?_
                            refine ms_iinc (pc := 175) (x := b5) (v := 1) (L' := [some (.ref 8), some (.int (b1)), some (.int (b2)), some (.int ((b3) + (1))), some (.int (0)), some (.int (b5 + 1)), some (.int (((Y.2.2.2.2.1) ((b5) : Int32).toNatClampNeg) + (1))), some (.int (v115))]) rfl rfl (by decide) (by decide) rfl rfl ?_
                            refine mr_goto (pc := 178) 39 rfl (by decide) ?_
                            refine ms_drop (i := 6) (L' := [some (.ref 8), some (.int (b1)), some (.int (b2)), some (.int ((b3) + (1))), some (.int (0)), some (.int (b5 + 1)), none, some (.int (v115))]) rfl ?_
                            refine ms_drop (i := 7) (L' := [some (.ref 8), some (.int (b1)), some (.int (b2)), some (.int ((b3) + (1))), some (.int (0)), some (.int (b5 + 1)), none, none]) rfl ?_
                            exact ih9 _ _ _ _ _ _ _ _ h
                          · have h := (if_pos c165).symm.trans h
                            refine mr_iconst (pc := 168) (v := 1) rfl (by decide) ?_
                            refine mr_goto (pc := 169) 173 rfl (by decide) ?_
                            refine ms_istore (pc := 173) (L' := [some (.ref 8), some (.int (b1)), some (.int (b2)), some (.int ((b3) + (1))), some (.int (1)), some (.int (b5)), some (.int (((Y.2.2.2.2.1) ((b5) : Int32).toNatClampNeg) + (1))), some (.int (v115))]) rfl (by decide) rfl rfl ?_
                            refine ms_iinc (pc := 175) (x := b5) (v := 1) (L' := [some (.ref 8), some (.int (b1)), some (.int (b2)), some (.int ((b3) + (1))), some (.int (1)), some (.int (b5 + 1)), some (.int (((Y.2.2.2.2.1) ((b5) : Int32).toNatClampNeg) + (1))), some (.int (v115))]) rfl rfl (by decide) (by decide) rfl rfl ?_
                            refine mr_goto (pc := 178) 39 rfl (by decide) ?_
                            refine ms_drop (i := 6) (L' := [some (.ref 8), some (.int (b1)), some (.int (b2)), some (.int ((b3) + (1))), some (.int (1)), some (.int (b5 + 1)), none, some (.int (v115))]) rfl ?_
                            refine ms_drop (i := 7) (L' := [some (.ref 8), some (.int (b1)), some (.int (b2)), some (.int ((b3) + (1))), some (.int (1)), some (.int (b5 + 1)), none, none]) rfl ?_
                            exact ih9 _ _ _ _ _ _ _ _ h
                    · have h := (if_pos c122).symm.trans h
                      refine mr_aload_n (pc := 125) (x := 8) rfl rfl ?_
                      refine mr_getfield (pc := 126) (v := .int (Y115.2.2.2.2.2.2.2.2.2.2.2.2.1)) rfl lfRX1_51 rfl rfl ?_
                      refine mr_iconst (pc := 129) (v := 4) rfl (by decide) ?_
                      refine mr_icmp_ne (pc := 130) 142 rfl (by decide) (fun c130 => ?_) (fun c130 => ?_)
                      · have h := (if_neg c130).symm.trans h
                        refine mr_iload_n (pc := 142) (x := b3) rfl rfl ?_
                        refine mr_iload (pc := 143) (x := v115) rfl rfl ?_
                        refine mr_if_eq (pc := 145) 152 rfl (by decide) (fun c145 => ?_) (fun c145 => ?_)
                        · have h := (if_pos c145).symm.trans h
                          refine mr_iconst (pc := 152) (v := 0) rfl (by decide) ?_
                          refine mr_iadd (pc := 153) rfl ?_
                          refine ms_istore_n (pc := 154) (L' := [some (.ref 8), some (.int (b1)), some (.int (b2)), some (.int ((b3) + (0))), some (.int (b4)), some (.int (b5)), some (.int (((Y.2.2.2.2.1) ((b5) : Int32).toNatClampNeg) + (1))), some (.int (v115))]) rfl (by decide) rfl rfl ?_
                          refine mr_iload (pc := 155) (x := v115) rfl rfl ?_
                          refine mr_if_ne (pc := 157) 172 rfl (by decide) (fun c157 => ?_) (fun c157 => ?_)
                          · have h := (if_neg c157).symm.trans h
                            refine mr_iconst (pc := 172) (v := 0) rfl (by decide) ?_
                            refine ms_istore (pc := 173) (L' := [some (.ref 8), some (.int (b1)), some (.int (b2)), some (.int ((b3) + (0))), some (.int (0)), some (.int (b5)), some (.int (((Y.2.2.2.2.1) ((b5) : Int32).toNatClampNeg) + (1))), some (.int (v115))]) rfl (by decide) rfl rfl ?_
                            refine ms_iinc (pc := 175) (x := b5) (v := 1) (L' := [some (.ref 8), some (.int (b1)), some (.int (b2)), some (.int ((b3) + (0))), some (.int (0)), some (.int (b5 + 1)), some (.int (((Y.2.2.2.2.1) ((b5) : Int32).toNatClampNeg) + (1))), some (.int (v115))]) rfl rfl (by decide) (by decide) rfl rfl ?_
                            refine mr_goto (pc := 178) 39 rfl (by decide) ?_
                            refine ms_drop (i := 6) (L' := [some (.ref 8), some (.int (b1)), some (.int (b2)), some (.int ((b3) + (0))), some (.int (0)), some (.int (b5 + 1)), none, some (.int (v115))]) rfl ?_
                            refine ms_drop (i := 7) (L' := [some (.ref 8), some (.int (b1)), some (.int (b2)), some (.int ((b3) + (0))), some (.int (0)), some (.int (b5 + 1)), none, none]) rfl ?_
                            exact ih9 _ _ _ _ _ _ _ _ h
                          · have h := (if_pos c157).symm.trans h
                            refine mr_aload_n (pc := 160) (x := 8) rfl rfl ?_
                            refine mr_getfield (pc := 161) (v := .int (Y115.2.2.2.2.2.2.2.2.2.2.2.2.1)) rfl lfRX1_51 rfl rfl ?_
                            refine mr_iconst (pc := 164) (v := 2) rfl (by decide) ?_
                            refine mr_icmp_ne (pc := 165) 172 rfl (by decide) (fun c165 => ?_) (fun c165 => ?_)
                            · have h := (if_neg c165).symm.trans h
                              refine mr_iconst (pc := 172) (v := 0) rfl (by decide) ?_
                              refine ms_istore (pc := 173) (L' := [some (.ref 8), some (.int (b1)), some (.int (b2)), some (.int ((b3) + (0))), some (.int (0)), some (.int (b5)), some (.int (((Y.2.2.2.2.1) ((b5) : Int32).toNatClampNeg) + (1))), some (.int (v115))]) rfl (by decide) rfl rfl ?_
                              refine ms_iinc (pc := 175) (x := b5) (v := 1) (L' := [some (.ref 8), some (.int (b1)), some (.int (b2)), some (.int ((b3) + (0))), some (.int (0)), some (.int (b5 + 1)), some (.int (((Y.2.2.2.2.1) ((b5) : Int32).toNatClampNeg) + (1))), some (.int (v115))]) rfl rfl (by decide) (by decide) rfl rfl ?_
                              refine mr_goto (pc := 178) 39 rfl (by decide) ?_
                              refine ms_drop (i := 6) (L' := [some (.ref 8), some (.int (b1)), some (.int (b2)), some (.int ((b3) + (0))), some (.int (0)), some (.int (b5 + 1)), none, some (.int (v115))]) rfl ?_
                              refine ms_drop (i := 7) (L' := [some (.ref 8), some (.int (b1)), some (.int (b2)), some (.int ((b3) + (0))), some (.int (0)), some (.int (b5 + 1)), none, none]) rfl ?_
                              exact ih9 _ _ _ _ _ _ _ _ h
                            · have h := (if_pos c165).symm.trans h
                              refine mr_iconst (pc := 168) (v := 1) rfl (by decide) ?_
                              refine mr_goto (pc := 169) 173 rfl (by decide) ?_
                              refine ms_istore (pc := 173) (L' := [some (.ref 8), some (.int (b1)), some (.int (b2)), some (.int ((b3) + (0))), some (.int (1)), some (.int (b5)), some (.int (((Y.2.2.2.2.1) ((b5) : Int32).toNatClampNeg) + (1))), some (.int (v115))]) rfl (by decide) rfl rfl ?_
                              refine ms_iinc (pc := 175) (x := b5) (v := 1) (L' := [some (.ref 8), some (.int (b1)), some (.int (b2)), some (.int ((b3) + (0))), some (.int (1)), some (.int (b5 + 1)), some (.int (((Y.2.2.2.2.1) ((b5) : Int32).toNatClampNeg) + (1))), some (.int (v115))]) rfl rfl (by decide) (by decide) rfl rfl ?_
                              refine mr_goto (pc := 178) 39 rfl (by decide) ?_
                              refine ms_drop (i := 6) (L' := [some (.ref 8), some (.int (b1)), some (.int (b2)), some (.int ((b3) + (0))), some (.int (1)), some (.int (b5 + 1)), none, some (.int (v115))]) rfl ?_
                              refine ms_drop (i := 7) (L' := [some (.ref 8), some (.int (b1)), some (.int (b2)), some (.int ((b3) + (0))), some (.int (1)), some (.int (b5 + 1)), none, none]) rfl ?_
                              exact ih9 _ _ _ _ _ _ _ _ h
                        · have h := (if_neg c145).symm.trans h
                          refine mr_iconst (pc := 148) (v := 1) rfl (by decide) ?_
                          refine mr_goto (pc := 149) 153 rfl (by decide) ?_
                          refine mr_iadd (pc := 153) rfl ?_
                          refine ms_istore_n (pc := 154) (L' := [some (.ref 8), some (.int (b1)), some (.int (b2)), some (.int ((b3) + (1))), some (.int (b4)), some (.int (b5)), some (.int (((Y.2.2.2.2.1) ((b5) : Int32).toNatClampNeg) + (1))), some (.int (v115))]) rfl (by decide) rfl rfl ?_
                          refine mr_iload (pc := 155) (x := v115) rfl rfl ?_
                          refine mr_if_ne (pc := 157) 172 rfl (by decide) (fun c157 => ?_) (fun c157 => ?_)
                          · have h := (if_neg c157).symm.trans h
                            refine mr_iconst (pc := 172) (v := 0) rfl (by decide) ?_
                            refine ms_istore (pc := 173) (L' := [some (.ref 8), some (.int (b1)), some (.int (b2)), some (.int ((b3) + (1))), some (.int (0)), some (.int (b5)), some (.int (((Y.2.2.2.2.1) ((b5) : Int32).toNatClampNeg) + (1))), some (.int (v115))]) rfl (by decide) rfl rfl ?_
                            refine ms_iinc (pc := 175) (x := b5) (v := 1) (L' := [some (.ref 8), some (.int (b1)), some (.int (b2)), some (.int ((b3) + (1))), some (.int (0)), some (.int (b5 + 1)), some (.int (((Y.2.2.2.2.1) ((b5) : Int32).toNatClampNeg) + (1))), some (.int (v115))]) rfl rfl (by decide) (by decide) rfl rfl ?_
                            refine mr_goto (pc := 178) 39 rfl (by decide) ?_
                            refine ms_drop (i := 6) (L' := [some (.ref 8), some (.int (b1)), some (.int (b2)), some (.int ((b3) + (1))), some (.int (0)), some (.int (b5 + 1)), none, some (.int (v115))]) rfl ?_
                            refine ms_drop (i := 7) (L' := [some (.ref 8), some (.int (b1)), some (.int (b2)), some (.int ((b3) + (1))), some (.int (0)), some (.int (b5 + 1)), none, none]) rfl ?_
                            exact ih9 _ _ _ _ _ _ _ _ h
                          · have h := (if_pos c157).symm.trans h
                            refine mr_aload_n (pc := 160) (x := 8) rfl rfl ?_
                            refine mr_getfield (pc := 161) (v := .int (Y115.2.2.2.2.2.2.2.2.2.2.2.2.1)) rfl lfRX1_51 rfl rfl ?_
                            refine mr_iconst (pc := 164) (v := 2) rfl (by decide) ?_
                            refine mr_icmp_ne (pc := 165) 172 rfl (by decide) (fun c165 => ?_) (fun c165 => ?_)
                            · have h := (if_neg c165).symm.trans h
                              refine mr_iconst (pc := 172) (v := 0) rfl (by decide) ?_
                              refine ms_istore (pc := 173) (L' := [some (.ref 8), some (.int (b1)), some (.int (b2)), some (.int ((b3) + (1))), some (.int (0)), some (.int (b5)), some (.int (((Y.2.2.2.2.1) ((b5) : Int32).toNatClampNeg) + (1))), some (.int (v115))]) rfl (by decide) rfl rfl ?_
                              refine ms_iinc (pc := 175) (x := b5) (v := 1) (L' := [some (.ref 8), some (.int (b1)), some (.int (b2)), some (.int ((b3) + (1))), some (.int (0)), some (.int (b5 + 1)), some (.int (((Y.2.2.2.2.1) ((b5) : Int32).toNatClampNeg) + (1))), some (.int (v115))]) rfl rfl (by decide) (by decide) rfl rfl ?_
                              refine mr_goto (pc := 178) 39 rfl (by decide) ?_
                              refine ms_drop (i := 6) (L' := [some (.ref 8), some (.int (b1)), some (.int (b2)), some (.int ((b3) + (1))), some (.int (0)), some (.int (b5 + 1)), none, some (.int (v115))]) rfl ?_
                              refine ms_drop (i := 7) (L' := [some (.ref 8), some (.int (b1)), some (.int (b2)), some (.int ((b3) + (1))), some (.int (0)), some (.int (b5 + 1)), none, none]) rfl ?_
                              exact ih9 _ _ _ _ _ _ _ _ h
                            · have h := (if_pos c165).symm.trans h
                              refine mr_iconst (pc := 168) (v := 1) rfl (by decide) ?_
                              refine mr_goto (pc := 169) 173 rfl (by decide) ?_
                              refine ms_istore (pc := 173) (L' := [some (.ref 8), some (.int (b1)), some (.int (b2)), some (.int ((b3) + (1))), some (.int (1)), some (.int (b5)), some (.int (((Y.2.2.2.2.1) ((b5) : Int32).toNatClampNeg) + (1))), some (.int (v115))]) rfl (by decide) rfl rfl ?_
                              refine ms_iinc (pc := 175) (x := b5) (v := 1) (L' := [some (.ref 8), some (.int (b1)), some (.int (b2)), some (.int ((b3) + (1))), some (.int (1)), some (.int (b5 + 1)), some (.int (((Y.2.2.2.2.1) ((b5) : Int32).toNatClampNeg) + (1))), some (.int (v115))]) rfl rfl (by decide) (by decide) rfl rfl ?_
                              refine mr_goto (pc := 178) 39 rfl (by decide) ?_
                              refine ms_drop (i := 6) (L' := [some (.ref 8), some (.int (b1)), some (.int (b2)), some (.int ((b3) + (1))), some (.int (1)), some (.int (b5 + 1)), none, some (.int (v115))]) rfl ?_
                              refine ms_drop (i := 7) (L' := [some (.ref 8), some (.int (b1)), some (.int (b2)), some (.int ((b3) + (1))), some (.int (1)), some (.int (b5 + 1)), none, none]) rfl ?_
                              exact ih9 _ _ _ _ _ _ _ _ h
                      · have h := (if_pos c130).symm.trans h
                        refine mr_aload_n (pc := 133) (x := 8) rfl rfl ?_
                        refine mr_iload (pc := 134) (x := b5) rfl rfl ?_
                        refine mr_iload_n (pc := 136) (x := b2) rfl rfl ?_
                        rcases bI_inv h with ⟨v137, Y137, hc137, h⟩ | ⟨E137, Y137, hc137, hr⟩
                        · refine mr_ret (mRunV (pc := 137) (q := 8) (As := [.int (b5), .int (b2)]) (rest := []) rfl lkRX1_92 rfl rfl rfl (Nat.le_of_ble_eq_true rfl) (Nat.le_of_ble_eq_true rfl) (F_X1_passes hc137)) rfl (Nat.le_of_ble_eq_true rfl) (Nat.le_of_ble_eq_true rfl) ?_
                          refine ms_istore (pc := 140) (L' := [some (.ref 8), some (.int (b1)), some (.int (b2)), some (.int (b3)), some (.int (b4)), some (.int (b5)), some (.int (((Y.2.2.2.2.1) ((b5) : Int32).toNatClampNeg) + (1))), some (.int (v137))]) rfl (by decide) rfl rfl ?_
                          refine mr_iload_n (pc := 142) (x := b3) rfl rfl ?_
                          refine mr_iload (pc := 143) (x := v137) rfl rfl ?_
                          refine mr_if_eq (pc := 145) 152 rfl (by decide) (fun c145 => ?_) (fun c145 => ?_)
                          · have h := (if_pos c145).symm.trans h
                            refine mr_iconst (pc := 152) (v := 0) rfl (by decide) ?_
                            refine mr_iadd (pc := 153) rfl ?_
                            refine ms_istore_n (pc := 154) (L' := [some (.ref 8), some (.int (b1)), some (.int (b2)), some (.int ((b3) + (0))), some (.int (b4)), some (.int (b5)), some (.int (((Y.2.2.2.2.1) ((b5) : Int32).toNatClampNeg) + (1))), some (.int (v137))]) rfl (by decide) rfl rfl ?_
                            refine mr_iload (pc := 155) (x := v137) rfl rfl ?_
                            refine mr_if_ne (pc := 157) 172 rfl (by decide) (fun c157 => ?_) (fun c157 => ?_)
                            · have h := (if_neg c157).symm.trans h
                              refine mr_iconst (pc := 172) (v := 0) rfl (by decide) ?_
                              refine ms_istore (pc := 173) (L' := [some (.ref 8), some (.int (b1)), some (.int (b2)), some (.int ((b3) + (0))), some (.int (0)), some (.int (b5)), some (.int (((Y.2.2.2.2.1) ((b5) : Int32).toNatClampNeg) + (1))), some (.int (v137))]) rfl (by decide) rfl rfl ?_
                              refine ms_iinc (pc := 175) (x := b5) (v := 1) (L' := [some (.ref 8), some (.int (b1)), some (.int (b2)), some (.int ((b3) + (0))), some (.int (0)), some (.int (b5 + 1)), some (.int (((Y.2.2.2.2.1) ((b5) : Int32).toNatClampNeg) + (1))), some (.int (v137))]) rfl rfl (by decide) (by decide) rfl rfl ?_
                              refine mr_goto (pc := 178) 39 rfl (by decide) ?_
                              refine ms_drop (i := 6) (L' := [some (.ref 8), some (.int (b1)), some (.int (b2)), some (.int ((b3) + (0))), some (.int (0)), some (.int (b5 + 1)), none, some (.int (v137))]) rfl ?_
                              refine ms_drop (i := 7) (L' := [some (.ref 8), some (.int (b1)), some (.int (b2)), some (.int ((b3) + (0))), some (.int (0)), some (.int (b5 + 1)), none, none]) rfl ?_
                              exact ih9 _ _ _ _ _ _ _ _ h
                            · have h := (if_pos c157).symm.trans h
                              refine mr_aload_n (pc := 160) (x := 8) rfl rfl ?_
                              refine mr_getfield (pc := 161) (v := .int (Y137.2.2.2.2.2.2.2.2.2.2.2.2.1)) rfl lfRX1_51 rfl rfl ?_
                              refine mr_iconst (pc := 164) (v := 2) rfl (by decide) ?_
                              refine mr_icmp_ne (pc := 165) 172 rfl (by decide) (fun c165 => ?_) (fun c165 => ?_)
                              · have h := (if_neg c165).symm.trans h
                                refine mr_iconst (pc := 172) (v := 0) rfl (by decide) ?_
                                refine ms_istore (pc := 173) (L' := [some (.ref 8), some (.int (b1)), some (.int (b2)), some (.int ((b3) + (0))), some (.int (0)), some (.int (b5)), some (.int (((Y.2.2.2.2.1) ((b5) : Int32).toNatClampNeg) + (1))), some (.int (v137))]) rfl (by decide) rfl rfl ?_
                                refine ms_iinc (pc := 175) (x := b5) (v := 1) (L' := [some (.ref 8), some (.int (b1)), some (.int (b2)), some (.int ((b3) + (0))), some (.int (0)), some (.int (b5 + 1)), some (.int (((Y.2.2.2.2.1) ((b5) : Int32).toNatClampNeg) + (1))), some (.int (v137))]) rfl rfl (by decide) (by decide) rfl rfl ?_
                                refine mr_goto (pc := 178) 39 rfl (by decide) ?_
                                refine ms_drop (i := 6) (L' := [some (.ref 8), some (.int (b1)), some (.int (b2)), some (.int ((b3) + (0))), some (.int (0)), some (.int (b5 + 1)), none, some (.int (v137))]) rfl ?_
                                refine ms_drop (i := 7) (L' := [some (.ref 8), some (.int (b1)), some (.int (b2)), some (.int ((b3) + (0))), some (.int (0)), some (.int (b5 + 1)), none, none]) rfl ?_
                                exact ih9 _ _ _ _ _ _ _ _ h
                              · have h := (if_pos c165).symm.trans h
                                refine mr_iconst (pc := 168) (v := 1) rfl (by decide) ?_
                                refine mr_goto (pc := 169) 173 rfl (by decide) ?_
                                refine ms_istore (pc := 173) (L' := [some (.ref 8), some (.int (b1)), some (.int (b2)), some (.int ((b3) + (0))), some (.int (1)), some (.int (b5)), some (.int (((Y.2.2.2.2.1) ((b5) : Int32).toNatClampNeg) + (1))), some (.int (v137))]) rfl (by decide) rfl rfl ?_
                                refine ms_iinc (pc := 175) (x := b5) (v := 1) (L' := [some (.ref 8), some (.int (b1)), some (.int (b2)), some (.int ((b3) + (0))), some (.int (1)), some (.int (b5 + 1)), some (.int (((Y.2.2.2.2.1) ((b5) : Int32).toNatClampNeg) + (1))), some (.int (v137))]) rfl rfl (by decide) (by decide) rfl rfl ?_
                                refine mr_goto (pc := 178) 39 rfl (by decide) ?_
                                refine ms_drop (i := 6) (L' := [some (.ref 8), some (.int (b1)), some (.int (b2)), some (.int ((b3) + (0))), some (.int (1)), some (.int (b5 + 1)), none, some (.int (v137))]) rfl ?_
                                refine ms_drop (i := 7) (L' := [some (.ref 8), some (.int (b1)), some (.int (b2)), some (.int ((b3) + (0))), some (.int (1)), some (.int (b5 + 1)), none, none]) rfl ?_
                                exact ih9 _ _ _ _ _ _ _ _ h
                          · have h := (if_neg c145).symm.trans h
                            refine mr_iconst (pc := 148) (v := 1) rfl (by decide) ?_
                            refine mr_goto (pc := 149) 153 rfl (by decide) ?_
                            refine mr_iadd (pc := 153) rfl ?_
                            refine ms_istore_n (pc := 154) (L' := [some (.ref 8), some (.int (b1)), some (.int (b2)), some (.int ((b3) + (1))), some (.int (b4)), some (.int (b5)), some (.int (((Y.2.2.2.2.1) ((b5) : Int32).toNatClampNeg) + (1))), some (.int (v137))]) rfl (by decide) rfl rfl ?_
                            refine mr_iload (pc := 155) (x := v137) rfl rfl ?_
                            refine mr_if_ne (pc := 157) 172 rfl (by decide) (fun c157 => ?_) (fun c157 => ?_)
                            · have h := (if_neg c157).symm.trans h
                              refine mr_iconst (pc := 172) (v := 0) rfl (by decide) ?_
                              refine ms_istore (pc := 173) (L' := [some (.ref 8), some (.int (b1)), some (.int (b2)), some (.int ((b3) + (1))), some (.int (0)), some (.int (b5)), some (.int (((Y.2.2.2.2.1) ((b5) : Int32).toNatClampNeg) + (1))), some (.int (v137))]) rfl (by decide) rfl rfl ?_
                              refine ms_iinc (pc := 175) (x := b5) (v := 1) (L' := [some (.ref 8), some (.int (b1)), some (.int (b2)), some (.int ((b3) + (1))), some (.int (0)), some (.int (b5 + 1)), some (.int (((Y.2.2.2.2.1) ((b5) : Int32).toNatClampNeg) + (1))), some (.int (v137))]) rfl rfl (by decide) (by decide) rfl rfl ?_
                              refine mr_goto (pc := 178) 39 rfl (by decide) ?_
                              refine ms_drop (i := 6) (L' := [some (.ref 8), some (.int (b1)), some (.int (b2)), some (.int ((b3) + (1))), some (.int (0)), some (.int (b5 + 1)), none, some (.int (v137))]) rfl ?_
                              refine ms_drop (i := 7) (L' := [some (.ref 8), some (.int (b1)), some (.int (b2)), some (.int ((b3) + (1))), some (.int (0)), some (.int (b5 + 1)), none, none]) rfl ?_
                              exact ih9 _ _ _ _ _ _ _ _ h
                            · have h := (if_pos c157).symm.trans h
                              refine mr_aload_n (pc := 160) (x := 8) rfl rfl ?_
                              refine mr_getfield (pc := 161) (v := .int (Y137.2.2.2.2.2.2.2.2.2.2.2.2.1)) rfl lfRX1_51 rfl rfl ?_
                              refine mr_iconst (pc := 164) (v := 2) rfl (by decide) ?_
                              refine mr_icmp_ne (pc := 165) 172 rfl (by decide) (fun c165 => ?_) (fun c165 => ?_)
                              · have h := (if_neg c165).symm.trans h
                                refine mr_iconst (pc := 172) (v := 0) rfl (by decide) ?_
                                refine ms_istore (pc := 173) (L' := [some (.ref 8), some (.int (b1)), some (.int (b2)), some (.int ((b3) + (1))), some (.int (0)), some (.int (b5)), some (.int (((Y.2.2.2.2.1) ((b5) : Int32).toNatClampNeg) + (1))), some (.int (v137))]) rfl (by decide) rfl rfl ?_
                                refine ms_iinc (pc := 175) (x := b5) (v := 1) (L' := [some (.ref 8), some (.int (b1)), some (.int (b2)), some (.int ((b3) + (1))), some (.int (0)), some (.int (b5 + 1)), some (.int (((Y.2.2.2.2.1) ((b5) : Int32).toNatClampNeg) + (1))), some (.int (v137))]) rfl rfl (by decide) (by decide) rfl rfl ?_
                                refine mr_goto (pc := 178) 39 rfl (by decide) ?_
                                refine ms_drop (i := 6) (L' := [some (.ref 8), some (.int (b1)), some (.int (b2)), some (.int ((b3) + (1))), some (.int (0)), some (.int (b5 + 1)), none, some (.int (v137))]) rfl ?_
                                refine ms_drop (i := 7) (L' := [some (.ref 8), some (.int (b1)), some (.int (b2)), some (.int ((b3) + (1))), some (.int (0)), some (.int (b5 + 1)), none, none]) rfl ?_
                                exact ih9 _ _ _ _ _ _ _ _ h
                              · have h := (if_pos c165).symm.trans h
                                refine mr_iconst (pc := 168) (v := 1) rfl (by decide) ?_
                                refine mr_goto (pc := 169) 173 rfl (by decide) ?_
                                refine ms_istore (pc := 173) (L' := [some (.ref 8), some (.int (b1)), some (.int (b2)), some (.int ((b3) + (1))), some (.int (1)), some (.int (b5)), some (.int (((Y.2.2.2.2.1) ((b5) : Int32).toNatClampNeg) + (1))), some (.int (v137))]) rfl (by decide) rfl rfl ?_
                                refine ms_iinc (pc := 175) (x := b5) (v := 1) (L' := [some (.ref 8), some (.int (b1)), some (.int (b2)), some (.int ((b3) + (1))), some (.int (1)), some (.int (b5 + 1)), some (.int (((Y.2.2.2.2.1) ((b5) : Int32).toNatClampNeg) + (1))), some (.int (v137))]) rfl rfl (by decide) (by decide) rfl rfl ?_
                                refine mr_goto (pc := 178) 39 rfl (by decide) ?_
                                refine ms_drop (i := 6) (L' := [some (.ref 8), some (.int (b1)), some (.int (b2)), some (.int ((b3) + (1))), some (.int (1)), some (.int (b5 + 1)), none, some (.int (v137))]) rfl ?_
                                refine ms_drop (i := 7) (L' := [some (.ref 8), some (.int (b1)), some (.int (b2)), some (.int ((b3) + (1))), some (.int (1)), some (.int (b5 + 1)), none, none]) rfl ?_
                                exact ih9 _ _ _ _ _ _ _ _ h
                        · cases hr; exact mr_thrown (mRunV (pc := 137) (q := 8) (As := [.int (b5), .int (b2)]) (rest := []) rfl lkRX1_92 rfl rfl rfl (Nat.le_of_ble_eq_true rfl) (Nat.le_of_ble_eq_true rfl) (F_X1_passes hc137)) rfl rfl (Nat.le_of_ble_eq_true rfl) (Nat.le_of_ble_eq_true rfl)
                  · cases hr; exact mr_thrown (mRunV (pc := 115) (q := 8) (As := [.int (b5), .int (b2)]) (rest := []) rfl lkRX1_92 rfl rfl rfl (Nat.le_of_ble_eq_true rfl) (Nat.le_of_ble_eq_true rfl) (F_X1_passes hc115)) rfl rfl (Nat.le_of_ble_eq_true rfl) (Nat.le_of_ble_eq_true rfl)
              · cases hr; exact mr_thrown (mRunS (pc := 105) (As := [.int (((Y.2.2.2.2.1) ((b5) : Int32).toNatClampNeg) + (1))]) (rest := []) rfl lkRX1_62 rfl (Nat.le_of_ble_eq_true rfl) (Nat.le_of_ble_eq_true rfl) (F_X1_isPool hc105)) rfl rfl (Nat.le_of_ble_eq_true rfl) (Nat.le_of_ble_eq_true rfl)
        · have h := (if_pos c59).symm.trans h
          refine mr_iconst (pc := 62) (v := -1) rfl (by decide) ?_
          refine mr_goto (pc := 63) 91 rfl (by decide) ?_
          refine ms_istore (pc := 91) (L' := [some (.ref 8), some (.int (b1)), some (.int (b2)), some (.int (b3)), some (.int (b4)), some (.int (b5)), some (.int ((-1))), none]) rfl (by decide) rfl rfl ?_
          refine mr_iload_n (pc := 93) (x := b1) rfl rfl ?_
          refine mr_iload (pc := 94) (x := b5) rfl rfl ?_
          refine mr_ishr (pc := 96) rfl ?_
          refine mr_iconst (pc := 97) (v := 1) rfl (by decide) ?_
          refine mr_iand (pc := 98) rfl ?_
          refine mr_iconst (pc := 99) (v := 1) rfl (by decide) ?_
          refine mr_icmp_ne (pc := 100) 175 rfl (by decide) (fun c100 => ?_) (fun c100 => ?_)
          · have h := (if_neg c100).symm.trans h
            refine ms_iinc (pc := 175) (x := b5) (v := 1) (L' := [some (.ref 8), some (.int (b1)), some (.int (b2)), some (.int (b3)), some (.int (b4)), some (.int (b5 + 1)), some (.int ((-1))), none]) rfl rfl (by decide) (by decide) rfl rfl ?_
            refine mr_goto (pc := 178) 39 rfl (by decide) ?_
            refine ms_drop (i := 6) (L' := [some (.ref 8), some (.int (b1)), some (.int (b2)), some (.int (b3)), some (.int (b4)), some (.int (b5 + 1)), none, none]) rfl ?_
            exact ih9 _ _ _ _ _ _ _ _ h
          · have h := (if_pos c100).symm.trans h
            refine mr_iload (pc := 103) (x := (-1)) rfl rfl ?_
            rcases cI_inv h with ⟨v105, hc105, h⟩ | ⟨E105, hc105, hr⟩
            · refine mr_ret (mRunS (pc := 105) (As := [.int ((-1))]) (rest := []) rfl lkRX1_62 rfl (Nat.le_of_ble_eq_true rfl) (Nat.le_of_ble_eq_true rfl) (F_X1_isPool hc105)) rfl (Nat.le_of_ble_eq_true rfl) (Nat.le_of_ble_eq_true rfl) ?_
              refine mr_if_eq (pc := 108) 175 rfl (by decide) (fun c108 => ?_) (fun c108 => ?_)
              · have h := (if_pos c108).symm.trans h
                refine ms_iinc (pc := 175) (x := b5) (v := 1) (L' := [some (.ref 8), some (.int (b1)), some (.int (b2)), some (.int (b3)), some (.int (b4)), some (.int (b5 + 1)), some (.int ((-1))), none]) rfl rfl (by decide) (by decide) rfl rfl ?_
                refine mr_goto (pc := 178) 39 rfl (by decide) ?_
                refine ms_drop (i := 6) (L' := [some (.ref 8), some (.int (b1)), some (.int (b2)), some (.int (b3)), some (.int (b4)), some (.int (b5 + 1)), none, none]) rfl ?_
                exact ih9 _ _ _ _ _ _ _ _ h
              · have h := (if_neg c108).symm.trans h
                refine mr_aload_n (pc := 111) (x := 8) rfl rfl ?_
                refine mr_iload (pc := 112) (x := b5) rfl rfl ?_
                refine mr_iload_n (pc := 114) (x := b2) rfl rfl ?_
                rcases bI_inv h with ⟨v115, Y115, hc115, h⟩ | ⟨E115, Y115, hc115, hr⟩
                · refine mr_ret (mRunV (pc := 115) (q := 8) (As := [.int (b5), .int (b2)]) (rest := []) rfl lkRX1_92 rfl rfl rfl (Nat.le_of_ble_eq_true rfl) (Nat.le_of_ble_eq_true rfl) (F_X1_passes hc115)) rfl (Nat.le_of_ble_eq_true rfl) (Nat.le_of_ble_eq_true rfl) ?_
                  refine ms_istore (pc := 118) (L' := [some (.ref 8), some (.int (b1)), some (.int (b2)), some (.int (b3)), some (.int (b4)), some (.int (b5)), some (.int ((-1))), some (.int (v115))]) rfl (by decide) rfl rfl ?_
                  refine mr_iload (pc := 120) (x := v115) rfl rfl ?_
                  refine mr_if_ne (pc := 122) 142 rfl (by decide) (fun c122 => ?_) (fun c122 => ?_)
                  · have h := (if_neg c122).symm.trans h
                    refine mr_iload_n (pc := 142) (x := b3) rfl rfl ?_
                    refine mr_iload (pc := 143) (x := v115) rfl rfl ?_
                    refine mr_if_eq (pc := 145) 152 rfl (by decide) (fun c145 => ?_) (fun c145 => ?_)
                    · have h := (if_pos c145).symm.trans h
                      refine mr_iconst (pc := 152) (v := 0) rfl (by decide) ?_
                      refine mr_iadd (pc := 153) rfl ?_
                      refine ms_istore_n (pc := 154) (L' := [some (.ref 8), some (.int (b1)), some (.int (b2)), some (.int ((b3) + (0))), some (.int (b4)), some (.int (b5)), some (.int ((-1))), some (.int (v115))]) rfl (by decide) rfl rfl ?_
                      refine mr_iload (pc := 155) (x := v115) rfl rfl ?_
                      refine mr_if_ne (pc := 157) 172 rfl (by decide) (fun c157 => ?_) (fun c157 => ?_)
                      · have h := (if_neg c157).symm.trans h
                        refine mr_iconst (pc := 172) (v := 0) rfl (by decide) ?_
                        refine ms_istore (pc := 173) (L' := [some (.ref 8), some (.int (b1)), some (.int (b2)), some (.int ((b3) + (0))), some (.int (0)), some (.int (b5)), some (.int ((-1))), some (.int (v115))]) rfl (by decide) rfl rfl ?_
                        refine ms_iinc (pc := 175) (x := b5) (v := 1) (L' := [some (.ref 8), some (.int (b1)), some (.int (b2)), some (.int ((b3) + (0))), some (.int (0)), some (.int (b5 + 1)), some (.int ((-1))), some (.int (v115))]) rfl rfl (by decide) (by decide) rfl rfl ?_
                        refine mr_goto (pc := 178) 39 rfl (by decide) ?_
                        refine ms_drop (i := 6) (L' := [some (.ref 8), some (.int (b1)), some (.int (b2)), some (.int ((b3) + (0))), some (.int (0)), some (.int (b5 + 1)), none, some (.int (v115))]) rfl ?_
                        refine ms_drop (i := 7) (L' := [some (.ref 8), some (.int (b1)), some (.int (b2)), some (.int ((b3) + (0))), some (.int (0)), some (.int (b5 + 1)), none, none]) rfl ?_
                        exact ih9 _ _ _ _ _ _ _ _ h
                      · have h := (if_pos c157).symm.trans h
                        refine mr_aload_n (pc := 160) (x := 8) rfl rfl ?_
                        refine mr_getfield (pc := 161) (v := .int (Y115.2.2.2.2.2.2.2.2.2.2.2.2.1)) rfl lfRX1_51 rfl rfl ?_
                        refine mr_iconst (pc := 164) (v := 2) rfl (by decide) ?_
                        refine mr_icmp_ne (pc := 165) 172 rfl (by decide) (fun c165 => ?_) (fun c165 => ?_)
                        · have h := (if_neg c165).symm.trans h
                          refine mr_iconst (pc := 172) (v := 0) rfl (by decide) ?_
                          refine ms_istore (pc := 173) (L' := [some (.ref 8), some (.int (b1)), some (.int (b2)), some (.int ((b3) + (0))), some (.int (0)), some (.int (b5)), some (.int ((-1))), some (.int (v115))]) rfl (by decide) rfl rfl ?_
                          refine ms_iinc (pc := 175) (x := b5) (v := 1) (L' := [some (.ref 8), some (.int (b1)), some (.int (b2)), some (.int ((b3) + (0))), some (.int (0)), some (.int (b5 + 1)), some (.int ((-1))), some (.int (v115))]) rfl rfl (by decide) (by decide) rfl rfl ?_
                          refine mr_goto (pc := 178) 39 rfl (by decide) ?_
                          refine ms_drop (i := 6) (L' := [some (.ref 8), some (.int (b1)), some (.int (b2)), some (.int ((b3) + (0))), some (.int (0)), some (.int (b5 + 1)), none, some (.int (v115))]) rfl ?_
                          refine ms_drop (i := 7) (L' := [some (.ref 8), some (.int (b1)), some (.int (b2)), some (.int ((b3) + (0))), some (.int (0)), some (.int (b5 + 1)), none, none]) rfl ?_
                          exact ih9 _ _ _ _ _ _ _ _ h
                        · have h := (if_pos c165).symm.trans h
                          refine mr_iconst (pc := 168) (v := 1) rfl (by decide) ?_
                          refine mr_goto (pc := 169) 173 rfl (by decide) ?_
                          refine ms_istore (pc := 173) (L' := [some (.ref 8), some (.int (b1)), some (.int (b2)), some (.int ((b3) + (0))), some (.int (1)), some (.int (b5)), some (.int ((-1))), some (.int (v115))]) rfl (by decide) rfl rfl ?_
                          refine ms_iinc (pc := 175) (x := b5) (v := 1) (L' := [some (.ref 8), some (.int (b1)), some (.int (b2)), some (.int ((b3) + (0))), some (.int (1)), some (.int (b5 + 1)), some (.int ((-1))), some (.int (v115))]) rfl rfl (by decide) (by decide) rfl rfl ?_
                          refine mr_goto (pc := 178) 39 rfl (by decide) ?_
                          refine ms_drop (i := 6) (L' := [some (.ref 8), some (.int (b1)), some (.int (b2)), some (.int ((b3) + (0))), some (.int (1)), some (.int (b5 + 1)), none, some (.int (v115))]) rfl ?_
                          refine ms_drop (i := 7) (L' := [some (.ref 8), some (.int (b1)), some (.int (b2)), some (.int ((b3) + (0))), some (.int (1)), some (.int (b5 + 1)), none, none]) rfl ?_
                          exact ih9 _ _ _ _ _ _ _ _ h
                    · have h := (if_neg c145).symm.trans h
                      refine mr_iconst (pc := 148) (v := 1) rfl (by decide) ?_
                      refine mr_goto (pc := 149) 153 rfl (by decide) ?_
                      refine mr_iadd (pc := 153) rfl ?_
                      refine ms_istore_n (pc := 154) (L' := [some (.ref 8), some (.int (b1)), some (.int (b2)), some (.int ((b3) + (1))), some (.int (b4)), some (.int (b5)), some (.int ((-1))), some (.int (v115))]) rfl (by decide) rfl rfl ?_
                      refine mr_iload (pc := 155) (x := v115) rfl rfl ?_
                      refine mr_if_ne (pc := 157) 172 rfl (by decide) (fun c157 => ?_) (fun c157 => ?_)
                      · have h := (if_neg c157).symm.trans h
                        refine mr_iconst (pc := 172) (v := 0) rfl (by decide) ?_
                        refine ms_istore (pc := 173) (L' := [some (.ref 8), some (.int (b1)), some (.int (b2)), some (.int ((b3) + (1))), some (.int (0)), some (.int (b5)), some (.int ((-1))), some (.int (v115))]) rfl (by decide) rfl rfl ?_
                        refine ms_iinc (pc := 175) (x := b5) (v := 1) (L' := [some (.ref 8), some (.int (b1)), some (.int (b2)), some (.int ((b3) + (1))), some (.int (0)), some (.int (b5 + 1)), some (.int ((-1))), some (.int (v115))]) rfl rfl (by decide) (by decide) rfl rfl ?_
                        refine mr_goto (pc := 178) 39 rfl (by decide) ?_
                        refine ms_drop (i := 6) (L' := [some (.ref 8), some (.int (b1)), some (.int (b2)), some (.int ((b3) + (1))), some (.int (0)), some (.int (b5 + 1)), none, some (.int (v115))]) rfl ?_
                        refine ms_drop (i := 7) (L' := [some (.ref 8), some (.int (b1)), some (.int (b2)), some (.int ((b3) + (1))), some (.int (0)), some (.int (b5 + 1)), none, none]) rfl ?_
                        exact ih9 _ _ _ _ _ _ _ _ h
                      · have h := (if_pos c157).symm.trans h
                        refine mr_aload_n (pc := 160) (x := 8) rfl rfl ?_
                        refine mr_getfield (pc := 161) (v := .int (Y115.2.2.2.2.2.2.2.2.2.2.2.2.1)) rfl lfRX1_51 rfl rfl ?_
                        refine mr_iconst (pc := 164) (v := 2) rfl (by decide) ?_
                        refine mr_icmp_ne (pc := 165) 172 rfl (by decide) (fun c165 => ?_) (fun c165 => ?_)
                        · have h := (if_neg c165).symm.trans h
                          refine mr_iconst (pc := 172) (v := 0) rfl (by decide) ?_
                          refine ms_istore (pc := 173) (L' := [some (.ref 8), some (.int (b1)), some (.int (b2)), some (.int ((b3) + (1))), some (.int (0)), some (.int (b5)), some (.int ((-1))), some (.int (v115))]) rfl (by decide) rfl rfl ?_
                          refine ms_iinc (pc := 175) (x := b5) (v := 1) (L' := [some (.ref 8), some (.int (b1)), some (.int (b2)), some (.int ((b3) + (1))), some (.int (0)), some (.int (b5 + 1)), some (.int ((-1))), some (.int (v115))]) rfl rfl (by decide) (by decide) rfl rfl ?_
                          refine mr_goto (pc := 178) 39 rfl (by decide) ?_
                          refine ms_drop (i := 6) (L' := [some (.ref 8), some (.int (b1)), some (.int (b2)), some (.int ((b3) + (1))), some (.int (0)), some (.int (b5 + 1)), none, some (.int (v115))]) rfl ?_
                          refine ms_drop (i := 7) (L' := [some (.ref 8), some (.int (b1)), some (.int (b2)), some (.int ((b3) + (1))), some (.int (0)), some (.int (b5 + 1)), none, none]) rfl ?_
                          exact ih9 _ _ _ _ _ _ _ _ h
                        · have h := (if_pos c165).symm.trans h
                          refine mr_iconst (pc := 168) (v := 1) rfl (by decide) ?_
                          refine mr_goto (pc := 169) 173 rfl (by decide) ?_
                          refine ms_istore (pc := 173) (L' := [some (.ref 8), some (.int (b1)), some (.int (b2)), some (.int ((b3) + (1))), some (.int (1)), some (.int (b5)), some (.int ((-1))), some (.int (v115))]) rfl (by decide) rfl rfl ?_
                          refine ms_iinc (pc := 175) (x := b5) (v := 1) (L' := [some (.ref 8), some (.int (b1)), some (.int (b2)), some (.int ((b3) + (1))), some (.int (1)), some (.int (b5 + 1)), some (.int ((-1))), some (.int (v115))]) rfl rfl (by decide) (by decide) rfl rfl ?_
                          refine mr_goto (pc := 178) 39 rfl (by decide) ?_
                          refine ms_drop (i := 6) (L' := [some (.ref 8), some (.int (b1)), some (.int (b2)), some (.int ((b3) + (1))), some (.int (1)), some (.int (b5 + 1)), none, some (.int (v115))]) rfl ?_
                          refine ms_drop (i := 7) (L' := [some (.ref 8), some (.int (b1)), some (.int (b2)), some (.int ((b3) + (1))), some (.int (1)), some (.int (b5 + 1)), none, none]) rfl ?_
                          exact ih9 _ _ _ _ _ _ _ _ h
                  · have h := (if_pos c122).symm.trans h
                    refine mr_aload_n (pc := 125) (x := 8) rfl rfl ?_
                    refine mr_getfield (pc := 126) (v := .int (Y115.2.2.2.2.2.2.2.2.2.2.2.2.1)) rfl lfRX1_51 rfl rfl ?_
                    refine mr_iconst (pc := 129) (v := 4) rfl (by decide) ?_
                    refine mr_icmp_ne (pc := 130) 142 rfl (by decide) (fun c130 => ?_) (fun c130 => ?_)
                    · have h := (if_neg c130).symm.trans h
                      refine mr_iload_n (pc := 142) (x := b3) rfl rfl ?_
                      refine mr_iload (pc := 143) (x := v115) rfl rfl ?_
                      refine mr_if_eq (pc := 145) 152 rfl (by decide) (fun c145 => ?_) (fun c145 => ?_)
                      · have h := (if_pos c145).symm.trans h
                        refine mr_iconst (pc := 152) (v := 0) rfl (by decide) ?_
                        refine mr_iadd (pc := 153) rfl ?_
                        refine ms_istore_n (pc := 154) (L' := [some (.ref 8), some (.int (b1)), some (.int (b2)), some (.int ((b3) + (0))), some (.int (b4)), some (.int (b5)), some (.int ((-1))), some (.int (v115))]) rfl (by decide) rfl rfl ?_
                        refine mr_iload (pc := 155) (x := v115) rfl rfl ?_
                        refine mr_if_ne (pc := 157) 172 rfl (by decide) (fun c157 => ?_) (fun c157 => ?_)
                        · have h := (if_neg c157).symm.trans h
                          refine mr_iconst (pc := 172) (v := 0) rfl (by decide) ?_
                          refine ms_istore (pc := 173) (L' := [some (.ref 8), some (.int (b1)), some (.int (b2)), some (.int ((b3) + (0))), some (.int (0)), some (.int (b5)), some (.int ((-1))), some (.int (v115))]) rfl (by decide) rfl rfl ?_
                          refine ms_iinc (pc := 175) (x := b5) (v := 1) (L' := [some (.ref 8), some (.int (b1)), some (.int (b2)), some (.int ((b3) + (0))), some (.int (0)), some (.int (b5 + 1)), some (.int ((-1))), some (.int (v115))]) rfl rfl (by decide) (by decide) rfl rfl ?_
                          refine mr_goto (pc := 178) 39 rfl (by decide) ?_
                          refine ms_drop (i := 6) (L' := [some (.ref 8), some (.int (b1)), some (.int (b2)), some (.int ((b3) + (0))), some (.int (0)), some (.int (b5 + 1)), none, some (.int (v115))]) rfl ?_
                          refine ms_drop (i := 7) (L' := [some (.ref 8), some (.int (b1)), some (.int (b2)), some (.int ((b3) + (0))), some (.int (0)), some (.int (b5 + 1)), none, none]) rfl ?_
                          exact ih9 _ _ _ _ _ _ _ _ h
                        · have h := (if_pos c157).symm.trans h
                          refine mr_aload_n (pc := 160) (x := 8) rfl rfl ?_
                          refine mr_getfield (pc := 161) (v := .int (Y115.2.2.2.2.2.2.2.2.2.2.2.2.1)) rfl lfRX1_51 rfl rfl ?_
                          refine mr_iconst (pc := 164) (v := 2) rfl (by decide) ?_
                          refine mr_icmp_ne (pc := 165) 172 rfl (by decide) (fun c165 => ?_) (fun c165 => ?_)
                          · have h := (if_neg c165).symm.trans h
                            refine mr_iconst (pc := 172) (v := 0) rfl (by decide) ?_
                            refine ms_istore (pc := 173) (L' := [some (.ref 8), some (.int (b1)), some (.int (b2)), some (.int ((b3) + (0))), some (.int (0)), some (.int (b5)), some (.int ((-1))), some (.int (v115))]) rfl (by decide) rfl rfl ?_
                            refine ms_iinc (pc := 175) (x := b5) (v := 1) (L' := [some (.ref 8), some (.int (b1)), some (.int (b2)), some (.int ((b3) + (0))), some (.int (0)), some (.int (b5 + 1)), some (.int ((-1))), some (.int (v115))]) rfl rfl (by decide) (by decide) rfl rfl ?_
                            refine mr_goto (pc := 178) 39 rfl (by decide) ?_
                            refine ms_drop (i := 6) (L' := [some (.ref 8), some (.int (b1)), some (.int (b2)), some (.int ((b3) + (0))), some (.int (0)), some (.int (b5 + 1)), none, some (.int (v115))]) rfl ?_
                            refine ms_drop (i := 7) (L' := [some (.ref 8), some (.int (b1)), some (.int (b2)), some (.int ((b3) + (0))), some (.int (0)), some (.int (b5 + 1)), none, none]) rfl ?_
                            exact ih9 _ _ _ _ _ _ _ _ h
                          · have h := (if_pos c165).symm.trans h
                            refine mr_iconst (pc := 168) (v := 1) rfl (by decide) ?_
                            refine mr_goto (pc := 169) 173 rfl (by decide) ?_
                            refine ms_istore (pc := 173) (L' := [some (.ref 8), some (.int (b1)), some (.int (b2)), some (.int ((b3) + (0))), some (.int (1)), some (.int (b5)), some (.int ((-1))), some (.int (v115))]) rfl (by decide) rfl rfl ?_
                            refine ms_iinc (pc := 175) (x := b5) (v := 1) (L' := [some (.ref 8), some (.int (b1)), some (.int (b2)), some (.int ((b3) + (0))), some (.int (1)), some (.int (b5 + 1)), some (.int ((-1))), some (.int (v115))]) rfl rfl (by decide) (by decide) rfl rfl ?_
                            refine mr_goto (pc := 178) 39 rfl (by decide) ?_
                            refine ms_drop (i := 6) (L' := [some (.ref 8), some (.int (b1)), some (.int (b2)), some (.int ((b3) + (0))), some (.int (1)), some (.int (b5 + 1)), none, some (.int (v115))]) rfl ?_
                            refine ms_drop (i := 7) (L' := [some (.ref 8), some (.int (b1)), some (.int (b2)), some (.int ((b3) + (0))), some (.int (1)), some (.int (b5 + 1)), none, none]) rfl ?_
                            exact ih9 _ _ _ _ _ _ _ _ h
                      · have h := (if_neg c145).symm.trans h
                        refine mr_iconst (pc := 148) (v := 1) rfl (by decide) ?_
                        refine mr_goto (pc := 149) 153 rfl (by decide) ?_
                        refine mr_iadd (pc := 153) rfl ?_
                        refine ms_istore_n (pc := 154) (L' := [some (.ref 8), some (.int (b1)), some (.int (b2)), some (.int ((b3) + (1))), some (.int (b4)), some (.int (b5)), some (.int ((-1))), some (.int (v115))]) rfl (by decide) rfl rfl ?_
                        refine mr_iload (pc := 155) (x := v115) rfl rfl ?_
                        refine mr_if_ne (pc := 157) 172 rfl (by decide) (fun c157 => ?_) (fun c157 => ?_)
                        · have h := (if_neg c157).symm.trans h
                          refine mr_iconst (pc := 172) (v := 0) rfl (by decide) ?_
                          refine ms_istore (pc := 173) (L' := [some (.ref 8), some (.int (b1)), some (.int (b2)), some (.int ((b3) + (1))), some (.int (0)), some (.int (b5)), some (.int ((-1))), some (.int (v115))]) rfl (by decide) rfl rfl ?_
                          refine ms_iinc (pc := 175) (x := b5) (v := 1) (L' := [some (.ref 8), some (.int (b1)), some (.int (b2)), some (.int ((b3) + (1))), some (.int (0)), some (.int (b5 + 1)), some (.int ((-1))), some (.int (v115))]) rfl rfl (by decide) (by decide) rfl rfl ?_
                          refine mr_goto (pc := 178) 39 rfl (by decide) ?_
                          refine ms_drop (i := 6) (L' := [some (.ref 8), some (.int (b1)), some (.int (b2)), some (.int ((b3) + (1))), some (.int (0)), some (.int (b5 + 1)), none, some (.int (v115))]) rfl ?_
                          refine ms_drop (i := 7) (L' := [some (.ref 8), some (.int (b1)), some (.int (b2)), some (.int ((b3) + (1))), some (.int (0)), some (.int (b5 + 1)), none, none]) rfl ?_
                          exact ih9 _ _ _ _ _ _ _ _ h
                        · have h := (if_pos c157).symm.trans h
                          refine mr_aload_n (pc := 160) (x := 8) rfl rfl ?_
                          refine mr_getfield (pc := 161) (v := .int (Y115.2.2.2.2.2.2.2.2.2.2.2.2.1)) rfl lfRX1_51 rfl rfl ?_
                          refine mr_iconst (pc := 164) (v := 2) rfl (by decide) ?_
                          refine mr_icmp_ne (pc := 165) 172 rfl (by decide) (fun c165 => ?_) (fun c165 => ?_)
                          · have h := (if_neg c165).symm.trans h
                            refine mr_iconst (pc := 172) (v := 0) rfl (by decide) ?_
                            refine ms_istore (pc := 173) (L' := [some (.ref 8), some (.int (b1)), some (.int (b2)), some (.int ((b3) + (1))), some (.int (0)), some (.int (b5)), some (.int ((-1))), some (.int (v115))]) rfl (by decide) rfl rfl ?_
                            refine ms_iinc (pc := 175) (x := b5) (v := 1) (L' := [some (.ref 8), some (.int (b1)), some (.int (b2)), some (.int ((b3) + (1))), some (.int (0)), some (.int (b5 + 1)), some (.int ((-1))), some (.int (v115))]) rfl rfl (by decide) (by decide) rfl rfl ?_
                            refine mr_goto (pc := 178) 39 rfl (by decide) ?_
                            refine ms_drop (i := 6) (L' := [some (.ref 8), some (.int (b1)), some (.int (b2)), some (.int ((b3) + (1))), some (.int (0)), some (.int (b5 + 1)), none, some (.int (v115))]) rfl ?_
                            refine ms_drop (i := 7) (L' := [some (.ref 8), some (.int (b1)), some (.int (b2)), some (.int ((b3) + (1))), some (.int (0)), some (.int (b5 + 1)), none, none]) rfl ?_
                            exact ih9 _ _ _ _ _ _ _ _ h
                          · have h := (if_pos c165).symm.trans h
                            refine mr_iconst (pc := 168) (v := 1) rfl (by decide) ?_
                            refine mr_goto (pc := 169) 173 rfl (by decide) ?_
                            refine ms_istore (pc := 173) (L' := [some (.ref 8), some (.int (b1)), some (.int (b2)), some (.int ((b3) + (1))), some (.int (1)), some (.int (b5)), some (.int ((-1))), some (.int (v115))]) rfl (by decide) rfl rfl ?_
                            refine ms_iinc (pc := 175) (x := b5) (v := 1) (L' := [some (.ref 8), some (.int (b1)), some (.int (b2)), some (.int ((b3) + (1))), some (.int (1)), some (.int (b5 + 1)), some (.int ((-1))), some (.int (v115))]) rfl rfl (by decide) (by decide) rfl rfl ?_
                            refine mr_goto (pc := 178) 39 rfl (by decide) ?_
                            refine ms_drop (i := 6) (L' := [some (.ref 8), some (.int (b1)), some (.int (b2)), some (.int ((b3) + (1))), some (.int (1)), some (.int (b5 + 1)), none, some (.int (v115))]) rfl ?_
                            refine ms_drop (i := 7) (L' := [some (.ref 8), some (.int (b1)), some (.int (b2)), some (.int ((b3) + (1))), some (.int (1)), some (.int (b5 + 1)), none, none]) rfl ?_
                            exact ih9 _ _ _ _ _ _ _ _ h
                    · have h := (if_pos c130).symm.trans h
                      refine mr_aload_n (pc := 133) (x := 8) rfl rfl ?_
                      refine mr_iload (pc := 134) (x := b5) rfl rfl ?_
                      refine mr_iload_n (pc := 136) (x := b2) rfl rfl ?_
                      rcases bI_inv h with ⟨v137, Y137, hc137, h⟩ | ⟨E137, Y137, hc137, hr⟩
                      · refine mr_ret (mRunV (pc := 137) (q := 8) (As := [.int (b5), .int (b2)]) (rest := []) rfl lkRX1_92 rfl rfl rfl (Nat.le_of_ble_eq_true rfl) (Nat.le_of_ble_eq_true rfl) (F_X1_passes hc137)) rfl (Nat.le_of_ble_eq_true rfl) (Nat.le_of_ble_eq_true rfl) ?_
                        refine ms_istore (pc := 140) (L' := [some (.ref 8), some (.int (b1)), some (.int (b2)), some (.int (b3)), some (.int (b4)), some (.int (b5)), some (.int ((-1))), some (.int (v137))]) rfl (by decide) rfl rfl ?_
                        refine mr_iload_n (pc := 142) (x := b3) rfl rfl ?_
                        refine mr_iload (pc := 143) (x := v137) rfl rfl ?_
                        refine mr_if_eq (pc := 145) 152 rfl (by decide) (fun c145 => ?_) (fun c145 => ?_)
                        · have h := (if_pos c145).symm.trans h
                          refine mr_iconst (pc := 152) (v := 0) rfl (by decide) ?_
                          refine mr_iadd (pc := 153) rfl ?_
                          refine ms_istore_n (pc := 154) (L' := [some (.ref 8), some (.int (b1)), some (.int (b2)), some (.int ((b3) + (0))), some (.int (b4)), some (.int (b5)), some (.int ((-1))), some (.int (v137))]) rfl (by decide) rfl rfl ?_
                          refine mr_iload (pc := 155) (x := v137) rfl rfl ?_
                          refine mr_if_ne (pc := 157) 172 rfl (by decide) (fun c157 => ?_) (fun c157 => ?_)
                          · have h := (if_neg c157).symm.trans h
                            refine mr_iconst (pc := 172) (v := 0) rfl (by decide) ?_
                            refine ms_istore (pc := 173) (L' := [some (.ref 8), some (.int (b1)), some (.int (b2)), some (.int ((b3) + (0))), some (.int (0)), some (.int (b5)), some (.int ((-1))), some (.int (v137))]) rfl (by decide) rfl rfl ?_
                            refine ms_iinc (pc := 175) (x := b5) (v := 1) (L' := [some (.ref 8), some (.int (b1)), some (.int (b2)), some (.int ((b3) + (0))), some (.int (0)), some (.int (b5 + 1)), some (.int ((-1))), some (.int (v137))]) rfl rfl (by decide) (by decide) rfl rfl ?_
                            refine mr_goto (pc := 178) 39 rfl (by decide) ?_
                            refine ms_drop (i := 6) (L' := [some (.ref 8), some (.int (b1)), some (.int (b2)), some (.int ((b3) + (0))), some (.int (0)), some (.int (b5 + 1)), none, some (.int (v137))]) rfl ?_
                            refine ms_drop (i := 7) (L' := [some (.ref 8), some (.int (b1)), some (.int (b2)), some (.int ((b3) + (0))), some (.int (0)), some (.int (b5 + 1)), none, none]) rfl ?_
                            exact ih9 _ _ _ _ _ _ _ _ h
                          · have h := (if_pos c157).symm.trans h
                            refine mr_aload_n (pc := 160) (x := 8) rfl rfl ?_
                            refine mr_getfield (pc := 161) (v := .int (Y137.2.2.2.2.2.2.2.2.2.2.2.2.1)) rfl lfRX1_51 rfl rfl ?_
                            refine mr_iconst (pc := 164) (v := 2) rfl (by decide) ?_
                            refine mr_icmp_ne (pc := 165) 172 rfl (by decide) (fun c165 => ?_) (fun c165 => ?_)
                            · have h := (if_neg c165).symm.trans h
                              refine mr_iconst (pc := 172) (v := 0) rfl (by decide) ?_
                              refine ms_istore (pc := 173) (L' := [some (.ref 8), some (.int (b1)), some (.int (b2)), some (.int ((b3) + (0))), some (.int (0)), some (.int (b5)), some (.int ((-1))), some (.int (v137))]) rfl (by decide) rfl rfl ?_
                              refine ms_iinc (pc := 175) (x := b5) (v := 1) (L' := [some (.ref 8), some (.int (b1)), some (.int (b2)), some (.int ((b3) + (0))), some (.int (0)), some (.int (b5 + 1)), some (.int ((-1))), some (.int (v137))]) rfl rfl (by decide) (by decide) rfl rfl ?_
                              refine mr_goto (pc := 178) 39 rfl (by decide) ?_
                              refine ms_drop (i := 6) (L' := [some (.ref 8), some (.int (b1)), some (.int (b2)), some (.int ((b3) + (0))), some (.int (0)), some (.int (b5 + 1)), none, some (.int (v137))]) rfl ?_
                              refine ms_drop (i := 7) (L' := [some (.ref 8), some (.int (b1)), some (.int (b2)), some (.int ((b3) + (0))), some (.int (0)), some (.int (b5 + 1)), none, none]) rfl ?_
                              exact ih9 _ _ _ _ _ _ _ _ h
                            · have h := (if_pos c165).symm.trans h
                              refine mr_iconst (pc := 168) (v := 1) rfl (by decide) ?_
                              refine mr_goto (pc := 169) 173 rfl (by decide) ?_
                              refine ms_istore (pc := 173) (L' := [some (.ref 8), some (.int (b1)), some (.int (b2)), some (.int ((b3) + (0))), some (.int (1)), some (.int (b5)), some (.int ((-1))), some (.int (v137))]) rfl (by decide) rfl rfl ?_
                              refine ms_iinc (pc := 175) (x := b5) (v := 1) (L' := [some (.ref 8), some (.int (b1)), some (.int (b2)), some (.int ((b3) + (0))), some (.int (1)), some (.int (b5 + 1)), some (.int ((-1))), some (.int (v137))]) rfl rfl (by decide) (by decide) rfl rfl ?_
                              refine mr_goto (pc := 178) 39 rfl (by decide) ?_
                              refine ms_drop (i := 6) (L' := [some (.ref 8), some (.int (b1)), some (.int (b2)), some (.int ((b3) + (0))), some (.int (1)), some (.int (b5 + 1)), none, some (.int (v137))]) rfl ?_
                              refine ms_drop (i := 7) (L' := [some (.ref 8), some (.int (b1)), some (.int (b2)), some (.int ((b3) + (0))), some (.int (1)), some (.int (b5 + 1)), none, none]) rfl ?_
                              exact ih9 _ _ _ _ _ _ _ _ h
                        · have h := (if_neg c145).symm.trans h
                          refine mr_iconst (pc := 148) (v := 1) rfl (by decide) ?_
                          refine mr_goto (pc := 149) 153 rfl (by decide) ?_
                          refine mr_iadd (pc := 153) rfl ?_
                          refine ms_istore_n (pc := 154) (L' := [some (.ref 8), some (.int (b1)), some (.int (b2)), some (.int ((b3) + (1))), some (.int (b4)), some (.int (b5)), some (.int ((-1))), some (.int (v137))]) rfl (by decide) rfl rfl ?_
                          refine mr_iload (pc := 155) (x := v137) rfl rfl ?_
                          refine mr_if_ne (pc := 157) 172 rfl (by decide) (fun c157 => ?_) (fun c157 => ?_)
                          · have h := (if_neg c157).symm.trans h
                            refine mr_iconst (pc := 172) (v := 0) rfl (by decide) ?_
                            refine ms_istore (pc := 173) (L' := [some (.ref 8), some (.int (b1)), some (.int (b2)), some (.int ((b3) + (1))), some (.int (0)), some (.int (b5)), some (.int ((-1))), some (.int (v137))]) rfl (by decide) rfl rfl ?_
                            refine ms_iinc (pc := 175) (x := b5) (v := 1) (L' := [some (.ref 8), some (.int (b1)), some (.int (b2)), some (.int ((b3) + (1))), some (.int (0)), some (.int (b5 + 1)), some (.int ((-1))), some (.int (v137))]) rfl rfl (by decide) (by decide) rfl rfl ?_
                            refine mr_goto (pc := 178) 39 rfl (by decide) ?_
                            refine ms_drop (i := 6) (L' := [some (.ref 8), some (.int (b1)), some (.int (b2)), some (.int ((b3) + (1))), some (.int (0)), some (.int (b5 + 1)), none, some (.int (v137))]) rfl ?_
                            refine ms_drop (i := 7) (L' := [some (.ref 8), some (.int (b1)), some (.int (b2)), some (.int ((b3) + (1))), some (.int (0)), some (.int (b5 + 1)), none, none]) rfl ?_
                            exact ih9 _ _ _ _ _ _ _ _ h
                          · have h := (if_pos c157).symm.trans h
                            refine mr_aload_n (pc := 160) (x := 8) rfl rfl ?_
                            refine mr_getfield (pc := 161) (v := .int (Y137.2.2.2.2.2.2.2.2.2.2.2.2.1)) rfl lfRX1_51 rfl rfl ?_
                            refine mr_iconst (pc := 164) (v := 2) rfl (by decide) ?_
                            refine mr_icmp_ne (pc := 165) 172 rfl (by decide) (fun c165 => ?_) (fun c165 => ?_)
                            · have h := (if_neg c165).symm.trans h
                              refine mr_iconst (pc := 172) (v := 0) rfl (by decide) ?_
                              refine ms_istore (pc := 173) (L' := [some (.ref 8), some (.int (b1)), some (.int (b2)), some (.int ((b3) + (1))), some (.int (0)), some (.int (b5)), some (.int ((-1))), some (.int (v137))]) rfl (by decide) rfl rfl ?_
                              refine ms_iinc (pc := 175) (x := b5) (v := 1) (L' := [some (.ref 8), some (.int (b1)), some (.int (b2)), some (.int ((b3) + (1))), some (.int (0)), some (.int (b5 + 1)), some (.int ((-1))), some (.int (v137))]) rfl rfl (by decide) (by decide) rfl rfl ?_
                              refine mr_goto (pc := 178) 39 rfl (by decide) ?_
                              refine ms_drop (i := 6) (L' := [some (.ref 8), some (.int (b1)), some (.int (b2)), some (.int ((b3) + (1))), some (.int (0)), some (.int (b5 + 1)), none, some (.int (v137))]) rfl ?_
                              refine ms_drop (i := 7) (L' := [some (.ref 8), some (.int (b1)), some (.int (b2)), some (.int ((b3) + (1))), some (.int (0)), some (.int (b5 + 1)), none, none]) rfl ?_
                              exact ih9 _ _ _ _ _ _ _ _ h
                            · have h := (if_pos c165).symm.trans h
                              refine mr_iconst (pc := 168) (v := 1) rfl (by decide) ?_
                              refine mr_goto (pc := 169) 173 rfl (by decide) ?_
                              refine ms_istore (pc := 173) (L' := [some (.ref 8), some (.int (b1)), some (.int (b2)), some (.int ((b3) + (1))), some (.int (1)), some (.int (b5)), some (.int ((-1))), some (.int (v137))]) rfl (by decide) rfl rfl ?_
                              refine ms_iinc (pc := 175) (x := b5) (v := 1) (L' := [some (.ref 8), some (.int (b1)), some (.int (b2)), some (.int ((b3) + (1))), some (.int (1)), some (.int (b5 + 1)), some (.int ((-1))), some (.int (v137))]) rfl rfl (by decide) (by decide) rfl rfl ?_
                              refine mr_goto (pc := 178) 39 rfl (by decide) ?_
                              refine ms_drop (i := 6) (L' := [some (.ref 8), some (.int (b1)), some (.int (b2)), some (.int ((b3) + (1))), some (.int (1)), some (.int (b5 + 1)), none, some (.int (v137))]) rfl ?_
                              refine ms_drop (i := 7) (L' := [some (.ref 8), some (.int (b1)), some (.int (b2)), some (.int ((b3) + (1))), some (.int (1)), some (.int (b5 + 1)), none, none]) rfl ?_
                              exact ih9 _ _ _ _ _ _ _ _ h
                      · cases hr; exact mr_thrown (mRunV (pc := 137) (q := 8) (As := [.int (b5), .int (b2)]) (rest := []) rfl lkRX1_92 rfl rfl rfl (Nat.le_of_ble_eq_true rfl) (Nat.le_of_ble_eq_true rfl) (F_X1_passes hc137)) rfl rfl (Nat.le_of_ble_eq_true rfl) (Nat.le_of_ble_eq_true rfl)
                · cases hr; exact mr_thrown (mRunV (pc := 115) (q := 8) (As := [.int (b5), .int (b2)]) (rest := []) rfl lkRX1_92 rfl rfl rfl (Nat.le_of_ble_eq_true rfl) (Nat.le_of_ble_eq_true rfl) (F_X1_passes hc115)) rfl rfl (Nat.le_of_ble_eq_true rfl) (Nat.le_of_ble_eq_true rfl)
            · cases hr; exact mr_thrown (mRunS (pc := 105) (As := [.int ((-1))]) (rest := []) rfl lkRX1_62 rfl (Nat.le_of_ble_eq_true rfl) (Nat.le_of_ble_eq_true rfl) (F_X1_isPool hc105)) rfl rfl (Nat.le_of_ble_eq_true rfl) (Nat.le_of_ble_eq_true rfl)
def g_X1_convoy (Y : rS) (a1 a2 : Int32) : Option (mO × rS) := cI (g_X1_in (a1) (0) (1023)) Y (fun v6 => if ((v6) : Int32) = 0 then (if ((1) : Int32) ≤ 0 then (g_X1_convoy_39 mK (Y.1, Y.2.1, Y.2.2.1, Y.2.2.2.1, Y.2.2.2.2.1, Y.2.2.2.2.2.1, Y.2.2.2.2.2.2.1, Y.2.2.2.2.2.2.2.1, 1, Y.2.2.2.2.2.2.2.2.2.1, Y.2.2.2.2.2.2.2.2.2.2.1, Y.2.2.2.2.2.2.2.2.2.2.2.1, Y.2.2.2.2.2.2.2.2.2.2.2.2.1, Y.2.2.2.2.2.2.2.2.2.2.2.2.2.1, Y.2.2.2.2.2.2.2.2.2.2.2.2.2.2) (a1) (a2) (0) (0) (0)) else (g_X1_convoy_39 mK (Y.1, Y.2.1, Y.2.2.1, Y.2.2.2.1, Y.2.2.2.2.1, Y.2.2.2.2.2.1, Y.2.2.2.2.2.2.1, Y.2.2.2.2.2.2.2.1, 1, Y.2.2.2.2.2.2.2.2.2.1, Y.2.2.2.2.2.2.2.2.2.2.1, Y.2.2.2.2.2.2.2.2.2.2.2.1, Y.2.2.2.2.2.2.2.2.2.2.2.2.1, Y.2.2.2.2.2.2.2.2.2.2.2.2.2.1, Y.2.2.2.2.2.2.2.2.2.2.2.2.2.2) (a1) (a2) (0) (1) (0))) else (if ((0) : Int32) ≤ 0 then (g_X1_convoy_39 mK (Y.1, Y.2.1, Y.2.2.1, Y.2.2.2.1, Y.2.2.2.2.1, Y.2.2.2.2.2.1, Y.2.2.2.2.2.2.1, Y.2.2.2.2.2.2.2.1, 0, Y.2.2.2.2.2.2.2.2.2.1, Y.2.2.2.2.2.2.2.2.2.2.1, Y.2.2.2.2.2.2.2.2.2.2.2.1, Y.2.2.2.2.2.2.2.2.2.2.2.2.1, Y.2.2.2.2.2.2.2.2.2.2.2.2.2.1, Y.2.2.2.2.2.2.2.2.2.2.2.2.2.2) (a1) (a2) (0) (0) (0)) else (g_X1_convoy_39 mK (Y.1, Y.2.1, Y.2.2.1, Y.2.2.2.1, Y.2.2.2.2.1, Y.2.2.2.2.2.1, Y.2.2.2.2.2.2.1, Y.2.2.2.2.2.2.2.1, 0, Y.2.2.2.2.2.2.2.2.2.1, Y.2.2.2.2.2.2.2.2.2.2.1, Y.2.2.2.2.2.2.2.2.2.2.2.1, Y.2.2.2.2.2.2.2.2.2.2.2.2.1, Y.2.2.2.2.2.2.2.2.2.2.2.2.2.1, Y.2.2.2.2.2.2.2.2.2.2.2.2.2.2) (a1) (a2) (0) (1) (0))))
set_option maxRecDepth 100000 in
set_option maxHeartbeats 4000000 in
theorem F_X1_convoy {S : Nat × (Nat → Int32)} {Z : cS} {T : mH} {Y R9 : rS} {o9 : mO} {a1 a2 : Int32} (h : g_X1_convoy Y a1 a2 = some (o9, R9)) : mF S MX1_convoy 0 (mEnt [.ref 8, .int a1, .int a2] 8) [] (xw Z (yw Y T)) 0 0 (o9, (xw Z (yw R9 T)), 0, 0) := by
  unfold g_X1_convoy at h
  refine mr_aload_n (pc := 0) (x := 8) rfl rfl ?_
  refine mr_iload_n (pc := 1) (x := a1) rfl rfl ?_
  refine mr_iconst (pc := 2) (v := 0) rfl (by decide) ?_
  refine mr_sipush (pc := 3) (v := 1023) rfl (by decide) ?_
  rcases cI_inv h with ⟨v6, hc6, h⟩ | ⟨E6, hc6, hr⟩
  · refine mr_ret (mRunS (pc := 6) (As := [.int (a1), .int (0), .int (1023)]) (rest := [.ref 8]) rfl lkRX1_54 rfl (Nat.le_of_ble_eq_true rfl) (Nat.le_of_ble_eq_true rfl) (F_X1_in hc6)) rfl (Nat.le_of_ble_eq_true rfl) (Nat.le_of_ble_eq_true rfl) ?_
    refine mr_if_eq (pc := 9) 16 rfl (by decide) (fun c9 => ?_) (fun c9 => ?_)
    · have h := (if_pos c9).symm.trans h
      refine mr_iconst (pc := 16) (v := 1) rfl (by decide) ?_
      refine ms_putfield (pc := 17) (h' := (xw Z (yw (Y.1, Y.2.1, Y.2.2.1, Y.2.2.2.1, Y.2.2.2.2.1, Y.2.2.2.2.2.1, Y.2.2.2.2.2.2.1, Y.2.2.2.2.2.2.2.1, 1, Y.2.2.2.2.2.2.2.2.2.1, Y.2.2.2.2.2.2.2.2.2.2.1, Y.2.2.2.2.2.2.2.2.2.2.2.1, Y.2.2.2.2.2.2.2.2.2.2.2.2.1, Y.2.2.2.2.2.2.2.2.2.2.2.2.2.1, Y.2.2.2.2.2.2.2.2.2.2.2.2.2.2) T))) rfl lfRX1_38 rfl (Nat.le_of_ble_eq_true rfl) (by intro q hq; cases hq; rfl) rfl ?_
      refine mr_iconst (pc := 20) (v := 0) rfl (by decide) ?_
      refine ms_istore_n (pc := 21) (L' := [some (.ref 8), some (.int (a1)), some (.int (a2)), some (.int (0)), none, none, none, none]) rfl (by decide) rfl rfl ?_
      refine mr_aload_n (pc := 22) (x := 8) rfl rfl ?_
      refine mr_getfield (pc := 23) (v := .int (1)) rfl lfRX1_38 rfl rfl ?_
      refine mr_if_le (pc := 26) 33 rfl (by decide) (fun c26 => ?_) (fun c26 => ?_)
      · have h := (if_pos c26).symm.trans h
        refine mr_iconst (pc := 33) (v := 0) rfl (by decide) ?_
        refine ms_istore (pc := 34) (L' := [some (.ref 8), some (.int (a1)), some (.int (a2)), some (.int (0)), some (.int (0)), none, none, none]) rfl (by decide) rfl rfl ?_
        refine mr_iconst (pc := 36) (v := 0) rfl (by decide) ?_
        refine ms_istore (pc := 37) (L' := [some (.ref 8), some (.int (a1)), some (.int (a2)), some (.int (0)), some (.int (0)), some (.int (0)), none, none]) rfl (by decide) rfl rfl ?_
        exact FL_X1_convoy_39 mK _ _ _ _ _ _ _ _ h
      · have h := (if_neg c26).symm.trans h
        refine mr_iconst (pc := 29) (v := 1) rfl (by decide) ?_
        refine mr_goto (pc := 30) 34 rfl (by decide) ?_
        refine ms_istore (pc := 34) (L' := [some (.ref 8), some (.int (a1)), some (.int (a2)), some (.int (0)), some (.int (1)), none, none, none]) rfl (by decide) rfl rfl ?_
        refine mr_iconst (pc := 36) (v := 0) rfl (by decide) ?_
        refine ms_istore (pc := 37) (L' := [some (.ref 8), some (.int (a1)), some (.int (a2)), some (.int (0)), some (.int (1)), some (.int (0)), none, none]) rfl (by decide) rfl rfl ?_
        exact FL_X1_convoy_39 mK _ _ _ _ _ _ _ _ h
    · have h := (if_neg c9).symm.trans h
      refine mr_iconst (pc := 12) (v := 0) rfl (by decide) ?_
      refine mr_goto (pc := 13) 17 rfl (by decide) ?_
      refine ms_putfield (pc := 17) (h' := (xw Z (yw (Y.1, Y.2.1, Y.2.2.1, Y.2.2.2.1, Y.2.2.2.2.1, Y.2.2.2.2.2.1, Y.2.2.2.2.2.2.1, Y.2.2.2.2.2.2.2.1, 0, Y.2.2.2.2.2.2.2.2.2.1, Y.2.2.2.2.2.2.2.2.2.2.1, Y.2.2.2.2.2.2.2.2.2.2.2.1, Y.2.2.2.2.2.2.2.2.2.2.2.2.1, Y.2.2.2.2.2.2.2.2.2.2.2.2.2.1, Y.2.2.2.2.2.2.2.2.2.2.2.2.2.2) T))) rfl lfRX1_38 rfl (Nat.le_of_ble_eq_true rfl) (by intro q hq; cases hq; rfl) rfl ?_
      refine mr_iconst (pc := 20) (v := 0) rfl (by decide) ?_
      refine ms_istore_n (pc := 21) (L' := [some (.ref 8), some (.int (a1)), some (.int (a2)), some (.int (0)), none, none, none, none]) rfl (by decide) rfl rfl ?_
      refine mr_aload_n (pc := 22) (x := 8) rfl rfl ?_
      refine mr_getfield (pc := 23) (v := .int (0)) rfl lfRX1_38 rfl rfl ?_
      refine mr_if_le (pc := 26) 33 rfl (by decide) (fun c26 => ?_) (fun c26 => ?_)
      · have h := (if_pos c26).symm.trans h
        refine mr_iconst (pc := 33) (v := 0) rfl (by decide) ?_
        refine ms_istore (pc := 34) (L' := [some (.ref 8), some (.int (a1)), some (.int (a2)), some (.int (0)), some (.int (0)), none, none, none]) rfl (by decide) rfl rfl ?_
        refine mr_iconst (pc := 36) (v := 0) rfl (by decide) ?_
        refine ms_istore (pc := 37) (L' := [some (.ref 8), some (.int (a1)), some (.int (a2)), some (.int (0)), some (.int (0)), some (.int (0)), none, none]) rfl (by decide) rfl rfl ?_
        exact FL_X1_convoy_39 mK _ _ _ _ _ _ _ _ h
      · have h := (if_neg c26).symm.trans h
        refine mr_iconst (pc := 29) (v := 1) rfl (by decide) ?_
        refine mr_goto (pc := 30) 34 rfl (by decide) ?_
        refine ms_istore (pc := 34) (L' := [some (.ref 8), some (.int (a1)), some (.int (a2)), some (.int (0)), some (.int (1)), none, none, none]) rfl (by decide) rfl rfl ?_
        refine mr_iconst (pc := 36) (v := 0) rfl (by decide) ?_
        refine ms_istore (pc := 37) (L' := [some (.ref 8), some (.int (a1)), some (.int (a2)), some (.int (0)), some (.int (1)), some (.int (0)), none, none]) rfl (by decide) rfl rfl ?_
        exact FL_X1_convoy_39 mK _ _ _ _ _ _ _ _ h
  · cases hr; exact mr_thrown (mRunS (pc := 6) (As := [.int (a1), .int (0), .int (1023)]) (rest := [.ref 8]) rfl lkRX1_54 rfl (Nat.le_of_ble_eq_true rfl) (Nat.le_of_ble_eq_true rfl) (F_X1_in hc6)) rfl rfl (Nat.le_of_ble_eq_true rfl) (Nat.le_of_ble_eq_true rfl)
