/-! THE METHODS OF X0 AS FUNCTIONS, by program (wip/whole/gencode.py) -/
def g_X0_shareOut_42 : Nat → cS → Int32 → Int32 → Int32 → Int32 → Int32 → Int32 → Option (mO × cS)
  | 0, _, _, _, _, _, _, _ => none
  | f9 + 1, X, b1, b2, b3, b4, b5, b6 => if ((b2) : Int32) < ((b6) : Int32) then (if vpb (b1) 8 then (if vpb (b1) 8 then (bV (g_X0_leave (X.1, upd (X.2.1) ((b1) : Int32).toNatClampNeg (((X.2.1) ((b1) : Int32).toNatClampNeg) + (b5)), X.2.2.1, X.2.2.2.1, X.2.2.2.2.1, X.2.2.2.2.2.1, X.2.2.2.2.2.2.1, X.2.2.2.2.2.2.2.1, X.2.2.2.2.2.2.2.2.1, X.2.2.2.2.2.2.2.2.2) (((b2) - (b1)) + (1))) (fun X103 => if vpb (b1) 8 then (some (.inl (some (.int ((X103.2.1) ((b1) : Int32).toNatClampNeg))), X103)) else none)) else none) else none) else (if vpb (b6) 8 then (cI (g_X0_portion ((X.1) ((b6) : Int32).toNatClampNeg) (b3) (b4)) X (fun v64 => if vpb (b6) 8 then (if vpb (b6) 8 then (g_X0_shareOut_42 f9 (X.1, upd (X.2.1) ((b6) : Int32).toNatClampNeg (v64), X.2.2.1, X.2.2.2.1, X.2.2.2.2.1, X.2.2.2.2.2.1, X.2.2.2.2.2.2.1, X.2.2.2.2.2.2.2.1, X.2.2.2.2.2.2.2.2.1, X.2.2.2.2.2.2.2.2.2) (b1) (b2) (b3) (b4) ((b5) - ((upd (X.2.1) ((b6) : Int32).toNatClampNeg (v64)) ((b6) : Int32).toNatClampNeg)) (b6 + 1)) else none) else none)) else none)
set_option maxRecDepth 100000 in
set_option maxHeartbeats 4000000 in
theorem FL_X0_shareOut_42 {S : Nat × (Nat → Int32)} {T : mH} : ∀ (f9 : Nat) (X : cS) (b1 b2 b3 b4 b5 b6 : Int32) (o9 : mO) (R9 : cS), g_X0_shareOut_42 f9 X b1 b2 b3 b4 b5 b6 = some (o9, R9) → mF S MX0_shareOut 42 [some (.ref 0), some (.int (b1)), some (.int (b2)), some (.int (b3)), some (.int (b4)), some (.int (b5)), some (.int (b6))] [] (xw X T) 0 0 (o9, (xw R9 T), 0, 0) := by
  intro f9
  induction f9 with
  | zero => intro X b1 b2 b3 b4 b5 b6 o9 R9 h; cases h
  | succ f9 ih9 =>
    intro X b1 b2 b3 b4 b5 b6 o9 R9 h
    rw [g_X0_shareOut_42] at h
    refine mr_iload (pc := 42) (x := b6) rfl rfl ?_
    refine mr_iload_n (pc := 44) (x := b2) rfl rfl ?_
    refine mr_icmp_gt (pc := 45) 86 rfl (by decide) (fun c45 => ?_) (fun c45 => ?_)
    · have h := (if_pos c45).symm.trans h
      refine mr_aload_n (pc := 86) (x := 0) rfl rfl ?_
      refine mr_getfield (pc := 87) (v := .ref 2) rfl lfRX0_13 rfl rfl ?_
      refine mr_iload_n (pc := 90) (x := b1) rfl rfl ?_
      refine mr_dup2 (pc := 91) rfl rfl rfl ?_
      obtain ⟨g92, h⟩ := m_gd h
      refine mr_iaload (pc := 92) (f := X.2.1) rfl rfl (vpb_in g92) ?_
      refine mr_iload (pc := 93) (x := b5) rfl rfl ?_
      refine mr_iadd (pc := 95) rfl ?_
      obtain ⟨g96, h⟩ := m_gd h
      refine ms_iastore (pc := 96) (f := X.2.1) (h' := (xw (X.1, upd (X.2.1) ((b1) : Int32).toNatClampNeg (((X.2.1) ((b1) : Int32).toNatClampNeg) + (b5)), X.2.2.1, X.2.2.2.1, X.2.2.2.2.1, X.2.2.2.2.2.1, X.2.2.2.2.2.2.1, X.2.2.2.2.2.2.2.1, X.2.2.2.2.2.2.2.2.1, X.2.2.2.2.2.2.2.2.2) T)) rfl rfl g96 rfl ?_
      refine mr_aload_n (pc := 97) (x := 0) rfl rfl ?_
      refine mr_iload_n (pc := 98) (x := b2) rfl rfl ?_
      refine mr_iload_n (pc := 99) (x := b1) rfl rfl ?_
      refine mr_isub (pc := 100) rfl ?_
      refine mr_iconst (pc := 101) (v := 1) rfl (by decide) ?_
      refine mr_iadd (pc := 102) rfl ?_
      rcases bV_inv h with ⟨X103, hc103, h⟩ | ⟨E103, X103, hc103, hr⟩
      · refine mr_ret (mRunV (pc := 103) (q := 0) (As := [.int (((b2) - (b1)) + (1))]) (rest := []) rfl lkRX0_118 rfl rfl rfl (Nat.le_of_ble_eq_true rfl) (Nat.le_of_ble_eq_true rfl) (F_X0_leave hc103)) rfl (Nat.le_of_ble_eq_true rfl) (Nat.le_of_ble_eq_true rfl) ?_
        refine mr_aload_n (pc := 106) (x := 0) rfl rfl ?_
        refine mr_getfield (pc := 107) (v := .ref 2) rfl lfRX0_13 rfl rfl ?_
        refine mr_iload_n (pc := 110) (x := b1) rfl rfl ?_
        obtain ⟨g111, h⟩ := m_gd h
        refine mr_iaload (pc := 111) (f := X103.2.1) rfl rfl (vpb_in g111) ?_
        cases h; exact mr_ireturn (pc := 112) rfl rfl (Nat.le_of_ble_eq_true rfl) (Nat.le_of_ble_eq_true rfl)
      · cases hr; exact mr_thrown (mRunV (pc := 103) (q := 0) (As := [.int (((b2) - (b1)) + (1))]) (rest := []) rfl lkRX0_118 rfl rfl rfl (Nat.le_of_ble_eq_true rfl) (Nat.le_of_ble_eq_true rfl) (F_X0_leave hc103)) rfl rfl (Nat.le_of_ble_eq_true rfl) (Nat.le_of_ble_eq_true rfl)
    · have h := (if_neg c45).symm.trans h
      refine mr_aload_n (pc := 48) (x := 0) rfl rfl ?_
      refine mr_getfield (pc := 49) (v := .ref 2) rfl lfRX0_13 rfl rfl ?_
      refine mr_iload (pc := 52) (x := b6) rfl rfl ?_
      refine mr_aload_n (pc := 54) (x := 0) rfl rfl ?_
      refine mr_getfield (pc := 55) (v := .ref 1) rfl lfRX0_9 rfl rfl ?_
      refine mr_iload (pc := 58) (x := b6) rfl rfl ?_
      obtain ⟨g60, h⟩ := m_gd h
      refine mr_iaload (pc := 60) (f := X.1) rfl rfl (vpb_in g60) ?_
      refine mr_iload_n (pc := 61) (x := b3) rfl rfl ?_
      refine mr_iload (pc := 62) (x := b4) rfl rfl ?_
      rcases cI_inv h with ⟨v64, hc64, h⟩ | ⟨E64, hc64, hr⟩
      · refine mr_ret (mRunS (pc := 64) (As := [.int ((X.1) ((b6) : Int32).toNatClampNeg), .int (b3), .int (b4)]) (rest := [.int (b6), .ref 2]) rfl lkRX0_200 rfl (Nat.le_of_ble_eq_true rfl) (Nat.le_of_ble_eq_true rfl) (F_X0_portion hc64)) rfl (Nat.le_of_ble_eq_true rfl) (Nat.le_of_ble_eq_true rfl) ?_
        obtain ⟨g67, h⟩ := m_gd h
        refine ms_iastore (pc := 67) (f := X.2.1) (h' := (xw (X.1, upd (X.2.1) ((b6) : Int32).toNatClampNeg (v64), X.2.2.1, X.2.2.2.1, X.2.2.2.2.1, X.2.2.2.2.2.1, X.2.2.2.2.2.2.1, X.2.2.2.2.2.2.2.1, X.2.2.2.2.2.2.2.2.1, X.2.2.2.2.2.2.2.2.2) T)) rfl rfl g67 rfl ?_
        refine mr_iload (pc := 68) (x := b5) rfl rfl ?_
        refine mr_aload_n (pc := 70) (x := 0) rfl rfl ?_
        refine mr_getfield (pc := 71) (v := .ref 2) rfl lfRX0_13 rfl rfl ?_
        refine mr_iload (pc := 74) (x := b6) rfl rfl ?_
        obtain ⟨g76, h⟩ := m_gd h
        refine mr_iaload (pc := 76) (f := upd (X.2.1) ((b6) : Int32).toNatClampNeg (v64)) rfl rfl (vpb_in g76) ?_
        refine mr_isub (pc := 77) rfl ?_
        refine ms_istore (pc := 78) (L' := [some (.ref 0), some (.int (b1)), some (.int (b2)), some (.int (b3)), some (.int (b4)), some (.int ((b5) - ((upd (X.2.1) ((b6) : Int32).toNatClampNeg (v64)) ((b6) : Int32).toNatClampNeg))), some (.int (b6))]) rfl (by decide) rfl rfl ?_
        refine ms_iinc (pc := 80) (x := b6) (v := 1) (L' := [some (.ref 0), some (.int (b1)), some (.int (b2)), some (.int (b3)), some (.int (b4)), some (.int ((b5) - ((upd (X.2.1) ((b6) : Int32).toNatClampNeg (v64)) ((b6) : Int32).toNatClampNeg))), some (.int (b6 + 1))]) rfl rfl (by decide) (by decide) rfl rfl ?_
        refine mr_goto (pc := 83) 42 rfl (by decide) ?_
        exact ih9 _ _ _ _ _ _ _ _ _ h
      · cases hr; exact mr_thrown (mRunS (pc := 64) (As := [.int ((X.1) ((b6) : Int32).toNatClampNeg), .int (b3), .int (b4)]) (rest := [.int (b6), .ref 2]) rfl lkRX0_200 rfl (Nat.le_of_ble_eq_true rfl) (Nat.le_of_ble_eq_true rfl) (F_X0_portion hc64)) rfl rfl (Nat.le_of_ble_eq_true rfl) (Nat.le_of_ble_eq_true rfl)
def g_X0_shareOut (X : cS) (a1 a2 : Int32) : Option (mO × cS) := bI (g_X0_holdAll X (a1) (a2)) (fun v3 X3 => if ((v3) : Int32) = 0 then (bI (g_X0_failing X3 (1)) (fun v11 X11 => some (.inl (some (.int (v11))), X11))) else (cI (g_X0_sum (X3.2.1) 8 (a1) (a2)) X3 (fun v21 => cI (g_X0_sum (X3.1) 8 (a1) (a2)) X3 (fun v31 => g_X0_shareOut_42 mK X3 (a1) (a2) (v21) (v31) (v21) (a1)))))
set_option maxRecDepth 100000 in
set_option maxHeartbeats 4000000 in
theorem F_X0_shareOut {S : Nat × (Nat → Int32)} {T : mH} {X R9 : cS} {o9 : mO} {a1 a2 : Int32} (h : g_X0_shareOut X a1 a2 = some (o9, R9)) : mF S MX0_shareOut 0 (mEnt [.ref 0, .int a1, .int a2] 7) [] (xw X T) 0 0 (o9, (xw R9 T), 0, 0) := by
  unfold g_X0_shareOut at h
  refine mr_aload_n (pc := 0) (x := 0) rfl rfl ?_
  refine mr_iload_n (pc := 1) (x := a1) rfl rfl ?_
  refine mr_iload_n (pc := 2) (x := a2) rfl rfl ?_
  rcases bI_inv h with ⟨v3, X3, hc3, h⟩ | ⟨E3, X3, hc3, hr⟩
  · refine mr_ret (mRunV (pc := 3) (q := 0) (As := [.int (a1), .int (a2)]) (rest := []) rfl lkRX0_192 rfl rfl rfl (Nat.le_of_ble_eq_true rfl) (Nat.le_of_ble_eq_true rfl) (F_X0_holdAll hc3)) rfl (Nat.le_of_ble_eq_true rfl) (Nat.le_of_ble_eq_true rfl) ?_
    refine mr_if_ne (pc := 6) 15 rfl (by decide) (fun c6 => ?_) (fun c6 => ?_)
    · have h := (if_neg c6).symm.trans h
      refine mr_aload_n (pc := 15) (x := 0) rfl rfl ?_
      refine mr_getfield (pc := 16) (v := .ref 2) rfl lfRX0_13 rfl rfl ?_
      refine mr_iload_n (pc := 19) (x := a1) rfl rfl ?_
      refine mr_iload_n (pc := 20) (x := a2) rfl rfl ?_
      rcases cI_inv h with ⟨v21, hc21, h⟩ | ⟨E21, hc21, hr⟩
      · refine mr_ret (mRunS (pc := 21) (As := [.ref 2, .int (a1), .int (a2)]) (rest := []) rfl lkRX0_140 rfl (Nat.le_of_ble_eq_true rfl) (Nat.le_of_ble_eq_true rfl) (F_X0_sum (q := 2) (N := 8) rfl hc21)) rfl (Nat.le_of_ble_eq_true rfl) (Nat.le_of_ble_eq_true rfl) ?_
        refine ms_istore_n (pc := 24) (L' := [some (.ref 0), some (.int (a1)), some (.int (a2)), some (.int (v21)), none, none, none]) rfl (by decide) rfl rfl ?_
        refine mr_aload_n (pc := 25) (x := 0) rfl rfl ?_
        refine mr_getfield (pc := 26) (v := .ref 1) rfl lfRX0_9 rfl rfl ?_
        refine mr_iload_n (pc := 29) (x := a1) rfl rfl ?_
        refine mr_iload_n (pc := 30) (x := a2) rfl rfl ?_
        rcases cI_inv h with ⟨v31, hc31, h⟩ | ⟨E31, hc31, hr⟩
        · refine mr_ret (mRunS (pc := 31) (As := [.ref 1, .int (a1), .int (a2)]) (rest := []) rfl lkRX0_140 rfl (Nat.le_of_ble_eq_true rfl) (Nat.le_of_ble_eq_true rfl) (F_X0_sum (q := 1) (N := 8) rfl hc31)) rfl (Nat.le_of_ble_eq_true rfl) (Nat.le_of_ble_eq_true rfl) ?_
          refine ms_istore (pc := 34) (L' := [some (.ref 0), some (.int (a1)), some (.int (a2)), some (.int (v21)), some (.int (v31)), none, none]) rfl (by decide) rfl rfl ?_
          refine mr_iload_n (pc := 36) (x := v21) rfl rfl ?_
          refine ms_istore (pc := 37) (L' := [some (.ref 0), some (.int (a1)), some (.int (a2)), some (.int (v21)), some (.int (v31)), some (.int (v21)), none]) rfl (by decide) rfl rfl ?_
          refine mr_iload_n (pc := 39) (x := a1) rfl rfl ?_
          refine ms_istore (pc := 40) (L' := [some (.ref 0), some (.int (a1)), some (.int (a2)), some (.int (v21)), some (.int (v31)), some (.int (v21)), some (.int (a1))]) rfl (by decide) rfl rfl ?_
          exact FL_X0_shareOut_42 mK _ _ _ _ _ _ _ _ _ h
        · cases hr; exact mr_thrown (mRunS (pc := 31) (As := [.ref 1, .int (a1), .int (a2)]) (rest := []) rfl lkRX0_140 rfl (Nat.le_of_ble_eq_true rfl) (Nat.le_of_ble_eq_true rfl) (F_X0_sum (q := 1) (N := 8) rfl hc31)) rfl rfl (Nat.le_of_ble_eq_true rfl) (Nat.le_of_ble_eq_true rfl)
      · cases hr; exact mr_thrown (mRunS (pc := 21) (As := [.ref 2, .int (a1), .int (a2)]) (rest := []) rfl lkRX0_140 rfl (Nat.le_of_ble_eq_true rfl) (Nat.le_of_ble_eq_true rfl) (F_X0_sum (q := 2) (N := 8) rfl hc21)) rfl rfl (Nat.le_of_ble_eq_true rfl) (Nat.le_of_ble_eq_true rfl)
    · have h := (if_pos c6).symm.trans h
      refine mr_aload_n (pc := 9) (x := 0) rfl rfl ?_
      refine mr_iconst (pc := 10) (v := 1) rfl (by decide) ?_
      rcases bI_inv h with ⟨v11, X11, hc11, h⟩ | ⟨E11, X11, hc11, hr⟩
      · refine mr_ret (mRunV (pc := 11) (q := 0) (As := [.int (1)]) (rest := []) rfl lkRX0_183 rfl rfl rfl (Nat.le_of_ble_eq_true rfl) (Nat.le_of_ble_eq_true rfl) (F_X0_failing hc11)) rfl (Nat.le_of_ble_eq_true rfl) (Nat.le_of_ble_eq_true rfl) ?_
        cases h; exact mr_ireturn (pc := 14) rfl rfl (Nat.le_of_ble_eq_true rfl) (Nat.le_of_ble_eq_true rfl)
      · cases hr; exact mr_thrown (mRunV (pc := 11) (q := 0) (As := [.int (1)]) (rest := []) rfl lkRX0_183 rfl rfl rfl (Nat.le_of_ble_eq_true rfl) (Nat.le_of_ble_eq_true rfl) (F_X0_failing hc11)) rfl rfl (Nat.le_of_ble_eq_true rfl) (Nat.le_of_ble_eq_true rfl)
  · cases hr; exact mr_thrown (mRunV (pc := 3) (q := 0) (As := [.int (a1), .int (a2)]) (rest := []) rfl lkRX0_192 rfl rfl rfl (Nat.le_of_ble_eq_true rfl) (Nat.le_of_ble_eq_true rfl) (F_X0_holdAll hc3)) rfl rfl (Nat.le_of_ble_eq_true rfl) (Nat.le_of_ble_eq_true rfl)
def g_X0_share (X : cS) (a1 a2 : Int32) : Option (mO × cS) := cV (g_X0_checkPool (a1)) X (cV (g_X0_checkPool (a2)) X (if ((a1) : Int32) ≤ ((a2) : Int32) then (bI (g_X0_shareOut X (a1) (a2)) (fun v26 X26 => cI (g_X0_answered (v26)) X26 (fun v29 => some (.inl (some (.int (v29))), X26)))) else (some (.inr xI, X))))
set_option maxRecDepth 100000 in
set_option maxHeartbeats 4000000 in
theorem F_X0_share {S : Nat × (Nat → Int32)} {T : mH} {X R9 : cS} {o9 : mO} {a1 a2 : Int32} (h : g_X0_share X a1 a2 = some (o9, R9)) : mF S MX0_share 0 (mEnt [.ref 0, .int a1, .int a2] 3) [] (xw X T) 0 0 (o9, (xw R9 T), 4, 32) := by
  unfold g_X0_share at h
  refine mr_iload_n (pc := 0) (x := a1) rfl rfl ?_
  rcases cV_inv h with ⟨hc1, h⟩ | ⟨E1, hc1, hr⟩
  · refine mr_ret (mRunS (pc := 1) (As := [.int (a1)]) (rest := []) rfl lkRX0_34 rfl (Nat.le_of_ble_eq_true rfl) (Nat.le_of_ble_eq_true rfl) (F_X0_checkPool hc1)) rfl (Nat.le_of_ble_eq_true rfl) (Nat.le_of_ble_eq_true rfl) ?_
    refine mr_iload_n (pc := 4) (x := a2) rfl rfl ?_
    rcases cV_inv h with ⟨hc5, h⟩ | ⟨E5, hc5, hr⟩
    · refine mr_ret (mRunS (pc := 5) (As := [.int (a2)]) (rest := []) rfl lkRX0_34 rfl (Nat.le_of_ble_eq_true rfl) (Nat.le_of_ble_eq_true rfl) (F_X0_checkPool hc5)) rfl (Nat.le_of_ble_eq_true rfl) (Nat.le_of_ble_eq_true rfl) ?_
      refine mr_iload_n (pc := 8) (x := a1) rfl rfl ?_
      refine mr_iload_n (pc := 9) (x := a2) rfl rfl ?_
      refine mr_icmp_le (pc := 10) 23 rfl (by decide) (fun c10 => ?_) (fun c10 => ?_)
      · have h := (if_pos c10).symm.trans h
        refine mr_aload_n (pc := 23) (x := 0) rfl rfl ?_
        refine mr_iload_n (pc := 24) (x := a1) rfl rfl ?_
        refine mr_iload_n (pc := 25) (x := a2) rfl rfl ?_
        rcases bI_inv h with ⟨v26, X26, hc26, h⟩ | ⟨E26, X26, hc26, hr⟩
        · refine mr_ret (mRunV (pc := 26) (q := 0) (As := [.int (a1), .int (a2)]) (rest := []) rfl lkRX0_109 rfl rfl rfl (Nat.le_of_ble_eq_true rfl) (Nat.le_of_ble_eq_true rfl) (F_X0_shareOut hc26)) rfl (Nat.le_of_ble_eq_true rfl) (Nat.le_of_ble_eq_true rfl) ?_
          rcases cI_inv h with ⟨v29, hc29, h⟩ | ⟨E29, hc29, hr⟩
          · refine mr_ret (mRunS (pc := 29) (As := [.int (v26)]) (rest := []) rfl lkRX0_50 rfl (Nat.le_of_ble_eq_true rfl) (Nat.le_of_ble_eq_true rfl) (F_X0_answered hc29)) rfl (Nat.le_of_ble_eq_true rfl) (Nat.le_of_ble_eq_true rfl) ?_
            cases h; exact mr_ireturn (pc := 32) rfl rfl (Nat.le_of_ble_eq_true rfl) (Nat.le_of_ble_eq_true rfl)
          · cases hr; exact mr_thrown (mRunS (pc := 29) (As := [.int (v26)]) (rest := []) rfl lkRX0_50 rfl (Nat.le_of_ble_eq_true rfl) (Nat.le_of_ble_eq_true rfl) (F_X0_answered hc29)) rfl rfl (Nat.le_of_ble_eq_true rfl) (Nat.le_of_ble_eq_true rfl)
        · cases hr; exact mr_thrown (mRunV (pc := 26) (q := 0) (As := [.int (a1), .int (a2)]) (rest := []) rfl lkRX0_109 rfl rfl rfl (Nat.le_of_ble_eq_true rfl) (Nat.le_of_ble_eq_true rfl) (F_X0_shareOut hc26)) rfl rfl (Nat.le_of_ble_eq_true rfl) (Nat.le_of_ble_eq_true rfl)
      · have h := (if_neg c10).symm.trans h
        cases h; exact mr_throw (pc := 13) rfl rfl rfl rfl rfl lt_107 rfl (by decide) (by decide) (Nat.le_of_ble_eq_true rfl) (Nat.le_of_ble_eq_true rfl)
    · cases hr; exact mr_thrown (mRunS (pc := 5) (As := [.int (a2)]) (rest := []) rfl lkRX0_34 rfl (Nat.le_of_ble_eq_true rfl) (Nat.le_of_ble_eq_true rfl) (F_X0_checkPool hc5)) rfl rfl (Nat.le_of_ble_eq_true rfl) (Nat.le_of_ble_eq_true rfl)
  · cases hr; exact mr_thrown (mRunS (pc := 1) (As := [.int (a1)]) (rest := []) rfl lkRX0_34 rfl (Nat.le_of_ble_eq_true rfl) (Nat.le_of_ble_eq_true rfl) (F_X0_checkPool hc1)) rfl rfl (Nat.le_of_ble_eq_true rfl) (Nat.le_of_ble_eq_true rfl)
def g_X0_first_2 : Nat → cS → Int32 → Int32 → Option (mO × cS)
  | 0, _, _, _ => none
  | f9 + 1, X, b1, b2 => if ((8) : Int32) ≤ ((b2) : Int32) then (some (.inl (some (.int ((-1)))), X)) else (bI (g_X0_hold X (b2)) (fun v10 X10 => if ((v10) : Int32) = 0 then (g_X0_first_2 f9 X10 (b1) (b2 + 1)) else (bI (g_X0_heightOf X10 (b2)) (fun v18 X18 => if ((v18) : Int32) < ((b1) : Int32) then (bV (g_X0_leave X18 (1)) (fun X33 => if ((0) : Int32) = 0 then (g_X0_first_2 f9 X33 (b1) (b2 + 1)) else (some (.inl (some (.int (b2))), X33)))) else (bV (g_X0_leave X18 (1)) (fun X33 => if ((1) : Int32) = 0 then (g_X0_first_2 f9 X33 (b1) (b2 + 1)) else (some (.inl (some (.int (b2))), X33))))))))
set_option maxRecDepth 100000 in
set_option maxHeartbeats 4000000 in
theorem FL_X0_first_2 {S : Nat × (Nat → Int32)} {T : mH} : ∀ (f9 : Nat) (X : cS) (b1 b2 : Int32) (o9 : mO) (R9 : cS), g_X0_first_2 f9 X b1 b2 = some (o9, R9) → mF S MX0_first 2 [some (.ref 0), some (.int (b1)), some (.int (b2)), none] [] (xw X T) 0 0 (o9, (xw R9 T), 0, 0) := by
  intro f9
  induction f9 with
  | zero => intro X b1 b2 o9 R9 h; cases h
  | succ f9 ih9 =>
    intro X b1 b2 o9 R9 h
    rw [g_X0_first_2] at h
    refine mr_iload_n (pc := 2) (x := b2) rfl rfl ?_
    refine mr_bipush (pc := 3) (v := 8) rfl (by decide) ?_
    refine mr_icmp_ge (pc := 5) 48 rfl (by decide) (fun c5 => ?_) (fun c5 => ?_)
    · have h := (if_pos c5).symm.trans h
      refine mr_iconst (pc := 48) (v := -1) rfl (by decide) ?_
      cases h; exact mr_ireturn (pc := 49) rfl rfl (Nat.le_of_ble_eq_true rfl) (Nat.le_of_ble_eq_true rfl)
    · have h := (if_neg c5).symm.trans h
      refine mr_aload_n (pc := 8) (x := 0) rfl rfl ?_
      refine mr_iload_n (pc := 9) (x := b2) rfl rfl ?_
      rcases bI_inv h with ⟨v10, X10, hc10, h⟩ | ⟨E10, X10, hc10, hr⟩
      · refine mr_ret (mRunV (pc := 10) (q := 0) (As := [.int (b2)]) (rest := []) rfl lkRX0_112 rfl rfl rfl (Nat.le_of_ble_eq_true rfl) (Nat.le_of_ble_eq_true rfl) (F_X0_hold hc10)) rfl (Nat.le_of_ble_eq_true rfl) (Nat.le_of_ble_eq_true rfl) ?_
        refine mr_if_eq (pc := 13) 42 rfl (by decide) (fun c13 => ?_) (fun c13 => ?_)
        · have h := (if_pos c13).symm.trans h
          refine ms_iinc (pc := 42) (x := b2) (v := 1) (L' := [some (.ref 0), some (.int (b1)), some (.int (b2 + 1)), none]) rfl rfl (by decide) (by decide) rfl rfl ?_
          refine mr_goto (pc := 45) 2 rfl (by decide) ?_
          exact ih9 _ _ _ _ _ h
        · have h := (if_neg c13).symm.trans h
          refine mr_aload_n (pc := 16) (x := 0) rfl rfl ?_
          refine mr_iload_n (pc := 17) (x := b2) rfl rfl ?_
          rcases bI_inv h with ⟨v18, X18, hc18, h⟩ | ⟨E18, X18, hc18, hr⟩
          · refine mr_ret (mRunV (pc := 18) (q := 0) (As := [.int (b2)]) (rest := []) rfl lkRX0_115 rfl rfl rfl (Nat.le_of_ble_eq_true rfl) (Nat.le_of_ble_eq_true rfl) (F_X0_heightOf hc18)) rfl (Nat.le_of_ble_eq_true rfl) (Nat.le_of_ble_eq_true rfl) ?_
            refine mr_iload_n (pc := 21) (x := b1) rfl rfl ?_
            refine mr_icmp_lt (pc := 22) 29 rfl (by decide) (fun c22 => ?_) (fun c22 => ?_)
            · have h := (if_pos c22).symm.trans h
              refine mr_iconst (pc := 29) (v := 0) rfl (by decide) ?_
              refine ms_istore_n (pc := 30) (L' := [some (.ref 0), some (.int (b1)), some (.int (b2)), some (.int (0))]) rfl (by decide) rfl rfl ?_
              refine mr_aload_n (pc := 31) (x := 0) rfl rfl ?_
              refine mr_iconst (pc := 32) (v := 1) rfl (by decide) ?_
              rcases bV_inv h with ⟨X33, hc33, h⟩ | ⟨E33, X33, hc33, hr⟩
              · refine mr_ret (mRunV (pc := 33) (q := 0) (As := [.int (1)]) (rest := []) rfl lkRX0_118 rfl rfl rfl (Nat.le_of_ble_eq_true rfl) (Nat.le_of_ble_eq_true rfl) (F_X0_leave hc33)) rfl (Nat.le_of_ble_eq_true rfl) (Nat.le_of_ble_eq_true rfl) ?_
                refine mr_iload_n (pc := 36) (x := 0) rfl rfl ?_
                refine mr_if_eq (pc := 37) 42 rfl (by decide) (fun c37 => ?_) (fun c37 => ?_)
                · have h := (if_pos c37).symm.trans h
                  refine ms_iinc (pc := 42) (x := b2) (v := 1) (L' := [some (.ref 0), some (.int (b1)), some (.int (b2 + 1)), some (.int (0))]) rfl rfl (by decide) (by decide) rfl rfl ?_
                  refine mr_goto (pc := 45) 2 rfl (by decide) ?_
                  refine ms_drop (i := 3) (L' := [some (.ref 0), some (.int (b1)), some (.int (b2 + 1)), none]) rfl ?_
                  exact ih9 _ _ _ _ _ h
                · have h := (if_neg c37).symm.trans h
                  refine mr_iload_n (pc := 40) (x := b2) rfl rfl ?_
                  cases h; exact mr_ireturn (pc := 41) rfl rfl (Nat.le_of_ble_eq_true rfl) (Nat.le_of_ble_eq_true rfl)
              · cases hr; exact mr_thrown (mRunV (pc := 33) (q := 0) (As := [.int (1)]) (rest := []) rfl lkRX0_118 rfl rfl rfl (Nat.le_of_ble_eq_true rfl) (Nat.le_of_ble_eq_true rfl) (F_X0_leave hc33)) rfl rfl (Nat.le_of_ble_eq_true rfl) (Nat.le_of_ble_eq_true rfl)
            · have h := (if_neg c22).symm.trans h
              refine mr_iconst (pc := 25) (v := 1) rfl (by decide) ?_
              refine mr_goto (pc := 26) 30 rfl (by decide) ?_
              refine ms_istore_n (pc := 30) (L' := [some (.ref 0), some (.int (b1)), some (.int (b2)), some (.int (1))]) rfl (by decide) rfl rfl ?_
              refine mr_aload_n (pc := 31) (x := 0) rfl rfl ?_
              refine mr_iconst (pc := 32) (v := 1) rfl (by decide) ?_
              rcases bV_inv h with ⟨X33, hc33, h⟩ | ⟨E33, X33, hc33, hr⟩
              · refine mr_ret (mRunV (pc := 33) (q := 0) (As := [.int (1)]) (rest := []) rfl lkRX0_118 rfl rfl rfl (Nat.le_of_ble_eq_true rfl) (Nat.le_of_ble_eq_true rfl) (F_X0_leave hc33)) rfl (Nat.le_of_ble_eq_true rfl) (Nat.le_of_ble_eq_true rfl) ?_
                refine mr_iload_n (pc := 36) (x := 1) rfl rfl ?_
                refine mr_if_eq (pc := 37) 42 rfl (by decide) (fun c37 => ?_) (fun c37 => ?_)
                · have h := (if_pos c37).symm.trans h
                  refine ms_iinc (pc := 42) (x := b2) (v := 1) (L' := [some (.ref 0), some (.int (b1)), some (.int (b2 + 1)), some (.int (1))]) rfl rfl (by decide) (by decide) rfl rfl ?_
                  refine mr_goto (pc := 45) 2 rfl (by decide) ?_
                  refine ms_drop (i := 3) (L' := [some (.ref 0), some (.int (b1)), some (.int (b2 + 1)), none]) rfl ?_
                  exact ih9 _ _ _ _ _ h
                · have h := (if_neg c37).symm.trans h
                  refine mr_iload_n (pc := 40) (x := b2) rfl rfl ?_
                  cases h; exact mr_ireturn (pc := 41) rfl rfl (Nat.le_of_ble_eq_true rfl) (Nat.le_of_ble_eq_true rfl)
              · cases hr; exact mr_thrown (mRunV (pc := 33) (q := 0) (As := [.int (1)]) (rest := []) rfl lkRX0_118 rfl rfl rfl (Nat.le_of_ble_eq_true rfl) (Nat.le_of_ble_eq_true rfl) (F_X0_leave hc33)) rfl rfl (Nat.le_of_ble_eq_true rfl) (Nat.le_of_ble_eq_true rfl)
          · cases hr; exact mr_thrown (mRunV (pc := 18) (q := 0) (As := [.int (b2)]) (rest := []) rfl lkRX0_115 rfl rfl rfl (Nat.le_of_ble_eq_true rfl) (Nat.le_of_ble_eq_true rfl) (F_X0_heightOf hc18)) rfl rfl (Nat.le_of_ble_eq_true rfl) (Nat.le_of_ble_eq_true rfl)
      · cases hr; exact mr_thrown (mRunV (pc := 10) (q := 0) (As := [.int (b2)]) (rest := []) rfl lkRX0_112 rfl rfl rfl (Nat.le_of_ble_eq_true rfl) (Nat.le_of_ble_eq_true rfl) (F_X0_hold hc10)) rfl rfl (Nat.le_of_ble_eq_true rfl) (Nat.le_of_ble_eq_true rfl)
def g_X0_first (X : cS) (a1 : Int32) : Option (mO × cS) := g_X0_first_2 mK X (a1) (0)
set_option maxRecDepth 100000 in
set_option maxHeartbeats 4000000 in
theorem F_X0_first {S : Nat × (Nat → Int32)} {T : mH} {X R9 : cS} {o9 : mO} {a1 : Int32} (h : g_X0_first X a1 = some (o9, R9)) : mF S MX0_first 0 (mEnt [.ref 0, .int a1] 4) [] (xw X T) 0 0 (o9, (xw R9 T), 0, 0) := by
  unfold g_X0_first at h
  refine mr_iconst (pc := 0) (v := 0) rfl (by decide) ?_
  refine ms_istore_n (pc := 1) (L' := [some (.ref 0), some (.int (a1)), some (.int (0)), none]) rfl (by decide) rfl rfl ?_
  exact FL_X0_first_2 mK _ _ _ _ _ h
def g_X0_pool (X : cS) (a1 a2 : Int32) : Option (mO × cS) := cV (g_X0_checkPool (a1)) X (bI (g_X0_isDug X (a1)) (fun v6 X6 => if ((v6) : Int32) = 0 then (some (.inr xN, X6)) else (if ((a2) : Int32) = 0 then (if vpb (a1) 8 then (some (.inl (some (.int ((X6.1) ((a1) : Int32).toNatClampNeg))), X6)) else none) else (if ((a2) : Int32) = 1 then (if vpb (a1) 8 then (some (.inl (some (.int ((X6.2.1) ((a1) : Int32).toNatClampNeg))), X6)) else none) else (if ((a2) : Int32) = 2 then (bI (g_X0_heightOf X6 (a1)) (fun v72 X72 => some (.inl (some (.int (v72))), X72))) else (if ((a2) : Int32) = 3 then (bI (g_X0_boatsIn X6 (a1)) (fun v78 X78 => some (.inl (some (.int (v78))), X78))) else (if ((a2) : Int32) = 4 then (if vpb (a1) 8 then (some (.inl (some (.int ((X6.2.2.1) ((a1) : Int32).toNatClampNeg))), X6)) else none) else (some (.inl (some (.int ((-1)))), X6)))))))))
set_option maxRecDepth 100000 in
set_option maxHeartbeats 4000000 in
theorem F_X0_pool {S : Nat × (Nat → Int32)} {T : mH} {X R9 : cS} {o9 : mO} {a1 a2 : Int32} (h : g_X0_pool X a1 a2 = some (o9, R9)) : mF S MX0_pool 0 (mEnt [.ref 0, .int a1, .int a2] 3) [] (xw X T) 0 0 (o9, (xw R9 T), 2, 16) := by
  unfold g_X0_pool at h
  refine mr_iload_n (pc := 0) (x := a1) rfl rfl ?_
  rcases cV_inv h with ⟨hc1, h⟩ | ⟨E1, hc1, hr⟩
  · refine mr_ret (mRunS (pc := 1) (As := [.int (a1)]) (rest := []) rfl lkRX0_34 rfl (Nat.le_of_ble_eq_true rfl) (Nat.le_of_ble_eq_true rfl) (F_X0_checkPool hc1)) rfl (Nat.le_of_ble_eq_true rfl) (Nat.le_of_ble_eq_true rfl) ?_
    refine mr_aload_n (pc := 4) (x := 0) rfl rfl ?_
    refine mr_iload_n (pc := 5) (x := a1) rfl rfl ?_
    rcases bI_inv h with ⟨v6, X6, hc6, h⟩ | ⟨E6, X6, hc6, hr⟩
    · refine mr_ret (mRunV (pc := 6) (q := 0) (As := [.int (a1)]) (rest := []) rfl lkRX0_42 rfl rfl rfl (Nat.le_of_ble_eq_true rfl) (Nat.le_of_ble_eq_true rfl) (F_X0_isDug hc6)) rfl (Nat.le_of_ble_eq_true rfl) (Nat.le_of_ble_eq_true rfl) ?_
      refine mr_if_ne (pc := 9) 22 rfl (by decide) (fun c9 => ?_) (fun c9 => ?_)
      · have h := (if_neg c9).symm.trans h
        refine mr_iload_n (pc := 22) (x := a2) rfl rfl ?_
        by_cases c23_0 : ((a2) : Int32) = 0
        · have h := (if_pos c23_0).symm.trans h
          refine mr_tabIn (pc := 23) 56 rfl (by rw [c23_0]; decide) (by rw [c23_0]; decide) (by rw [c23_0]; rfl) (by decide) ?_
          refine mr_aload_n (pc := 56) (x := 0) rfl rfl ?_
          refine mr_getfield (pc := 57) (v := .ref 1) rfl lfRX0_9 rfl rfl ?_
          refine mr_iload_n (pc := 60) (x := a1) rfl rfl ?_
          obtain ⟨g61, h⟩ := m_gd h
          refine mr_iaload (pc := 61) (f := X6.1) rfl rfl (vpb_in g61) ?_
          cases h; exact mr_ireturn (pc := 62) rfl rfl (Nat.le_of_ble_eq_true rfl) (Nat.le_of_ble_eq_true rfl)
        · have h := (if_neg c23_0).symm.trans h
          by_cases c23_1 : ((a2) : Int32) = 1
          · have h := (if_pos c23_1).symm.trans h
            refine mr_tabIn (pc := 23) 63 rfl (by rw [c23_1]; decide) (by rw [c23_1]; decide) (by rw [c23_1]; rfl) (by decide) ?_
            refine mr_aload_n (pc := 63) (x := 0) rfl rfl ?_
            refine mr_getfield (pc := 64) (v := .ref 2) rfl lfRX0_13 rfl rfl ?_
            refine mr_iload_n (pc := 67) (x := a1) rfl rfl ?_
            obtain ⟨g68, h⟩ := m_gd h
            refine mr_iaload (pc := 68) (f := X6.2.1) rfl rfl (vpb_in g68) ?_
            cases h; exact mr_ireturn (pc := 69) rfl rfl (Nat.le_of_ble_eq_true rfl) (Nat.le_of_ble_eq_true rfl)
          · have h := (if_neg c23_1).symm.trans h
            by_cases c23_2 : ((a2) : Int32) = 2
            · have h := (if_pos c23_2).symm.trans h
              refine mr_tabIn (pc := 23) 70 rfl (by rw [c23_2]; decide) (by rw [c23_2]; decide) (by rw [c23_2]; rfl) (by decide) ?_
              refine mr_aload_n (pc := 70) (x := 0) rfl rfl ?_
              refine mr_iload_n (pc := 71) (x := a1) rfl rfl ?_
              rcases bI_inv h with ⟨v72, X72, hc72, h⟩ | ⟨E72, X72, hc72, hr⟩
              · refine mr_ret (mRunV (pc := 72) (q := 0) (As := [.int (a1)]) (rest := []) rfl lkRX0_115 rfl rfl rfl (Nat.le_of_ble_eq_true rfl) (Nat.le_of_ble_eq_true rfl) (F_X0_heightOf hc72)) rfl (Nat.le_of_ble_eq_true rfl) (Nat.le_of_ble_eq_true rfl) ?_
                cases h; exact mr_ireturn (pc := 75) rfl rfl (Nat.le_of_ble_eq_true rfl) (Nat.le_of_ble_eq_true rfl)
              · cases hr; exact mr_thrown (mRunV (pc := 72) (q := 0) (As := [.int (a1)]) (rest := []) rfl lkRX0_115 rfl rfl rfl (Nat.le_of_ble_eq_true rfl) (Nat.le_of_ble_eq_true rfl) (F_X0_heightOf hc72)) rfl rfl (Nat.le_of_ble_eq_true rfl) (Nat.le_of_ble_eq_true rfl)
            · have h := (if_neg c23_2).symm.trans h
              by_cases c23_3 : ((a2) : Int32) = 3
              · have h := (if_pos c23_3).symm.trans h
                refine mr_tabIn (pc := 23) 76 rfl (by rw [c23_3]; decide) (by rw [c23_3]; decide) (by rw [c23_3]; rfl) (by decide) ?_
                refine mr_aload_n (pc := 76) (x := 0) rfl rfl ?_
                refine mr_iload_n (pc := 77) (x := a1) rfl rfl ?_
                rcases bI_inv h with ⟨v78, X78, hc78, h⟩ | ⟨E78, X78, hc78, hr⟩
                · refine mr_ret (mRunV (pc := 78) (q := 0) (As := [.int (a1)]) (rest := []) rfl lkRX0_126 rfl rfl rfl (Nat.le_of_ble_eq_true rfl) (Nat.le_of_ble_eq_true rfl) (F_X0_boatsIn hc78)) rfl (Nat.le_of_ble_eq_true rfl) (Nat.le_of_ble_eq_true rfl) ?_
                  cases h; exact mr_ireturn (pc := 81) rfl rfl (Nat.le_of_ble_eq_true rfl) (Nat.le_of_ble_eq_true rfl)
                · cases hr; exact mr_thrown (mRunV (pc := 78) (q := 0) (As := [.int (a1)]) (rest := []) rfl lkRX0_126 rfl rfl rfl (Nat.le_of_ble_eq_true rfl) (Nat.le_of_ble_eq_true rfl) (F_X0_boatsIn hc78)) rfl rfl (Nat.le_of_ble_eq_true rfl) (Nat.le_of_ble_eq_true rfl)
              · have h := (if_neg c23_3).symm.trans h
                by_cases c23_4 : ((a2) : Int32) = 4
                · have h := (if_pos c23_4).symm.trans h
                  refine mr_tabIn (pc := 23) 82 rfl (by rw [c23_4]; decide) (by rw [c23_4]; decide) (by rw [c23_4]; rfl) (by decide) ?_
                  refine mr_aload_n (pc := 82) (x := 0) rfl rfl ?_
                  refine mr_getfield (pc := 83) (v := .ref 3) rfl lfRX0_16 rfl rfl ?_
                  refine mr_iload_n (pc := 86) (x := a1) rfl rfl ?_
                  obtain ⟨g87, h⟩ := m_gd h
                  refine mr_iaload (pc := 87) (f := X6.2.2.1) rfl rfl (vpb_in g87) ?_
                  cases h; exact mr_ireturn (pc := 88) rfl rfl (Nat.le_of_ble_eq_true rfl) (Nat.le_of_ble_eq_true rfl)
                · have h := (if_neg c23_4).symm.trans h
                  refine mr_tabOut (pc := 23) 89 rfl (m_tabOut _ _ _ (fun c h1 h2 => by rcases (show c = 0 ∨ c = 1 ∨ c = 2 ∨ c = 3 ∨ c = 4 by omega) with rfl | rfl | rfl | rfl | rfl <;> assumption)) (by decide) ?_
                  refine mr_iconst (pc := 89) (v := -1) rfl (by decide) ?_
                  cases h; exact mr_ireturn (pc := 90) rfl rfl (Nat.le_of_ble_eq_true rfl) (Nat.le_of_ble_eq_true rfl)
      · have h := (if_pos c9).symm.trans h
        cases h; exact mr_throwN (pc := 12) (text := "the pool is not dug") rfl rfl rfl rfl rfl rfl rfl rfl (by decide +kernel) rfl (by decide) (by decide) (Nat.le_of_ble_eq_true rfl) (Nat.le_of_ble_eq_true rfl)
    · cases hr; exact mr_thrown (mRunV (pc := 6) (q := 0) (As := [.int (a1)]) (rest := []) rfl lkRX0_42 rfl rfl rfl (Nat.le_of_ble_eq_true rfl) (Nat.le_of_ble_eq_true rfl) (F_X0_isDug hc6)) rfl rfl (Nat.le_of_ble_eq_true rfl) (Nat.le_of_ble_eq_true rfl)
  · cases hr; exact mr_thrown (mRunS (pc := 1) (As := [.int (a1)]) (rest := []) rfl lkRX0_34 rfl (Nat.le_of_ble_eq_true rfl) (Nat.le_of_ble_eq_true rfl) (F_X0_checkPool hc1)) rfl rfl (Nat.le_of_ble_eq_true rfl) (Nat.le_of_ble_eq_true rfl)
def g_X0_where (X : cS) (a1 : Int32) : Option (mO × cS) := cV (g_X0_checkBoat (a1)) X (if vpb (a1) 10 then (some (.inl (some (.int ((X.2.2.2.2.2.1) ((a1) : Int32).toNatClampNeg))), X)) else none)
set_option maxRecDepth 100000 in
set_option maxHeartbeats 4000000 in
theorem F_X0_where {S : Nat × (Nat → Int32)} {T : mH} {X R9 : cS} {o9 : mO} {a1 : Int32} (h : g_X0_where X a1 = some (o9, R9)) : mF S MX0_where 0 (mEnt [.ref 0, .int a1] 2) [] (xw X T) 0 0 (o9, (xw R9 T), 1, 8) := by
  unfold g_X0_where at h
  refine mr_iload_n (pc := 0) (x := a1) rfl rfl ?_
  rcases cV_inv h with ⟨hc1, h⟩ | ⟨E1, hc1, hr⟩
  · refine mr_ret (mRunS (pc := 1) (As := [.int (a1)]) (rest := []) rfl lkRX0_67 rfl (Nat.le_of_ble_eq_true rfl) (Nat.le_of_ble_eq_true rfl) (F_X0_checkBoat hc1)) rfl (Nat.le_of_ble_eq_true rfl) (Nat.le_of_ble_eq_true rfl) ?_
    refine mr_aload_n (pc := 4) (x := 0) rfl rfl ?_
    refine mr_getfield (pc := 5) (v := .ref 6) rfl lfRX0_25 rfl rfl ?_
    refine mr_iload_n (pc := 8) (x := a1) rfl rfl ?_
    obtain ⟨g9, h⟩ := m_gd h
    refine mr_iaload (pc := 9) (f := X.2.2.2.2.2.1) rfl rfl (vpb_in g9) ?_
    cases h; exact mr_ireturn (pc := 10) rfl rfl (Nat.le_of_ble_eq_true rfl) (Nat.le_of_ble_eq_true rfl)
  · cases hr; exact mr_thrown (mRunS (pc := 1) (As := [.int (a1)]) (rest := []) rfl lkRX0_67 rfl (Nat.le_of_ble_eq_true rfl) (Nat.le_of_ble_eq_true rfl) (F_X0_checkBoat hc1)) rfl rfl (Nat.le_of_ble_eq_true rfl) (Nat.le_of_ble_eq_true rfl)
def g_X0_countDug_4 : Nat → cS → Int32 → Int32 → Option (mO × cS)
  | 0, _, _, _ => none
  | f9 + 1, X, b1, b2 => if ((8) : Int32) ≤ ((b2) : Int32) then (some (.inl (some (.int (b1))), X)) else (bI (g_X0_isDug X (b2)) (fun v12 X12 => if ((v12) : Int32) = 0 then (g_X0_countDug_4 f9 X12 (b1) (b2 + 1)) else (g_X0_countDug_4 f9 X12 (b1 + 1) (b2 + 1))))
set_option maxRecDepth 100000 in
set_option maxHeartbeats 4000000 in
theorem FL_X0_countDug_4 {S : Nat × (Nat → Int32)} {T : mH} : ∀ (f9 : Nat) (X : cS) (b1 b2 : Int32) (o9 : mO) (R9 : cS), g_X0_countDug_4 f9 X b1 b2 = some (o9, R9) → mF S MX0_countDug 4 [some (.ref 0), some (.int (b1)), some (.int (b2))] [] (xw X T) 0 0 (o9, (xw R9 T), 0, 0) := by
  intro f9
  induction f9 with
  | zero => intro X b1 b2 o9 R9 h; cases h
  | succ f9 ih9 =>
    intro X b1 b2 o9 R9 h
    rw [g_X0_countDug_4] at h
    refine mr_iload_n (pc := 4) (x := b2) rfl rfl ?_
    refine mr_bipush (pc := 5) (v := 8) rfl (by decide) ?_
    refine mr_icmp_ge (pc := 7) 27 rfl (by decide) (fun c7 => ?_) (fun c7 => ?_)
    · have h := (if_pos c7).symm.trans h
      refine mr_iload_n (pc := 27) (x := b1) rfl rfl ?_
      cases h; exact mr_ireturn (pc := 28) rfl rfl (Nat.le_of_ble_eq_true rfl) (Nat.le_of_ble_eq_true rfl)
    · have h := (if_neg c7).symm.trans h
      refine mr_aload_n (pc := 10) (x := 0) rfl rfl ?_
      refine mr_iload_n (pc := 11) (x := b2) rfl rfl ?_
      rcases bI_inv h with ⟨v12, X12, hc12, h⟩ | ⟨E12, X12, hc12, hr⟩
      · refine mr_ret (mRunV (pc := 12) (q := 0) (As := [.int (b2)]) (rest := []) rfl lkRX0_42 rfl rfl rfl (Nat.le_of_ble_eq_true rfl) (Nat.le_of_ble_eq_true rfl) (F_X0_isDug hc12)) rfl (Nat.le_of_ble_eq_true rfl) (Nat.le_of_ble_eq_true rfl) ?_
        refine mr_if_eq (pc := 15) 21 rfl (by decide) (fun c15 => ?_) (fun c15 => ?_)
        · have h := (if_pos c15).symm.trans h
          refine ms_iinc (pc := 21) (x := b2) (v := 1) (L' := [some (.ref 0), some (.int (b1)), some (.int (b2 + 1))]) rfl rfl (by decide) (by decide) rfl rfl ?_
          refine mr_goto (pc := 24) 4 rfl (by decide) ?_
          exact ih9 _ _ _ _ _ h
        · have h := (if_neg c15).symm.trans h
          refine ms_iinc (pc := 18) (x := b1) (v := 1) (L' := [some (.ref 0), some (.int (b1 + 1)), some (.int (b2))]) rfl rfl (by decide) (by decide) rfl rfl ?_
          refine ms_iinc (pc := 21) (x := b2) (v := 1) (L' := [some (.ref 0), some (.int (b1 + 1)), some (.int (b2 + 1))]) rfl rfl (by decide) (by decide) rfl rfl ?_
          refine mr_goto (pc := 24) 4 rfl (by decide) ?_
          exact ih9 _ _ _ _ _ h
      · cases hr; exact mr_thrown (mRunV (pc := 12) (q := 0) (As := [.int (b2)]) (rest := []) rfl lkRX0_42 rfl rfl rfl (Nat.le_of_ble_eq_true rfl) (Nat.le_of_ble_eq_true rfl) (F_X0_isDug hc12)) rfl rfl (Nat.le_of_ble_eq_true rfl) (Nat.le_of_ble_eq_true rfl)
def g_X0_countDug (X : cS) : Option (mO × cS) := g_X0_countDug_4 mK X (0) (0)
set_option maxRecDepth 100000 in
set_option maxHeartbeats 4000000 in
theorem F_X0_countDug {S : Nat × (Nat → Int32)} {T : mH} {X R9 : cS} {o9 : mO} (h : g_X0_countDug X  = some (o9, R9)) : mF S MX0_countDug 0 (mEnt [.ref 0] 3) [] (xw X T) 0 0 (o9, (xw R9 T), 0, 0) := by
  unfold g_X0_countDug at h
  refine mr_iconst (pc := 0) (v := 0) rfl (by decide) ?_
  refine ms_istore_n (pc := 1) (L' := [some (.ref 0), some (.int (0)), none]) rfl (by decide) rfl rfl ?_
  refine mr_iconst (pc := 2) (v := 0) rfl (by decide) ?_
  refine ms_istore_n (pc := 3) (L' := [some (.ref 0), some (.int (0)), some (.int (0))]) rfl (by decide) rfl rfl ?_
  exact FL_X0_countDug_4 mK _ _ _ _ _ h
def g_X0_told (X : cS) (a1 : Int32) : Option (mO × cS) := if ((a1) : Int32) = 0 then (some (.inl (some (.int (X.2.2.2.2.2.2.2.2.2))), X)) else (if ((a1) : Int32) = 1 then (some (.inl (some (.int (X.2.2.2.2.2.2.2.2.1))), X)) else (if ((a1) : Int32) = 2 then (bI (g_X0_countDug X ) (fun v43 X43 => some (.inl (some (.int (v43))), X43))) else (if ((a1) : Int32) = 3 then (cI (g_X0_sum (X.2.1) 8 (0) (7)) X (fun v54 => some (.inl (some (.int (v54))), X))) else (some (.inl (some (.int ((-1)))), X)))))
set_option maxRecDepth 100000 in
set_option maxHeartbeats 4000000 in
theorem F_X0_told {S : Nat × (Nat → Int32)} {T : mH} {X R9 : cS} {o9 : mO} {a1 : Int32} (h : g_X0_told X a1 = some (o9, R9)) : mF S MX0_told 0 (mEnt [.ref 0, .int a1] 2) [] (xw X T) 0 0 (o9, (xw R9 T), 0, 0) := by
  unfold g_X0_told at h
  refine mr_iload_n (pc := 0) (x := a1) rfl rfl ?_
  by_cases c1_0 : ((a1) : Int32) = 0
  · have h := (if_pos c1_0).symm.trans h
    refine mr_tabIn (pc := 1) 32 rfl (by rw [c1_0]; decide) (by rw [c1_0]; decide) (by rw [c1_0]; rfl) (by decide) ?_
    refine mr_aload_n (pc := 32) (x := 0) rfl rfl ?_
    refine mr_getfield (pc := 33) (v := .int (X.2.2.2.2.2.2.2.2.2)) rfl lfRX0_129 rfl rfl ?_
    cases h; exact mr_ireturn (pc := 36) rfl rfl (Nat.le_of_ble_eq_true rfl) (Nat.le_of_ble_eq_true rfl)
  · have h := (if_neg c1_0).symm.trans h
    by_cases c1_1 : ((a1) : Int32) = 1
    · have h := (if_pos c1_1).symm.trans h
      refine mr_tabIn (pc := 1) 37 rfl (by rw [c1_1]; decide) (by rw [c1_1]; decide) (by rw [c1_1]; rfl) (by decide) ?_
      refine mr_aload_n (pc := 37) (x := 0) rfl rfl ?_
      refine mr_getfield (pc := 38) (v := .int (X.2.2.2.2.2.2.2.2.1)) rfl lfRX0_133 rfl rfl ?_
      cases h; exact mr_ireturn (pc := 41) rfl rfl (Nat.le_of_ble_eq_true rfl) (Nat.le_of_ble_eq_true rfl)
    · have h := (if_neg c1_1).symm.trans h
      by_cases c1_2 : ((a1) : Int32) = 2
      · have h := (if_pos c1_2).symm.trans h
        refine mr_tabIn (pc := 1) 42 rfl (by rw [c1_2]; decide) (by rw [c1_2]; decide) (by rw [c1_2]; rfl) (by decide) ?_
        refine mr_aload_n (pc := 42) (x := 0) rfl rfl ?_
        rcases bI_inv h with ⟨v43, X43, hc43, h⟩ | ⟨E43, X43, hc43, hr⟩
        · refine mr_ret (mRunV (pc := 43) (q := 0) (As := []) (rest := []) rfl lkRX0_136 rfl rfl rfl (Nat.le_of_ble_eq_true rfl) (Nat.le_of_ble_eq_true rfl) (F_X0_countDug hc43)) rfl (Nat.le_of_ble_eq_true rfl) (Nat.le_of_ble_eq_true rfl) ?_
          cases h; exact mr_ireturn (pc := 46) rfl rfl (Nat.le_of_ble_eq_true rfl) (Nat.le_of_ble_eq_true rfl)
        · cases hr; exact mr_thrown (mRunV (pc := 43) (q := 0) (As := []) (rest := []) rfl lkRX0_136 rfl rfl rfl (Nat.le_of_ble_eq_true rfl) (Nat.le_of_ble_eq_true rfl) (F_X0_countDug hc43)) rfl rfl (Nat.le_of_ble_eq_true rfl) (Nat.le_of_ble_eq_true rfl)
      · have h := (if_neg c1_2).symm.trans h
        by_cases c1_3 : ((a1) : Int32) = 3
        · have h := (if_pos c1_3).symm.trans h
          refine mr_tabIn (pc := 1) 47 rfl (by rw [c1_3]; decide) (by rw [c1_3]; decide) (by rw [c1_3]; rfl) (by decide) ?_
          refine mr_aload_n (pc := 47) (x := 0) rfl rfl ?_
          refine mr_getfield (pc := 48) (v := .ref 2) rfl lfRX0_13 rfl rfl ?_
          refine mr_iconst (pc := 51) (v := 0) rfl (by decide) ?_
          refine mr_bipush (pc := 52) (v := 7) rfl (by decide) ?_
          rcases cI_inv h with ⟨v54, hc54, h⟩ | ⟨E54, hc54, hr⟩
          · refine mr_ret (mRunS (pc := 54) (As := [.ref 2, .int (0), .int (7)]) (rest := []) rfl lkRX0_140 rfl (Nat.le_of_ble_eq_true rfl) (Nat.le_of_ble_eq_true rfl) (F_X0_sum (q := 2) (N := 8) rfl hc54)) rfl (Nat.le_of_ble_eq_true rfl) (Nat.le_of_ble_eq_true rfl) ?_
            cases h; exact mr_ireturn (pc := 57) rfl rfl (Nat.le_of_ble_eq_true rfl) (Nat.le_of_ble_eq_true rfl)
          · cases hr; exact mr_thrown (mRunS (pc := 54) (As := [.ref 2, .int (0), .int (7)]) (rest := []) rfl lkRX0_140 rfl (Nat.le_of_ble_eq_true rfl) (Nat.le_of_ble_eq_true rfl) (F_X0_sum (q := 2) (N := 8) rfl hc54)) rfl rfl (Nat.le_of_ble_eq_true rfl) (Nat.le_of_ble_eq_true rfl)
        · have h := (if_neg c1_3).symm.trans h
          refine mr_tabOut (pc := 1) 58 rfl (m_tabOut _ _ _ (fun c h1 h2 => by rcases (show c = 0 ∨ c = 1 ∨ c = 2 ∨ c = 3 by omega) with rfl | rfl | rfl | rfl <;> assumption)) (by decide) ?_
          refine mr_iconst (pc := 58) (v := -1) rfl (by decide) ?_
          cases h; exact mr_ireturn (pc := 59) rfl rfl (Nat.le_of_ble_eq_true rfl) (Nat.le_of_ble_eq_true rfl)
def g_X0_reset (X : cS) : Option (mO × cS) := some (.inl none, (afill (X.1) 8 (0), afill (X.2.1) 8 (0), afill (X.2.2.1) 8 (0), afill (X.2.2.2.1) 7 (5), afill (X.2.2.2.2.1) 10 (1), afill (X.2.2.2.2.2.1) 10 ((-1)), X.2.2.2.2.2.2.1, X.2.2.2.2.2.2.2.1, 0, 0))
set_option maxRecDepth 100000 in
set_option maxHeartbeats 4000000 in
theorem F_X0_reset {S : Nat × (Nat → Int32)} {T : mH} {X R9 : cS} {o9 : mO} (h : g_X0_reset X  = some (o9, R9)) : mF S MX0_reset 0 (mEnt [.ref 0] 1) [] (xw X T) 0 0 (o9, (xw R9 T), 0, 0) := by
  unfold g_X0_reset at h
  refine mr_aload_n (pc := 0) (x := 0) rfl rfl ?_
  refine mr_getfield (pc := 1) (v := .ref 1) rfl lfRX0_9 rfl rfl ?_
  refine mr_iconst (pc := 4) (v := 0) rfl (by decide) ?_
  refine mr_ret (mRunS (pc := 5) (As := [.ref 1, .int (0)]) (rest := []) rfl lkRX0_144 rfl (Nat.le_of_ble_eq_true rfl) (Nat.le_of_ble_eq_true rfl) (F_J7_fill (q := 1) (N := 8) (f := X.1) (h' := (xw (afill (X.1) 8 (0), X.2.1, X.2.2.1, X.2.2.2.1, X.2.2.2.2.1, X.2.2.2.2.2.1, X.2.2.2.2.2.2.1, X.2.2.2.2.2.2.2.1, X.2.2.2.2.2.2.2.2.1, X.2.2.2.2.2.2.2.2.2) T)) rfl (by decide) rfl)) rfl (Nat.le_of_ble_eq_true rfl) (Nat.le_of_ble_eq_true rfl) ?_
  refine mr_aload_n (pc := 8) (x := 0) rfl rfl ?_
  refine mr_getfield (pc := 9) (v := .ref 2) rfl lfRX0_13 rfl rfl ?_
  refine mr_iconst (pc := 12) (v := 0) rfl (by decide) ?_
  refine mr_ret (mRunS (pc := 13) (As := [.ref 2, .int (0)]) (rest := []) rfl lkRX0_144 rfl (Nat.le_of_ble_eq_true rfl) (Nat.le_of_ble_eq_true rfl) (F_J7_fill (q := 2) (N := 8) (f := X.2.1) (h' := (xw (afill (X.1) 8 (0), afill (X.2.1) 8 (0), X.2.2.1, X.2.2.2.1, X.2.2.2.2.1, X.2.2.2.2.2.1, X.2.2.2.2.2.2.1, X.2.2.2.2.2.2.2.1, X.2.2.2.2.2.2.2.2.1, X.2.2.2.2.2.2.2.2.2) T)) rfl (by decide) rfl)) rfl (Nat.le_of_ble_eq_true rfl) (Nat.le_of_ble_eq_true rfl) ?_
  refine mr_aload_n (pc := 16) (x := 0) rfl rfl ?_
  refine mr_getfield (pc := 17) (v := .ref 3) rfl lfRX0_16 rfl rfl ?_
  refine mr_iconst (pc := 20) (v := 0) rfl (by decide) ?_
  refine mr_ret (mRunS (pc := 21) (As := [.ref 3, .int (0)]) (rest := []) rfl lkRX0_144 rfl (Nat.le_of_ble_eq_true rfl) (Nat.le_of_ble_eq_true rfl) (F_J7_fill (q := 3) (N := 8) (f := X.2.2.1) (h' := (xw (afill (X.1) 8 (0), afill (X.2.1) 8 (0), afill (X.2.2.1) 8 (0), X.2.2.2.1, X.2.2.2.2.1, X.2.2.2.2.2.1, X.2.2.2.2.2.2.1, X.2.2.2.2.2.2.2.1, X.2.2.2.2.2.2.2.2.1, X.2.2.2.2.2.2.2.2.2) T)) rfl (by decide) rfl)) rfl (Nat.le_of_ble_eq_true rfl) (Nat.le_of_ble_eq_true rfl) ?_
  refine mr_aload_n (pc := 24) (x := 0) rfl rfl ?_
  refine mr_getfield (pc := 25) (v := .ref 4) rfl lfRX0_19 rfl rfl ?_
  refine mr_iconst (pc := 28) (v := 5) rfl (by decide) ?_
  refine mr_ret (mRunS (pc := 29) (As := [.ref 4, .int (5)]) (rest := []) rfl lkRX0_144 rfl (Nat.le_of_ble_eq_true rfl) (Nat.le_of_ble_eq_true rfl) (F_J7_fill (q := 4) (N := 7) (f := X.2.2.2.1) (h' := (xw (afill (X.1) 8 (0), afill (X.2.1) 8 (0), afill (X.2.2.1) 8 (0), afill (X.2.2.2.1) 7 (5), X.2.2.2.2.1, X.2.2.2.2.2.1, X.2.2.2.2.2.2.1, X.2.2.2.2.2.2.2.1, X.2.2.2.2.2.2.2.2.1, X.2.2.2.2.2.2.2.2.2) T)) rfl (by decide) rfl)) rfl (Nat.le_of_ble_eq_true rfl) (Nat.le_of_ble_eq_true rfl) ?_
  refine mr_aload_n (pc := 32) (x := 0) rfl rfl ?_
  refine mr_getfield (pc := 33) (v := .ref 5) rfl lfRX0_22 rfl rfl ?_
  refine mr_iconst (pc := 36) (v := 1) rfl (by decide) ?_
  refine mr_ret (mRunS (pc := 37) (As := [.ref 5, .int (1)]) (rest := []) rfl lkRX0_144 rfl (Nat.le_of_ble_eq_true rfl) (Nat.le_of_ble_eq_true rfl) (F_J7_fill (q := 5) (N := 10) (f := X.2.2.2.2.1) (h' := (xw (afill (X.1) 8 (0), afill (X.2.1) 8 (0), afill (X.2.2.1) 8 (0), afill (X.2.2.2.1) 7 (5), afill (X.2.2.2.2.1) 10 (1), X.2.2.2.2.2.1, X.2.2.2.2.2.2.1, X.2.2.2.2.2.2.2.1, X.2.2.2.2.2.2.2.2.1, X.2.2.2.2.2.2.2.2.2) T)) rfl (by decide) rfl)) rfl (Nat.le_of_ble_eq_true rfl) (Nat.le_of_ble_eq_true rfl) ?_
  refine mr_aload_n (pc := 40) (x := 0) rfl rfl ?_
  refine mr_getfield (pc := 41) (v := .ref 6) rfl lfRX0_25 rfl rfl ?_
  refine mr_iconst (pc := 44) (v := -1) rfl (by decide) ?_
  refine mr_ret (mRunS (pc := 45) (As := [.ref 6, .int ((-1))]) (rest := []) rfl lkRX0_144 rfl (Nat.le_of_ble_eq_true rfl) (Nat.le_of_ble_eq_true rfl) (F_J7_fill (q := 6) (N := 10) (f := X.2.2.2.2.2.1) (h' := (xw (afill (X.1) 8 (0), afill (X.2.1) 8 (0), afill (X.2.2.1) 8 (0), afill (X.2.2.2.1) 7 (5), afill (X.2.2.2.2.1) 10 (1), afill (X.2.2.2.2.2.1) 10 ((-1)), X.2.2.2.2.2.2.1, X.2.2.2.2.2.2.2.1, X.2.2.2.2.2.2.2.2.1, X.2.2.2.2.2.2.2.2.2) T)) rfl (by decide) rfl)) rfl (Nat.le_of_ble_eq_true rfl) (Nat.le_of_ble_eq_true rfl) ?_
  refine mr_aload_n (pc := 48) (x := 0) rfl rfl ?_
  refine mr_iconst (pc := 49) (v := 0) rfl (by decide) ?_
  refine ms_putfield (pc := 50) (h' := (xw (afill (X.1) 8 (0), afill (X.2.1) 8 (0), afill (X.2.2.1) 8 (0), afill (X.2.2.2.1) 7 (5), afill (X.2.2.2.2.1) 10 (1), afill (X.2.2.2.2.2.1) 10 ((-1)), X.2.2.2.2.2.2.1, X.2.2.2.2.2.2.2.1, 0, X.2.2.2.2.2.2.2.2.2) T)) rfl lfRX0_133 rfl (Nat.le_of_ble_eq_true rfl) (by intro q hq; cases hq; rfl) rfl ?_
  refine mr_aload_n (pc := 53) (x := 0) rfl rfl ?_
  refine mr_iconst (pc := 54) (v := 0) rfl (by decide) ?_
  refine ms_putfield (pc := 55) (h' := (xw (afill (X.1) 8 (0), afill (X.2.1) 8 (0), afill (X.2.2.1) 8 (0), afill (X.2.2.2.1) 7 (5), afill (X.2.2.2.2.1) 10 (1), afill (X.2.2.2.2.2.1) 10 ((-1)), X.2.2.2.2.2.2.1, X.2.2.2.2.2.2.2.1, 0, 0) T)) rfl lfRX0_129 rfl (Nat.le_of_ble_eq_true rfl) (by intro q hq; cases hq; rfl) rfl ?_
  cases h; exact mr_return (pc := 58) rfl rfl (Nat.le_of_ble_eq_true rfl) (Nat.le_of_ble_eq_true rfl)
def g_X0_clear (X : cS) : Option (mO × cS) := bI (g_X0_countDug X ) (fun v1 X1 => bV (g_X0_reset X1 ) (fun X6 => some (.inl (some (.int (v1))), X6)))
set_option maxRecDepth 100000 in
set_option maxHeartbeats 4000000 in
theorem F_X0_clear {S : Nat × (Nat → Int32)} {T : mH} {X R9 : cS} {o9 : mO} (h : g_X0_clear X  = some (o9, R9)) : mF S MX0_clear 0 (mEnt [.ref 0] 2) [] (xw X T) 0 0 (o9, (xw R9 T), 0, 0) := by
  unfold g_X0_clear at h
  refine mr_aload_n (pc := 0) (x := 0) rfl rfl ?_
  rcases bI_inv h with ⟨v1, X1, hc1, h⟩ | ⟨E1, X1, hc1, hr⟩
  · refine mr_ret (mRunV (pc := 1) (q := 0) (As := []) (rest := []) rfl lkRX0_136 rfl rfl rfl (Nat.le_of_ble_eq_true rfl) (Nat.le_of_ble_eq_true rfl) (F_X0_countDug hc1)) rfl (Nat.le_of_ble_eq_true rfl) (Nat.le_of_ble_eq_true rfl) ?_
    refine ms_istore_n (pc := 4) (L' := [some (.ref 0), some (.int (v1))]) rfl (by decide) rfl rfl ?_
    refine mr_aload_n (pc := 5) (x := 0) rfl rfl ?_
    rcases bV_inv h with ⟨X6, hc6, h⟩ | ⟨E6, X6, hc6, hr⟩
    · refine mr_ret (mRunV (pc := 6) (q := 0) (As := []) (rest := []) rfl lkRX0_31 rfl rfl rfl (Nat.le_of_ble_eq_true rfl) (Nat.le_of_ble_eq_true rfl) (F_X0_reset hc6)) rfl (Nat.le_of_ble_eq_true rfl) (Nat.le_of_ble_eq_true rfl) ?_
      refine mr_iload_n (pc := 9) (x := v1) rfl rfl ?_
      cases h; exact mr_ireturn (pc := 10) rfl rfl (Nat.le_of_ble_eq_true rfl) (Nat.le_of_ble_eq_true rfl)
    · cases hr; exact mr_thrown (mRunV (pc := 6) (q := 0) (As := []) (rest := []) rfl lkRX0_31 rfl rfl rfl (Nat.le_of_ble_eq_true rfl) (Nat.le_of_ble_eq_true rfl) (F_X0_reset hc6)) rfl rfl (Nat.le_of_ble_eq_true rfl) (Nat.le_of_ble_eq_true rfl)
  · cases hr; exact mr_thrown (mRunV (pc := 1) (q := 0) (As := []) (rest := []) rfl lkRX0_136 rfl rfl rfl (Nat.le_of_ble_eq_true rfl) (Nat.le_of_ble_eq_true rfl) (F_X0_countDug hc1)) rfl rfl (Nat.le_of_ble_eq_true rfl) (Nat.le_of_ble_eq_true rfl)
