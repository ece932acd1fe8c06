/-! THE METHODS OF X0 AS FUNCTIONS, by program (wip/whole/gencode.py) -/
def g_X0_checkPool (a0 : Int32) : Option mO := if ((a0) : Int32) < 0 then (some (.inr xA)) else (if ((a0) : Int32) < ((8) : Int32) then (some (.inl none)) else (some (.inr xA)))
set_option maxRecDepth 100000 in
set_option maxHeartbeats 4000000 in
theorem F_X0_checkPool {S : Nat × (Nat → Int32)} {hw : mH} {o9 : mO} {a0 : Int32} (h : g_X0_checkPool a0 = some o9) : mF S MX0_checkPool 0 (mEnt [.int a0] 1) [] hw 0 0 (o9, hw, 1, 8) := by
  unfold g_X0_checkPool at h
  refine mr_iload_n (pc := 0) (x := a0) rfl rfl ?_
  refine mr_if_lt (pc := 1) 10 rfl (by decide) (fun c1 => ?_) (fun c1 => ?_)
  · have h := (if_pos c1).symm.trans h
    cases h; exact mr_throw (pc := 10) rfl rfl rfl rfl rfl lt_152 rfl (by decide) (by decide) (Nat.le_of_ble_eq_true rfl) (Nat.le_of_ble_eq_true rfl)
  · have h := (if_neg c1).symm.trans h
    refine mr_iload_n (pc := 4) (x := a0) rfl rfl ?_
    refine mr_bipush (pc := 5) (v := 8) rfl (by decide) ?_
    refine mr_icmp_lt (pc := 7) 20 rfl (by decide) (fun c7 => ?_) (fun c7 => ?_)
    · have h := (if_pos c7).symm.trans h
      cases h; exact mr_return (pc := 20) rfl rfl (Nat.le_of_ble_eq_true rfl) (Nat.le_of_ble_eq_true rfl)
    · have h := (if_neg c7).symm.trans h
      cases h; exact mr_throw (pc := 10) rfl rfl rfl rfl rfl lt_152 rfl (by decide) (by decide) (Nat.le_of_ble_eq_true rfl) (Nat.le_of_ble_eq_true rfl)
def g_X0_checkRange (a0 a1 a2 : Int32) : Option mO := if ((a0) : Int32) < ((a1) : Int32) then (some (.inr xI)) else (if ((a0) : Int32) ≤ ((a2) : Int32) then (some (.inl none)) else (some (.inr xI)))
set_option maxRecDepth 100000 in
set_option maxHeartbeats 4000000 in
theorem F_X0_checkRange {S : Nat × (Nat → Int32)} {hw : mH} {o9 : mO} {a0 a1 a2 : Int32} (h : g_X0_checkRange a0 a1 a2 = some o9) : mF S MX0_checkRange 0 (mEnt [.int a0, .int a1, .int a2] 3) [] hw 0 0 (o9, hw, 1, 8) := by
  unfold g_X0_checkRange at h
  refine mr_iload_n (pc := 0) (x := a0) rfl rfl ?_
  refine mr_iload_n (pc := 1) (x := a1) rfl rfl ?_
  refine mr_icmp_lt (pc := 2) 10 rfl (by decide) (fun c2 => ?_) (fun c2 => ?_)
  · have h := (if_pos c2).symm.trans h
    cases h; exact mr_throw (pc := 10) rfl rfl rfl rfl rfl lt_156 rfl (by decide) (by decide) (Nat.le_of_ble_eq_true rfl) (Nat.le_of_ble_eq_true rfl)
  · have h := (if_neg c2).symm.trans h
    refine mr_iload_n (pc := 5) (x := a0) rfl rfl ?_
    refine mr_iload_n (pc := 6) (x := a2) rfl rfl ?_
    refine mr_icmp_le (pc := 7) 20 rfl (by decide) (fun c7 => ?_) (fun c7 => ?_)
    · have h := (if_pos c7).symm.trans h
      cases h; exact mr_return (pc := 20) rfl rfl (Nat.le_of_ble_eq_true rfl) (Nat.le_of_ble_eq_true rfl)
    · have h := (if_neg c7).symm.trans h
      cases h; exact mr_throw (pc := 10) rfl rfl rfl rfl rfl lt_156 rfl (by decide) (by decide) (Nat.le_of_ble_eq_true rfl) (Nat.le_of_ble_eq_true rfl)
def g_X0_isDug (X : cS) (a1 : Int32) : Option (mO × cS) := if vpb (a1) 8 then (if (((X.1) ((a1) : Int32).toNatClampNeg) : Int32) = 0 then (some (.inl (some (.int (0))), X)) else (some (.inl (some (.int (1))), X))) else none
set_option maxRecDepth 100000 in
set_option maxHeartbeats 4000000 in
theorem F_X0_isDug {S : Nat × (Nat → Int32)} {T : mH} {X R9 : cS} {o9 : mO} {a1 : Int32} (h : g_X0_isDug X a1 = some (o9, R9)) : mF S MX0_isDug 0 (mEnt [.ref 0, .int a1] 2) [] (xw X T) 0 0 (o9, (xw R9 T), 0, 0) := by
  unfold g_X0_isDug at h
  refine mr_aload_n (pc := 0) (x := 0) rfl rfl ?_
  refine mr_getfield (pc := 1) (v := .ref 1) rfl lfRX0_9 rfl rfl ?_
  refine mr_iload_n (pc := 4) (x := a1) rfl rfl ?_
  obtain ⟨g5, h⟩ := m_gd h
  refine mr_iaload (pc := 5) (f := X.1) rfl rfl (vpb_in g5) ?_
  refine mr_if_eq (pc := 6) 13 rfl (by decide) (fun c6 => ?_) (fun c6 => ?_)
  · have h := (if_pos c6).symm.trans h
    refine mr_iconst (pc := 13) (v := 0) rfl (by decide) ?_
    cases h; exact mr_zreturn (pc := 14) rfl rfl (Or.inl rfl) (Nat.le_of_ble_eq_true rfl) (Nat.le_of_ble_eq_true rfl)
  · have h := (if_neg c6).symm.trans h
    refine mr_iconst (pc := 9) (v := 1) rfl (by decide) ?_
    refine mr_goto (pc := 10) 14 rfl (by decide) ?_
    cases h; exact mr_zreturn (pc := 14) rfl rfl (Or.inr rfl) (Nat.le_of_ble_eq_true rfl) (Nat.le_of_ble_eq_true rfl)
def g_X0_dig (X : cS) (a1 a2 : Int32) : Option (mO × cS) := cV (g_X0_checkPool (a1)) X (cV (g_X0_checkRange (a2) (1) (9)) X (bI (g_X0_isDug X (a1)) (fun v13 X13 => if ((v13) : Int32) = 0 then (if vpb (a1) 8 then (some (.inl (some (.int (1))), (upd (X13.1) ((a1) : Int32).toNatClampNeg (a2), X13.2.1, X13.2.2.1, X13.2.2.2.1, X13.2.2.2.2.1, X13.2.2.2.2.2.1, X13.2.2.2.2.2.2.1, X13.2.2.2.2.2.2.2.1, X13.2.2.2.2.2.2.2.2.1, X13.2.2.2.2.2.2.2.2.2))) else none) else (some (.inl (some (.int (0))), X13)))))
set_option maxRecDepth 100000 in
set_option maxHeartbeats 4000000 in
theorem F_X0_dig {S : Nat × (Nat → Int32)} {T : mH} {X R9 : cS} {o9 : mO} {a1 a2 : Int32} (h : g_X0_dig X a1 a2 = some (o9, R9)) : mF S MX0_dig 0 (mEnt [.ref 0, .int a1, .int a2] 3) [] (xw X T) 0 0 (o9, (xw R9 T), 2, 16) := by
  unfold g_X0_dig at h
  refine mr_iload_n (pc := 0) (x := a1) rfl rfl ?_
  rcases cV_inv h with ⟨hc1, h⟩ | ⟨E1, hc1, hr⟩
  · refine mr_ret (mRunS (pc := 1) (As := [.int (a1)]) (rest := []) rfl lkRX0_34 rfl (Nat.le_of_ble_eq_true rfl) (Nat.le_of_ble_eq_true rfl) (F_X0_checkPool hc1)) rfl (Nat.le_of_ble_eq_true rfl) (Nat.le_of_ble_eq_true rfl) ?_
    refine mr_iload_n (pc := 4) (x := a2) rfl rfl ?_
    refine mr_iconst (pc := 5) (v := 1) rfl (by decide) ?_
    refine mr_bipush (pc := 6) (v := 9) rfl (by decide) ?_
    rcases cV_inv h with ⟨hc8, h⟩ | ⟨E8, hc8, hr⟩
    · refine mr_ret (mRunS (pc := 8) (As := [.int (a2), .int (1), .int (9)]) (rest := []) rfl lkRX0_38 rfl (Nat.le_of_ble_eq_true rfl) (Nat.le_of_ble_eq_true rfl) (F_X0_checkRange hc8)) rfl (Nat.le_of_ble_eq_true rfl) (Nat.le_of_ble_eq_true rfl) ?_
      refine mr_aload_n (pc := 11) (x := 0) rfl rfl ?_
      refine mr_iload_n (pc := 12) (x := a1) rfl rfl ?_
      rcases bI_inv h with ⟨v13, X13, hc13, h⟩ | ⟨E13, X13, hc13, hr⟩
      · refine mr_ret (mRunV (pc := 13) (q := 0) (As := [.int (a1)]) (rest := []) rfl lkRX0_42 rfl rfl rfl (Nat.le_of_ble_eq_true rfl) (Nat.le_of_ble_eq_true rfl) (F_X0_isDug hc13)) rfl (Nat.le_of_ble_eq_true rfl) (Nat.le_of_ble_eq_true rfl) ?_
        refine mr_if_eq (pc := 16) 21 rfl (by decide) (fun c16 => ?_) (fun c16 => ?_)
        · have h := (if_pos c16).symm.trans h
          refine mr_aload_n (pc := 21) (x := 0) rfl rfl ?_
          refine mr_getfield (pc := 22) (v := .ref 1) rfl lfRX0_9 rfl rfl ?_
          refine mr_iload_n (pc := 25) (x := a1) rfl rfl ?_
          refine mr_iload_n (pc := 26) (x := a2) rfl rfl ?_
          obtain ⟨g27, h⟩ := m_gd h
          refine ms_iastore (pc := 27) (f := X13.1) (h' := (xw (upd (X13.1) ((a1) : Int32).toNatClampNeg (a2), X13.2.1, X13.2.2.1, X13.2.2.2.1, X13.2.2.2.2.1, X13.2.2.2.2.2.1, X13.2.2.2.2.2.2.1, X13.2.2.2.2.2.2.2.1, X13.2.2.2.2.2.2.2.2.1, X13.2.2.2.2.2.2.2.2.2) T)) rfl rfl g27 rfl ?_
          refine mr_iconst (pc := 28) (v := 1) rfl (by decide) ?_
          cases h; exact mr_ireturn (pc := 29) rfl rfl (Nat.le_of_ble_eq_true rfl) (Nat.le_of_ble_eq_true rfl)
        · have h := (if_neg c16).symm.trans h
          refine mr_iconst (pc := 19) (v := 0) rfl (by decide) ?_
          cases h; exact mr_ireturn (pc := 20) rfl rfl (Nat.le_of_ble_eq_true rfl) (Nat.le_of_ble_eq_true rfl)
      · cases hr; exact mr_thrown (mRunV (pc := 13) (q := 0) (As := [.int (a1)]) (rest := []) rfl lkRX0_42 rfl rfl rfl (Nat.le_of_ble_eq_true rfl) (Nat.le_of_ble_eq_true rfl) (F_X0_isDug hc13)) rfl rfl (Nat.le_of_ble_eq_true rfl) (Nat.le_of_ble_eq_true rfl)
    · cases hr; exact mr_thrown (mRunS (pc := 8) (As := [.int (a2), .int (1), .int (9)]) (rest := []) rfl lkRX0_38 rfl (Nat.le_of_ble_eq_true rfl) (Nat.le_of_ble_eq_true rfl) (F_X0_checkRange hc8)) rfl rfl (Nat.le_of_ble_eq_true rfl) (Nat.le_of_ble_eq_true rfl)
  · cases hr; exact mr_thrown (mRunS (pc := 1) (As := [.int (a1)]) (rest := []) rfl lkRX0_34 rfl (Nat.le_of_ble_eq_true rfl) (Nat.le_of_ble_eq_true rfl) (F_X0_checkPool hc1)) rfl rfl (Nat.le_of_ble_eq_true rfl) (Nat.le_of_ble_eq_true rfl)
def g_X0_hold (X : cS) (a1 : Int32) : Option (mO × cS) := bI (g_X0_isDug X (a1)) (fun v2 X2 => if ((v2) : Int32) = 0 then (some (.inl (some (.int (0))), X2)) else (if ((X2.2.2.2.2.2.2.2.1) : Int32) < ((11) : Int32) then (if vpb (X2.2.2.2.2.2.2.2.1) 11 then (some (.inl (some (.int (1))), (X2.1, X2.2.1, X2.2.2.1, X2.2.2.2.1, X2.2.2.2.2.1, X2.2.2.2.2.2.1, upd (X2.2.2.2.2.2.2.1) ((X2.2.2.2.2.2.2.2.1) : Int32).toNatClampNeg (a1), (X2.2.2.2.2.2.2.2.1) + (1), if ((X2.2.2.2.2.2.2.2.2.1) : Int32) < ((X2.2.2.2.2.2.2.2.1) + (1)) then ((X2.2.2.2.2.2.2.2.1) + (1)) else (X2.2.2.2.2.2.2.2.2.1), (X2.2.2.2.2.2.2.2.2.2) + (1)))) else none) else (some (.inl (some (.int (0))), X2))))
set_option maxRecDepth 100000 in
set_option maxHeartbeats 4000000 in
theorem F_X0_hold {S : Nat × (Nat → Int32)} {T : mH} {X R9 : cS} {o9 : mO} {a1 : Int32} (h : g_X0_hold X a1 = some (o9, R9)) : mF S MX0_hold 0 (mEnt [.ref 0, .int a1] 2) [] (xw X T) 0 0 (o9, (xw R9 T), 0, 0) := by
  unfold g_X0_hold at h
  refine mr_aload_n (pc := 0) (x := 0) rfl rfl ?_
  refine mr_iload_n (pc := 1) (x := a1) rfl rfl ?_
  rcases bI_inv h with ⟨v2, X2, hc2, h⟩ | ⟨E2, X2, hc2, hr⟩
  · refine mr_ret (mRunV (pc := 2) (q := 0) (As := [.int (a1)]) (rest := []) rfl lkRX0_42 rfl rfl rfl (Nat.le_of_ble_eq_true rfl) (Nat.le_of_ble_eq_true rfl) (F_X0_isDug hc2)) rfl (Nat.le_of_ble_eq_true rfl) (Nat.le_of_ble_eq_true rfl) ?_
    refine mr_if_eq (pc := 5) 17 rfl (by decide) (fun c5 => ?_) (fun c5 => ?_)
    · have h := (if_pos c5).symm.trans h
      refine mr_iconst (pc := 17) (v := 0) rfl (by decide) ?_
      cases h; exact mr_zreturn (pc := 18) rfl rfl (Or.inl rfl) (Nat.le_of_ble_eq_true rfl) (Nat.le_of_ble_eq_true rfl)
    · have h := (if_neg c5).symm.trans h
      refine mr_aload_n (pc := 8) (x := 0) rfl rfl ?_
      refine mr_getfield (pc := 9) (v := .int (X2.2.2.2.2.2.2.2.1)) rfl lfRX0_172 rfl rfl ?_
      refine mr_bipush (pc := 12) (v := 11) rfl (by decide) ?_
      refine mr_icmp_lt (pc := 14) 19 rfl (by decide) (fun c14 => ?_) (fun c14 => ?_)
      · have h := (if_pos c14).symm.trans h
        refine mr_aload_n (pc := 19) (x := 0) rfl rfl ?_
        refine mr_getfield (pc := 20) (v := .ref 7) rfl lfRX0_28 rfl rfl ?_
        refine mr_aload_n (pc := 23) (x := 0) rfl rfl ?_
        refine mr_getfield (pc := 24) (v := .int (X2.2.2.2.2.2.2.2.1)) rfl lfRX0_172 rfl rfl ?_
        refine mr_iload_n (pc := 27) (x := a1) rfl rfl ?_
        obtain ⟨g28, h⟩ := m_gd h
        refine ms_iastore (pc := 28) (f := X2.2.2.2.2.2.2.1) (h' := (xw (X2.1, X2.2.1, X2.2.2.1, X2.2.2.2.1, X2.2.2.2.2.1, X2.2.2.2.2.2.1, upd (X2.2.2.2.2.2.2.1) ((X2.2.2.2.2.2.2.2.1) : Int32).toNatClampNeg (a1), X2.2.2.2.2.2.2.2.1, X2.2.2.2.2.2.2.2.2.1, X2.2.2.2.2.2.2.2.2.2) T)) rfl rfl g28 rfl ?_
        refine mr_aload_n (pc := 29) (x := 0) rfl rfl ?_
        refine mr_dup (pc := 30) rfl rfl ?_
        refine mr_getfield (pc := 31) (v := .int (X2.2.2.2.2.2.2.2.1)) rfl lfRX0_172 rfl rfl ?_
        refine mr_iconst (pc := 34) (v := 1) rfl (by decide) ?_
        refine mr_iadd (pc := 35) rfl ?_
        refine ms_putfield (pc := 36) (h' := (xw (X2.1, X2.2.1, X2.2.2.1, X2.2.2.2.1, X2.2.2.2.2.1, X2.2.2.2.2.2.1, upd (X2.2.2.2.2.2.2.1) ((X2.2.2.2.2.2.2.2.1) : Int32).toNatClampNeg (a1), (X2.2.2.2.2.2.2.2.1) + (1), X2.2.2.2.2.2.2.2.2.1, X2.2.2.2.2.2.2.2.2.2) T)) rfl lfRX0_172 rfl (Nat.le_of_ble_eq_true rfl) (by intro q hq; cases hq; rfl) rfl ?_
        refine mr_aload_n (pc := 39) (x := 0) rfl rfl ?_
        refine mr_dup (pc := 40) rfl rfl ?_
        refine mr_getfield (pc := 41) (v := .int (X2.2.2.2.2.2.2.2.2.2)) rfl lfRX0_129 rfl rfl ?_
        refine mr_iconst (pc := 44) (v := 1) rfl (by decide) ?_
        refine mr_iadd (pc := 45) rfl ?_
        refine ms_putfield (pc := 46) (h' := (xw (X2.1, X2.2.1, X2.2.2.1, X2.2.2.2.1, X2.2.2.2.2.1, X2.2.2.2.2.2.1, upd (X2.2.2.2.2.2.2.1) ((X2.2.2.2.2.2.2.2.1) : Int32).toNatClampNeg (a1), (X2.2.2.2.2.2.2.2.1) + (1), X2.2.2.2.2.2.2.2.2.1, (X2.2.2.2.2.2.2.2.2.2) + (1)) T)) rfl lfRX0_129 rfl (Nat.le_of_ble_eq_true rfl) (by intro q hq; cases hq; rfl) rfl ?_
        refine mr_aload_n (pc := 49) (x := 0) rfl rfl ?_
        refine mr_aload_n (pc := 50) (x := 0) rfl rfl ?_
        refine mr_getfield (pc := 51) (v := .int (X2.2.2.2.2.2.2.2.2.1)) rfl lfRX0_133 rfl rfl ?_
        refine mr_aload_n (pc := 54) (x := 0) rfl rfl ?_
        refine mr_getfield (pc := 55) (v := .int ((X2.2.2.2.2.2.2.2.1) + (1))) rfl lfRX0_172 rfl rfl ?_
        refine mr_mmax (pc := 58) rfl rfl (by decide) (Nat.le_of_ble_eq_true rfl) (Nat.le_of_ble_eq_true rfl) (Nat.le_of_ble_eq_true rfl) ?_
        refine ms_putfield (pc := 61) (h' := (xw (X2.1, X2.2.1, X2.2.2.1, X2.2.2.2.1, X2.2.2.2.2.1, X2.2.2.2.2.2.1, upd (X2.2.2.2.2.2.2.1) ((X2.2.2.2.2.2.2.2.1) : Int32).toNatClampNeg (a1), (X2.2.2.2.2.2.2.2.1) + (1), if ((X2.2.2.2.2.2.2.2.2.1) : Int32) < ((X2.2.2.2.2.2.2.2.1) + (1)) then ((X2.2.2.2.2.2.2.2.1) + (1)) else (X2.2.2.2.2.2.2.2.2.1), (X2.2.2.2.2.2.2.2.2.2) + (1)) T)) rfl lfRX0_133 rfl (Nat.le_of_ble_eq_true rfl) (by intro q hq; cases hq; rfl) rfl ?_
        refine mr_iconst (pc := 64) (v := 1) rfl (by decide) ?_
        cases h; exact mr_zreturn (pc := 65) rfl rfl (Or.inr rfl) (Nat.le_of_ble_eq_true rfl) (Nat.le_of_ble_eq_true rfl)
      · have h := (if_neg c14).symm.trans h
        refine mr_iconst (pc := 17) (v := 0) rfl (by decide) ?_
        cases h; exact mr_zreturn (pc := 18) rfl rfl (Or.inl rfl) (Nat.le_of_ble_eq_true rfl) (Nat.le_of_ble_eq_true rfl)
  · cases hr; exact mr_thrown (mRunV (pc := 2) (q := 0) (As := [.int (a1)]) (rest := []) rfl lkRX0_42 rfl rfl rfl (Nat.le_of_ble_eq_true rfl) (Nat.le_of_ble_eq_true rfl) (F_X0_isDug hc2)) rfl rfl (Nat.le_of_ble_eq_true rfl) (Nat.le_of_ble_eq_true rfl)
def g_X0_failing_0 : Nat → cS → Int32 → Option (mO × cS)
  | 0, _, _ => none
  | f9 + 1, X, b1 => if ((X.2.2.2.2.2.2.2.1) : Int32) ≤ 0 then (some (.inl (some (.int (-(b1)))), X)) else (if vpb ((X.2.2.2.2.2.2.2.1) - (1)) 11 then (if vpb ((X.2.2.2.2.2.2.1) (((X.2.2.2.2.2.2.2.1) - (1)) : Int32).toNatClampNeg) 8 then (if vpb ((X.2.2.2.2.2.2.1) (((X.2.2.2.2.2.2.2.1) - (1)) : Int32).toNatClampNeg) 8 then (g_X0_failing_0 f9 (X.1, X.2.1, upd (X.2.2.1) (((X.2.2.2.2.2.2.1) (((X.2.2.2.2.2.2.2.1) - (1)) : Int32).toNatClampNeg) : Int32).toNatClampNeg (((X.2.2.1) (((X.2.2.2.2.2.2.1) (((X.2.2.2.2.2.2.2.1) - (1)) : Int32).toNatClampNeg) : Int32).toNatClampNeg) + (1)), X.2.2.2.1, X.2.2.2.2.1, X.2.2.2.2.2.1, X.2.2.2.2.2.2.1, (X.2.2.2.2.2.2.2.1) - (1), X.2.2.2.2.2.2.2.2.1, X.2.2.2.2.2.2.2.2.2) (b1)) else none) else none) else none)
set_option maxRecDepth 100000 in
set_option maxHeartbeats 4000000 in
theorem FL_X0_failing_0 {S : Nat × (Nat → Int32)} {T : mH} : ∀ (f9 : Nat) (X : cS) (b1 : Int32) (o9 : mO) (R9 : cS), g_X0_failing_0 f9 X b1 = some (o9, R9) → mF S MX0_failing 0 [some (.ref 0), some (.int (b1))] [] (xw X T) 0 0 (o9, (xw R9 T), 0, 0) := by
  intro f9
  induction f9 with
  | zero => intro X b1 o9 R9 h; cases h
  | succ f9 ih9 =>
    intro X b1 o9 R9 h
    rw [g_X0_failing_0] at h
    refine mr_aload_n (pc := 0) (x := 0) rfl rfl ?_
    refine mr_getfield (pc := 1) (v := .int (X.2.2.2.2.2.2.2.1)) rfl lfRX0_172 rfl rfl ?_
    refine mr_if_le (pc := 4) 38 rfl (by decide) (fun c4 => ?_) (fun c4 => ?_)
    · have h := (if_pos c4).symm.trans h
      refine mr_iload_n (pc := 38) (x := b1) rfl rfl ?_
      refine mr_ineg (pc := 39) rfl ?_
      cases h; exact mr_ireturn (pc := 40) rfl rfl (Nat.le_of_ble_eq_true rfl) (Nat.le_of_ble_eq_true rfl)
    · have h := (if_neg c4).symm.trans h
      refine mr_aload_n (pc := 7) (x := 0) rfl rfl ?_
      refine mr_dup (pc := 8) rfl rfl ?_
      refine mr_getfield (pc := 9) (v := .int (X.2.2.2.2.2.2.2.1)) rfl lfRX0_172 rfl rfl ?_
      refine mr_iconst (pc := 12) (v := 1) rfl (by decide) ?_
      refine mr_isub (pc := 13) rfl ?_
      refine ms_putfield (pc := 14) (h' := (xw (X.1, X.2.1, X.2.2.1, X.2.2.2.1, X.2.2.2.2.1, X.2.2.2.2.2.1, X.2.2.2.2.2.2.1, (X.2.2.2.2.2.2.2.1) - (1), X.2.2.2.2.2.2.2.2.1, X.2.2.2.2.2.2.2.2.2) T)) rfl lfRX0_172 rfl (Nat.le_of_ble_eq_true rfl) (by intro q hq; cases hq; rfl) rfl ?_
      refine mr_aload_n (pc := 17) (x := 0) rfl rfl ?_
      refine mr_getfield (pc := 18) (v := .ref 3) rfl lfRX0_16 rfl rfl ?_
      refine mr_aload_n (pc := 21) (x := 0) rfl rfl ?_
      refine mr_getfield (pc := 22) (v := .ref 7) rfl lfRX0_28 rfl rfl ?_
      refine mr_aload_n (pc := 25) (x := 0) rfl rfl ?_
      refine mr_getfield (pc := 26) (v := .int ((X.2.2.2.2.2.2.2.1) - (1))) rfl lfRX0_172 rfl rfl ?_
      obtain ⟨g29, h⟩ := m_gd h
      refine mr_iaload (pc := 29) (f := X.2.2.2.2.2.2.1) rfl rfl (vpb_in g29) ?_
      refine mr_dup2 (pc := 30) rfl rfl rfl ?_
      obtain ⟨g31, h⟩ := m_gd h
      refine mr_iaload (pc := 31) (f := X.2.2.1) rfl rfl (vpb_in g31) ?_
      refine mr_iconst (pc := 32) (v := 1) rfl (by decide) ?_
      refine mr_iadd (pc := 33) rfl ?_
      obtain ⟨g34, h⟩ := m_gd h
      refine ms_iastore (pc := 34) (f := X.2.2.1) (h' := (xw (X.1, X.2.1, upd (X.2.2.1) (((X.2.2.2.2.2.2.1) (((X.2.2.2.2.2.2.2.1) - (1)) : Int32).toNatClampNeg) : Int32).toNatClampNeg (((X.2.2.1) (((X.2.2.2.2.2.2.1) (((X.2.2.2.2.2.2.2.1) - (1)) : Int32).toNatClampNeg) : Int32).toNatClampNeg) + (1)), X.2.2.2.1, X.2.2.2.2.1, X.2.2.2.2.2.1, X.2.2.2.2.2.2.1, (X.2.2.2.2.2.2.2.1) - (1), X.2.2.2.2.2.2.2.2.1, X.2.2.2.2.2.2.2.2.2) T)) rfl rfl g34 rfl ?_
      refine mr_goto (pc := 35) 0 rfl (by decide) ?_
      exact ih9 _ _ _ _ h
def g_X0_failing (X : cS) (a1 : Int32) : Option (mO × cS) := g_X0_failing_0 mK X (a1)
set_option maxRecDepth 100000 in
set_option maxHeartbeats 4000000 in
theorem F_X0_failing {S : Nat × (Nat → Int32)} {T : mH} {X R9 : cS} {o9 : mO} {a1 : Int32} (h : g_X0_failing X a1 = some (o9, R9)) : mF S MX0_failing 0 (mEnt [.ref 0, .int a1] 2) [] (xw X T) 0 0 (o9, (xw R9 T), 0, 0) := by
  unfold g_X0_failing at h
  exact FL_X0_failing_0 mK _ _ _ _ h
def g_X0_boatsIn_4 : Nat → cS → Int32 → Int32 → Int32 → Option (mO × cS)
  | 0, _, _, _, _ => none
  | f9 + 1, X, b1, b2, b3 => if ((10) : Int32) ≤ ((b3) : Int32) then (some (.inl (some (.int (b2))), X)) else (if vpb (b3) 10 then (if (((X.2.2.2.2.2.1) ((b3) : Int32).toNatClampNeg) : Int32) = ((b1) : Int32) then (g_X0_boatsIn_4 f9 X (b1) (b2 + 1) (b3 + 1)) else (g_X0_boatsIn_4 f9 X (b1) (b2) (b3 + 1))) else none)
set_option maxRecDepth 100000 in
set_option maxHeartbeats 4000000 in
theorem FL_X0_boatsIn_4 {S : Nat × (Nat → Int32)} {T : mH} : ∀ (f9 : Nat) (X : cS) (b1 b2 b3 : Int32) (o9 : mO) (R9 : cS), g_X0_boatsIn_4 f9 X b1 b2 b3 = some (o9, R9) → mF S MX0_boatsIn 4 [some (.ref 0), some (.int (b1)), some (.int (b2)), some (.int (b3))] [] (xw X T) 0 0 (o9, (xw R9 T), 0, 0) := by
  intro f9
  induction f9 with
  | zero => intro X b1 b2 b3 o9 R9 h; cases h
  | succ f9 ih9 =>
    intro X b1 b2 b3 o9 R9 h
    rw [g_X0_boatsIn_4] at h
    refine mr_iload_n (pc := 4) (x := b3) rfl rfl ?_
    refine mr_bipush (pc := 5) (v := 10) rfl (by decide) ?_
    refine mr_icmp_ge (pc := 7) 29 rfl (by decide) (fun c7 => ?_) (fun c7 => ?_)
    · have h := (if_pos c7).symm.trans h
      refine mr_iload_n (pc := 29) (x := b2) rfl rfl ?_
      cases h; exact mr_ireturn (pc := 30) rfl rfl (Nat.le_of_ble_eq_true rfl) (Nat.le_of_ble_eq_true rfl)
    · have h := (if_neg c7).symm.trans h
      refine mr_aload_n (pc := 10) (x := 0) rfl rfl ?_
      refine mr_getfield (pc := 11) (v := .ref 6) rfl lfRX0_25 rfl rfl ?_
      refine mr_iload_n (pc := 14) (x := b3) rfl rfl ?_
      obtain ⟨g15, h⟩ := m_gd h
      refine mr_iaload (pc := 15) (f := X.2.2.2.2.2.1) rfl rfl (vpb_in g15) ?_
      refine mr_iload_n (pc := 16) (x := b1) rfl rfl ?_
      refine mr_icmp_ne (pc := 17) 23 rfl (by decide) (fun c17 => ?_) (fun c17 => ?_)
      · have h := (if_neg c17).symm.trans h
        refine ms_iinc (pc := 23) (x := b3) (v := 1) (L' := [some (.ref 0), some (.int (b1)), some (.int (b2)), some (.int (b3 + 1))]) rfl rfl (by decide) (by decide) rfl rfl ?_
        refine mr_goto (pc := 26) 4 rfl (by decide) ?_
        exact ih9 _ _ _ _ _ _ h
      · have h := (if_pos c17).symm.trans h
        refine ms_iinc (pc := 20) (x := b2) (v := 1) (L' := [some (.ref 0), some (.int (b1)), some (.int (b2 + 1)), some (.int (b3))]) rfl rfl (by decide) (by decide) rfl rfl ?_
        refine ms_iinc (pc := 23) (x := b3) (v := 1) (L' := [some (.ref 0), some (.int (b1)), some (.int (b2 + 1)), some (.int (b3 + 1))]) rfl rfl (by decide) (by decide) rfl rfl ?_
        refine mr_goto (pc := 26) 4 rfl (by decide) ?_
        exact ih9 _ _ _ _ _ _ h
def g_X0_boatsIn (X : cS) (a1 : Int32) : Option (mO × cS) := g_X0_boatsIn_4 mK X (a1) (0) (0)
set_option maxRecDepth 100000 in
set_option maxHeartbeats 4000000 in
theorem F_X0_boatsIn {S : Nat × (Nat → Int32)} {T : mH} {X R9 : cS} {o9 : mO} {a1 : Int32} (h : g_X0_boatsIn X a1 = some (o9, R9)) : mF S MX0_boatsIn 0 (mEnt [.ref 0, .int a1] 4) [] (xw X T) 0 0 (o9, (xw R9 T), 0, 0) := by
  unfold g_X0_boatsIn at h
  refine mr_iconst (pc := 0) (v := 0) rfl (by decide) ?_
  refine ms_istore_n (pc := 1) (L' := [some (.ref 0), some (.int (a1)), some (.int (0)), none]) rfl (by decide) rfl rfl ?_
  refine mr_iconst (pc := 2) (v := 0) rfl (by decide) ?_
  refine ms_istore_n (pc := 3) (L' := [some (.ref 0), some (.int (a1)), some (.int (0)), some (.int (0))]) rfl (by decide) rfl rfl ?_
  exact FL_X0_boatsIn_4 mK _ _ _ _ _ _ h
def g_X0_leave (X : cS) (a1 : Int32) : Option (mO × cS) := some (.inl none, (X.1, X.2.1, X.2.2.1, X.2.2.2.1, X.2.2.2.2.1, X.2.2.2.2.2.1, X.2.2.2.2.2.2.1, if ((0) : Int32) < ((X.2.2.2.2.2.2.2.1) - (a1)) then ((X.2.2.2.2.2.2.2.1) - (a1)) else (0), X.2.2.2.2.2.2.2.2.1, X.2.2.2.2.2.2.2.2.2))
set_option maxRecDepth 100000 in
set_option maxHeartbeats 4000000 in
theorem F_X0_leave {S : Nat × (Nat → Int32)} {T : mH} {X R9 : cS} {o9 : mO} {a1 : Int32} (h : g_X0_leave X a1 = some (o9, R9)) : mF S MX0_leave 0 (mEnt [.ref 0, .int a1] 2) [] (xw X T) 0 0 (o9, (xw R9 T), 0, 0) := by
  unfold g_X0_leave at h
  refine mr_aload_n (pc := 0) (x := 0) rfl rfl ?_
  refine mr_iconst (pc := 1) (v := 0) rfl (by decide) ?_
  refine mr_aload_n (pc := 2) (x := 0) rfl rfl ?_
  refine mr_getfield (pc := 3) (v := .int (X.2.2.2.2.2.2.2.1)) rfl lfRX0_172 rfl rfl ?_
  refine mr_iload_n (pc := 6) (x := a1) rfl rfl ?_
  refine mr_isub (pc := 7) rfl ?_
  refine mr_mmax (pc := 8) rfl rfl (by decide) (Nat.le_of_ble_eq_true rfl) (Nat.le_of_ble_eq_true rfl) (Nat.le_of_ble_eq_true rfl) ?_
  refine ms_putfield (pc := 11) (h' := (xw (X.1, X.2.1, X.2.2.1, X.2.2.2.1, X.2.2.2.2.1, X.2.2.2.2.2.1, X.2.2.2.2.2.2.1, if ((0) : Int32) < ((X.2.2.2.2.2.2.2.1) - (a1)) then ((X.2.2.2.2.2.2.2.1) - (a1)) else (0), X.2.2.2.2.2.2.2.2.1, X.2.2.2.2.2.2.2.2.2) T)) rfl lfRX0_172 rfl (Nat.le_of_ble_eq_true rfl) (by intro q hq; cases hq; rfl) rfl ?_
  cases h; exact mr_return (pc := 14) rfl rfl (Nat.le_of_ble_eq_true rfl) (Nat.le_of_ble_eq_true rfl)
def g_X0_fillIn_22 : Nat → cS → Int32 → Int32 → Int32 → Option (mO × cS)
  | 0, _, _, _, _ => none
  | f9 + 1, X, b1, b2, b3 => if ((10) : Int32) ≤ ((b3) : Int32) then (if vpb (b1) 8 then (if vpb (b1) 8 then (if vpb (b1) 8 then (bV (g_X0_leave (upd (X.1) ((b1) : Int32).toNatClampNeg (0), upd (X.2.1) ((b1) : Int32).toNatClampNeg (0), upd (X.2.2.1) ((b1) : Int32).toNatClampNeg (0), X.2.2.2.1, X.2.2.2.2.1, X.2.2.2.2.2.1, X.2.2.2.2.2.2.1, X.2.2.2.2.2.2.2.1, X.2.2.2.2.2.2.2.2.1, X.2.2.2.2.2.2.2.2.2) (1)) (fun X74 => some (.inl (some (.int (b2))), X74))) else none) else none) else none) else (if vpb (b3) 10 then (if (((X.2.2.2.2.2.1) ((b3) : Int32).toNatClampNeg) : Int32) = ((b1) : Int32) then (if vpb (b3) 10 then (g_X0_fillIn_22 f9 (X.1, X.2.1, X.2.2.1, X.2.2.2.1, X.2.2.2.2.1, upd (X.2.2.2.2.2.1) ((b3) : Int32).toNatClampNeg ((-1)), X.2.2.2.2.2.2.1, X.2.2.2.2.2.2.2.1, X.2.2.2.2.2.2.2.2.1, X.2.2.2.2.2.2.2.2.2) (b1) (b2) (b3 + 1)) else none) else (g_X0_fillIn_22 f9 X (b1) (b2) (b3 + 1))) else none)
set_option maxRecDepth 100000 in
set_option maxHeartbeats 4000000 in
theorem FL_X0_fillIn_22 {S : Nat × (Nat → Int32)} {T : mH} : ∀ (f9 : Nat) (X : cS) (b1 b2 b3 : Int32) (o9 : mO) (R9 : cS), g_X0_fillIn_22 f9 X b1 b2 b3 = some (o9, R9) → mF S MX0_fillIn 22 [some (.ref 0), some (.int (b1)), some (.int (b2)), some (.int (b3))] [] (xw X T) 0 0 (o9, (xw R9 T), 0, 0) := by
  intro f9
  induction f9 with
  | zero => intro X b1 b2 b3 o9 R9 h; cases h
  | succ f9 ih9 =>
    intro X b1 b2 b3 o9 R9 h
    rw [g_X0_fillIn_22] at h
    refine mr_iload_n (pc := 22) (x := b3) rfl rfl ?_
    refine mr_bipush (pc := 23) (v := 10) rfl (by decide) ?_
    refine mr_icmp_ge (pc := 25) 51 rfl (by decide) (fun c25 => ?_) (fun c25 => ?_)
    · have h := (if_pos c25).symm.trans h
      refine mr_aload_n (pc := 51) (x := 0) rfl rfl ?_
      refine mr_getfield (pc := 52) (v := .ref 1) rfl lfRX0_9 rfl rfl ?_
      refine mr_iload_n (pc := 55) (x := b1) rfl rfl ?_
      refine mr_iconst (pc := 56) (v := 0) rfl (by decide) ?_
      obtain ⟨g57, h⟩ := m_gd h
      refine ms_iastore (pc := 57) (f := X.1) (h' := (xw (upd (X.1) ((b1) : Int32).toNatClampNeg (0), X.2.1, X.2.2.1, X.2.2.2.1, X.2.2.2.2.1, X.2.2.2.2.2.1, X.2.2.2.2.2.2.1, X.2.2.2.2.2.2.2.1, X.2.2.2.2.2.2.2.2.1, X.2.2.2.2.2.2.2.2.2) T)) rfl rfl g57 rfl ?_
      refine mr_aload_n (pc := 58) (x := 0) rfl rfl ?_
      refine mr_getfield (pc := 59) (v := .ref 2) rfl lfRX0_13 rfl rfl ?_
      refine mr_iload_n (pc := 62) (x := b1) rfl rfl ?_
      refine mr_iconst (pc := 63) (v := 0) rfl (by decide) ?_
      obtain ⟨g64, h⟩ := m_gd h
      refine ms_iastore (pc := 64) (f := X.2.1) (h' := (xw (upd (X.1) ((b1) : Int32).toNatClampNeg (0), upd (X.2.1) ((b1) : Int32).toNatClampNeg (0), X.2.2.1, X.2.2.2.1, X.2.2.2.2.1, X.2.2.2.2.2.1, X.2.2.2.2.2.2.1, X.2.2.2.2.2.2.2.1, X.2.2.2.2.2.2.2.2.1, X.2.2.2.2.2.2.2.2.2) T)) rfl rfl g64 rfl ?_
      refine mr_aload_n (pc := 65) (x := 0) rfl rfl ?_
      refine mr_getfield (pc := 66) (v := .ref 3) rfl lfRX0_16 rfl rfl ?_
      refine mr_iload_n (pc := 69) (x := b1) rfl rfl ?_
      refine mr_iconst (pc := 70) (v := 0) rfl (by decide) ?_
      obtain ⟨g71, h⟩ := m_gd h
      refine ms_iastore (pc := 71) (f := X.2.2.1) (h' := (xw (upd (X.1) ((b1) : Int32).toNatClampNeg (0), upd (X.2.1) ((b1) : Int32).toNatClampNeg (0), upd (X.2.2.1) ((b1) : Int32).toNatClampNeg (0), X.2.2.2.1, X.2.2.2.2.1, X.2.2.2.2.2.1, X.2.2.2.2.2.2.1, X.2.2.2.2.2.2.2.1, X.2.2.2.2.2.2.2.2.1, X.2.2.2.2.2.2.2.2.2) T)) rfl rfl g71 rfl ?_
      refine mr_aload_n (pc := 72) (x := 0) rfl rfl ?_
      refine mr_iconst (pc := 73) (v := 1) rfl (by decide) ?_
      rcases bV_inv h with ⟨X74, hc74, h⟩ | ⟨E74, X74, hc74, hr⟩
      · refine mr_ret (mRunV (pc := 74) (q := 0) (As := [.int (1)]) (rest := []) rfl lkRX0_118 rfl rfl rfl (Nat.le_of_ble_eq_true rfl) (Nat.le_of_ble_eq_true rfl) (F_X0_leave hc74)) rfl (Nat.le_of_ble_eq_true rfl) (Nat.le_of_ble_eq_true rfl) ?_
        refine mr_iload_n (pc := 77) (x := b2) rfl rfl ?_
        cases h; exact mr_ireturn (pc := 78) rfl rfl (Nat.le_of_ble_eq_true rfl) (Nat.le_of_ble_eq_true rfl)
      · cases hr; exact mr_thrown (mRunV (pc := 74) (q := 0) (As := [.int (1)]) (rest := []) rfl lkRX0_118 rfl rfl rfl (Nat.le_of_ble_eq_true rfl) (Nat.le_of_ble_eq_true rfl) (F_X0_leave hc74)) rfl rfl (Nat.le_of_ble_eq_true rfl) (Nat.le_of_ble_eq_true rfl)
    · have h := (if_neg c25).symm.trans h
      refine mr_aload_n (pc := 28) (x := 0) rfl rfl ?_
      refine mr_getfield (pc := 29) (v := .ref 6) rfl lfRX0_25 rfl rfl ?_
      refine mr_iload_n (pc := 32) (x := b3) rfl rfl ?_
      obtain ⟨g33, h⟩ := m_gd h
      refine mr_iaload (pc := 33) (f := X.2.2.2.2.2.1) rfl rfl (vpb_in g33) ?_
      refine mr_iload_n (pc := 34) (x := b1) rfl rfl ?_
      refine mr_icmp_ne (pc := 35) 45 rfl (by decide) (fun c35 => ?_) (fun c35 => ?_)
      · have h := (if_neg c35).symm.trans h
        refine ms_iinc (pc := 45) (x := b3) (v := 1) (L' := [some (.ref 0), some (.int (b1)), some (.int (b2)), some (.int (b3 + 1))]) rfl rfl (by decide) (by decide) rfl rfl ?_
        refine mr_goto (pc := 48) 22 rfl (by decide) ?_
        exact ih9 _ _ _ _ _ _ h
      · have h := (if_pos c35).symm.trans h
        refine mr_aload_n (pc := 38) (x := 0) rfl rfl ?_
        refine mr_getfield (pc := 39) (v := .ref 6) rfl lfRX0_25 rfl rfl ?_
        refine mr_iload_n (pc := 42) (x := b3) rfl rfl ?_
        refine mr_iconst (pc := 43) (v := -1) rfl (by decide) ?_
        obtain ⟨g44, h⟩ := m_gd h
        refine ms_iastore (pc := 44) (f := X.2.2.2.2.2.1) (h' := (xw (X.1, X.2.1, X.2.2.1, X.2.2.2.1, X.2.2.2.2.1, upd (X.2.2.2.2.2.1) ((b3) : Int32).toNatClampNeg ((-1)), X.2.2.2.2.2.2.1, X.2.2.2.2.2.2.2.1, X.2.2.2.2.2.2.2.2.1, X.2.2.2.2.2.2.2.2.2) T)) rfl rfl g44 rfl ?_
        refine ms_iinc (pc := 45) (x := b3) (v := 1) (L' := [some (.ref 0), some (.int (b1)), some (.int (b2)), some (.int (b3 + 1))]) rfl rfl (by decide) (by decide) rfl rfl ?_
        refine mr_goto (pc := 48) 22 rfl (by decide) ?_
        exact ih9 _ _ _ _ _ _ h
def g_X0_fillIn (X : cS) (a1 : Int32) : Option (mO × cS) := bI (g_X0_hold X (a1)) (fun v2 X2 => if ((v2) : Int32) = 0 then (bI (g_X0_failing X2 (1)) (fun v10 X10 => some (.inl (some (.int (v10))), X10))) else (bI (g_X0_boatsIn X2 (a1)) (fun v16 X16 => g_X0_fillIn_22 mK X16 (a1) (v16) (0))))
set_option maxRecDepth 100000 in
set_option maxHeartbeats 4000000 in
theorem F_X0_fillIn {S : Nat × (Nat → Int32)} {T : mH} {X R9 : cS} {o9 : mO} {a1 : Int32} (h : g_X0_fillIn X a1 = some (o9, R9)) : mF S MX0_fillIn 0 (mEnt [.ref 0, .int a1] 4) [] (xw X T) 0 0 (o9, (xw R9 T), 0, 0) := by
  unfold g_X0_fillIn at h
  refine mr_aload_n (pc := 0) (x := 0) rfl rfl ?_
  refine mr_iload_n (pc := 1) (x := a1) rfl rfl ?_
  rcases bI_inv h with ⟨v2, X2, hc2, h⟩ | ⟨E2, X2, hc2, hr⟩
  · refine mr_ret (mRunV (pc := 2) (q := 0) (As := [.int (a1)]) (rest := []) rfl lkRX0_112 rfl rfl rfl (Nat.le_of_ble_eq_true rfl) (Nat.le_of_ble_eq_true rfl) (F_X0_hold hc2)) rfl (Nat.le_of_ble_eq_true rfl) (Nat.le_of_ble_eq_true rfl) ?_
    refine mr_if_ne (pc := 5) 14 rfl (by decide) (fun c5 => ?_) (fun c5 => ?_)
    · have h := (if_neg c5).symm.trans h
      refine mr_aload_n (pc := 14) (x := 0) rfl rfl ?_
      refine mr_iload_n (pc := 15) (x := a1) rfl rfl ?_
      rcases bI_inv h with ⟨v16, X16, hc16, h⟩ | ⟨E16, X16, hc16, hr⟩
      · refine mr_ret (mRunV (pc := 16) (q := 0) (As := [.int (a1)]) (rest := []) rfl lkRX0_126 rfl rfl rfl (Nat.le_of_ble_eq_true rfl) (Nat.le_of_ble_eq_true rfl) (F_X0_boatsIn hc16)) rfl (Nat.le_of_ble_eq_true rfl) (Nat.le_of_ble_eq_true rfl) ?_
        refine ms_istore_n (pc := 19) (L' := [some (.ref 0), some (.int (a1)), some (.int (v16)), none]) rfl (by decide) rfl rfl ?_
        refine mr_iconst (pc := 20) (v := 0) rfl (by decide) ?_
        refine ms_istore_n (pc := 21) (L' := [some (.ref 0), some (.int (a1)), some (.int (v16)), some (.int (0))]) rfl (by decide) rfl rfl ?_
        exact FL_X0_fillIn_22 mK _ _ _ _ _ _ h
      · cases hr; exact mr_thrown (mRunV (pc := 16) (q := 0) (As := [.int (a1)]) (rest := []) rfl lkRX0_126 rfl rfl rfl (Nat.le_of_ble_eq_true rfl) (Nat.le_of_ble_eq_true rfl) (F_X0_boatsIn hc16)) rfl rfl (Nat.le_of_ble_eq_true rfl) (Nat.le_of_ble_eq_true rfl)
    · have h := (if_pos c5).symm.trans h
      refine mr_aload_n (pc := 8) (x := 0) rfl rfl ?_
      refine mr_iconst (pc := 9) (v := 1) rfl (by decide) ?_
      rcases bI_inv h with ⟨v10, X10, hc10, h⟩ | ⟨E10, X10, hc10, hr⟩
      · refine mr_ret (mRunV (pc := 10) (q := 0) (As := [.int (1)]) (rest := []) rfl lkRX0_183 rfl rfl rfl (Nat.le_of_ble_eq_true rfl) (Nat.le_of_ble_eq_true rfl) (F_X0_failing hc10)) rfl (Nat.le_of_ble_eq_true rfl) (Nat.le_of_ble_eq_true rfl) ?_
        cases h; exact mr_ireturn (pc := 13) rfl rfl (Nat.le_of_ble_eq_true rfl) (Nat.le_of_ble_eq_true rfl)
      · cases hr; exact mr_thrown (mRunV (pc := 10) (q := 0) (As := [.int (1)]) (rest := []) rfl lkRX0_183 rfl rfl rfl (Nat.le_of_ble_eq_true rfl) (Nat.le_of_ble_eq_true rfl) (F_X0_failing hc10)) rfl rfl (Nat.le_of_ble_eq_true rfl) (Nat.le_of_ble_eq_true rfl)
  · cases hr; exact mr_thrown (mRunV (pc := 2) (q := 0) (As := [.int (a1)]) (rest := []) rfl lkRX0_112 rfl rfl rfl (Nat.le_of_ble_eq_true rfl) (Nat.le_of_ble_eq_true rfl) (F_X0_hold hc2)) rfl rfl (Nat.le_of_ble_eq_true rfl) (Nat.le_of_ble_eq_true rfl)
def g_X0_answered (a0 : Int32) : Option mO := if ((a0) : Int32) = (-4) then (some (.inr xD)) else (if ((a0) : Int32) = (-3) then (some (.inr xU)) else (if ((a0) : Int32) = (-2) then (some (.inr xS)) else (if ((a0) : Int32) = (-1) then (some (.inr xN)) else (some (.inl (some (.int (a0))))))))
set_option maxRecDepth 100000 in
set_option maxHeartbeats 4000000 in
theorem F_X0_answered {S : Nat × (Nat → Int32)} {hw : mH} {o9 : mO} {a0 : Int32} (h : g_X0_answered a0 = some o9) : mF S MX0_answered 0 (mEnt [.int a0] 1) [] hw 0 0 (o9, hw, 1, 8) := by
  unfold g_X0_answered at h
  refine mr_iload_n (pc := 0) (x := a0) rfl rfl ?_
  by_cases c1_0 : ((a0) : Int32) = (-4)
  · have h := (if_pos c1_0).symm.trans h
    refine mr_tabIn (pc := 1) 62 rfl (by rw [c1_0]; decide) (by rw [c1_0]; decide) (by rw [c1_0]; rfl) (by decide) ?_
    cases h; exact mr_throw (pc := 62) rfl rfl rfl rfl rfl lt_169 rfl (by decide) (by decide) (Nat.le_of_ble_eq_true rfl) (Nat.le_of_ble_eq_true rfl)
  · have h := (if_neg c1_0).symm.trans h
    by_cases c1_1 : ((a0) : Int32) = (-3)
    · have h := (if_pos c1_1).symm.trans h
      refine mr_tabIn (pc := 1) 52 rfl (by rw [c1_1]; decide) (by rw [c1_1]; decide) (by rw [c1_1]; rfl) (by decide) ?_
      cases h; exact mr_throw (pc := 52) rfl rfl rfl rfl rfl lt_164 rfl (by decide) (by decide) (Nat.le_of_ble_eq_true rfl) (Nat.le_of_ble_eq_true rfl)
    · have h := (if_neg c1_1).symm.trans h
      by_cases c1_2 : ((a0) : Int32) = (-2)
      · have h := (if_pos c1_2).symm.trans h
        refine mr_tabIn (pc := 1) 42 rfl (by rw [c1_2]; decide) (by rw [c1_2]; decide) (by rw [c1_2]; rfl) (by decide) ?_
        cases h; exact mr_throw (pc := 42) rfl rfl rfl rfl rfl lt_160 rfl (by decide) (by decide) (Nat.le_of_ble_eq_true rfl) (Nat.le_of_ble_eq_true rfl)
      · have h := (if_neg c1_2).symm.trans h
        by_cases c1_3 : ((a0) : Int32) = (-1)
        · have h := (if_pos c1_3).symm.trans h
          refine mr_tabIn (pc := 1) 32 rfl (by rw [c1_3]; decide) (by rw [c1_3]; decide) (by rw [c1_3]; rfl) (by decide) ?_
          cases h; exact mr_throwN (pc := 32) (text := "a pool is not dug") rfl rfl rfl rfl rfl rfl rfl rfl (by decide +kernel) rfl (by decide) (by decide) (Nat.le_of_ble_eq_true rfl) (Nat.le_of_ble_eq_true rfl)
        · have h := (if_neg c1_3).symm.trans h
          refine mr_tabOut (pc := 1) 72 rfl (m_tabOut _ _ _ (fun c h1 h2 => by rcases (show c = -4 ∨ c = -3 ∨ c = -2 ∨ c = -1 by omega) with rfl | rfl | rfl | rfl <;> assumption)) (by decide) ?_
          refine mr_iload_n (pc := 72) (x := a0) rfl rfl ?_
          cases h; exact mr_ireturn (pc := 73) rfl rfl (Nat.le_of_ble_eq_true rfl) (Nat.le_of_ble_eq_true rfl)
def g_X0_fill (X : cS) (a1 : Int32) : Option (mO × cS) := cV (g_X0_checkPool (a1)) X (bI (g_X0_fillIn X (a1)) (fun v6 X6 => cI (g_X0_answered (v6)) X6 (fun v9 => some (.inl (some (.int (v9))), X6))))
set_option maxRecDepth 100000 in
set_option maxHeartbeats 4000000 in
theorem F_X0_fill {S : Nat × (Nat → Int32)} {T : mH} {X R9 : cS} {o9 : mO} {a1 : Int32} (h : g_X0_fill X a1 = some (o9, R9)) : mF S MX0_fill 0 (mEnt [.ref 0, .int a1] 2) [] (xw X T) 0 0 (o9, (xw R9 T), 2, 16) := by
  unfold g_X0_fill at h
  refine mr_iload_n (pc := 0) (x := a1) rfl rfl ?_
  rcases cV_inv h with ⟨hc1, h⟩ | ⟨E1, hc1, hr⟩
  · refine mr_ret (mRunS (pc := 1) (As := [.int (a1)]) (rest := []) rfl lkRX0_34 rfl (Nat.le_of_ble_eq_true rfl) (Nat.le_of_ble_eq_true rfl) (F_X0_checkPool hc1)) rfl (Nat.le_of_ble_eq_true rfl) (Nat.le_of_ble_eq_true rfl) ?_
    refine mr_aload_n (pc := 4) (x := 0) rfl rfl ?_
    refine mr_iload_n (pc := 5) (x := a1) rfl rfl ?_
    rcases bI_inv h with ⟨v6, X6, hc6, h⟩ | ⟨E6, X6, hc6, hr⟩
    · refine mr_ret (mRunV (pc := 6) (q := 0) (As := [.int (a1)]) (rest := []) rfl lkRX0_46 rfl rfl rfl (Nat.le_of_ble_eq_true rfl) (Nat.le_of_ble_eq_true rfl) (F_X0_fillIn hc6)) rfl (Nat.le_of_ble_eq_true rfl) (Nat.le_of_ble_eq_true rfl) ?_
      rcases cI_inv h with ⟨v9, hc9, h⟩ | ⟨E9, hc9, hr⟩
      · refine mr_ret (mRunS (pc := 9) (As := [.int (v6)]) (rest := []) rfl lkRX0_50 rfl (Nat.le_of_ble_eq_true rfl) (Nat.le_of_ble_eq_true rfl) (F_X0_answered hc9)) rfl (Nat.le_of_ble_eq_true rfl) (Nat.le_of_ble_eq_true rfl) ?_
        cases h; exact mr_ireturn (pc := 12) rfl rfl (Nat.le_of_ble_eq_true rfl) (Nat.le_of_ble_eq_true rfl)
      · cases hr; exact mr_thrown (mRunS (pc := 9) (As := [.int (v6)]) (rest := []) rfl lkRX0_50 rfl (Nat.le_of_ble_eq_true rfl) (Nat.le_of_ble_eq_true rfl) (F_X0_answered hc9)) rfl rfl (Nat.le_of_ble_eq_true rfl) (Nat.le_of_ble_eq_true rfl)
    · cases hr; exact mr_thrown (mRunV (pc := 6) (q := 0) (As := [.int (a1)]) (rest := []) rfl lkRX0_46 rfl rfl rfl (Nat.le_of_ble_eq_true rfl) (Nat.le_of_ble_eq_true rfl) (F_X0_fillIn hc6)) rfl rfl (Nat.le_of_ble_eq_true rfl) (Nat.le_of_ble_eq_true rfl)
  · cases hr; exact mr_thrown (mRunS (pc := 1) (As := [.int (a1)]) (rest := []) rfl lkRX0_34 rfl (Nat.le_of_ble_eq_true rfl) (Nat.le_of_ble_eq_true rfl) (F_X0_checkPool hc1)) rfl rfl (Nat.le_of_ble_eq_true rfl) (Nat.le_of_ble_eq_true rfl)
def g_X0_pourInto (X : cS) (a1 a2 : Int32) : Option (mO × cS) := bI (g_X0_hold X (a1)) (fun v2 X2 => if ((v2) : Int32) = 0 then (bI (g_X0_failing X2 (1)) (fun v10 X10 => some (.inl (some (.int (v10))), X10))) else (if vpb (a1) 8 then (if ((9999) : Int32) ≤ (((X2.2.1) ((a1) : Int32).toNatClampNeg) : Int32) then (bV (g_X0_leave X2 (1)) (fun X48 => if vpb (a1) 8 then (some (.inl (some (.int ((X48.2.1) ((a1) : Int32).toNatClampNeg))), X48)) else none)) else (if vpb (a1) 8 then (if vpb (a1) 8 then (bV (g_X0_leave (X2.1, upd (X2.2.1) ((a1) : Int32).toNatClampNeg (if ((((X2.2.1) ((a1) : Int32).toNatClampNeg) + (a2)) : Int32) < (9999) then (((X2.2.1) ((a1) : Int32).toNatClampNeg) + (a2)) else (9999)), X2.2.2.1, X2.2.2.2.1, X2.2.2.2.2.1, X2.2.2.2.2.2.1, X2.2.2.2.2.2.2.1, X2.2.2.2.2.2.2.2.1, X2.2.2.2.2.2.2.2.2.1, X2.2.2.2.2.2.2.2.2.2) (1)) (fun X48 => if vpb (a1) 8 then (some (.inl (some (.int ((X48.2.1) ((a1) : Int32).toNatClampNeg))), X48)) else none)) else none) else none)) else none))
set_option maxRecDepth 100000 in
set_option maxHeartbeats 4000000 in
theorem F_X0_pourInto {S : Nat × (Nat → Int32)} {T : mH} {X R9 : cS} {o9 : mO} {a1 a2 : Int32} (h : g_X0_pourInto X a1 a2 = some (o9, R9)) : mF S MX0_pourInto 0 (mEnt [.ref 0, .int a1, .int a2] 3) [] (xw X T) 0 0 (o9, (xw R9 T), 0, 0) := by
  unfold g_X0_pourInto at h
  refine mr_aload_n (pc := 0) (x := 0) rfl rfl ?_
  refine mr_iload_n (pc := 1) (x := a1) rfl rfl ?_
  rcases bI_inv h with ⟨v2, X2, hc2, h⟩ | ⟨E2, X2, hc2, hr⟩
  · refine mr_ret (mRunV (pc := 2) (q := 0) (As := [.int (a1)]) (rest := []) rfl lkRX0_112 rfl rfl rfl (Nat.le_of_ble_eq_true rfl) (Nat.le_of_ble_eq_true rfl) (F_X0_hold hc2)) rfl (Nat.le_of_ble_eq_true rfl) (Nat.le_of_ble_eq_true rfl) ?_
    refine mr_if_ne (pc := 5) 14 rfl (by decide) (fun c5 => ?_) (fun c5 => ?_)
    · have h := (if_neg c5).symm.trans h
      refine mr_aload_n (pc := 14) (x := 0) rfl rfl ?_
      refine mr_getfield (pc := 15) (v := .ref 2) rfl lfRX0_13 rfl rfl ?_
      refine mr_iload_n (pc := 18) (x := a1) rfl rfl ?_
      obtain ⟨g19, h⟩ := m_gd h
      refine mr_iaload (pc := 19) (f := X2.2.1) rfl rfl (vpb_in g19) ?_
      refine mr_sipush (pc := 20) (v := 9999) rfl (by decide) ?_
      refine mr_icmp_ge (pc := 23) 46 rfl (by decide) (fun c23 => ?_) (fun c23 => ?_)
      · have h := (if_pos c23).symm.trans h
        refine mr_aload_n (pc := 46) (x := 0) rfl rfl ?_
        refine mr_iconst (pc := 47) (v := 1) rfl (by decide) ?_
        rcases bV_inv h with ⟨X48, hc48, h⟩ | ⟨E48, X48, hc48, hr⟩
        · refine mr_ret (mRunV (pc := 48) (q := 0) (As := [.int (1)]) (rest := []) rfl lkRX0_118 rfl rfl rfl (Nat.le_of_ble_eq_true rfl) (Nat.le_of_ble_eq_true rfl) (F_X0_leave hc48)) rfl (Nat.le_of_ble_eq_true rfl) (Nat.le_of_ble_eq_true rfl) ?_
          refine mr_aload_n (pc := 51) (x := 0) rfl rfl ?_
          refine mr_getfield (pc := 52) (v := .ref 2) rfl lfRX0_13 rfl rfl ?_
          refine mr_iload_n (pc := 55) (x := a1) rfl rfl ?_
          obtain ⟨g56, h⟩ := m_gd h
          refine mr_iaload (pc := 56) (f := X48.2.1) rfl rfl (vpb_in g56) ?_
          cases h; exact mr_ireturn (pc := 57) rfl rfl (Nat.le_of_ble_eq_true rfl) (Nat.le_of_ble_eq_true rfl)
        · cases hr; exact mr_thrown (mRunV (pc := 48) (q := 0) (As := [.int (1)]) (rest := []) rfl lkRX0_118 rfl rfl rfl (Nat.le_of_ble_eq_true rfl) (Nat.le_of_ble_eq_true rfl) (F_X0_leave hc48)) rfl rfl (Nat.le_of_ble_eq_true rfl) (Nat.le_of_ble_eq_true rfl)
      · have h := (if_neg c23).symm.trans h
        refine mr_aload_n (pc := 26) (x := 0) rfl rfl ?_
        refine mr_getfield (pc := 27) (v := .ref 2) rfl lfRX0_13 rfl rfl ?_
        refine mr_iload_n (pc := 30) (x := a1) rfl rfl ?_
        refine mr_sipush (pc := 31) (v := 9999) rfl (by decide) ?_
        refine mr_aload_n (pc := 34) (x := 0) rfl rfl ?_
        refine mr_getfield (pc := 35) (v := .ref 2) rfl lfRX0_13 rfl rfl ?_
        refine mr_iload_n (pc := 38) (x := a1) rfl rfl ?_
        obtain ⟨g39, h⟩ := m_gd h
        refine mr_iaload (pc := 39) (f := X2.2.1) rfl rfl (vpb_in g39) ?_
        refine mr_iload_n (pc := 40) (x := a2) rfl rfl ?_
        refine mr_iadd (pc := 41) rfl ?_
        refine mr_mmin (pc := 42) rfl rfl (by decide) (Nat.le_of_ble_eq_true rfl) (Nat.le_of_ble_eq_true rfl) (Nat.le_of_ble_eq_true rfl) ?_
        obtain ⟨g45, h⟩ := m_gd h
        refine ms_iastore (pc := 45) (f := X2.2.1) (h' := (xw (X2.1, upd (X2.2.1) ((a1) : Int32).toNatClampNeg (if ((((X2.2.1) ((a1) : Int32).toNatClampNeg) + (a2)) : Int32) < (9999) then (((X2.2.1) ((a1) : Int32).toNatClampNeg) + (a2)) else (9999)), X2.2.2.1, X2.2.2.2.1, X2.2.2.2.2.1, X2.2.2.2.2.2.1, X2.2.2.2.2.2.2.1, X2.2.2.2.2.2.2.2.1, X2.2.2.2.2.2.2.2.2.1, X2.2.2.2.2.2.2.2.2.2) T)) rfl rfl g45 rfl ?_
        refine mr_aload_n (pc := 46) (x := 0) rfl rfl ?_
        refine mr_iconst (pc := 47) (v := 1) rfl (by decide) ?_
        rcases bV_inv h with ⟨X48, hc48, h⟩ | ⟨E48, X48, hc48, hr⟩
        · refine mr_ret (mRunV (pc := 48) (q := 0) (As := [.int (1)]) (rest := []) rfl lkRX0_118 rfl rfl rfl (Nat.le_of_ble_eq_true rfl) (Nat.le_of_ble_eq_true rfl) (F_X0_leave hc48)) rfl (Nat.le_of_ble_eq_true rfl) (Nat.le_of_ble_eq_true rfl) ?_
          refine mr_aload_n (pc := 51) (x := 0) rfl rfl ?_
          refine mr_getfield (pc := 52) (v := .ref 2) rfl lfRX0_13 rfl rfl ?_
          refine mr_iload_n (pc := 55) (x := a1) rfl rfl ?_
          obtain ⟨g56, h⟩ := m_gd h
          refine mr_iaload (pc := 56) (f := X48.2.1) rfl rfl (vpb_in g56) ?_
          cases h; exact mr_ireturn (pc := 57) rfl rfl (Nat.le_of_ble_eq_true rfl) (Nat.le_of_ble_eq_true rfl)
        · cases hr; exact mr_thrown (mRunV (pc := 48) (q := 0) (As := [.int (1)]) (rest := []) rfl lkRX0_118 rfl rfl rfl (Nat.le_of_ble_eq_true rfl) (Nat.le_of_ble_eq_true rfl) (F_X0_leave hc48)) rfl rfl (Nat.le_of_ble_eq_true rfl) (Nat.le_of_ble_eq_true rfl)
    · have h := (if_pos c5).symm.trans h
      refine mr_aload_n (pc := 8) (x := 0) rfl rfl ?_
      refine mr_iconst (pc := 9) (v := 1) rfl (by decide) ?_
      rcases bI_inv h with ⟨v10, X10, hc10, h⟩ | ⟨E10, X10, hc10, hr⟩
      · refine mr_ret (mRunV (pc := 10) (q := 0) (As := [.int (1)]) (rest := []) rfl lkRX0_183 rfl rfl rfl (Nat.le_of_ble_eq_true rfl) (Nat.le_of_ble_eq_true rfl) (F_X0_failing hc10)) rfl (Nat.le_of_ble_eq_true rfl) (Nat.le_of_ble_eq_true rfl) ?_
        cases h; exact mr_ireturn (pc := 13) rfl rfl (Nat.le_of_ble_eq_true rfl) (Nat.le_of_ble_eq_true rfl)
      · cases hr; exact mr_thrown (mRunV (pc := 10) (q := 0) (As := [.int (1)]) (rest := []) rfl lkRX0_183 rfl rfl rfl (Nat.le_of_ble_eq_true rfl) (Nat.le_of_ble_eq_true rfl) (F_X0_failing hc10)) rfl rfl (Nat.le_of_ble_eq_true rfl) (Nat.le_of_ble_eq_true rfl)
  · cases hr; exact mr_thrown (mRunV (pc := 2) (q := 0) (As := [.int (a1)]) (rest := []) rfl lkRX0_112 rfl rfl rfl (Nat.le_of_ble_eq_true rfl) (Nat.le_of_ble_eq_true rfl) (F_X0_hold hc2)) rfl rfl (Nat.le_of_ble_eq_true rfl) (Nat.le_of_ble_eq_true rfl)
def g_X0_pour (X : cS) (a1 a2 : Int32) : Option (mO × cS) := cV (g_X0_checkPool (a1)) X (cV (g_X0_checkRange (a2) (0) (9999)) X (bI (g_X0_pourInto X (a1) (a2)) (fun v15 X15 => cI (g_X0_answered (v15)) X15 (fun v18 => some (.inl (some (.int (v18))), X15)))))
set_option maxRecDepth 100000 in
set_option maxHeartbeats 4000000 in
theorem F_X0_pour {S : Nat × (Nat → Int32)} {T : mH} {X R9 : cS} {o9 : mO} {a1 a2 : Int32} (h : g_X0_pour X a1 a2 = some (o9, R9)) : mF S MX0_pour 0 (mEnt [.ref 0, .int a1, .int a2] 3) [] (xw X T) 0 0 (o9, (xw R9 T), 3, 24) := by
  unfold g_X0_pour at h
  refine mr_iload_n (pc := 0) (x := a1) rfl rfl ?_
  rcases cV_inv h with ⟨hc1, h⟩ | ⟨E1, hc1, hr⟩
  · refine mr_ret (mRunS (pc := 1) (As := [.int (a1)]) (rest := []) rfl lkRX0_34 rfl (Nat.le_of_ble_eq_true rfl) (Nat.le_of_ble_eq_true rfl) (F_X0_checkPool hc1)) rfl (Nat.le_of_ble_eq_true rfl) (Nat.le_of_ble_eq_true rfl) ?_
    refine mr_iload_n (pc := 4) (x := a2) rfl rfl ?_
    refine mr_iconst (pc := 5) (v := 0) rfl (by decide) ?_
    refine mr_sipush (pc := 6) (v := 9999) rfl (by decide) ?_
    rcases cV_inv h with ⟨hc9, h⟩ | ⟨E9, hc9, hr⟩
    · refine mr_ret (mRunS (pc := 9) (As := [.int (a2), .int (0), .int (9999)]) (rest := []) rfl lkRX0_38 rfl (Nat.le_of_ble_eq_true rfl) (Nat.le_of_ble_eq_true rfl) (F_X0_checkRange hc9)) rfl (Nat.le_of_ble_eq_true rfl) (Nat.le_of_ble_eq_true rfl) ?_
      refine mr_aload_n (pc := 12) (x := 0) rfl rfl ?_
      refine mr_iload_n (pc := 13) (x := a1) rfl rfl ?_
      refine mr_iload_n (pc := 14) (x := a2) rfl rfl ?_
      rcases bI_inv h with ⟨v15, X15, hc15, h⟩ | ⟨E15, X15, hc15, hr⟩
      · refine mr_ret (mRunV (pc := 15) (q := 0) (As := [.int (a1), .int (a2)]) (rest := []) rfl lkRX0_53 rfl rfl rfl (Nat.le_of_ble_eq_true rfl) (Nat.le_of_ble_eq_true rfl) (F_X0_pourInto hc15)) rfl (Nat.le_of_ble_eq_true rfl) (Nat.le_of_ble_eq_true rfl) ?_
        rcases cI_inv h with ⟨v18, hc18, h⟩ | ⟨E18, hc18, hr⟩
        · refine mr_ret (mRunS (pc := 18) (As := [.int (v15)]) (rest := []) rfl lkRX0_50 rfl (Nat.le_of_ble_eq_true rfl) (Nat.le_of_ble_eq_true rfl) (F_X0_answered hc18)) rfl (Nat.le_of_ble_eq_true rfl) (Nat.le_of_ble_eq_true rfl) ?_
          cases h; exact mr_ireturn (pc := 21) rfl rfl (Nat.le_of_ble_eq_true rfl) (Nat.le_of_ble_eq_true rfl)
        · cases hr; exact mr_thrown (mRunS (pc := 18) (As := [.int (v15)]) (rest := []) rfl lkRX0_50 rfl (Nat.le_of_ble_eq_true rfl) (Nat.le_of_ble_eq_true rfl) (F_X0_answered hc18)) rfl rfl (Nat.le_of_ble_eq_true rfl) (Nat.le_of_ble_eq_true rfl)
      · cases hr; exact mr_thrown (mRunV (pc := 15) (q := 0) (As := [.int (a1), .int (a2)]) (rest := []) rfl lkRX0_53 rfl rfl rfl (Nat.le_of_ble_eq_true rfl) (Nat.le_of_ble_eq_true rfl) (F_X0_pourInto hc15)) rfl rfl (Nat.le_of_ble_eq_true rfl) (Nat.le_of_ble_eq_true rfl)
    · cases hr; exact mr_thrown (mRunS (pc := 9) (As := [.int (a2), .int (0), .int (9999)]) (rest := []) rfl lkRX0_38 rfl (Nat.le_of_ble_eq_true rfl) (Nat.le_of_ble_eq_true rfl) (F_X0_checkRange hc9)) rfl rfl (Nat.le_of_ble_eq_true rfl) (Nat.le_of_ble_eq_true rfl)
  · cases hr; exact mr_thrown (mRunS (pc := 1) (As := [.int (a1)]) (rest := []) rfl lkRX0_34 rfl (Nat.le_of_ble_eq_true rfl) (Nat.le_of_ble_eq_true rfl) (F_X0_checkPool hc1)) rfl rfl (Nat.le_of_ble_eq_true rfl) (Nat.le_of_ble_eq_true rfl)
def g_X0_drawDown (X : cS) (a1 a2 : Int32) : Option (mO × cS) := bI (g_X0_hold X (a1)) (fun v2 X2 => if ((v2) : Int32) = 0 then (bI (g_X0_failing X2 (1)) (fun v10 X10 => some (.inl (some (.int (v10))), X10))) else (if vpb (a1) 8 then (if vpb (a1) 8 then (if vpb (a1) 8 then (if vpb (a1) 8 then (bV (g_X0_leave (X2.1, upd (X2.2.1) ((a1) : Int32).toNatClampNeg (((if (((((((a2) : Int32).toInt64) + (1)) * ((((X2.1) ((a1) : Int32).toNatClampNeg) : Int32).toInt64)) - (1)) : Int64) < ((((X2.2.1) ((a1) : Int32).toNatClampNeg) : Int32).toInt64) then ((((((a2) : Int32).toInt64) + (1)) * ((((X2.1) ((a1) : Int32).toNatClampNeg) : Int32).toInt64)) - (1)) else ((((X2.2.1) ((a1) : Int32).toNatClampNeg) : Int32).toInt64)) : Int64).toInt32), X2.2.2.1, X2.2.2.2.1, X2.2.2.2.2.1, X2.2.2.2.2.2.1, X2.2.2.2.2.2.2.1, X2.2.2.2.2.2.2.2.1, X2.2.2.2.2.2.2.2.2.1, X2.2.2.2.2.2.2.2.2.2) (1)) (fun X64 => some (.inl (some (.int (((X2.2.1) ((a1) : Int32).toNatClampNeg) - (((if (((((((a2) : Int32).toInt64) + (1)) * ((((X2.1) ((a1) : Int32).toNatClampNeg) : Int32).toInt64)) - (1)) : Int64) < ((((X2.2.1) ((a1) : Int32).toNatClampNeg) : Int32).toInt64) then ((((((a2) : Int32).toInt64) + (1)) * ((((X2.1) ((a1) : Int32).toNatClampNeg) : Int32).toInt64)) - (1)) else ((((X2.2.1) ((a1) : Int32).toNatClampNeg) : Int32).toInt64)) : Int64).toInt32)))), X64))) else none) else none) else none) else none))
set_option maxRecDepth 100000 in
set_option maxHeartbeats 4000000 in
theorem F_X0_drawDown {S : Nat × (Nat → Int32)} {T : mH} {X R9 : cS} {o9 : mO} {a1 a2 : Int32} (h : g_X0_drawDown X a1 a2 = some (o9, R9)) : mF S MX0_drawDown 0 (mEnt [.ref 0, .int a1, .int a2] 7) [] (xw X T) 0 0 (o9, (xw R9 T), 0, 0) := by
  unfold g_X0_drawDown at h
  refine mr_aload_n (pc := 0) (x := 0) rfl rfl ?_
  refine mr_iload_n (pc := 1) (x := a1) rfl rfl ?_
  rcases bI_inv h with ⟨v2, X2, hc2, h⟩ | ⟨E2, X2, hc2, hr⟩
  · refine mr_ret (mRunV (pc := 2) (q := 0) (As := [.int (a1)]) (rest := []) rfl lkRX0_112 rfl rfl rfl (Nat.le_of_ble_eq_true rfl) (Nat.le_of_ble_eq_true rfl) (F_X0_hold hc2)) rfl (Nat.le_of_ble_eq_true rfl) (Nat.le_of_ble_eq_true rfl) ?_
    refine mr_if_ne (pc := 5) 14 rfl (by decide) (fun c5 => ?_) (fun c5 => ?_)
    · have h := (if_neg c5).symm.trans h
      refine mr_iload_n (pc := 14) (x := a2) rfl rfl ?_
      refine mr_i2l (pc := 15) rfl ?_
      refine mr_lconst (pc := 16) (v := 1) rfl (by decide) ?_
      refine mr_ladd (pc := 17) rfl ?_
      refine mr_aload_n (pc := 18) (x := 0) rfl rfl ?_
      refine mr_getfield (pc := 19) (v := .ref 1) rfl lfRX0_9 rfl rfl ?_
      refine mr_iload_n (pc := 22) (x := a1) rfl rfl ?_
      obtain ⟨g23, h⟩ := m_gd h
      refine mr_iaload (pc := 23) (f := X2.1) rfl rfl (vpb_in g23) ?_
      refine mr_i2l (pc := 24) rfl ?_
      refine mr_lmul (pc := 25) rfl ?_
      refine mr_lconst (pc := 26) (v := 1) rfl (by decide) ?_
      refine mr_lsub (pc := 27) rfl ?_
      refine ms_lstore_n (pc := 28) (L' := [some (.ref 0), some (.int (a1)), some (.int (a2)), some (.long ((((((a2) : Int32).toInt64) + (1)) * ((((X2.1) ((a1) : Int32).toNatClampNeg) : Int32).toInt64)) - (1))), none, none, none]) rfl (by decide) rfl rfl ?_
      refine mr_aload_n (pc := 29) (x := 0) rfl rfl ?_
      refine mr_getfield (pc := 30) (v := .ref 2) rfl lfRX0_13 rfl rfl ?_
      refine mr_iload_n (pc := 33) (x := a1) rfl rfl ?_
      obtain ⟨g34, h⟩ := m_gd h
      refine mr_iaload (pc := 34) (f := X2.2.1) rfl rfl (vpb_in g34) ?_
      refine mr_i2l (pc := 35) rfl ?_
      refine mr_lload_n (pc := 36) (x := (((((a2) : Int32).toInt64) + (1)) * ((((X2.1) ((a1) : Int32).toNatClampNeg) : Int32).toInt64)) - (1)) rfl rfl ?_
      refine mr_lmin (pc := 37) rfl rfl (by decide) (Nat.le_of_ble_eq_true rfl) (Nat.le_of_ble_eq_true rfl) (Nat.le_of_ble_eq_true rfl) ?_
      refine mr_l2i (pc := 40) rfl ?_
      refine ms_istore (pc := 41) (L' := [some (.ref 0), some (.int (a1)), some (.int (a2)), some (.long ((((((a2) : Int32).toInt64) + (1)) * ((((X2.1) ((a1) : Int32).toNatClampNeg) : Int32).toInt64)) - (1))), none, some (.int (((if (((((((a2) : Int32).toInt64) + (1)) * ((((X2.1) ((a1) : Int32).toNatClampNeg) : Int32).toInt64)) - (1)) : Int64) < ((((X2.2.1) ((a1) : Int32).toNatClampNeg) : Int32).toInt64) then ((((((a2) : Int32).toInt64) + (1)) * ((((X2.1) ((a1) : Int32).toNatClampNeg) : Int32).toInt64)) - (1)) else ((((X2.2.1) ((a1) : Int32).toNatClampNeg) : Int32).toInt64)) : Int64).toInt32)), none]) rfl (by decide) rfl rfl ?_
      refine mr_aload_n (pc := 43) (x := 0) rfl rfl ?_
      refine mr_getfield (pc := 44) (v := .ref 2) rfl lfRX0_13 rfl rfl ?_
      refine mr_iload_n (pc := 47) (x := a1) rfl rfl ?_
      obtain ⟨g48, h⟩ := m_gd h
      refine mr_iaload (pc := 48) (f := X2.2.1) rfl rfl (vpb_in g48) ?_
      refine mr_iload (pc := 49) (x := ((if (((((((a2) : Int32).toInt64) + (1)) * ((((X2.1) ((a1) : Int32).toNatClampNeg) : Int32).toInt64)) - (1)) : Int64) < ((((X2.2.1) ((a1) : Int32).toNatClampNeg) : Int32).toInt64) then ((((((a2) : Int32).toInt64) + (1)) * ((((X2.1) ((a1) : Int32).toNatClampNeg) : Int32).toInt64)) - (1)) else ((((X2.2.1) ((a1) : Int32).toNatClampNeg) : Int32).toInt64)) : Int64).toInt32) rfl rfl ?_
      refine mr_isub (pc := 51) rfl ?_
      refine ms_istore (pc := 52) (L' := [some (.ref 0), some (.int (a1)), some (.int (a2)), some (.long ((((((a2) : Int32).toInt64) + (1)) * ((((X2.1) ((a1) : Int32).toNatClampNeg) : Int32).toInt64)) - (1))), none, some (.int (((if (((((((a2) : Int32).toInt64) + (1)) * ((((X2.1) ((a1) : Int32).toNatClampNeg) : Int32).toInt64)) - (1)) : Int64) < ((((X2.2.1) ((a1) : Int32).toNatClampNeg) : Int32).toInt64) then ((((((a2) : Int32).toInt64) + (1)) * ((((X2.1) ((a1) : Int32).toNatClampNeg) : Int32).toInt64)) - (1)) else ((((X2.2.1) ((a1) : Int32).toNatClampNeg) : Int32).toInt64)) : Int64).toInt32)), some (.int (((X2.2.1) ((a1) : Int32).toNatClampNeg) - (((if (((((((a2) : Int32).toInt64) + (1)) * ((((X2.1) ((a1) : Int32).toNatClampNeg) : Int32).toInt64)) - (1)) : Int64) < ((((X2.2.1) ((a1) : Int32).toNatClampNeg) : Int32).toInt64) then ((((((a2) : Int32).toInt64) + (1)) * ((((X2.1) ((a1) : Int32).toNatClampNeg) : Int32).toInt64)) - (1)) else ((((X2.2.1) ((a1) : Int32).toNatClampNeg) : Int32).toInt64)) : Int64).toInt32)))]) rfl (by decide) rfl rfl ?_
      refine mr_aload_n (pc := 54) (x := 0) rfl rfl ?_
      refine mr_getfield (pc := 55) (v := .ref 2) rfl lfRX0_13 rfl rfl ?_
      refine mr_iload_n (pc := 58) (x := a1) rfl rfl ?_
      refine mr_iload (pc := 59) (x := ((if (((((((a2) : Int32).toInt64) + (1)) * ((((X2.1) ((a1) : Int32).toNatClampNeg) : Int32).toInt64)) - (1)) : Int64) < ((((X2.2.1) ((a1) : Int32).toNatClampNeg) : Int32).toInt64) then ((((((a2) : Int32).toInt64) + (1)) * ((((X2.1) ((a1) : Int32).toNatClampNeg) : Int32).toInt64)) - (1)) else ((((X2.2.1) ((a1) : Int32).toNatClampNeg) : Int32).toInt64)) : Int64).toInt32) rfl rfl ?_
      obtain ⟨g61, h⟩ := m_gd h
      refine ms_iastore (pc := 61) (f := X2.2.1) (h' := (xw (X2.1, upd (X2.2.1) ((a1) : Int32).toNatClampNeg (((if (((((((a2) : Int32).toInt64) + (1)) * ((((X2.1) ((a1) : Int32).toNatClampNeg) : Int32).toInt64)) - (1)) : Int64) < ((((X2.2.1) ((a1) : Int32).toNatClampNeg) : Int32).toInt64) then ((((((a2) : Int32).toInt64) + (1)) * ((((X2.1) ((a1) : Int32).toNatClampNeg) : Int32).toInt64)) - (1)) else ((((X2.2.1) ((a1) : Int32).toNatClampNeg) : Int32).toInt64)) : Int64).toInt32), X2.2.2.1, X2.2.2.2.1, X2.2.2.2.2.1, X2.2.2.2.2.2.1, X2.2.2.2.2.2.2.1, X2.2.2.2.2.2.2.2.1, X2.2.2.2.2.2.2.2.2.1, X2.2.2.2.2.2.2.2.2.2) T)) rfl rfl g61 rfl ?_
      refine mr_aload_n (pc := 62) (x := 0) rfl rfl ?_
      refine mr_iconst (pc := 63) (v := 1) rfl (by decide) ?_
      rcases bV_inv h with ⟨X64, hc64, h⟩ | ⟨E64, X64, hc64, hr⟩
      · refine mr_ret (mRunV (pc := 64) (q := 0) (As := [.int (1)]) (rest := []) rfl lkRX0_118 rfl rfl rfl (Nat.le_of_ble_eq_true rfl) (Nat.le_of_ble_eq_true rfl) (F_X0_leave hc64)) rfl (Nat.le_of_ble_eq_true rfl) (Nat.le_of_ble_eq_true rfl) ?_
        refine mr_iload (pc := 67) (x := ((X2.2.1) ((a1) : Int32).toNatClampNeg) - (((if (((((((a2) : Int32).toInt64) + (1)) * ((((X2.1) ((a1) : Int32).toNatClampNeg) : Int32).toInt64)) - (1)) : Int64) < ((((X2.2.1) ((a1) : Int32).toNatClampNeg) : Int32).toInt64) then ((((((a2) : Int32).toInt64) + (1)) * ((((X2.1) ((a1) : Int32).toNatClampNeg) : Int32).toInt64)) - (1)) else ((((X2.2.1) ((a1) : Int32).toNatClampNeg) : Int32).toInt64)) : Int64).toInt32)) rfl rfl ?_
        cases h; exact mr_ireturn (pc := 69) rfl rfl (Nat.le_of_ble_eq_true rfl) (Nat.le_of_ble_eq_true rfl)
      · cases hr; exact mr_thrown (mRunV (pc := 64) (q := 0) (As := [.int (1)]) (rest := []) rfl lkRX0_118 rfl rfl rfl (Nat.le_of_ble_eq_true rfl) (Nat.le_of_ble_eq_true rfl) (F_X0_leave hc64)) rfl rfl (Nat.le_of_ble_eq_true rfl) (Nat.le_of_ble_eq_true rfl)
    · have h := (if_pos c5).symm.trans h
      refine mr_aload_n (pc := 8) (x := 0) rfl rfl ?_
      refine mr_iconst (pc := 9) (v := 1) rfl (by decide) ?_
      rcases bI_inv h with ⟨v10, X10, hc10, h⟩ | ⟨E10, X10, hc10, hr⟩
      · refine mr_ret (mRunV (pc := 10) (q := 0) (As := [.int (1)]) (rest := []) rfl lkRX0_183 rfl rfl rfl (Nat.le_of_ble_eq_true rfl) (Nat.le_of_ble_eq_true rfl) (F_X0_failing hc10)) rfl (Nat.le_of_ble_eq_true rfl) (Nat.le_of_ble_eq_true rfl) ?_
        cases h; exact mr_ireturn (pc := 13) rfl rfl (Nat.le_of_ble_eq_true rfl) (Nat.le_of_ble_eq_true rfl)
      · cases hr; exact mr_thrown (mRunV (pc := 10) (q := 0) (As := [.int (1)]) (rest := []) rfl lkRX0_183 rfl rfl rfl (Nat.le_of_ble_eq_true rfl) (Nat.le_of_ble_eq_true rfl) (F_X0_failing hc10)) rfl rfl (Nat.le_of_ble_eq_true rfl) (Nat.le_of_ble_eq_true rfl)
  · cases hr; exact mr_thrown (mRunV (pc := 2) (q := 0) (As := [.int (a1)]) (rest := []) rfl lkRX0_112 rfl rfl rfl (Nat.le_of_ble_eq_true rfl) (Nat.le_of_ble_eq_true rfl) (F_X0_hold hc2)) rfl rfl (Nat.le_of_ble_eq_true rfl) (Nat.le_of_ble_eq_true rfl)
def g_X0_draw (X : cS) (a1 a2 : Int32) : Option (mO × cS) := cV (g_X0_checkPool (a1)) X (if 0 ≤ ((a2) : Int32) then (bI (g_X0_drawDown X (a1) (a2)) (fun v21 X21 => cI (g_X0_answered (v21)) X21 (fun v24 => some (.inl (some (.int (v24))), X21)))) else (some (.inr xI, X)))
set_option maxRecDepth 100000 in
set_option maxHeartbeats 4000000 in
theorem F_X0_draw {S : Nat × (Nat → Int32)} {T : mH} {X R9 : cS} {o9 : mO} {a1 a2 : Int32} (h : g_X0_draw X a1 a2 = some (o9, R9)) : mF S MX0_draw 0 (mEnt [.ref 0, .int a1, .int a2] 3) [] (xw X T) 0 0 (o9, (xw R9 T), 3, 24) := by
  unfold g_X0_draw at h
  refine mr_iload_n (pc := 0) (x := a1) rfl rfl ?_
  rcases cV_inv h with ⟨hc1, h⟩ | ⟨E1, hc1, hr⟩
  · refine mr_ret (mRunS (pc := 1) (As := [.int (a1)]) (rest := []) rfl lkRX0_34 rfl (Nat.le_of_ble_eq_true rfl) (Nat.le_of_ble_eq_true rfl) (F_X0_checkPool hc1)) rfl (Nat.le_of_ble_eq_true rfl) (Nat.le_of_ble_eq_true rfl) ?_
    refine mr_iload_n (pc := 4) (x := a2) rfl rfl ?_
    refine mr_if_ge (pc := 5) 18 rfl (by decide) (fun c5 => ?_) (fun c5 => ?_)
    · have h := (if_pos c5).symm.trans h
      refine mr_aload_n (pc := 18) (x := 0) rfl rfl ?_
      refine mr_iload_n (pc := 19) (x := a1) rfl rfl ?_
      refine mr_iload_n (pc := 20) (x := a2) rfl rfl ?_
      rcases bI_inv h with ⟨v21, X21, hc21, h⟩ | ⟨E21, X21, hc21, hr⟩
      · refine mr_ret (mRunV (pc := 21) (q := 0) (As := [.int (a1), .int (a2)]) (rest := []) rfl lkRX0_64 rfl rfl rfl (Nat.le_of_ble_eq_true rfl) (Nat.le_of_ble_eq_true rfl) (F_X0_drawDown hc21)) rfl (Nat.le_of_ble_eq_true rfl) (Nat.le_of_ble_eq_true rfl) ?_
        rcases cI_inv h with ⟨v24, hc24, h⟩ | ⟨E24, hc24, hr⟩
        · refine mr_ret (mRunS (pc := 24) (As := [.int (v21)]) (rest := []) rfl lkRX0_50 rfl (Nat.le_of_ble_eq_true rfl) (Nat.le_of_ble_eq_true rfl) (F_X0_answered hc24)) rfl (Nat.le_of_ble_eq_true rfl) (Nat.le_of_ble_eq_true rfl) ?_
          cases h; exact mr_ireturn (pc := 27) rfl rfl (Nat.le_of_ble_eq_true rfl) (Nat.le_of_ble_eq_true rfl)
        · cases hr; exact mr_thrown (mRunS (pc := 24) (As := [.int (v21)]) (rest := []) rfl lkRX0_50 rfl (Nat.le_of_ble_eq_true rfl) (Nat.le_of_ble_eq_true rfl) (F_X0_answered hc24)) rfl rfl (Nat.le_of_ble_eq_true rfl) (Nat.le_of_ble_eq_true rfl)
      · cases hr; exact mr_thrown (mRunV (pc := 21) (q := 0) (As := [.int (a1), .int (a2)]) (rest := []) rfl lkRX0_64 rfl rfl rfl (Nat.le_of_ble_eq_true rfl) (Nat.le_of_ble_eq_true rfl) (F_X0_drawDown hc21)) rfl rfl (Nat.le_of_ble_eq_true rfl) (Nat.le_of_ble_eq_true rfl)
    · have h := (if_neg c5).symm.trans h
      cases h; exact mr_throw (pc := 8) rfl rfl rfl rfl rfl lt_59 rfl (by decide) (by decide) (Nat.le_of_ble_eq_true rfl) (Nat.le_of_ble_eq_true rfl)
  · cases hr; exact mr_thrown (mRunS (pc := 1) (As := [.int (a1)]) (rest := []) rfl lkRX0_34 rfl (Nat.le_of_ble_eq_true rfl) (Nat.le_of_ble_eq_true rfl) (F_X0_checkPool hc1)) rfl rfl (Nat.le_of_ble_eq_true rfl) (Nat.le_of_ble_eq_true rfl)
def g_X0_checkBoat (a0 : Int32) : Option mO := if ((a0) : Int32) < 0 then (some (.inr xA)) else (if ((a0) : Int32) < ((10) : Int32) then (some (.inl none)) else (some (.inr xA)))
set_option maxRecDepth 100000 in
set_option maxHeartbeats 4000000 in
theorem F_X0_checkBoat {S : Nat × (Nat → Int32)} {hw : mH} {o9 : mO} {a0 : Int32} (h : g_X0_checkBoat a0 = some o9) : mF S MX0_checkBoat 0 (mEnt [.int a0] 1) [] hw 0 0 (o9, hw, 1, 8) := by
  unfold g_X0_checkBoat at h
  refine mr_iload_n (pc := 0) (x := a0) rfl rfl ?_
  refine mr_if_lt (pc := 1) 10 rfl (by decide) (fun c1 => ?_) (fun c1 => ?_)
  · have h := (if_pos c1).symm.trans h
    cases h; exact mr_throw (pc := 10) rfl rfl rfl rfl rfl lt_150 rfl (by decide) (by decide) (Nat.le_of_ble_eq_true rfl) (Nat.le_of_ble_eq_true rfl)
  · have h := (if_neg c1).symm.trans h
    refine mr_iload_n (pc := 4) (x := a0) rfl rfl ?_
    refine mr_bipush (pc := 5) (v := 10) rfl (by decide) ?_
    refine mr_icmp_lt (pc := 7) 20 rfl (by decide) (fun c7 => ?_) (fun c7 => ?_)
    · have h := (if_pos c7).symm.trans h
      cases h; exact mr_return (pc := 20) rfl rfl (Nat.le_of_ble_eq_true rfl) (Nat.le_of_ble_eq_true rfl)
    · have h := (if_neg c7).symm.trans h
      cases h; exact mr_throw (pc := 10) rfl rfl rfl rfl rfl lt_150 rfl (by decide) (by decide) (Nat.le_of_ble_eq_true rfl) (Nat.le_of_ble_eq_true rfl)
def g_X0_berth (X : cS) (a1 a2 a3 : Int32) : Option (mO × cS) := bI (g_X0_hold X (a3)) (fun v2 X2 => if ((v2) : Int32) = 0 then (bI (g_X0_failing X2 (1)) (fun v10 X10 => some (.inl (some (.int (v10))), X10))) else (if vpb (a1) 10 then (if (((X2.2.2.2.2.2.1) ((a1) : Int32).toNatClampNeg) : Int32) = ((a3) : Int32) then (if vpb (a1) 10 then (if vpb (a1) 10 then (bV (g_X0_leave (X2.1, X2.2.1, X2.2.2.1, X2.2.2.2.1, upd (X2.2.2.2.2.1) ((a1) : Int32).toNatClampNeg (a2), upd (X2.2.2.2.2.2.1) ((a1) : Int32).toNatClampNeg (a3), X2.2.2.2.2.2.2.1, X2.2.2.2.2.2.2.2.1, X2.2.2.2.2.2.2.2.2.1, X2.2.2.2.2.2.2.2.2.2) (1)) (fun X55 => bI (g_X0_boatsIn X55 (a3)) (fun v60 X60 => some (.inl (some (.int (v60))), X60)))) else none) else none) else (bI (g_X0_boatsIn X2 (a3)) (fun v26 X26 => if ((v26) : Int32) < ((3) : Int32) then (if vpb (a1) 10 then (if vpb (a1) 10 then (bV (g_X0_leave (X26.1, X26.2.1, X26.2.2.1, X26.2.2.2.1, upd (X26.2.2.2.2.1) ((a1) : Int32).toNatClampNeg (a2), upd (X26.2.2.2.2.2.1) ((a1) : Int32).toNatClampNeg (a3), X26.2.2.2.2.2.2.1, X26.2.2.2.2.2.2.2.1, X26.2.2.2.2.2.2.2.2.1, X26.2.2.2.2.2.2.2.2.2) (1)) (fun X55 => bI (g_X0_boatsIn X55 (a3)) (fun v60 X60 => some (.inl (some (.int (v60))), X60)))) else none) else none) else (bI (g_X0_failing X26 (3)) (fun v35 X35 => some (.inl (some (.int (v35))), X35)))))) else none))
set_option maxRecDepth 100000 in
set_option maxHeartbeats 4000000 in
theorem F_X0_berth {S : Nat × (Nat → Int32)} {T : mH} {X R9 : cS} {o9 : mO} {a1 a2 a3 : Int32} (h : g_X0_berth X a1 a2 a3 = some (o9, R9)) : mF S MX0_berth 0 (mEnt [.ref 0, .int a1, .int a2, .int a3] 4) [] (xw X T) 0 0 (o9, (xw R9 T), 0, 0) := by
  unfold g_X0_berth at h
  refine mr_aload_n (pc := 0) (x := 0) rfl rfl ?_
  refine mr_iload_n (pc := 1) (x := a3) rfl rfl ?_
  rcases bI_inv h with ⟨v2, X2, hc2, h⟩ | ⟨E2, X2, hc2, hr⟩
  · refine mr_ret (mRunV (pc := 2) (q := 0) (As := [.int (a3)]) (rest := []) rfl lkRX0_112 rfl rfl rfl (Nat.le_of_ble_eq_true rfl) (Nat.le_of_ble_eq_true rfl) (F_X0_hold hc2)) rfl (Nat.le_of_ble_eq_true rfl) (Nat.le_of_ble_eq_true rfl) ?_
    refine mr_if_ne (pc := 5) 14 rfl (by decide) (fun c5 => ?_) (fun c5 => ?_)
    · have h := (if_neg c5).symm.trans h
      refine mr_aload_n (pc := 14) (x := 0) rfl rfl ?_
      refine mr_getfield (pc := 15) (v := .ref 6) rfl lfRX0_25 rfl rfl ?_
      refine mr_iload_n (pc := 18) (x := a1) rfl rfl ?_
      obtain ⟨g19, h⟩ := m_gd h
      refine mr_iaload (pc := 19) (f := X2.2.2.2.2.2.1) rfl rfl (vpb_in g19) ?_
      refine mr_iload_n (pc := 20) (x := a3) rfl rfl ?_
      refine mr_icmp_eq (pc := 21) 39 rfl (by decide) (fun c21 => ?_) (fun c21 => ?_)
      · have h := (if_pos c21).symm.trans h
        refine mr_aload_n (pc := 39) (x := 0) rfl rfl ?_
        refine mr_getfield (pc := 40) (v := .ref 5) rfl lfRX0_22 rfl rfl ?_
        refine mr_iload_n (pc := 43) (x := a1) rfl rfl ?_
        refine mr_iload_n (pc := 44) (x := a2) rfl rfl ?_
        obtain ⟨g45, h⟩ := m_gd h
        refine ms_iastore (pc := 45) (f := X2.2.2.2.2.1) (h' := (xw (X2.1, X2.2.1, X2.2.2.1, X2.2.2.2.1, upd (X2.2.2.2.2.1) ((a1) : Int32).toNatClampNeg (a2), X2.2.2.2.2.2.1, X2.2.2.2.2.2.2.1, X2.2.2.2.2.2.2.2.1, X2.2.2.2.2.2.2.2.2.1, X2.2.2.2.2.2.2.2.2.2) T)) rfl rfl g45 rfl ?_
        refine mr_aload_n (pc := 46) (x := 0) rfl rfl ?_
        refine mr_getfield (pc := 47) (v := .ref 6) rfl lfRX0_25 rfl rfl ?_
        refine mr_iload_n (pc := 50) (x := a1) rfl rfl ?_
        refine mr_iload_n (pc := 51) (x := a3) rfl rfl ?_
        obtain ⟨g52, h⟩ := m_gd h
        refine ms_iastore (pc := 52) (f := X2.2.2.2.2.2.1) (h' := (xw (X2.1, X2.2.1, X2.2.2.1, X2.2.2.2.1, upd (X2.2.2.2.2.1) ((a1) : Int32).toNatClampNeg (a2), upd (X2.2.2.2.2.2.1) ((a1) : Int32).toNatClampNeg (a3), X2.2.2.2.2.2.2.1, X2.2.2.2.2.2.2.2.1, X2.2.2.2.2.2.2.2.2.1, X2.2.2.2.2.2.2.2.2.2) T)) rfl rfl g52 rfl ?_
        refine mr_aload_n (pc := 53) (x := 0) rfl rfl ?_
        refine mr_iconst (pc := 54) (v := 1) rfl (by decide) ?_
        rcases bV_inv h with ⟨X55, hc55, h⟩ | ⟨E55, X55, hc55, hr⟩
        · refine mr_ret (mRunV (pc := 55) (q := 0) (As := [.int (1)]) (rest := []) rfl lkRX0_118 rfl rfl rfl (Nat.le_of_ble_eq_true rfl) (Nat.le_of_ble_eq_true rfl) (F_X0_leave hc55)) rfl (Nat.le_of_ble_eq_true rfl) (Nat.le_of_ble_eq_true rfl) ?_
          refine mr_aload_n (pc := 58) (x := 0) rfl rfl ?_
          refine mr_iload_n (pc := 59) (x := a3) rfl rfl ?_
          rcases bI_inv h with ⟨v60, X60, hc60, h⟩ | ⟨E60, X60, hc60, hr⟩
          · refine mr_ret (mRunV (pc := 60) (q := 0) (As := [.int (a3)]) (rest := []) rfl lkRX0_126 rfl rfl rfl (Nat.le_of_ble_eq_true rfl) (Nat.le_of_ble_eq_true rfl) (F_X0_boatsIn hc60)) rfl (Nat.le_of_ble_eq_true rfl) (Nat.le_of_ble_eq_true rfl) ?_
            cases h; exact mr_ireturn (pc := 63) rfl rfl (Nat.le_of_ble_eq_true rfl) (Nat.le_of_ble_eq_true rfl)
          · cases hr; exact mr_thrown (mRunV (pc := 60) (q := 0) (As := [.int (a3)]) (rest := []) rfl lkRX0_126 rfl rfl rfl (Nat.le_of_ble_eq_true rfl) (Nat.le_of_ble_eq_true rfl) (F_X0_boatsIn hc60)) rfl rfl (Nat.le_of_ble_eq_true rfl) (Nat.le_of_ble_eq_true rfl)
        · cases hr; exact mr_thrown (mRunV (pc := 55) (q := 0) (As := [.int (1)]) (rest := []) rfl lkRX0_118 rfl rfl rfl (Nat.le_of_ble_eq_true rfl) (Nat.le_of_ble_eq_true rfl) (F_X0_leave hc55)) rfl rfl (Nat.le_of_ble_eq_true rfl) (Nat.le_of_ble_eq_true rfl)
      · have h := (if_neg c21).symm.trans h
        refine mr_aload_n (pc := 24) (x := 0) rfl rfl ?_
        refine mr_iload_n (pc := 25) (x := a3) rfl rfl ?_
        rcases bI_inv h with ⟨v26, X26, hc26, h⟩ | ⟨E26, X26, hc26, hr⟩
        · refine mr_ret (mRunV (pc := 26) (q := 0) (As := [.int (a3)]) (rest := []) rfl lkRX0_126 rfl rfl rfl (Nat.le_of_ble_eq_true rfl) (Nat.le_of_ble_eq_true rfl) (F_X0_boatsIn hc26)) rfl (Nat.le_of_ble_eq_true rfl) (Nat.le_of_ble_eq_true rfl) ?_
          refine mr_iconst (pc := 29) (v := 3) rfl (by decide) ?_
          refine mr_icmp_lt (pc := 30) 39 rfl (by decide) (fun c30 => ?_) (fun c30 => ?_)
          · have h := (if_pos c30).symm.trans h
            refine mr_aload_n (pc := 39) (x := 0) rfl rfl ?_
            refine mr_getfield (pc := 40) (v := .ref 5) rfl lfRX0_22 rfl rfl ?_
            refine mr_iload_n (pc := 43) (x := a1) rfl rfl ?_
            refine mr_iload_n (pc := 44) (x := a2) rfl rfl ?_
            obtain ⟨g45, h⟩ := m_gd h
            refine ms_iastore (pc := 45) (f := X26.2.2.2.2.1) (h' := (xw (X26.1, X26.2.1, X26.2.2.1, X26.2.2.2.1, upd (X26.2.2.2.2.1) ((a1) : Int32).toNatClampNeg (a2), X26.2.2.2.2.2.1, X26.2.2.2.2.2.2.1, X26.2.2.2.2.2.2.2.1, X26.2.2.2.2.2.2.2.2.1, X26.2.2.2.2.2.2.2.2.2) T)) rfl rfl g45 rfl ?_
            refine mr_aload_n (pc := 46) (x := 0) rfl rfl ?_
            refine mr_getfield (pc := 47) (v := .ref 6) rfl lfRX0_25 rfl rfl ?_
            refine mr_iload_n (pc := 50) (x := a1) rfl rfl ?_
            refine mr_iload_n (pc := 51) (x := a3) rfl rfl ?_
            obtain ⟨g52, h⟩ := m_gd h
            refine ms_iastore (pc := 52) (f := X26.2.2.2.2.2.1) (h' := (xw (X26.1, X26.2.1, X26.2.2.1, X26.2.2.2.1, upd (X26.2.2.2.2.1) ((a1) : Int32).toNatClampNeg (a2), upd (X26.2.2.2.2.2.1) ((a1) : Int32).toNatClampNeg (a3), X26.2.2.2.2.2.2.1, X26.2.2.2.2.2.2.2.1, X26.2.2.2.2.2.2.2.2.1, X26.2.2.2.2.2.2.2.2.2) T)) rfl rfl g52 rfl ?_
            refine mr_aload_n (pc := 53) (x := 0) rfl rfl ?_
            refine mr_iconst (pc := 54) (v := 1) rfl (by decide) ?_
            rcases bV_inv h with ⟨X55, hc55, h⟩ | ⟨E55, X55, hc55, hr⟩
            · refine mr_ret (mRunV (pc := 55) (q := 0) (As := [.int (1)]) (rest := []) rfl lkRX0_118 rfl rfl rfl (Nat.le_of_ble_eq_true rfl) (Nat.le_of_ble_eq_true rfl) (F_X0_leave hc55)) rfl (Nat.le_of_ble_eq_true rfl) (Nat.le_of_ble_eq_true rfl) ?_
              refine mr_aload_n (pc := 58) (x := 0) rfl rfl ?_
              refine mr_iload_n (pc := 59) (x := a3) rfl rfl ?_
              rcases bI_inv h with ⟨v60, X60, hc60, h⟩ | ⟨E60, X60, hc60, hr⟩
              · refine mr_ret (mRunV (pc := 60) (q := 0) (As := [.int (a3)]) (rest := []) rfl lkRX0_126 rfl rfl rfl (Nat.le_of_ble_eq_true rfl) (Nat.le_of_ble_eq_true rfl) (F_X0_boatsIn hc60)) rfl (Nat.le_of_ble_eq_true rfl) (Nat.le_of_ble_eq_true rfl) ?_
                cases h; exact mr_ireturn (pc := 63) rfl rfl (Nat.le_of_ble_eq_true rfl) (Nat.le_of_ble_eq_true rfl)
              · cases hr; exact mr_thrown (mRunV (pc := 60) (q := 0) (As := [.int (a3)]) (rest := []) rfl lkRX0_126 rfl rfl rfl (Nat.le_of_ble_eq_true rfl) (Nat.le_of_ble_eq_true rfl) (F_X0_boatsIn hc60)) rfl rfl (Nat.le_of_ble_eq_true rfl) (Nat.le_of_ble_eq_true rfl)
            · cases hr; exact mr_thrown (mRunV (pc := 55) (q := 0) (As := [.int (1)]) (rest := []) rfl lkRX0_118 rfl rfl rfl (Nat.le_of_ble_eq_true rfl) (Nat.le_of_ble_eq_true rfl) (F_X0_leave hc55)) rfl rfl (Nat.le_of_ble_eq_true rfl) (Nat.le_of_ble_eq_true rfl)
          · have h := (if_neg c30).symm.trans h
            refine mr_aload_n (pc := 33) (x := 0) rfl rfl ?_
            refine mr_iconst (pc := 34) (v := 3) rfl (by decide) ?_
            rcases bI_inv h with ⟨v35, X35, hc35, h⟩ | ⟨E35, X35, hc35, hr⟩
            · refine mr_ret (mRunV (pc := 35) (q := 0) (As := [.int (3)]) (rest := []) rfl lkRX0_183 rfl rfl rfl (Nat.le_of_ble_eq_true rfl) (Nat.le_of_ble_eq_true rfl) (F_X0_failing hc35)) rfl (Nat.le_of_ble_eq_true rfl) (Nat.le_of_ble_eq_true rfl) ?_
              cases h; exact mr_ireturn (pc := 38) rfl rfl (Nat.le_of_ble_eq_true rfl) (Nat.le_of_ble_eq_true rfl)
            · cases hr; exact mr_thrown (mRunV (pc := 35) (q := 0) (As := [.int (3)]) (rest := []) rfl lkRX0_183 rfl rfl rfl (Nat.le_of_ble_eq_true rfl) (Nat.le_of_ble_eq_true rfl) (F_X0_failing hc35)) rfl rfl (Nat.le_of_ble_eq_true rfl) (Nat.le_of_ble_eq_true rfl)
        · cases hr; exact mr_thrown (mRunV (pc := 26) (q := 0) (As := [.int (a3)]) (rest := []) rfl lkRX0_126 rfl rfl rfl (Nat.le_of_ble_eq_true rfl) (Nat.le_of_ble_eq_true rfl) (F_X0_boatsIn hc26)) rfl rfl (Nat.le_of_ble_eq_true rfl) (Nat.le_of_ble_eq_true rfl)
    · have h := (if_pos c5).symm.trans h
      refine mr_aload_n (pc := 8) (x := 0) rfl rfl ?_
      refine mr_iconst (pc := 9) (v := 1) rfl (by decide) ?_
      rcases bI_inv h with ⟨v10, X10, hc10, h⟩ | ⟨E10, X10, hc10, hr⟩
      · refine mr_ret (mRunV (pc := 10) (q := 0) (As := [.int (1)]) (rest := []) rfl lkRX0_183 rfl rfl rfl (Nat.le_of_ble_eq_true rfl) (Nat.le_of_ble_eq_true rfl) (F_X0_failing hc10)) rfl (Nat.le_of_ble_eq_true rfl) (Nat.le_of_ble_eq_true rfl) ?_
        cases h; exact mr_ireturn (pc := 13) rfl rfl (Nat.le_of_ble_eq_true rfl) (Nat.le_of_ble_eq_true rfl)
      · cases hr; exact mr_thrown (mRunV (pc := 10) (q := 0) (As := [.int (1)]) (rest := []) rfl lkRX0_183 rfl rfl rfl (Nat.le_of_ble_eq_true rfl) (Nat.le_of_ble_eq_true rfl) (F_X0_failing hc10)) rfl rfl (Nat.le_of_ble_eq_true rfl) (Nat.le_of_ble_eq_true rfl)
  · cases hr; exact mr_thrown (mRunV (pc := 2) (q := 0) (As := [.int (a3)]) (rest := []) rfl lkRX0_112 rfl rfl rfl (Nat.le_of_ble_eq_true rfl) (Nat.le_of_ble_eq_true rfl) (F_X0_hold hc2)) rfl rfl (Nat.le_of_ble_eq_true rfl) (Nat.le_of_ble_eq_true rfl)
