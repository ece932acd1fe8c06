/-! THE METHODS OF X0 AS FUNCTIONS, by program (wip/whole/gencode.py) -/
def g_X0_boat (X : cS) (a1 a2 a3 : Int32) : Option (mO × cS) := cV (g_X0_checkBoat (a1)) X (cV (g_X0_checkPool (a3)) X (cV (g_X0_checkRange (a2) (1) (99)) X (bI (g_X0_berth X (a1) (a2) (a3)) (fun v19 X19 => cI (g_X0_answered (v19)) X19 (fun v22 => some (.inl (some (.int (v22))), X19))))))
set_option maxRecDepth 100000 in
set_option maxHeartbeats 4000000 in
theorem F_X0_boat {S : Nat × (Nat → Int32)} {T : mH} {X R9 : cS} {o9 : mO} {a1 a2 a3 : Int32} (h : g_X0_boat X a1 a2 a3 = some (o9, R9)) : mF S MX0_boat 0 (mEnt [.ref 0, .int a1, .int a2, .int a3] 4) [] (xw X T) 0 0 (o9, (xw R9 T), 4, 32) := by
  unfold g_X0_boat at h
  refine mr_iload_n (pc := 0) (x := a1) rfl rfl ?_
  rcases cV_inv h with ⟨hc1, h⟩ | ⟨E1, hc1, hr⟩
  · refine mr_ret (mRunS (pc := 1) (As := [.int (a1)]) (rest := []) rfl lkRX0_67 rfl (Nat.le_of_ble_eq_true rfl) (Nat.le_of_ble_eq_true rfl) (F_X0_checkBoat hc1)) rfl (Nat.le_of_ble_eq_true rfl) (Nat.le_of_ble_eq_true rfl) ?_
    refine mr_iload_n (pc := 4) (x := a3) rfl rfl ?_
    rcases cV_inv h with ⟨hc5, h⟩ | ⟨E5, hc5, hr⟩
    · refine mr_ret (mRunS (pc := 5) (As := [.int (a3)]) (rest := []) rfl lkRX0_34 rfl (Nat.le_of_ble_eq_true rfl) (Nat.le_of_ble_eq_true rfl) (F_X0_checkPool hc5)) rfl (Nat.le_of_ble_eq_true rfl) (Nat.le_of_ble_eq_true rfl) ?_
      refine mr_iload_n (pc := 8) (x := a2) rfl rfl ?_
      refine mr_iconst (pc := 9) (v := 1) rfl (by decide) ?_
      refine mr_bipush (pc := 10) (v := 99) rfl (by decide) ?_
      rcases cV_inv h with ⟨hc12, h⟩ | ⟨E12, hc12, hr⟩
      · refine mr_ret (mRunS (pc := 12) (As := [.int (a2), .int (1), .int (99)]) (rest := []) rfl lkRX0_38 rfl (Nat.le_of_ble_eq_true rfl) (Nat.le_of_ble_eq_true rfl) (F_X0_checkRange hc12)) rfl (Nat.le_of_ble_eq_true rfl) (Nat.le_of_ble_eq_true rfl) ?_
        refine mr_aload_n (pc := 15) (x := 0) rfl rfl ?_
        refine mr_iload_n (pc := 16) (x := a1) rfl rfl ?_
        refine mr_iload_n (pc := 17) (x := a2) rfl rfl ?_
        refine mr_iload_n (pc := 18) (x := a3) rfl rfl ?_
        rcases bI_inv h with ⟨v19, X19, hc19, h⟩ | ⟨E19, X19, hc19, hr⟩
        · refine mr_ret (mRunV (pc := 19) (q := 0) (As := [.int (a1), .int (a2), .int (a3)]) (rest := []) rfl lkRX0_70 rfl rfl rfl (Nat.le_of_ble_eq_true rfl) (Nat.le_of_ble_eq_true rfl) (F_X0_berth hc19)) rfl (Nat.le_of_ble_eq_true rfl) (Nat.le_of_ble_eq_true rfl) ?_
          rcases cI_inv h with ⟨v22, hc22, h⟩ | ⟨E22, hc22, hr⟩
          · refine mr_ret (mRunS (pc := 22) (As := [.int (v19)]) (rest := []) rfl lkRX0_50 rfl (Nat.le_of_ble_eq_true rfl) (Nat.le_of_ble_eq_true rfl) (F_X0_answered hc22)) rfl (Nat.le_of_ble_eq_true rfl) (Nat.le_of_ble_eq_true rfl) ?_
            cases h; exact mr_ireturn (pc := 25) rfl rfl (Nat.le_of_ble_eq_true rfl) (Nat.le_of_ble_eq_true rfl)
          · cases hr; exact mr_thrown (mRunS (pc := 22) (As := [.int (v19)]) (rest := []) rfl lkRX0_50 rfl (Nat.le_of_ble_eq_true rfl) (Nat.le_of_ble_eq_true rfl) (F_X0_answered hc22)) rfl rfl (Nat.le_of_ble_eq_true rfl) (Nat.le_of_ble_eq_true rfl)
        · cases hr; exact mr_thrown (mRunV (pc := 19) (q := 0) (As := [.int (a1), .int (a2), .int (a3)]) (rest := []) rfl lkRX0_70 rfl rfl rfl (Nat.le_of_ble_eq_true rfl) (Nat.le_of_ble_eq_true rfl) (F_X0_berth hc19)) rfl rfl (Nat.le_of_ble_eq_true rfl) (Nat.le_of_ble_eq_true rfl)
      · cases hr; exact mr_thrown (mRunS (pc := 12) (As := [.int (a2), .int (1), .int (99)]) (rest := []) rfl lkRX0_38 rfl (Nat.le_of_ble_eq_true rfl) (Nat.le_of_ble_eq_true rfl) (F_X0_checkRange hc12)) rfl rfl (Nat.le_of_ble_eq_true rfl) (Nat.le_of_ble_eq_true rfl)
    · cases hr; exact mr_thrown (mRunS (pc := 5) (As := [.int (a3)]) (rest := []) rfl lkRX0_34 rfl (Nat.le_of_ble_eq_true rfl) (Nat.le_of_ble_eq_true rfl) (F_X0_checkPool hc5)) rfl rfl (Nat.le_of_ble_eq_true rfl) (Nat.le_of_ble_eq_true rfl)
  · cases hr; exact mr_thrown (mRunS (pc := 1) (As := [.int (a1)]) (rest := []) rfl lkRX0_67 rfl (Nat.le_of_ble_eq_true rfl) (Nat.le_of_ble_eq_true rfl) (F_X0_checkBoat hc1)) rfl rfl (Nat.le_of_ble_eq_true rfl) (Nat.le_of_ble_eq_true rfl)
def g_X0_checkGate (a0 : Int32) : Option mO := if ((a0) : Int32) < 0 then (some (.inr xA)) else (if ((a0) : Int32) < ((7) : Int32) then (some (.inl none)) else (some (.inr xA)))
set_option maxRecDepth 100000 in
set_option maxHeartbeats 4000000 in
theorem F_X0_checkGate {S : Nat × (Nat → Int32)} {hw : mH} {o9 : mO} {a0 : Int32} (h : g_X0_checkGate a0 = some o9) : mF S MX0_checkGate 0 (mEnt [.int a0] 1) [] hw 0 0 (o9, hw, 1, 8) := by
  unfold g_X0_checkGate at h
  refine mr_iload_n (pc := 0) (x := a0) rfl rfl ?_
  refine mr_if_lt (pc := 1) 10 rfl (by decide) (fun c1 => ?_) (fun c1 => ?_)
  · have h := (if_pos c1).symm.trans h
    cases h; exact mr_throw (pc := 10) rfl rfl rfl rfl rfl lt_154 rfl (by decide) (by decide) (Nat.le_of_ble_eq_true rfl) (Nat.le_of_ble_eq_true rfl)
  · have h := (if_neg c1).symm.trans h
    refine mr_iload_n (pc := 4) (x := a0) rfl rfl ?_
    refine mr_bipush (pc := 5) (v := 7) rfl (by decide) ?_
    refine mr_icmp_lt (pc := 7) 20 rfl (by decide) (fun c7 => ?_) (fun c7 => ?_)
    · have h := (if_pos c7).symm.trans h
      cases h; exact mr_return (pc := 20) rfl rfl (Nat.le_of_ble_eq_true rfl) (Nat.le_of_ble_eq_true rfl)
    · have h := (if_neg c7).symm.trans h
      cases h; exact mr_throw (pc := 10) rfl rfl rfl rfl rfl lt_154 rfl (by decide) (by decide) (Nat.le_of_ble_eq_true rfl) (Nat.le_of_ble_eq_true rfl)
def g_X0_gate (X : cS) (a1 a2 : Int32) : Option (mO × cS) := cV (g_X0_checkGate (a1)) X (cV (g_X0_checkRange (a2) (0) (99)) X (if vpb (a1) 7 then (if vpb (a1) 7 then (some (.inl (some (.int ((X.2.2.2.1) ((a1) : Int32).toNatClampNeg))), (X.1, X.2.1, X.2.2.1, upd (X.2.2.2.1) ((a1) : Int32).toNatClampNeg (a2), X.2.2.2.2.1, X.2.2.2.2.2.1, X.2.2.2.2.2.2.1, X.2.2.2.2.2.2.2.1, X.2.2.2.2.2.2.2.2.1, X.2.2.2.2.2.2.2.2.2))) else none) else none))
set_option maxRecDepth 100000 in
set_option maxHeartbeats 4000000 in
theorem F_X0_gate {S : Nat × (Nat → Int32)} {T : mH} {X R9 : cS} {o9 : mO} {a1 a2 : Int32} (h : g_X0_gate X a1 a2 = some (o9, R9)) : mF S MX0_gate 0 (mEnt [.ref 0, .int a1, .int a2] 4) [] (xw X T) 0 0 (o9, (xw R9 T), 2, 16) := by
  unfold g_X0_gate at h
  refine mr_iload_n (pc := 0) (x := a1) rfl rfl ?_
  rcases cV_inv h with ⟨hc1, h⟩ | ⟨E1, hc1, hr⟩
  · refine mr_ret (mRunS (pc := 1) (As := [.int (a1)]) (rest := []) rfl lkRX0_74 rfl (Nat.le_of_ble_eq_true rfl) (Nat.le_of_ble_eq_true rfl) (F_X0_checkGate hc1)) rfl (Nat.le_of_ble_eq_true rfl) (Nat.le_of_ble_eq_true rfl) ?_
    refine mr_iload_n (pc := 4) (x := a2) rfl rfl ?_
    refine mr_iconst (pc := 5) (v := 0) rfl (by decide) ?_
    refine mr_bipush (pc := 6) (v := 99) rfl (by decide) ?_
    rcases cV_inv h with ⟨hc8, h⟩ | ⟨E8, hc8, hr⟩
    · refine mr_ret (mRunS (pc := 8) (As := [.int (a2), .int (0), .int (99)]) (rest := []) rfl lkRX0_38 rfl (Nat.le_of_ble_eq_true rfl) (Nat.le_of_ble_eq_true rfl) (F_X0_checkRange hc8)) rfl (Nat.le_of_ble_eq_true rfl) (Nat.le_of_ble_eq_true rfl) ?_
      refine mr_aload_n (pc := 11) (x := 0) rfl rfl ?_
      refine mr_getfield (pc := 12) (v := .ref 4) rfl lfRX0_19 rfl rfl ?_
      refine mr_iload_n (pc := 15) (x := a1) rfl rfl ?_
      obtain ⟨g16, h⟩ := m_gd h
      refine mr_iaload (pc := 16) (f := X.2.2.2.1) rfl rfl (vpb_in g16) ?_
      refine ms_istore_n (pc := 17) (L' := [some (.ref 0), some (.int (a1)), some (.int (a2)), some (.int ((X.2.2.2.1) ((a1) : Int32).toNatClampNeg))]) rfl (by decide) rfl rfl ?_
      refine mr_aload_n (pc := 18) (x := 0) rfl rfl ?_
      refine mr_getfield (pc := 19) (v := .ref 4) rfl lfRX0_19 rfl rfl ?_
      refine mr_iload_n (pc := 22) (x := a1) rfl rfl ?_
      refine mr_iload_n (pc := 23) (x := a2) rfl rfl ?_
      obtain ⟨g24, h⟩ := m_gd h
      refine ms_iastore (pc := 24) (f := X.2.2.2.1) (h' := (xw (X.1, X.2.1, X.2.2.1, upd (X.2.2.2.1) ((a1) : Int32).toNatClampNeg (a2), X.2.2.2.2.1, X.2.2.2.2.2.1, X.2.2.2.2.2.2.1, X.2.2.2.2.2.2.2.1, X.2.2.2.2.2.2.2.2.1, X.2.2.2.2.2.2.2.2.2) T)) rfl rfl g24 rfl ?_
      refine mr_iload_n (pc := 25) (x := (X.2.2.2.1) ((a1) : Int32).toNatClampNeg) rfl rfl ?_
      cases h; exact mr_ireturn (pc := 26) rfl rfl (Nat.le_of_ble_eq_true rfl) (Nat.le_of_ble_eq_true rfl)
    · cases hr; exact mr_thrown (mRunS (pc := 8) (As := [.int (a2), .int (0), .int (99)]) (rest := []) rfl lkRX0_38 rfl (Nat.le_of_ble_eq_true rfl) (Nat.le_of_ble_eq_true rfl) (F_X0_checkRange hc8)) rfl rfl (Nat.le_of_ble_eq_true rfl) (Nat.le_of_ble_eq_true rfl)
  · cases hr; exact mr_thrown (mRunS (pc := 1) (As := [.int (a1)]) (rest := []) rfl lkRX0_74 rfl (Nat.le_of_ble_eq_true rfl) (Nat.le_of_ble_eq_true rfl) (F_X0_checkGate hc1)) rfl rfl (Nat.le_of_ble_eq_true rfl) (Nat.le_of_ble_eq_true rfl)
def g_X0_holdAll_24 : Nat → cS → Int32 → Int32 → Int32 → Int32 → Int32 → Option (mO × cS)
  | 0, _, _, _, _, _, _ => none
  | f9 + 1, X, b1, b2, b3, b4, b5 => if ((b4) : Int32) ≤ ((b5) : Int32) then (some (.inl (some (.int (1))), X)) else (bI (g_X0_hold X ((b1) + ((b5) * (b3)))) (fun v38 X38 => if ((v38) : Int32) = 0 then (some (.inl (some (.int (0))), X38)) else (g_X0_holdAll_24 f9 X38 (b1) (b2) (b3) (b4) (b5 + 1))))
set_option maxRecDepth 100000 in
set_option maxHeartbeats 4000000 in
theorem FL_X0_holdAll_24 {S : Nat × (Nat → Int32)} {T : mH} : ∀ (f9 : Nat) (X : cS) (b1 b2 b3 b4 b5 : Int32) (o9 : mO) (R9 : cS), g_X0_holdAll_24 f9 X b1 b2 b3 b4 b5 = some (o9, R9) → mF S MX0_holdAll 24 [some (.ref 0), some (.int (b1)), some (.int (b2)), some (.int (b3)), some (.int (b4)), some (.int (b5))] [] (xw X T) 0 0 (o9, (xw R9 T), 0, 0) := by
  intro f9
  induction f9 with
  | zero => intro X b1 b2 b3 b4 b5 o9 R9 h; cases h
  | succ f9 ih9 =>
    intro X b1 b2 b3 b4 b5 o9 R9 h
    rw [g_X0_holdAll_24] at h
    refine mr_iload (pc := 24) (x := b5) rfl rfl ?_
    refine mr_iload (pc := 26) (x := b4) rfl rfl ?_
    refine mr_icmp_ge (pc := 28) 52 rfl (by decide) (fun c28 => ?_) (fun c28 => ?_)
    · have h := (if_pos c28).symm.trans h
      refine mr_iconst (pc := 52) (v := 1) rfl (by decide) ?_
      cases h; exact mr_zreturn (pc := 53) rfl rfl (Or.inr rfl) (Nat.le_of_ble_eq_true rfl) (Nat.le_of_ble_eq_true rfl)
    · have h := (if_neg c28).symm.trans h
      refine mr_aload_n (pc := 31) (x := 0) rfl rfl ?_
      refine mr_iload_n (pc := 32) (x := b1) rfl rfl ?_
      refine mr_iload (pc := 33) (x := b5) rfl rfl ?_
      refine mr_iload_n (pc := 35) (x := b3) rfl rfl ?_
      refine mr_imul (pc := 36) rfl ?_
      refine mr_iadd (pc := 37) rfl ?_
      rcases bI_inv h with ⟨v38, X38, hc38, h⟩ | ⟨E38, X38, hc38, hr⟩
      · refine mr_ret (mRunV (pc := 38) (q := 0) (As := [.int ((b1) + ((b5) * (b3)))]) (rest := []) rfl lkRX0_112 rfl rfl rfl (Nat.le_of_ble_eq_true rfl) (Nat.le_of_ble_eq_true rfl) (F_X0_hold hc38)) rfl (Nat.le_of_ble_eq_true rfl) (Nat.le_of_ble_eq_true rfl) ?_
        refine mr_if_ne (pc := 41) 46 rfl (by decide) (fun c41 => ?_) (fun c41 => ?_)
        · have h := (if_neg c41).symm.trans h
          refine ms_iinc (pc := 46) (x := b5) (v := 1) (L' := [some (.ref 0), some (.int (b1)), some (.int (b2)), some (.int (b3)), some (.int (b4)), some (.int (b5 + 1))]) rfl rfl (by decide) (by decide) rfl rfl ?_
          refine mr_goto (pc := 49) 24 rfl (by decide) ?_
          exact ih9 _ _ _ _ _ _ _ _ h
        · have h := (if_pos c41).symm.trans h
          refine mr_iconst (pc := 44) (v := 0) rfl (by decide) ?_
          cases h; exact mr_zreturn (pc := 45) rfl rfl (Or.inl rfl) (Nat.le_of_ble_eq_true rfl) (Nat.le_of_ble_eq_true rfl)
      · cases hr; exact mr_thrown (mRunV (pc := 38) (q := 0) (As := [.int ((b1) + ((b5) * (b3)))]) (rest := []) rfl lkRX0_112 rfl rfl rfl (Nat.le_of_ble_eq_true rfl) (Nat.le_of_ble_eq_true rfl) (F_X0_hold hc38)) rfl rfl (Nat.le_of_ble_eq_true rfl) (Nat.le_of_ble_eq_true rfl)
def g_X0_holdAll (X : cS) (a1 a2 : Int32) : Option (mO × cS) := if ((a2) : Int32) < ((a1) : Int32) then (g_X0_holdAll_24 mK X (a1) (a2) ((-1)) ((if 0 ≤ (((a2) - (a1)) : Int32) then ((a2) - (a1)) else 0 - ((a2) - (a1))) + (1)) (0)) else (g_X0_holdAll_24 mK X (a1) (a2) (1) ((if 0 ≤ (((a2) - (a1)) : Int32) then ((a2) - (a1)) else 0 - ((a2) - (a1))) + (1)) (0))
set_option maxRecDepth 100000 in
set_option maxHeartbeats 4000000 in
theorem F_X0_holdAll {S : Nat × (Nat → Int32)} {T : mH} {X R9 : cS} {o9 : mO} {a1 a2 : Int32} (h : g_X0_holdAll X a1 a2 = some (o9, R9)) : mF S MX0_holdAll 0 (mEnt [.ref 0, .int a1, .int a2] 6) [] (xw X T) 0 0 (o9, (xw R9 T), 0, 0) := by
  unfold g_X0_holdAll at h
  refine mr_iload_n (pc := 0) (x := a1) rfl rfl ?_
  refine mr_iload_n (pc := 1) (x := a2) rfl rfl ?_
  refine mr_icmp_gt (pc := 2) 9 rfl (by decide) (fun c2 => ?_) (fun c2 => ?_)
  · have h := (if_pos c2).symm.trans h
    refine mr_iconst (pc := 9) (v := -1) rfl (by decide) ?_
    refine ms_istore_n (pc := 10) (L' := [some (.ref 0), some (.int (a1)), some (.int (a2)), some (.int ((-1))), none, none]) rfl (by decide) rfl rfl ?_
    refine mr_iload_n (pc := 11) (x := a2) rfl rfl ?_
    refine mr_iload_n (pc := 12) (x := a1) rfl rfl ?_
    refine mr_isub (pc := 13) rfl ?_
    refine mr_mabs (pc := 14) rfl rfl (by decide) (Nat.le_of_ble_eq_true rfl) (Nat.le_of_ble_eq_true rfl) (Nat.le_of_ble_eq_true rfl) ?_
    refine mr_iconst (pc := 17) (v := 1) rfl (by decide) ?_
    refine mr_iadd (pc := 18) rfl ?_
    refine ms_istore (pc := 19) (L' := [some (.ref 0), some (.int (a1)), some (.int (a2)), some (.int ((-1))), some (.int ((if 0 ≤ (((a2) - (a1)) : Int32) then ((a2) - (a1)) else 0 - ((a2) - (a1))) + (1))), none]) rfl (by decide) rfl rfl ?_
    refine mr_iconst (pc := 21) (v := 0) rfl (by decide) ?_
    refine ms_istore (pc := 22) (L' := [some (.ref 0), some (.int (a1)), some (.int (a2)), some (.int ((-1))), some (.int ((if 0 ≤ (((a2) - (a1)) : Int32) then ((a2) - (a1)) else 0 - ((a2) - (a1))) + (1))), some (.int (0))]) rfl (by decide) rfl rfl ?_
    exact FL_X0_holdAll_24 mK _ _ _ _ _ _ _ _ h
  · have h := (if_neg c2).symm.trans h
    refine mr_iconst (pc := 5) (v := 1) rfl (by decide) ?_
    refine mr_goto (pc := 6) 10 rfl (by decide) ?_
    refine ms_istore_n (pc := 10) (L' := [some (.ref 0), some (.int (a1)), some (.int (a2)), some (.int (1)), none, none]) rfl (by decide) rfl rfl ?_
    refine mr_iload_n (pc := 11) (x := a2) rfl rfl ?_
    refine mr_iload_n (pc := 12) (x := a1) rfl rfl ?_
    refine mr_isub (pc := 13) rfl ?_
    refine mr_mabs (pc := 14) rfl rfl (by decide) (Nat.le_of_ble_eq_true rfl) (Nat.le_of_ble_eq_true rfl) (Nat.le_of_ble_eq_true rfl) ?_
    refine mr_iconst (pc := 17) (v := 1) rfl (by decide) ?_
    refine mr_iadd (pc := 18) rfl ?_
    refine ms_istore (pc := 19) (L' := [some (.ref 0), some (.int (a1)), some (.int (a2)), some (.int (1)), some (.int ((if 0 ≤ (((a2) - (a1)) : Int32) then ((a2) - (a1)) else 0 - ((a2) - (a1))) + (1))), none]) rfl (by decide) rfl rfl ?_
    refine mr_iconst (pc := 21) (v := 0) rfl (by decide) ?_
    refine ms_istore (pc := 22) (L' := [some (.ref 0), some (.int (a1)), some (.int (a2)), some (.int (1)), some (.int ((if 0 ≤ (((a2) - (a1)) : Int32) then ((a2) - (a1)) else 0 - ((a2) - (a1))) + (1))), some (.int (0))]) rfl (by decide) rfl rfl ?_
    exact FL_X0_holdAll_24 mK _ _ _ _ _ _ _ _ h
def g_X0_heightOf (X : cS) (a1 : Int32) : Option (mO × cS) := if vpb (a1) 8 then (if (((X.1) ((a1) : Int32).toNatClampNeg) : Int32) ≤ 0 then (some (.inl (some (.int (0))), X)) else (if vpb (a1) 8 then (if vpb (a1) 8 then (if ¬ (((X.1) ((a1) : Int32).toNatClampNeg) : Int32) = 0 then (some (.inl (some (.int (((X.2.1) ((a1) : Int32).toNatClampNeg) / ((X.1) ((a1) : Int32).toNatClampNeg)))), X)) else none) else none) else none)) else none
set_option maxRecDepth 100000 in
set_option maxHeartbeats 4000000 in
theorem F_X0_heightOf {S : Nat × (Nat → Int32)} {T : mH} {X R9 : cS} {o9 : mO} {a1 : Int32} (h : g_X0_heightOf X a1 = some (o9, R9)) : mF S MX0_heightOf 0 (mEnt [.ref 0, .int a1] 2) [] (xw X T) 0 0 (o9, (xw R9 T), 0, 0) := by
  unfold g_X0_heightOf at h
  refine mr_aload_n (pc := 0) (x := 0) rfl rfl ?_
  refine mr_getfield (pc := 1) (v := .ref 1) rfl lfRX0_9 rfl rfl ?_
  refine mr_iload_n (pc := 4) (x := a1) rfl rfl ?_
  obtain ⟨g5, h⟩ := m_gd h
  refine mr_iaload (pc := 5) (f := X.1) rfl rfl (vpb_in g5) ?_
  refine mr_if_le (pc := 6) 25 rfl (by decide) (fun c6 => ?_) (fun c6 => ?_)
  · have h := (if_pos c6).symm.trans h
    refine mr_iconst (pc := 25) (v := 0) rfl (by decide) ?_
    cases h; exact mr_ireturn (pc := 26) rfl rfl (Nat.le_of_ble_eq_true rfl) (Nat.le_of_ble_eq_true rfl)
  · have h := (if_neg c6).symm.trans h
    refine mr_aload_n (pc := 9) (x := 0) rfl rfl ?_
    refine mr_getfield (pc := 10) (v := .ref 2) rfl lfRX0_13 rfl rfl ?_
    refine mr_iload_n (pc := 13) (x := a1) rfl rfl ?_
    obtain ⟨g14, h⟩ := m_gd h
    refine mr_iaload (pc := 14) (f := X.2.1) rfl rfl (vpb_in g14) ?_
    refine mr_aload_n (pc := 15) (x := 0) rfl rfl ?_
    refine mr_getfield (pc := 16) (v := .ref 1) rfl lfRX0_9 rfl rfl ?_
    refine mr_iload_n (pc := 19) (x := a1) rfl rfl ?_
    obtain ⟨g20, h⟩ := m_gd h
    refine mr_iaload (pc := 20) (f := X.1) rfl rfl (vpb_in g20) ?_
    obtain ⟨g21, h⟩ := m_gd h
    refine mr_idiv (pc := 21) rfl g21 ?_
    refine mr_goto (pc := 22) 26 rfl (by decide) ?_
    cases h; exact mr_ireturn (pc := 26) rfl rfl (Nat.le_of_ble_eq_true rfl) (Nat.le_of_ble_eq_true rfl)
def g_X0_moveUnit (X : cS) (a1 a2 : Int32) : Option (mO × cS) := bI (g_X0_heightOf X (a1)) (fun v2 X2 => bI (g_X0_heightOf X2 (a2)) (fun v7 X7 => if ((v2) : Int32) ≤ ((v7) : Int32) then (if vpb (a1) 8 then (if vpb (a1) 8 then (if vpb (a2) 8 then (if vpb (a2) 8 then (some (.inl none, (X7.1, upd (upd (X7.2.1) ((a1) : Int32).toNatClampNeg (((X7.2.1) ((a1) : Int32).toNatClampNeg) - ((-1)))) ((a2) : Int32).toNatClampNeg (((upd (X7.2.1) ((a1) : Int32).toNatClampNeg (((X7.2.1) ((a1) : Int32).toNatClampNeg) - ((-1)))) ((a2) : Int32).toNatClampNeg) + ((-1))), X7.2.2.1, X7.2.2.2.1, X7.2.2.2.2.1, X7.2.2.2.2.2.1, X7.2.2.2.2.2.2.1, X7.2.2.2.2.2.2.2.1, X7.2.2.2.2.2.2.2.2.1, X7.2.2.2.2.2.2.2.2.2))) else none) else none) else none) else none) else (if vpb (a1) 8 then (if vpb (a1) 8 then (if vpb (a2) 8 then (if vpb (a2) 8 then (some (.inl none, (X7.1, upd (upd (X7.2.1) ((a1) : Int32).toNatClampNeg (((X7.2.1) ((a1) : Int32).toNatClampNeg) - (1))) ((a2) : Int32).toNatClampNeg (((upd (X7.2.1) ((a1) : Int32).toNatClampNeg (((X7.2.1) ((a1) : Int32).toNatClampNeg) - (1))) ((a2) : Int32).toNatClampNeg) + (1)), X7.2.2.1, X7.2.2.2.1, X7.2.2.2.2.1, X7.2.2.2.2.2.1, X7.2.2.2.2.2.2.1, X7.2.2.2.2.2.2.2.1, X7.2.2.2.2.2.2.2.2.1, X7.2.2.2.2.2.2.2.2.2))) else none) else none) else none) else none)))
set_option maxRecDepth 100000 in
set_option maxHeartbeats 4000000 in
theorem F_X0_moveUnit {S : Nat × (Nat → Int32)} {T : mH} {X R9 : cS} {o9 : mO} {a1 a2 : Int32} (h : g_X0_moveUnit X a1 a2 = some (o9, R9)) : mF S MX0_moveUnit 0 (mEnt [.ref 0, .int a1, .int a2] 4) [] (xw X T) 0 0 (o9, (xw R9 T), 0, 0) := by
  unfold g_X0_moveUnit at h
  refine mr_aload_n (pc := 0) (x := 0) rfl rfl ?_
  refine mr_iload_n (pc := 1) (x := a1) rfl rfl ?_
  rcases bI_inv h with ⟨v2, X2, hc2, h⟩ | ⟨E2, X2, hc2, hr⟩
  · refine mr_ret (mRunV (pc := 2) (q := 0) (As := [.int (a1)]) (rest := []) rfl lkRX0_115 rfl rfl rfl (Nat.le_of_ble_eq_true rfl) (Nat.le_of_ble_eq_true rfl) (F_X0_heightOf hc2)) rfl (Nat.le_of_ble_eq_true rfl) (Nat.le_of_ble_eq_true rfl) ?_
    refine mr_aload_n (pc := 5) (x := 0) rfl rfl ?_
    refine mr_iload_n (pc := 6) (x := a2) rfl rfl ?_
    rcases bI_inv h with ⟨v7, X7, hc7, h⟩ | ⟨E7, X7, hc7, hr⟩
    · refine mr_ret (mRunV (pc := 7) (q := 0) (As := [.int (a2)]) (rest := [.int (v2)]) rfl lkRX0_115 rfl rfl rfl (Nat.le_of_ble_eq_true rfl) (Nat.le_of_ble_eq_true rfl) (F_X0_heightOf hc7)) rfl (Nat.le_of_ble_eq_true rfl) (Nat.le_of_ble_eq_true rfl) ?_
      refine mr_icmp_le (pc := 10) 17 rfl (by decide) (fun c10 => ?_) (fun c10 => ?_)
      · have h := (if_pos c10).symm.trans h
        refine mr_iconst (pc := 17) (v := -1) rfl (by decide) ?_
        refine ms_istore_n (pc := 18) (L' := [some (.ref 0), some (.int (a1)), some (.int (a2)), some (.int ((-1)))]) rfl (by decide) rfl rfl ?_
        refine mr_aload_n (pc := 19) (x := 0) rfl rfl ?_
        refine mr_getfield (pc := 20) (v := .ref 2) rfl lfRX0_13 rfl rfl ?_
        refine mr_iload_n (pc := 23) (x := a1) rfl rfl ?_
        refine mr_dup2 (pc := 24) rfl rfl rfl ?_
        obtain ⟨g25, h⟩ := m_gd h
        refine mr_iaload (pc := 25) (f := X7.2.1) rfl rfl (vpb_in g25) ?_
        refine mr_iload_n (pc := 26) (x := (-1)) rfl rfl ?_
        refine mr_isub (pc := 27) rfl ?_
        obtain ⟨g28, h⟩ := m_gd h
        refine ms_iastore (pc := 28) (f := X7.2.1) (h' := (xw (X7.1, upd (X7.2.1) ((a1) : Int32).toNatClampNeg (((X7.2.1) ((a1) : Int32).toNatClampNeg) - ((-1))), X7.2.2.1, X7.2.2.2.1, X7.2.2.2.2.1, X7.2.2.2.2.2.1, X7.2.2.2.2.2.2.1, X7.2.2.2.2.2.2.2.1, X7.2.2.2.2.2.2.2.2.1, X7.2.2.2.2.2.2.2.2.2) T)) rfl rfl g28 rfl ?_
        refine mr_aload_n (pc := 29) (x := 0) rfl rfl ?_
        refine mr_getfield (pc := 30) (v := .ref 2) rfl lfRX0_13 rfl rfl ?_
        refine mr_iload_n (pc := 33) (x := a2) rfl rfl ?_
        refine mr_dup2 (pc := 34) rfl rfl rfl ?_
        obtain ⟨g35, h⟩ := m_gd h
        refine mr_iaload (pc := 35) (f := upd (X7.2.1) ((a1) : Int32).toNatClampNeg (((X7.2.1) ((a1) : Int32).toNatClampNeg) - ((-1)))) rfl rfl (vpb_in g35) ?_
        refine mr_iload_n (pc := 36) (x := (-1)) rfl rfl ?_
        refine mr_iadd (pc := 37) rfl ?_
        obtain ⟨g38, h⟩ := m_gd h
        refine ms_iastore (pc := 38) (f := upd (X7.2.1) ((a1) : Int32).toNatClampNeg (((X7.2.1) ((a1) : Int32).toNatClampNeg) - ((-1)))) (h' := (xw (X7.1, upd (upd (X7.2.1) ((a1) : Int32).toNatClampNeg (((X7.2.1) ((a1) : Int32).toNatClampNeg) - ((-1)))) ((a2) : Int32).toNatClampNeg (((upd (X7.2.1) ((a1) : Int32).toNatClampNeg (((X7.2.1) ((a1) : Int32).toNatClampNeg) - ((-1)))) ((a2) : Int32).toNatClampNeg) + ((-1))), X7.2.2.1, X7.2.2.2.1, X7.2.2.2.2.1, X7.2.2.2.2.2.1, X7.2.2.2.2.2.2.1, X7.2.2.2.2.2.2.2.1, X7.2.2.2.2.2.2.2.2.1, X7.2.2.2.2.2.2.2.2.2) T)) rfl rfl g38 rfl ?_
        cases h; exact mr_return (pc := 39) rfl rfl (Nat.le_of_ble_eq_true rfl) (Nat.le_of_ble_eq_true rfl)
      · have h := (if_neg c10).symm.trans h
        refine mr_iconst (pc := 13) (v := 1) rfl (by decide) ?_
        refine mr_goto (pc := 14) 18 rfl (by decide) ?_
        refine ms_istore_n (pc := 18) (L' := [some (.ref 0), some (.int (a1)), some (.int (a2)), some (.int (1))]) rfl (by decide) rfl rfl ?_
        refine mr_aload_n (pc := 19) (x := 0) rfl rfl ?_
        refine mr_getfield (pc := 20) (v := .ref 2) rfl lfRX0_13 rfl rfl ?_
        refine mr_iload_n (pc := 23) (x := a1) rfl rfl ?_
        refine mr_dup2 (pc := 24) rfl rfl rfl ?_
        obtain ⟨g25, h⟩ := m_gd h
        refine mr_iaload (pc := 25) (f := X7.2.1) rfl rfl (vpb_in g25) ?_
        refine mr_iload_n (pc := 26) (x := 1) rfl rfl ?_
        refine mr_isub (pc := 27) rfl ?_
        obtain ⟨g28, h⟩ := m_gd h
        refine ms_iastore (pc := 28) (f := X7.2.1) (h' := (xw (X7.1, upd (X7.2.1) ((a1) : Int32).toNatClampNeg (((X7.2.1) ((a1) : Int32).toNatClampNeg) - (1)), X7.2.2.1, X7.2.2.2.1, X7.2.2.2.2.1, X7.2.2.2.2.2.1, X7.2.2.2.2.2.2.1, X7.2.2.2.2.2.2.2.1, X7.2.2.2.2.2.2.2.2.1, X7.2.2.2.2.2.2.2.2.2) T)) rfl rfl g28 rfl ?_
        refine mr_aload_n (pc := 29) (x := 0) rfl rfl ?_
        refine mr_getfield (pc := 30) (v := .ref 2) rfl lfRX0_13 rfl rfl ?_
        refine mr_iload_n (pc := 33) (x := a2) rfl rfl ?_
        refine mr_dup2 (pc := 34) rfl rfl rfl ?_
        obtain ⟨g35, h⟩ := m_gd h
        refine mr_iaload (pc := 35) (f := upd (X7.2.1) ((a1) : Int32).toNatClampNeg (((X7.2.1) ((a1) : Int32).toNatClampNeg) - (1))) rfl rfl (vpb_in g35) ?_
        refine mr_iload_n (pc := 36) (x := 1) rfl rfl ?_
        refine mr_iadd (pc := 37) rfl ?_
        obtain ⟨g38, h⟩ := m_gd h
        refine ms_iastore (pc := 38) (f := upd (X7.2.1) ((a1) : Int32).toNatClampNeg (((X7.2.1) ((a1) : Int32).toNatClampNeg) - (1))) (h' := (xw (X7.1, upd (upd (X7.2.1) ((a1) : Int32).toNatClampNeg (((X7.2.1) ((a1) : Int32).toNatClampNeg) - (1))) ((a2) : Int32).toNatClampNeg (((upd (X7.2.1) ((a1) : Int32).toNatClampNeg (((X7.2.1) ((a1) : Int32).toNatClampNeg) - (1))) ((a2) : Int32).toNatClampNeg) + (1)), X7.2.2.1, X7.2.2.2.1, X7.2.2.2.2.1, X7.2.2.2.2.2.1, X7.2.2.2.2.2.2.1, X7.2.2.2.2.2.2.2.1, X7.2.2.2.2.2.2.2.2.1, X7.2.2.2.2.2.2.2.2.2) T)) rfl rfl g38 rfl ?_
        cases h; exact mr_return (pc := 39) rfl rfl (Nat.le_of_ble_eq_true rfl) (Nat.le_of_ble_eq_true rfl)
    · cases hr; exact mr_thrown (mRunV (pc := 7) (q := 0) (As := [.int (a2)]) (rest := [.int (v2)]) rfl lkRX0_115 rfl rfl rfl (Nat.le_of_ble_eq_true rfl) (Nat.le_of_ble_eq_true rfl) (F_X0_heightOf hc7)) rfl rfl (Nat.le_of_ble_eq_true rfl) (Nat.le_of_ble_eq_true rfl)
  · cases hr; exact mr_thrown (mRunV (pc := 2) (q := 0) (As := [.int (a1)]) (rest := []) rfl lkRX0_115 rfl rfl rfl (Nat.le_of_ble_eq_true rfl) (Nat.le_of_ble_eq_true rfl) (F_X0_heightOf hc2)) rfl rfl (Nat.le_of_ble_eq_true rfl) (Nat.le_of_ble_eq_true rfl)
def g_X0_levelGate_44 : Nat → cS → Int32 → Int32 → Option (mO × cS)
  | 0, _, _, _ => none
  | f9 + 1, X, b1, b2 => if ((200) : Int32) ≤ ((b2) : Int32) then (bI (g_X0_heightOf X (b1)) (fun v82 X82 => bI (g_X0_heightOf X82 ((b1) + (1))) (fun v89 X89 => if ((v82) : Int32) = ((v89) : Int32) then (bV (g_X0_leave X89 (2)) (fun X103 => some (.inl (some (.int (b2))), X103))) else (bI (g_X0_failing X89 (4)) (fun v97 X97 => some (.inl (some (.int (v97))), X97)))))) else (bI (g_X0_heightOf X (b1)) (fun v53 X53 => bI (g_X0_heightOf X53 ((b1) + (1))) (fun v60 X60 => if ((v53) : Int32) = ((v60) : Int32) then (bI (g_X0_heightOf X60 (b1)) (fun v82 X82 => bI (g_X0_heightOf X82 ((b1) + (1))) (fun v89 X89 => if ((v82) : Int32) = ((v89) : Int32) then (bV (g_X0_leave X89 (2)) (fun X103 => some (.inl (some (.int (b2))), X103))) else (bI (g_X0_failing X89 (4)) (fun v97 X97 => some (.inl (some (.int (v97))), X97)))))) else (bV (g_X0_moveUnit X60 (b1) ((b1) + (1))) (fun X71 => g_X0_levelGate_44 f9 X71 (b1) (b2 + 1))))))
set_option maxRecDepth 100000 in
set_option maxHeartbeats 4000000 in
theorem FL_X0_levelGate_44 {S : Nat × (Nat → Int32)} {T : mH} : ∀ (f9 : Nat) (X : cS) (b1 b2 : Int32) (o9 : mO) (R9 : cS), g_X0_levelGate_44 f9 X b1 b2 = some (o9, R9) → mF S MX0_levelGate 44 [some (.ref 0), some (.int (b1)), some (.int (b2))] [] (xw X T) 0 0 (o9, (xw R9 T), 0, 0) := by
  intro f9
  induction f9 with
  | zero => intro X b1 b2 o9 R9 h; cases h
  | succ f9 ih9 =>
    intro X b1 b2 o9 R9 h
    rw [g_X0_levelGate_44] at h
    refine mr_iload_n (pc := 44) (x := b2) rfl rfl ?_
    refine mr_sipush (pc := 45) (v := 200) rfl (by decide) ?_
    refine mr_icmp_ge (pc := 48) 80 rfl (by decide) (fun c48 => ?_) (fun c48 => ?_)
    · have h := (if_pos c48).symm.trans h
      refine mr_aload_n (pc := 80) (x := 0) rfl rfl ?_
      refine mr_iload_n (pc := 81) (x := b1) rfl rfl ?_
      rcases bI_inv h with ⟨v82, X82, hc82, h⟩ | ⟨E82, X82, hc82, hr⟩
      · refine mr_ret (mRunV (pc := 82) (q := 0) (As := [.int (b1)]) (rest := []) rfl lkRX0_115 rfl rfl rfl (Nat.le_of_ble_eq_true rfl) (Nat.le_of_ble_eq_true rfl) (F_X0_heightOf hc82)) rfl (Nat.le_of_ble_eq_true rfl) (Nat.le_of_ble_eq_true rfl) ?_
        refine mr_aload_n (pc := 85) (x := 0) rfl rfl ?_
        refine mr_iload_n (pc := 86) (x := b1) rfl rfl ?_
        refine mr_iconst (pc := 87) (v := 1) rfl (by decide) ?_
        refine mr_iadd (pc := 88) rfl ?_
        rcases bI_inv h with ⟨v89, X89, hc89, h⟩ | ⟨E89, X89, hc89, hr⟩
        · refine mr_ret (mRunV (pc := 89) (q := 0) (As := [.int ((b1) + (1))]) (rest := [.int (v82)]) rfl lkRX0_115 rfl rfl rfl (Nat.le_of_ble_eq_true rfl) (Nat.le_of_ble_eq_true rfl) (F_X0_heightOf hc89)) rfl (Nat.le_of_ble_eq_true rfl) (Nat.le_of_ble_eq_true rfl) ?_
          refine mr_icmp_eq (pc := 92) 101 rfl (by decide) (fun c92 => ?_) (fun c92 => ?_)
          · have h := (if_pos c92).symm.trans h
            refine mr_aload_n (pc := 101) (x := 0) rfl rfl ?_
            refine mr_iconst (pc := 102) (v := 2) rfl (by decide) ?_
            rcases bV_inv h with ⟨X103, hc103, h⟩ | ⟨E103, X103, hc103, hr⟩
            · refine mr_ret (mRunV (pc := 103) (q := 0) (As := [.int (2)]) (rest := []) rfl lkRX0_118 rfl rfl rfl (Nat.le_of_ble_eq_true rfl) (Nat.le_of_ble_eq_true rfl) (F_X0_leave hc103)) rfl (Nat.le_of_ble_eq_true rfl) (Nat.le_of_ble_eq_true rfl) ?_
              refine mr_iload_n (pc := 106) (x := b2) rfl rfl ?_
              cases h; exact mr_ireturn (pc := 107) rfl rfl (Nat.le_of_ble_eq_true rfl) (Nat.le_of_ble_eq_true rfl)
            · cases hr; exact mr_thrown (mRunV (pc := 103) (q := 0) (As := [.int (2)]) (rest := []) rfl lkRX0_118 rfl rfl rfl (Nat.le_of_ble_eq_true rfl) (Nat.le_of_ble_eq_true rfl) (F_X0_leave hc103)) rfl rfl (Nat.le_of_ble_eq_true rfl) (Nat.le_of_ble_eq_true rfl)
          · have h := (if_neg c92).symm.trans h
            refine mr_aload_n (pc := 95) (x := 0) rfl rfl ?_
            refine mr_iconst (pc := 96) (v := 4) rfl (by decide) ?_
            rcases bI_inv h with ⟨v97, X97, hc97, h⟩ | ⟨E97, X97, hc97, hr⟩
            · refine mr_ret (mRunV (pc := 97) (q := 0) (As := [.int (4)]) (rest := []) rfl lkRX0_183 rfl rfl rfl (Nat.le_of_ble_eq_true rfl) (Nat.le_of_ble_eq_true rfl) (F_X0_failing hc97)) rfl (Nat.le_of_ble_eq_true rfl) (Nat.le_of_ble_eq_true rfl) ?_
              cases h; exact mr_ireturn (pc := 100) rfl rfl (Nat.le_of_ble_eq_true rfl) (Nat.le_of_ble_eq_true rfl)
            · cases hr; exact mr_thrown (mRunV (pc := 97) (q := 0) (As := [.int (4)]) (rest := []) rfl lkRX0_183 rfl rfl rfl (Nat.le_of_ble_eq_true rfl) (Nat.le_of_ble_eq_true rfl) (F_X0_failing hc97)) rfl rfl (Nat.le_of_ble_eq_true rfl) (Nat.le_of_ble_eq_true rfl)
        · cases hr; exact mr_thrown (mRunV (pc := 89) (q := 0) (As := [.int ((b1) + (1))]) (rest := [.int (v82)]) rfl lkRX0_115 rfl rfl rfl (Nat.le_of_ble_eq_true rfl) (Nat.le_of_ble_eq_true rfl) (F_X0_heightOf hc89)) rfl rfl (Nat.le_of_ble_eq_true rfl) (Nat.le_of_ble_eq_true rfl)
      · cases hr; exact mr_thrown (mRunV (pc := 82) (q := 0) (As := [.int (b1)]) (rest := []) rfl lkRX0_115 rfl rfl rfl (Nat.le_of_ble_eq_true rfl) (Nat.le_of_ble_eq_true rfl) (F_X0_heightOf hc82)) rfl rfl (Nat.le_of_ble_eq_true rfl) (Nat.le_of_ble_eq_true rfl)
    · have h := (if_neg c48).symm.trans h
      refine mr_aload_n (pc := 51) (x := 0) rfl rfl ?_
      refine mr_iload_n (pc := 52) (x := b1) rfl rfl ?_
      rcases bI_inv h with ⟨v53, X53, hc53, h⟩ | ⟨E53, X53, hc53, hr⟩
      · refine mr_ret (mRunV (pc := 53) (q := 0) (As := [.int (b1)]) (rest := []) rfl lkRX0_115 rfl rfl rfl (Nat.le_of_ble_eq_true rfl) (Nat.le_of_ble_eq_true rfl) (F_X0_heightOf hc53)) rfl (Nat.le_of_ble_eq_true rfl) (Nat.le_of_ble_eq_true rfl) ?_
        refine mr_aload_n (pc := 56) (x := 0) rfl rfl ?_
        refine mr_iload_n (pc := 57) (x := b1) rfl rfl ?_
        refine mr_iconst (pc := 58) (v := 1) rfl (by decide) ?_
        refine mr_iadd (pc := 59) rfl ?_
        rcases bI_inv h with ⟨v60, X60, hc60, h⟩ | ⟨E60, X60, hc60, hr⟩
        · refine mr_ret (mRunV (pc := 60) (q := 0) (As := [.int ((b1) + (1))]) (rest := [.int (v53)]) rfl lkRX0_115 rfl rfl rfl (Nat.le_of_ble_eq_true rfl) (Nat.le_of_ble_eq_true rfl) (F_X0_heightOf hc60)) rfl (Nat.le_of_ble_eq_true rfl) (Nat.le_of_ble_eq_true rfl) ?_
          refine mr_icmp_eq (pc := 63) 80 rfl (by decide) (fun c63 => ?_) (fun c63 => ?_)
          · have h := (if_pos c63).symm.trans h
            refine mr_aload_n (pc := 80) (x := 0) rfl rfl ?_
            refine mr_iload_n (pc := 81) (x := b1) rfl rfl ?_
            rcases bI_inv h with ⟨v82, X82, hc82, h⟩ | ⟨E82, X82, hc82, hr⟩
            · refine mr_ret (mRunV (pc := 82) (q := 0) (As := [.int (b1)]) (rest := []) rfl lkRX0_115 rfl rfl rfl (Nat.le_of_ble_eq_true rfl) (Nat.le_of_ble_eq_true rfl) (F_X0_heightOf hc82)) rfl (Nat.le_of_ble_eq_true rfl) (Nat.le_of_ble_eq_true rfl) ?_
              refine mr_aload_n (pc := 85) (x := 0) rfl rfl ?_
              refine mr_iload_n (pc := 86) (x := b1) rfl rfl ?_
              refine mr_iconst (pc := 87) (v := 1) rfl (by decide) ?_
              refine mr_iadd (pc := 88) rfl ?_
              rcases bI_inv h with ⟨v89, X89, hc89, h⟩ | ⟨E89, X89, hc89, hr⟩
              · refine mr_ret (mRunV (pc := 89) (q := 0) (As := [.int ((b1) + (1))]) (rest := [.int (v82)]) rfl lkRX0_115 rfl rfl rfl (Nat.le_of_ble_eq_true rfl) (Nat.le_of_ble_eq_true rfl) (F_X0_heightOf hc89)) rfl (Nat.le_of_ble_eq_true rfl) (Nat.le_of_ble_eq_true rfl) ?_
                refine mr_icmp_eq (pc := 92) 101 rfl (by decide) (fun c92 => ?_) (fun c92 => ?_)
                · have h := (if_pos c92).symm.trans h
                  refine mr_aload_n (pc := 101) (x := 0) rfl rfl ?_
                  refine mr_iconst (pc := 102) (v := 2) rfl (by decide) ?_
                  rcases bV_inv h with ⟨X103, hc103, h⟩ | ⟨E103, X103, hc103, hr⟩
                  · refine mr_ret (mRunV (pc := 103) (q := 0) (As := [.int (2)]) (rest := []) rfl lkRX0_118 rfl rfl rfl (Nat.le_of_ble_eq_true rfl) (Nat.le_of_ble_eq_true rfl) (F_X0_leave hc103)) rfl (Nat.le_of_ble_eq_true rfl) (Nat.le_of_ble_eq_true rfl) ?_
                    refine mr_iload_n (pc := 106) (x := b2) rfl rfl ?_
                    cases h; exact mr_ireturn (pc := 107) rfl rfl (Nat.le_of_ble_eq_true rfl) (Nat.le_of_ble_eq_true rfl)
                  · cases hr; exact mr_thrown (mRunV (pc := 103) (q := 0) (As := [.int (2)]) (rest := []) rfl lkRX0_118 rfl rfl rfl (Nat.le_of_ble_eq_true rfl) (Nat.le_of_ble_eq_true rfl) (F_X0_leave hc103)) rfl rfl (Nat.le_of_ble_eq_true rfl) (Nat.le_of_ble_eq_true rfl)
                · have h := (if_neg c92).symm.trans h
                  refine mr_aload_n (pc := 95) (x := 0) rfl rfl ?_
                  refine mr_iconst (pc := 96) (v := 4) rfl (by decide) ?_
                  rcases bI_inv h with ⟨v97, X97, hc97, h⟩ | ⟨E97, X97, hc97, hr⟩
                  · refine mr_ret (mRunV (pc := 97) (q := 0) (As := [.int (4)]) (rest := []) rfl lkRX0_183 rfl rfl rfl (Nat.le_of_ble_eq_true rfl) (Nat.le_of_ble_eq_true rfl) (F_X0_failing hc97)) rfl (Nat.le_of_ble_eq_true rfl) (Nat.le_of_ble_eq_true rfl) ?_
                    cases h; exact mr_ireturn (pc := 100) rfl rfl (Nat.le_of_ble_eq_true rfl) (Nat.le_of_ble_eq_true rfl)
                  · cases hr; exact mr_thrown (mRunV (pc := 97) (q := 0) (As := [.int (4)]) (rest := []) rfl lkRX0_183 rfl rfl rfl (Nat.le_of_ble_eq_true rfl) (Nat.le_of_ble_eq_true rfl) (F_X0_failing hc97)) rfl rfl (Nat.le_of_ble_eq_true rfl) (Nat.le_of_ble_eq_true rfl)
              · cases hr; exact mr_thrown (mRunV (pc := 89) (q := 0) (As := [.int ((b1) + (1))]) (rest := [.int (v82)]) rfl lkRX0_115 rfl rfl rfl (Nat.le_of_ble_eq_true rfl) (Nat.le_of_ble_eq_true rfl) (F_X0_heightOf hc89)) rfl rfl (Nat.le_of_ble_eq_true rfl) (Nat.le_of_ble_eq_true rfl)
            · cases hr; exact mr_thrown (mRunV (pc := 82) (q := 0) (As := [.int (b1)]) (rest := []) rfl lkRX0_115 rfl rfl rfl (Nat.le_of_ble_eq_true rfl) (Nat.le_of_ble_eq_true rfl) (F_X0_heightOf hc82)) rfl rfl (Nat.le_of_ble_eq_true rfl) (Nat.le_of_ble_eq_true rfl)
          · have h := (if_neg c63).symm.trans h
            refine mr_aload_n (pc := 66) (x := 0) rfl rfl ?_
            refine mr_iload_n (pc := 67) (x := b1) rfl rfl ?_
            refine mr_iload_n (pc := 68) (x := b1) rfl rfl ?_
            refine mr_iconst (pc := 69) (v := 1) rfl (by decide) ?_
            refine mr_iadd (pc := 70) rfl ?_
            rcases bV_inv h with ⟨X71, hc71, h⟩ | ⟨E71, X71, hc71, hr⟩
            · refine mr_ret (mRunV (pc := 71) (q := 0) (As := [.int (b1), .int ((b1) + (1))]) (rest := []) rfl lkRX0_196 rfl rfl rfl (Nat.le_of_ble_eq_true rfl) (Nat.le_of_ble_eq_true rfl) (F_X0_moveUnit hc71)) rfl (Nat.le_of_ble_eq_true rfl) (Nat.le_of_ble_eq_true rfl) ?_
              refine ms_iinc (pc := 74) (x := b2) (v := 1) (L' := [some (.ref 0), some (.int (b1)), some (.int (b2 + 1))]) rfl rfl (by decide) (by decide) rfl rfl ?_
              refine mr_goto (pc := 77) 44 rfl (by decide) ?_
              exact ih9 _ _ _ _ _ h
            · cases hr; exact mr_thrown (mRunV (pc := 71) (q := 0) (As := [.int (b1), .int ((b1) + (1))]) (rest := []) rfl lkRX0_196 rfl rfl rfl (Nat.le_of_ble_eq_true rfl) (Nat.le_of_ble_eq_true rfl) (F_X0_moveUnit hc71)) rfl rfl (Nat.le_of_ble_eq_true rfl) (Nat.le_of_ble_eq_true rfl)
        · cases hr; exact mr_thrown (mRunV (pc := 60) (q := 0) (As := [.int ((b1) + (1))]) (rest := [.int (v53)]) rfl lkRX0_115 rfl rfl rfl (Nat.le_of_ble_eq_true rfl) (Nat.le_of_ble_eq_true rfl) (F_X0_heightOf hc60)) rfl rfl (Nat.le_of_ble_eq_true rfl) (Nat.le_of_ble_eq_true rfl)
      · cases hr; exact mr_thrown (mRunV (pc := 53) (q := 0) (As := [.int (b1)]) (rest := []) rfl lkRX0_115 rfl rfl rfl (Nat.le_of_ble_eq_true rfl) (Nat.le_of_ble_eq_true rfl) (F_X0_heightOf hc53)) rfl rfl (Nat.le_of_ble_eq_true rfl) (Nat.le_of_ble_eq_true rfl)
def g_X0_levelGate (X : cS) (a1 : Int32) : Option (mO × cS) := bI (g_X0_holdAll X (a1) ((a1) + (1))) (fun v5 X5 => if ((v5) : Int32) = 0 then (bI (g_X0_failing X5 (1)) (fun v13 X13 => some (.inl (some (.int (v13))), X13))) else (if vpb (a1) 7 then (if (((X5.2.2.2.1) ((a1) : Int32).toNatClampNeg) : Int32) = 0 then (bI (g_X0_failing X5 (2)) (fun v28 X28 => some (.inl (some (.int (v28))), X28))) else (if vpb (a1) 7 then (if vpb (a1) 7 then (g_X0_levelGate_44 mK (X5.1, X5.2.1, X5.2.2.1, upd (X5.2.2.2.1) ((a1) : Int32).toNatClampNeg (((X5.2.2.2.1) ((a1) : Int32).toNatClampNeg) - (1)), X5.2.2.2.2.1, X5.2.2.2.2.2.1, X5.2.2.2.2.2.2.1, X5.2.2.2.2.2.2.2.1, X5.2.2.2.2.2.2.2.2.1, X5.2.2.2.2.2.2.2.2.2) (a1) (0)) else none) else none)) else none))
set_option maxRecDepth 100000 in
set_option maxHeartbeats 4000000 in
theorem F_X0_levelGate {S : Nat × (Nat → Int32)} {T : mH} {X R9 : cS} {o9 : mO} {a1 : Int32} (h : g_X0_levelGate X a1 = some (o9, R9)) : mF S MX0_levelGate 0 (mEnt [.ref 0, .int a1] 3) [] (xw X T) 0 0 (o9, (xw R9 T), 0, 0) := by
  unfold g_X0_levelGate at h
  refine mr_aload_n (pc := 0) (x := 0) rfl rfl ?_
  refine mr_iload_n (pc := 1) (x := a1) rfl rfl ?_
  refine mr_iload_n (pc := 2) (x := a1) rfl rfl ?_
  refine mr_iconst (pc := 3) (v := 1) rfl (by decide) ?_
  refine mr_iadd (pc := 4) rfl ?_
  rcases bI_inv h with ⟨v5, X5, hc5, h⟩ | ⟨E5, X5, hc5, hr⟩
  · refine mr_ret (mRunV (pc := 5) (q := 0) (As := [.int (a1), .int ((a1) + (1))]) (rest := []) rfl lkRX0_192 rfl rfl rfl (Nat.le_of_ble_eq_true rfl) (Nat.le_of_ble_eq_true rfl) (F_X0_holdAll hc5)) rfl (Nat.le_of_ble_eq_true rfl) (Nat.le_of_ble_eq_true rfl) ?_
    refine mr_if_ne (pc := 8) 17 rfl (by decide) (fun c8 => ?_) (fun c8 => ?_)
    · have h := (if_neg c8).symm.trans h
      refine mr_aload_n (pc := 17) (x := 0) rfl rfl ?_
      refine mr_getfield (pc := 18) (v := .ref 4) rfl lfRX0_19 rfl rfl ?_
      refine mr_iload_n (pc := 21) (x := a1) rfl rfl ?_
      obtain ⟨g22, h⟩ := m_gd h
      refine mr_iaload (pc := 22) (f := X5.2.2.2.1) rfl rfl (vpb_in g22) ?_
      refine mr_if_ne (pc := 23) 32 rfl (by decide) (fun c23 => ?_) (fun c23 => ?_)
      · have h := (if_neg c23).symm.trans h
        refine mr_aload_n (pc := 32) (x := 0) rfl rfl ?_
        refine mr_getfield (pc := 33) (v := .ref 4) rfl lfRX0_19 rfl rfl ?_
        refine mr_iload_n (pc := 36) (x := a1) rfl rfl ?_
        refine mr_dup2 (pc := 37) rfl rfl rfl ?_
        obtain ⟨g38, h⟩ := m_gd h
        refine mr_iaload (pc := 38) (f := X5.2.2.2.1) rfl rfl (vpb_in g38) ?_
        refine mr_iconst (pc := 39) (v := 1) rfl (by decide) ?_
        refine mr_isub (pc := 40) rfl ?_
        obtain ⟨g41, h⟩ := m_gd h
        refine ms_iastore (pc := 41) (f := X5.2.2.2.1) (h' := (xw (X5.1, X5.2.1, X5.2.2.1, upd (X5.2.2.2.1) ((a1) : Int32).toNatClampNeg (((X5.2.2.2.1) ((a1) : Int32).toNatClampNeg) - (1)), X5.2.2.2.2.1, X5.2.2.2.2.2.1, X5.2.2.2.2.2.2.1, X5.2.2.2.2.2.2.2.1, X5.2.2.2.2.2.2.2.2.1, X5.2.2.2.2.2.2.2.2.2) T)) rfl rfl g41 rfl ?_
        refine mr_iconst (pc := 42) (v := 0) rfl (by decide) ?_
        refine ms_istore_n (pc := 43) (L' := [some (.ref 0), some (.int (a1)), some (.int (0))]) rfl (by decide) rfl rfl ?_
        exact FL_X0_levelGate_44 mK _ _ _ _ _ h
      · have h := (if_pos c23).symm.trans h
        refine mr_aload_n (pc := 26) (x := 0) rfl rfl ?_
        refine mr_iconst (pc := 27) (v := 2) rfl (by decide) ?_
        rcases bI_inv h with ⟨v28, X28, hc28, h⟩ | ⟨E28, X28, hc28, hr⟩
        · refine mr_ret (mRunV (pc := 28) (q := 0) (As := [.int (2)]) (rest := []) rfl lkRX0_183 rfl rfl rfl (Nat.le_of_ble_eq_true rfl) (Nat.le_of_ble_eq_true rfl) (F_X0_failing hc28)) rfl (Nat.le_of_ble_eq_true rfl) (Nat.le_of_ble_eq_true rfl) ?_
          cases h; exact mr_ireturn (pc := 31) rfl rfl (Nat.le_of_ble_eq_true rfl) (Nat.le_of_ble_eq_true rfl)
        · cases hr; exact mr_thrown (mRunV (pc := 28) (q := 0) (As := [.int (2)]) (rest := []) rfl lkRX0_183 rfl rfl rfl (Nat.le_of_ble_eq_true rfl) (Nat.le_of_ble_eq_true rfl) (F_X0_failing hc28)) rfl rfl (Nat.le_of_ble_eq_true rfl) (Nat.le_of_ble_eq_true rfl)
    · have h := (if_pos c8).symm.trans h
      refine mr_aload_n (pc := 11) (x := 0) rfl rfl ?_
      refine mr_iconst (pc := 12) (v := 1) rfl (by decide) ?_
      rcases bI_inv h with ⟨v13, X13, hc13, h⟩ | ⟨E13, X13, hc13, hr⟩
      · refine mr_ret (mRunV (pc := 13) (q := 0) (As := [.int (1)]) (rest := []) rfl lkRX0_183 rfl rfl rfl (Nat.le_of_ble_eq_true rfl) (Nat.le_of_ble_eq_true rfl) (F_X0_failing hc13)) rfl (Nat.le_of_ble_eq_true rfl) (Nat.le_of_ble_eq_true rfl) ?_
        cases h; exact mr_ireturn (pc := 16) rfl rfl (Nat.le_of_ble_eq_true rfl) (Nat.le_of_ble_eq_true rfl)
      · cases hr; exact mr_thrown (mRunV (pc := 13) (q := 0) (As := [.int (1)]) (rest := []) rfl lkRX0_183 rfl rfl rfl (Nat.le_of_ble_eq_true rfl) (Nat.le_of_ble_eq_true rfl) (F_X0_failing hc13)) rfl rfl (Nat.le_of_ble_eq_true rfl) (Nat.le_of_ble_eq_true rfl)
  · cases hr; exact mr_thrown (mRunV (pc := 5) (q := 0) (As := [.int (a1), .int ((a1) + (1))]) (rest := []) rfl lkRX0_192 rfl rfl rfl (Nat.le_of_ble_eq_true rfl) (Nat.le_of_ble_eq_true rfl) (F_X0_holdAll hc5)) rfl rfl (Nat.le_of_ble_eq_true rfl) (Nat.le_of_ble_eq_true rfl)
def g_X0_level (X : cS) (a1 : Int32) : Option (mO × cS) := cV (g_X0_checkGate (a1)) X (bI (g_X0_levelGate X (a1)) (fun v6 X6 => cI (g_X0_answered (v6)) X6 (fun v9 => some (.inl (some (.int (v9))), X6))))
set_option maxRecDepth 100000 in
set_option maxHeartbeats 4000000 in
theorem F_X0_level {S : Nat × (Nat → Int32)} {T : mH} {X R9 : cS} {o9 : mO} {a1 : Int32} (h : g_X0_level X a1 = some (o9, R9)) : mF S MX0_level 0 (mEnt [.ref 0, .int a1] 2) [] (xw X T) 0 0 (o9, (xw R9 T), 2, 16) := by
  unfold g_X0_level at h
  refine mr_iload_n (pc := 0) (x := a1) rfl rfl ?_
  rcases cV_inv h with ⟨hc1, h⟩ | ⟨E1, hc1, hr⟩
  · refine mr_ret (mRunS (pc := 1) (As := [.int (a1)]) (rest := []) rfl lkRX0_74 rfl (Nat.le_of_ble_eq_true rfl) (Nat.le_of_ble_eq_true rfl) (F_X0_checkGate hc1)) rfl (Nat.le_of_ble_eq_true rfl) (Nat.le_of_ble_eq_true rfl) ?_
    refine mr_aload_n (pc := 4) (x := 0) rfl rfl ?_
    refine mr_iload_n (pc := 5) (x := a1) rfl rfl ?_
    rcases bI_inv h with ⟨v6, X6, hc6, h⟩ | ⟨E6, X6, hc6, hr⟩
    · refine mr_ret (mRunV (pc := 6) (q := 0) (As := [.int (a1)]) (rest := []) rfl lkRX0_77 rfl rfl rfl (Nat.le_of_ble_eq_true rfl) (Nat.le_of_ble_eq_true rfl) (F_X0_levelGate hc6)) rfl (Nat.le_of_ble_eq_true rfl) (Nat.le_of_ble_eq_true rfl) ?_
      rcases cI_inv h with ⟨v9, hc9, h⟩ | ⟨E9, hc9, hr⟩
      · refine mr_ret (mRunS (pc := 9) (As := [.int (v6)]) (rest := []) rfl lkRX0_50 rfl (Nat.le_of_ble_eq_true rfl) (Nat.le_of_ble_eq_true rfl) (F_X0_answered hc9)) rfl (Nat.le_of_ble_eq_true rfl) (Nat.le_of_ble_eq_true rfl) ?_
        cases h; exact mr_ireturn (pc := 12) rfl rfl (Nat.le_of_ble_eq_true rfl) (Nat.le_of_ble_eq_true rfl)
      · cases hr; exact mr_thrown (mRunS (pc := 9) (As := [.int (v6)]) (rest := []) rfl lkRX0_50 rfl (Nat.le_of_ble_eq_true rfl) (Nat.le_of_ble_eq_true rfl) (F_X0_answered hc9)) rfl rfl (Nat.le_of_ble_eq_true rfl) (Nat.le_of_ble_eq_true rfl)
    · cases hr; exact mr_thrown (mRunV (pc := 6) (q := 0) (As := [.int (a1)]) (rest := []) rfl lkRX0_77 rfl rfl rfl (Nat.le_of_ble_eq_true rfl) (Nat.le_of_ble_eq_true rfl) (F_X0_levelGate hc6)) rfl rfl (Nat.le_of_ble_eq_true rfl) (Nat.le_of_ble_eq_true rfl)
  · cases hr; exact mr_thrown (mRunS (pc := 1) (As := [.int (a1)]) (rest := []) rfl lkRX0_74 rfl (Nat.le_of_ble_eq_true rfl) (Nat.le_of_ble_eq_true rfl) (F_X0_checkGate hc1)) rfl rfl (Nat.le_of_ble_eq_true rfl) (Nat.le_of_ble_eq_true rfl)
def g_X0_hasGate (a0 a1 : Int32) : Option mO := if ((a1) : Int32) = 0 then (if ((a0) : Int32) ≤ 0 then (some (.inl (some (.int (0))))) else (some (.inl (some (.int (1)))))) else (if ((7) : Int32) ≤ ((a0) : Int32) then (some (.inl (some (.int (0))))) else (some (.inl (some (.int (1))))))
set_option maxRecDepth 100000 in
set_option maxHeartbeats 4000000 in
theorem F_X0_hasGate {S : Nat × (Nat → Int32)} {hw : mH} {o9 : mO} {a0 a1 : Int32} (h : g_X0_hasGate a0 a1 = some o9) : mF S MX0_hasGate 0 (mEnt [.int a0, .int a1] 2) [] hw 0 0 (o9, hw, 0, 0) := by
  unfold g_X0_hasGate at h
  refine mr_iload_n (pc := 0) (x := a1) rfl rfl ?_
  refine mr_if_eq (pc := 1) 18 rfl (by decide) (fun c1 => ?_) (fun c1 => ?_)
  · have h := (if_pos c1).symm.trans h
    refine mr_iload_n (pc := 18) (x := a0) rfl rfl ?_
    refine mr_if_le (pc := 19) 26 rfl (by decide) (fun c19 => ?_) (fun c19 => ?_)
    · have h := (if_pos c19).symm.trans h
      refine mr_iconst (pc := 26) (v := 0) rfl (by decide) ?_
      cases h; exact mr_zreturn (pc := 27) rfl rfl (Or.inl rfl) (Nat.le_of_ble_eq_true rfl) (Nat.le_of_ble_eq_true rfl)
    · have h := (if_neg c19).symm.trans h
      refine mr_iconst (pc := 22) (v := 1) rfl (by decide) ?_
      refine mr_goto (pc := 23) 27 rfl (by decide) ?_
      cases h; exact mr_zreturn (pc := 27) rfl rfl (Or.inr rfl) (Nat.le_of_ble_eq_true rfl) (Nat.le_of_ble_eq_true rfl)
  · have h := (if_neg c1).symm.trans h
    refine mr_iload_n (pc := 4) (x := a0) rfl rfl ?_
    refine mr_bipush (pc := 5) (v := 7) rfl (by decide) ?_
    refine mr_icmp_ge (pc := 7) 14 rfl (by decide) (fun c7 => ?_) (fun c7 => ?_)
    · have h := (if_pos c7).symm.trans h
      refine mr_iconst (pc := 14) (v := 0) rfl (by decide) ?_
      refine mr_goto (pc := 15) 27 rfl (by decide) ?_
      cases h; exact mr_zreturn (pc := 27) rfl rfl (Or.inl rfl) (Nat.le_of_ble_eq_true rfl) (Nat.le_of_ble_eq_true rfl)
    · have h := (if_neg c7).symm.trans h
      refine mr_iconst (pc := 10) (v := 1) rfl (by decide) ?_
      refine mr_goto (pc := 11) 27 rfl (by decide) ?_
      cases h; exact mr_zreturn (pc := 27) rfl rfl (Or.inr rfl) (Nat.le_of_ble_eq_true rfl) (Nat.le_of_ble_eq_true rfl)
