/-! THE METHODS OF X1 AS FUNCTIONS, by program (wip/whole/gencode.py) -/
def g_X1_thrown (Y : rS) : Option (mO × rS) := some (.inl (some (.int (Y.2.2.2.2.2.2.2.2.1))), Y)
set_option maxRecDepth 100000 in
set_option maxHeartbeats 4000000 in
theorem F_X1_thrown {S : Nat × (Nat → Int32)} {Z : cS} {T : mH} {Y R9 : rS} {o9 : mO} (h : g_X1_thrown Y  = some (o9, R9)) : mF S MX1_thrown 0 (mEnt [.ref 8] 1) [] (xw Z (yw Y T)) 0 0 (o9, (xw Z (yw R9 T)), 0, 0) := by
  unfold g_X1_thrown at h
  refine mr_aload_n (pc := 0) (x := 8) rfl rfl ?_
  refine mr_getfield (pc := 1) (v := .int (Y.2.2.2.2.2.2.2.2.1)) rfl lfRX1_38 rfl rfl ?_
  cases h; exact mr_ireturn (pc := 4) rfl rfl (Nat.le_of_ble_eq_true rfl) (Nat.le_of_ble_eq_true rfl)
def g_X1_begin_51 : Nat → rS → Int32 → Option (mO × rS)
  | 0, _, _ => none
  | f9 + 1, Y, b1 => if ((7) : Int32) ≤ ((b1) : Int32) then (some (.inl none, (Y.1, Y.2.1, Y.2.2.1, Y.2.2.2.1, Y.2.2.2.2.1, Y.2.2.2.2.2.1, Y.2.2.2.2.2.2.1, Y.2.2.2.2.2.2.2.1, Y.2.2.2.2.2.2.2.2.1, 0, 0, 0, 0, Y.2.2.2.2.2.2.2.2.2.2.2.2.2.1, Y.2.2.2.2.2.2.2.2.2.2.2.2.2.2))) else (if vpb (b1) 7 then (g_X1_begin_51 f9 (Y.1, Y.2.1, Y.2.2.1, Y.2.2.2.1, Y.2.2.2.2.1, Y.2.2.2.2.2.1, upd (Y.2.2.2.2.2.2.1) ((b1) : Int32).toNatClampNeg (5), Y.2.2.2.2.2.2.2.1, Y.2.2.2.2.2.2.2.2.1, Y.2.2.2.2.2.2.2.2.2.1, Y.2.2.2.2.2.2.2.2.2.2.1, Y.2.2.2.2.2.2.2.2.2.2.2.1, Y.2.2.2.2.2.2.2.2.2.2.2.2.1, Y.2.2.2.2.2.2.2.2.2.2.2.2.2.1, Y.2.2.2.2.2.2.2.2.2.2.2.2.2.2) (b1 + 1)) else none)
set_option maxRecDepth 100000 in
set_option maxHeartbeats 4000000 in
theorem FL_X1_begin_51 {S : Nat × (Nat → Int32)} {Z : cS} {T : mH} : ∀ (f9 : Nat) (Y : rS) (b1 : Int32) (o9 : mO) (R9 : rS), g_X1_begin_51 f9 Y b1 = some (o9, R9) → mF S MX1_begin 51 [some (.ref 8), some (.int (b1))] [] (xw Z (yw Y T)) 0 0 (o9, (xw Z (yw R9 T)), 0, 0) := by
  intro f9
  induction f9 with
  | zero => intro Y b1 o9 R9 h; cases h
  | succ f9 ih9 =>
    intro Y b1 o9 R9 h
    rw [g_X1_begin_51] at h
    refine mr_iload_n (pc := 51) (x := b1) rfl rfl ?_
    refine mr_bipush (pc := 52) (v := 7) rfl (by decide) ?_
    refine mr_icmp_ge (pc := 54) 70 rfl (by decide) (fun c54 => ?_) (fun c54 => ?_)
    · have h := (if_pos c54).symm.trans h
      refine mr_aload_n (pc := 70) (x := 8) rfl rfl ?_
      refine mr_iconst (pc := 71) (v := 0) rfl (by decide) ?_
      refine ms_putfield (pc := 72) (h' := (xw Z (yw (Y.1, Y.2.1, Y.2.2.1, Y.2.2.2.1, Y.2.2.2.2.1, Y.2.2.2.2.2.1, Y.2.2.2.2.2.2.1, Y.2.2.2.2.2.2.2.1, Y.2.2.2.2.2.2.2.2.1, 0, Y.2.2.2.2.2.2.2.2.2.2.1, Y.2.2.2.2.2.2.2.2.2.2.2.1, Y.2.2.2.2.2.2.2.2.2.2.2.2.1, Y.2.2.2.2.2.2.2.2.2.2.2.2.2.1, Y.2.2.2.2.2.2.2.2.2.2.2.2.2.2) T))) rfl lfRX1_42 rfl (Nat.le_of_ble_eq_true rfl) (by intro q hq; cases hq; rfl) rfl ?_
      refine mr_aload_n (pc := 75) (x := 8) rfl rfl ?_
      refine mr_iconst (pc := 76) (v := 0) rfl (by decide) ?_
      refine ms_putfield (pc := 77) (h' := (xw Z (yw (Y.1, Y.2.1, Y.2.2.1, Y.2.2.2.1, Y.2.2.2.2.1, Y.2.2.2.2.2.1, Y.2.2.2.2.2.2.1, Y.2.2.2.2.2.2.2.1, Y.2.2.2.2.2.2.2.2.1, 0, 0, Y.2.2.2.2.2.2.2.2.2.2.2.1, Y.2.2.2.2.2.2.2.2.2.2.2.2.1, Y.2.2.2.2.2.2.2.2.2.2.2.2.2.1, Y.2.2.2.2.2.2.2.2.2.2.2.2.2.2) T))) rfl lfRX1_45 rfl (Nat.le_of_ble_eq_true rfl) (by intro q hq; cases hq; rfl) rfl ?_
      refine mr_aload_n (pc := 80) (x := 8) rfl rfl ?_
      refine mr_iconst (pc := 81) (v := 0) rfl (by decide) ?_
      refine ms_putfield (pc := 82) (h' := (xw Z (yw (Y.1, Y.2.1, Y.2.2.1, Y.2.2.2.1, Y.2.2.2.2.1, Y.2.2.2.2.2.1, Y.2.2.2.2.2.2.1, Y.2.2.2.2.2.2.2.1, Y.2.2.2.2.2.2.2.2.1, 0, 0, 0, Y.2.2.2.2.2.2.2.2.2.2.2.2.1, Y.2.2.2.2.2.2.2.2.2.2.2.2.2.1, Y.2.2.2.2.2.2.2.2.2.2.2.2.2.2) T))) rfl lfRX1_48 rfl (Nat.le_of_ble_eq_true rfl) (by intro q hq; cases hq; rfl) rfl ?_
      refine mr_aload_n (pc := 85) (x := 8) rfl rfl ?_
      refine mr_iconst (pc := 86) (v := 0) rfl (by decide) ?_
      refine ms_putfield (pc := 87) (h' := (xw Z (yw (Y.1, Y.2.1, Y.2.2.1, Y.2.2.2.1, Y.2.2.2.2.1, Y.2.2.2.2.2.1, Y.2.2.2.2.2.2.1, Y.2.2.2.2.2.2.2.1, Y.2.2.2.2.2.2.2.2.1, 0, 0, 0, 0, Y.2.2.2.2.2.2.2.2.2.2.2.2.2.1, Y.2.2.2.2.2.2.2.2.2.2.2.2.2.2) T))) rfl lfRX1_51 rfl (Nat.le_of_ble_eq_true rfl) (by intro q hq; cases hq; rfl) rfl ?_
      cases h; exact mr_return (pc := 90) rfl rfl (Nat.le_of_ble_eq_true rfl) (Nat.le_of_ble_eq_true rfl)
    · have h := (if_neg c54).symm.trans h
      refine mr_aload_n (pc := 57) (x := 8) rfl rfl ?_
      refine mr_getfield (pc := 58) (v := .ref 15) rfl lfRX1_29 rfl rfl ?_
      refine mr_iload_n (pc := 61) (x := b1) rfl rfl ?_
      refine mr_iconst (pc := 62) (v := 5) rfl (by decide) ?_
      obtain ⟨g63, h⟩ := m_gd h
      refine ms_iastore (pc := 63) (f := Y.2.2.2.2.2.2.1) (h' := (xw Z (yw (Y.1, Y.2.1, Y.2.2.1, Y.2.2.2.1, Y.2.2.2.2.1, Y.2.2.2.2.2.1, upd (Y.2.2.2.2.2.2.1) ((b1) : Int32).toNatClampNeg (5), Y.2.2.2.2.2.2.2.1, Y.2.2.2.2.2.2.2.2.1, Y.2.2.2.2.2.2.2.2.2.1, Y.2.2.2.2.2.2.2.2.2.2.1, Y.2.2.2.2.2.2.2.2.2.2.2.1, Y.2.2.2.2.2.2.2.2.2.2.2.2.1, Y.2.2.2.2.2.2.2.2.2.2.2.2.2.1, Y.2.2.2.2.2.2.2.2.2.2.2.2.2.2) T))) rfl rfl g63 rfl ?_
      refine ms_iinc (pc := 64) (x := b1) (v := 1) (L' := [some (.ref 8), some (.int (b1 + 1))]) rfl rfl (by decide) (by decide) rfl rfl ?_
      refine mr_goto (pc := 67) 51 rfl (by decide) ?_
      exact ih9 _ _ _ _ h
def g_X1_begin_23 : Nat → rS → Int32 → Option (mO × rS)
  | 0, _, _ => none
  | f9 + 1, Y, b1 => if ((10) : Int32) ≤ ((b1) : Int32) then (g_X1_begin_51 mK Y (0)) else (if vpb (b1) 10 then (if vpb (b1) 10 then (g_X1_begin_23 f9 (Y.1, Y.2.1, Y.2.2.1, Y.2.2.2.1, upd (Y.2.2.2.2.1) ((b1) : Int32).toNatClampNeg ((-1)), upd (Y.2.2.2.2.2.1) ((b1) : Int32).toNatClampNeg (1), Y.2.2.2.2.2.2.1, Y.2.2.2.2.2.2.2.1, Y.2.2.2.2.2.2.2.2.1, Y.2.2.2.2.2.2.2.2.2.1, Y.2.2.2.2.2.2.2.2.2.2.1, Y.2.2.2.2.2.2.2.2.2.2.2.1, Y.2.2.2.2.2.2.2.2.2.2.2.2.1, Y.2.2.2.2.2.2.2.2.2.2.2.2.2.1, Y.2.2.2.2.2.2.2.2.2.2.2.2.2.2) (b1 + 1)) else none) else none)
set_option maxRecDepth 100000 in
set_option maxHeartbeats 4000000 in
theorem FL_X1_begin_23 {S : Nat × (Nat → Int32)} {Z : cS} {T : mH} : ∀ (f9 : Nat) (Y : rS) (b1 : Int32) (o9 : mO) (R9 : rS), g_X1_begin_23 f9 Y b1 = some (o9, R9) → mF S MX1_begin 23 [some (.ref 8), some (.int (b1))] [] (xw Z (yw Y T)) 0 0 (o9, (xw Z (yw R9 T)), 0, 0) := by
  intro f9
  induction f9 with
  | zero => intro Y b1 o9 R9 h; cases h
  | succ f9 ih9 =>
    intro Y b1 o9 R9 h
    rw [g_X1_begin_23] at h
    refine mr_iload_n (pc := 23) (x := b1) rfl rfl ?_
    refine mr_bipush (pc := 24) (v := 10) rfl (by decide) ?_
    refine mr_icmp_ge (pc := 26) 49 rfl (by decide) (fun c26 => ?_) (fun c26 => ?_)
    · have h := (if_pos c26).symm.trans h
      refine mr_iconst (pc := 49) (v := 0) rfl (by decide) ?_
      refine ms_istore_n (pc := 50) (L' := [some (.ref 8), some (.int (0))]) rfl (by decide) rfl rfl ?_
      exact FL_X1_begin_51 mK _ _ _ _ h
    · have h := (if_neg c26).symm.trans h
      refine mr_aload_n (pc := 29) (x := 8) rfl rfl ?_
      refine mr_getfield (pc := 30) (v := .ref 13) rfl lfRX1_23 rfl rfl ?_
      refine mr_iload_n (pc := 33) (x := b1) rfl rfl ?_
      refine mr_iconst (pc := 34) (v := -1) rfl (by decide) ?_
      obtain ⟨g35, h⟩ := m_gd h
      refine ms_iastore (pc := 35) (f := Y.2.2.2.2.1) (h' := (xw Z (yw (Y.1, Y.2.1, Y.2.2.1, Y.2.2.2.1, upd (Y.2.2.2.2.1) ((b1) : Int32).toNatClampNeg ((-1)), Y.2.2.2.2.2.1, Y.2.2.2.2.2.2.1, Y.2.2.2.2.2.2.2.1, Y.2.2.2.2.2.2.2.2.1, Y.2.2.2.2.2.2.2.2.2.1, Y.2.2.2.2.2.2.2.2.2.2.1, Y.2.2.2.2.2.2.2.2.2.2.2.1, Y.2.2.2.2.2.2.2.2.2.2.2.2.1, Y.2.2.2.2.2.2.2.2.2.2.2.2.2.1, Y.2.2.2.2.2.2.2.2.2.2.2.2.2.2) T))) rfl rfl g35 rfl ?_
      refine mr_aload_n (pc := 36) (x := 8) rfl rfl ?_
      refine mr_getfield (pc := 37) (v := .ref 14) rfl lfRX1_26 rfl rfl ?_
      refine mr_iload_n (pc := 40) (x := b1) rfl rfl ?_
      refine mr_iconst (pc := 41) (v := 1) rfl (by decide) ?_
      obtain ⟨g42, h⟩ := m_gd h
      refine ms_iastore (pc := 42) (f := Y.2.2.2.2.2.1) (h' := (xw Z (yw (Y.1, Y.2.1, Y.2.2.1, Y.2.2.2.1, upd (Y.2.2.2.2.1) ((b1) : Int32).toNatClampNeg ((-1)), upd (Y.2.2.2.2.2.1) ((b1) : Int32).toNatClampNeg (1), Y.2.2.2.2.2.2.1, Y.2.2.2.2.2.2.2.1, Y.2.2.2.2.2.2.2.2.1, Y.2.2.2.2.2.2.2.2.2.1, Y.2.2.2.2.2.2.2.2.2.2.1, Y.2.2.2.2.2.2.2.2.2.2.2.1, Y.2.2.2.2.2.2.2.2.2.2.2.2.1, Y.2.2.2.2.2.2.2.2.2.2.2.2.2.1, Y.2.2.2.2.2.2.2.2.2.2.2.2.2.2) T))) rfl rfl g42 rfl ?_
      refine ms_iinc (pc := 43) (x := b1) (v := 1) (L' := [some (.ref 8), some (.int (b1 + 1))]) rfl rfl (by decide) (by decide) rfl rfl ?_
      refine mr_goto (pc := 46) 23 rfl (by decide) ?_
      exact ih9 _ _ _ _ h
def g_X1_begin_2 : Nat → rS → Int32 → Option (mO × rS)
  | 0, _, _ => none
  | f9 + 1, Y, b1 => if ((8) : Int32) ≤ ((b1) : Int32) then (g_X1_begin_23 mK Y (0)) else (if vpb (b1) 8 then (g_X1_begin_2 f9 (upd (Y.1) ((b1) : Int32).toNatClampNeg (vp_nar .boolean (0)), Y.2.1, Y.2.2.1, Y.2.2.2.1, Y.2.2.2.2.1, Y.2.2.2.2.2.1, Y.2.2.2.2.2.2.1, Y.2.2.2.2.2.2.2.1, Y.2.2.2.2.2.2.2.2.1, Y.2.2.2.2.2.2.2.2.2.1, Y.2.2.2.2.2.2.2.2.2.2.1, Y.2.2.2.2.2.2.2.2.2.2.2.1, Y.2.2.2.2.2.2.2.2.2.2.2.2.1, Y.2.2.2.2.2.2.2.2.2.2.2.2.2.1, Y.2.2.2.2.2.2.2.2.2.2.2.2.2.2) (b1 + 1)) else none)
set_option maxRecDepth 100000 in
set_option maxHeartbeats 4000000 in
theorem FL_X1_begin_2 {S : Nat × (Nat → Int32)} {Z : cS} {T : mH} : ∀ (f9 : Nat) (Y : rS) (b1 : Int32) (o9 : mO) (R9 : rS), g_X1_begin_2 f9 Y b1 = some (o9, R9) → mF S MX1_begin 2 [some (.ref 8), some (.int (b1))] [] (xw Z (yw Y T)) 0 0 (o9, (xw Z (yw R9 T)), 0, 0) := by
  intro f9
  induction f9 with
  | zero => intro Y b1 o9 R9 h; cases h
  | succ f9 ih9 =>
    intro Y b1 o9 R9 h
    rw [g_X1_begin_2] at h
    refine mr_iload_n (pc := 2) (x := b1) rfl rfl ?_
    refine mr_bipush (pc := 3) (v := 8) rfl (by decide) ?_
    refine mr_icmp_ge (pc := 5) 21 rfl (by decide) (fun c5 => ?_) (fun c5 => ?_)
    · have h := (if_pos c5).symm.trans h
      refine mr_iconst (pc := 21) (v := 0) rfl (by decide) ?_
      refine ms_istore_n (pc := 22) (L' := [some (.ref 8), some (.int (0))]) rfl (by decide) rfl rfl ?_
      exact FL_X1_begin_23 mK _ _ _ _ h
    · have h := (if_neg c5).symm.trans h
      refine mr_aload_n (pc := 8) (x := 8) rfl rfl ?_
      refine mr_getfield (pc := 9) (v := .ref 9) rfl lfRX1_7 rfl rfl ?_
      refine mr_iload_n (pc := 12) (x := b1) rfl rfl ?_
      refine mr_iconst (pc := 13) (v := 0) rfl (by decide) ?_
      obtain ⟨g14, h⟩ := m_gd h
      refine ms_bastore (pc := 14) (f := Y.1) (h' := (xw Z (yw (upd (Y.1) ((b1) : Int32).toNatClampNeg (vp_nar .boolean (0)), Y.2.1, Y.2.2.1, Y.2.2.2.1, Y.2.2.2.2.1, Y.2.2.2.2.2.1, Y.2.2.2.2.2.2.1, Y.2.2.2.2.2.2.2.1, Y.2.2.2.2.2.2.2.2.1, Y.2.2.2.2.2.2.2.2.2.1, Y.2.2.2.2.2.2.2.2.2.2.1, Y.2.2.2.2.2.2.2.2.2.2.2.1, Y.2.2.2.2.2.2.2.2.2.2.2.2.1, Y.2.2.2.2.2.2.2.2.2.2.2.2.2.1, Y.2.2.2.2.2.2.2.2.2.2.2.2.2.2) T))) rfl rfl g14 rfl ?_
      refine ms_iinc (pc := 15) (x := b1) (v := 1) (L' := [some (.ref 8), some (.int (b1 + 1))]) rfl rfl (by decide) (by decide) rfl rfl ?_
      refine mr_goto (pc := 18) 2 rfl (by decide) ?_
      exact ih9 _ _ _ _ h
def g_X1_begin (Y : rS) : Option (mO × rS) := g_X1_begin_2 mK Y (0)
set_option maxRecDepth 100000 in
set_option maxHeartbeats 4000000 in
theorem F_X1_begin {S : Nat × (Nat → Int32)} {Z : cS} {T : mH} {Y R9 : rS} {o9 : mO} (h : g_X1_begin Y  = some (o9, R9)) : mF S MX1_begin 0 (mEnt [.ref 8] 2) [] (xw Z (yw Y T)) 0 0 (o9, (xw Z (yw R9 T)), 0, 0) := by
  unfold g_X1_begin at h
  refine mr_iconst (pc := 0) (v := 0) rfl (by decide) ?_
  refine ms_istore_n (pc := 1) (L' := [some (.ref 8), some (.int (0))]) rfl (by decide) rfl rfl ?_
  exact FL_X1_begin_2 mK _ _ _ _ h
def g_X1_in (a0 a1 a2 : Int32) : Option mO := if ((a0) : Int32) < ((a1) : Int32) then (some (.inl (some (.int (0))))) else (if ((a2) : Int32) < ((a0) : Int32) then (some (.inl (some (.int (0))))) else (some (.inl (some (.int (1))))))
set_option maxRecDepth 100000 in
set_option maxHeartbeats 4000000 in
theorem F_X1_in {S : Nat × (Nat → Int32)} {hw : mH} {o9 : mO} {a0 a1 a2 : Int32} (h : g_X1_in a0 a1 a2 = some o9) : mF S MX1_in 0 (mEnt [.int a0, .int a1, .int a2] 3) [] hw 0 0 (o9, hw, 0, 0) := by
  unfold g_X1_in at h
  refine mr_iload_n (pc := 0) (x := a0) rfl rfl ?_
  refine mr_iload_n (pc := 1) (x := a1) rfl rfl ?_
  refine mr_icmp_lt (pc := 2) 14 rfl (by decide) (fun c2 => ?_) (fun c2 => ?_)
  · have h := (if_pos c2).symm.trans h
    refine mr_iconst (pc := 14) (v := 0) rfl (by decide) ?_
    cases h; exact mr_zreturn (pc := 15) rfl rfl (Or.inl rfl) (Nat.le_of_ble_eq_true rfl) (Nat.le_of_ble_eq_true rfl)
  · have h := (if_neg c2).symm.trans h
    refine mr_iload_n (pc := 5) (x := a0) rfl rfl ?_
    refine mr_iload_n (pc := 6) (x := a2) rfl rfl ?_
    refine mr_icmp_gt (pc := 7) 14 rfl (by decide) (fun c7 => ?_) (fun c7 => ?_)
    · have h := (if_pos c7).symm.trans h
      refine mr_iconst (pc := 14) (v := 0) rfl (by decide) ?_
      cases h; exact mr_zreturn (pc := 15) rfl rfl (Or.inl rfl) (Nat.le_of_ble_eq_true rfl) (Nat.le_of_ble_eq_true rfl)
    · have h := (if_neg c7).symm.trans h
      refine mr_iconst (pc := 10) (v := 1) rfl (by decide) ?_
      refine mr_goto (pc := 11) 15 rfl (by decide) ?_
      cases h; exact mr_zreturn (pc := 15) rfl rfl (Or.inr rfl) (Nat.le_of_ble_eq_true rfl) (Nat.le_of_ble_eq_true rfl)
def g_X1_isPool (a0 : Int32) : Option mO := dI (g_X1_in (a0) (0) (7)) (fun v4 => if ((v4) : Int32) = 0 ∨ ((v4) : Int32) = 1 then (some (.inl (some (.int (v4))))) else none)
set_option maxRecDepth 100000 in
set_option maxHeartbeats 4000000 in
theorem F_X1_isPool {S : Nat × (Nat → Int32)} {hw : mH} {o9 : mO} {a0 : Int32} (h : g_X1_isPool a0 = some o9) : mF S MX1_isPool 0 (mEnt [.int a0] 1) [] hw 0 0 (o9, hw, 0, 0) := by
  unfold g_X1_isPool at h
  refine mr_iload_n (pc := 0) (x := a0) rfl rfl ?_
  refine mr_iconst (pc := 1) (v := 0) rfl (by decide) ?_
  refine mr_bipush (pc := 2) (v := 7) rfl (by decide) ?_
  rcases dI_inv h with ⟨v4, hc4, h⟩ | ⟨E4, hc4, hr⟩
  · refine mr_ret (mRunS (pc := 4) (As := [.int (a0), .int (0), .int (7)]) (rest := []) rfl lkRX1_54 rfl (Nat.le_of_ble_eq_true rfl) (Nat.le_of_ble_eq_true rfl) (F_X1_in hc4)) rfl (Nat.le_of_ble_eq_true rfl) (Nat.le_of_ble_eq_true rfl) ?_
    obtain ⟨g7, h⟩ := m_gd h
    cases h; exact mr_zreturn (pc := 7) rfl rfl g7 (Nat.le_of_ble_eq_true rfl) (Nat.le_of_ble_eq_true rfl)
  · cases hr; exact mr_thrown (mRunS (pc := 4) (As := [.int (a0), .int (0), .int (7)]) (rest := []) rfl lkRX1_54 rfl (Nat.le_of_ble_eq_true rfl) (Nat.le_of_ble_eq_true rfl) (F_X1_in hc4)) rfl rfl (Nat.le_of_ble_eq_true rfl) (Nat.le_of_ble_eq_true rfl)
def g_X1_isBoat (a0 : Int32) : Option mO := dI (g_X1_in (a0) (0) (9)) (fun v4 => if ((v4) : Int32) = 0 ∨ ((v4) : Int32) = 1 then (some (.inl (some (.int (v4))))) else none)
set_option maxRecDepth 100000 in
set_option maxHeartbeats 4000000 in
theorem F_X1_isBoat {S : Nat × (Nat → Int32)} {hw : mH} {o9 : mO} {a0 : Int32} (h : g_X1_isBoat a0 = some o9) : mF S MX1_isBoat 0 (mEnt [.int a0] 1) [] hw 0 0 (o9, hw, 0, 0) := by
  unfold g_X1_isBoat at h
  refine mr_iload_n (pc := 0) (x := a0) rfl rfl ?_
  refine mr_iconst (pc := 1) (v := 0) rfl (by decide) ?_
  refine mr_bipush (pc := 2) (v := 9) rfl (by decide) ?_
  rcases dI_inv h with ⟨v4, hc4, h⟩ | ⟨E4, hc4, hr⟩
  · refine mr_ret (mRunS (pc := 4) (As := [.int (a0), .int (0), .int (9)]) (rest := []) rfl lkRX1_54 rfl (Nat.le_of_ble_eq_true rfl) (Nat.le_of_ble_eq_true rfl) (F_X1_in hc4)) rfl (Nat.le_of_ble_eq_true rfl) (Nat.le_of_ble_eq_true rfl) ?_
    obtain ⟨g7, h⟩ := m_gd h
    cases h; exact mr_zreturn (pc := 7) rfl rfl g7 (Nat.le_of_ble_eq_true rfl) (Nat.le_of_ble_eq_true rfl)
  · cases hr; exact mr_thrown (mRunS (pc := 4) (As := [.int (a0), .int (0), .int (9)]) (rest := []) rfl lkRX1_54 rfl (Nat.le_of_ble_eq_true rfl) (Nat.le_of_ble_eq_true rfl) (F_X1_in hc4)) rfl rfl (Nat.le_of_ble_eq_true rfl) (Nat.le_of_ble_eq_true rfl)
def g_X1_heightOf (Y : rS) (a1 : Int32) : Option (mO × rS) := if vpb (a1) 8 then (if vpb (a1) 8 then (if ¬ (((Y.2.1) ((a1) : Int32).toNatClampNeg) : Int32) = 0 then (some (.inl (some (.int (((Y.2.2.1) ((a1) : Int32).toNatClampNeg) / ((Y.2.1) ((a1) : Int32).toNatClampNeg)))), Y)) else none) else none) else none
set_option maxRecDepth 100000 in
set_option maxHeartbeats 4000000 in
theorem F_X1_heightOf {S : Nat × (Nat → Int32)} {Z : cS} {T : mH} {Y R9 : rS} {o9 : mO} {a1 : Int32} (h : g_X1_heightOf Y a1 = some (o9, R9)) : mF S MX1_heightOf 0 (mEnt [.ref 8, .int a1] 2) [] (xw Z (yw Y T)) 0 0 (o9, (xw Z (yw R9 T)), 0, 0) := by
  unfold g_X1_heightOf at h
  refine mr_aload_n (pc := 0) (x := 8) rfl rfl ?_
  refine mr_getfield (pc := 1) (v := .ref 11) rfl lfRX1_17 rfl rfl ?_
  refine mr_iload_n (pc := 4) (x := a1) rfl rfl ?_
  obtain ⟨g5, h⟩ := m_gd h
  refine mr_iaload (pc := 5) (f := Y.2.2.1) rfl rfl (vpb_in g5) ?_
  refine mr_aload_n (pc := 6) (x := 8) rfl rfl ?_
  refine mr_getfield (pc := 7) (v := .ref 10) rfl lfRX1_13 rfl rfl ?_
  refine mr_iload_n (pc := 10) (x := a1) rfl rfl ?_
  obtain ⟨g11, h⟩ := m_gd h
  refine mr_iaload (pc := 11) (f := Y.2.1) rfl rfl (vpb_in g11) ?_
  obtain ⟨g12, h⟩ := m_gd h
  refine mr_idiv (pc := 12) rfl g12 ?_
  cases h; exact mr_ireturn (pc := 13) rfl rfl (Nat.le_of_ble_eq_true rfl) (Nat.le_of_ble_eq_true rfl)
def g_X1_lieIn_4 : Nat → rS → Int32 → Int32 → Int32 → Option (mO × rS)
  | 0, _, _, _, _ => none
  | f9 + 1, Y, b1, b2, b3 => if ((10) : Int32) ≤ ((b3) : Int32) then (some (.inl (some (.int (b2))), Y)) else (if vpb (b3) 10 then (if (((Y.2.2.2.2.1) ((b3) : Int32).toNatClampNeg) : Int32) = ((b1) : Int32) then (g_X1_lieIn_4 f9 Y (b1) ((b2) + (1)) (b3 + 1)) else (g_X1_lieIn_4 f9 Y (b1) ((b2) + (0)) (b3 + 1))) else none)
set_option maxRecDepth 100000 in
set_option maxHeartbeats 4000000 in
theorem FL_X1_lieIn_4 {S : Nat × (Nat → Int32)} {Z : cS} {T : mH} : ∀ (f9 : Nat) (Y : rS) (b1 b2 b3 : Int32) (o9 : mO) (R9 : rS), g_X1_lieIn_4 f9 Y b1 b2 b3 = some (o9, R9) → mF S MX1_lieIn 4 [some (.ref 8), some (.int (b1)), some (.int (b2)), some (.int (b3))] [] (xw Z (yw Y T)) 0 0 (o9, (xw Z (yw R9 T)), 0, 0) := by
  intro f9
  induction f9 with
  | zero => intro Y b1 b2 b3 o9 R9 h; cases h
  | succ f9 ih9 =>
    intro Y b1 b2 b3 o9 R9 h
    rw [g_X1_lieIn_4] at h
    refine mr_iload_n (pc := 4) (x := b3) rfl rfl ?_
    refine mr_bipush (pc := 5) (v := 10) rfl (by decide) ?_
    refine mr_icmp_ge (pc := 7) 34 rfl (by decide) (fun c7 => ?_) (fun c7 => ?_)
    · have h := (if_pos c7).symm.trans h
      refine mr_iload_n (pc := 34) (x := b2) rfl rfl ?_
      cases h; exact mr_ireturn (pc := 35) rfl rfl (Nat.le_of_ble_eq_true rfl) (Nat.le_of_ble_eq_true rfl)
    · have h := (if_neg c7).symm.trans h
      refine mr_iload_n (pc := 10) (x := b2) rfl rfl ?_
      refine mr_aload_n (pc := 11) (x := 8) rfl rfl ?_
      refine mr_getfield (pc := 12) (v := .ref 13) rfl lfRX1_23 rfl rfl ?_
      refine mr_iload_n (pc := 15) (x := b3) rfl rfl ?_
      obtain ⟨g16, h⟩ := m_gd h
      refine mr_iaload (pc := 16) (f := Y.2.2.2.2.1) rfl rfl (vpb_in g16) ?_
      refine mr_iload_n (pc := 17) (x := b1) rfl rfl ?_
      refine mr_icmp_ne (pc := 18) 25 rfl (by decide) (fun c18 => ?_) (fun c18 => ?_)
      · have h := (if_neg c18).symm.trans h
        refine mr_iconst (pc := 25) (v := 0) rfl (by decide) ?_
        refine mr_iadd (pc := 26) rfl ?_
        refine ms_istore_n (pc := 27) (L' := [some (.ref 8), some (.int (b1)), some (.int ((b2) + (0))), some (.int (b3))]) rfl (by decide) rfl rfl ?_
        refine ms_iinc (pc := 28) (x := b3) (v := 1) (L' := [some (.ref 8), some (.int (b1)), some (.int ((b2) + (0))), some (.int (b3 + 1))]) rfl rfl (by decide) (by decide) rfl rfl ?_
        refine mr_goto (pc := 31) 4 rfl (by decide) ?_
        exact ih9 _ _ _ _ _ _ h
      · have h := (if_pos c18).symm.trans h
        refine mr_iconst (pc := 21) (v := 1) rfl (by decide) ?_
        refine mr_goto (pc := 22) 26 rfl (by decide) ?_
        refine mr_iadd (pc := 26) rfl ?_
        refine ms_istore_n (pc := 27) (L' := [some (.ref 8), some (.int (b1)), some (.int ((b2) + (1))), some (.int (b3))]) rfl (by decide) rfl rfl ?_
        refine ms_iinc (pc := 28) (x := b3) (v := 1) (L' := [some (.ref 8), some (.int (b1)), some (.int ((b2) + (1))), some (.int (b3 + 1))]) rfl rfl (by decide) (by decide) rfl rfl ?_
        refine mr_goto (pc := 31) 4 rfl (by decide) ?_
        exact ih9 _ _ _ _ _ _ h
def g_X1_lieIn (Y : rS) (a1 : Int32) : Option (mO × rS) := g_X1_lieIn_4 mK Y (a1) (0) (0)
set_option maxRecDepth 100000 in
set_option maxHeartbeats 4000000 in
theorem F_X1_lieIn {S : Nat × (Nat → Int32)} {Z : cS} {T : mH} {Y R9 : rS} {o9 : mO} {a1 : Int32} (h : g_X1_lieIn Y a1 = some (o9, R9)) : mF S MX1_lieIn 0 (mEnt [.ref 8, .int a1] 4) [] (xw Z (yw Y T)) 0 0 (o9, (xw Z (yw R9 T)), 0, 0) := by
  unfold g_X1_lieIn at h
  refine mr_iconst (pc := 0) (v := 0) rfl (by decide) ?_
  refine ms_istore_n (pc := 1) (L' := [some (.ref 8), some (.int (a1)), some (.int (0)), none]) rfl (by decide) rfl rfl ?_
  refine mr_iconst (pc := 2) (v := 0) rfl (by decide) ?_
  refine ms_istore_n (pc := 3) (L' := [some (.ref 8), some (.int (a1)), some (.int (0)), some (.int (0))]) rfl (by decide) rfl rfl ?_
  exact FL_X1_lieIn_4 mK _ _ _ _ _ _ h
def g_X1_fail_5 : Nat → rS → Int32 → Option (mO × rS)
  | 0, _, _ => none
  | f9 + 1, Y, b1 => if ((Y.2.2.2.2.2.2.2.2.2.1) : Int32) ≤ 0 then (some (.inl (some (.int (0))), Y)) else (if vpb ((Y.2.2.2.2.2.2.2.2.2.1) - (1)) 32 then (if vpb ((Y.2.2.2.2.2.2.2.1) (((Y.2.2.2.2.2.2.2.2.2.1) - (1)) : Int32).toNatClampNeg) 8 then (if vpb ((Y.2.2.2.2.2.2.2.1) (((Y.2.2.2.2.2.2.2.2.2.1) - (1)) : Int32).toNatClampNeg) 8 then (g_X1_fail_5 f9 (Y.1, Y.2.1, Y.2.2.1, upd (Y.2.2.2.1) (((Y.2.2.2.2.2.2.2.1) (((Y.2.2.2.2.2.2.2.2.2.1) - (1)) : Int32).toNatClampNeg) : Int32).toNatClampNeg (((Y.2.2.2.1) (((Y.2.2.2.2.2.2.2.1) (((Y.2.2.2.2.2.2.2.2.2.1) - (1)) : Int32).toNatClampNeg) : Int32).toNatClampNeg) + (1)), Y.2.2.2.2.1, Y.2.2.2.2.2.1, Y.2.2.2.2.2.2.1, Y.2.2.2.2.2.2.2.1, Y.2.2.2.2.2.2.2.2.1, (Y.2.2.2.2.2.2.2.2.2.1) - (1), Y.2.2.2.2.2.2.2.2.2.2.1, Y.2.2.2.2.2.2.2.2.2.2.2.1, Y.2.2.2.2.2.2.2.2.2.2.2.2.1, Y.2.2.2.2.2.2.2.2.2.2.2.2.2.1, Y.2.2.2.2.2.2.2.2.2.2.2.2.2.2) (b1)) else none) else none) else none)
set_option maxRecDepth 100000 in
set_option maxHeartbeats 4000000 in
theorem FL_X1_fail_5 {S : Nat × (Nat → Int32)} {Z : cS} {T : mH} : ∀ (f9 : Nat) (Y : rS) (b1 : Int32) (o9 : mO) (R9 : rS), g_X1_fail_5 f9 Y b1 = some (o9, R9) → mF S MX1_fail 5 [some (.ref 8), some (.int (b1))] [] (xw Z (yw Y T)) 0 0 (o9, (xw Z (yw R9 T)), 0, 0) := by
  intro f9
  induction f9 with
  | zero => intro Y b1 o9 R9 h; cases h
  | succ f9 ih9 =>
    intro Y b1 o9 R9 h
    rw [g_X1_fail_5] at h
    refine mr_aload_n (pc := 5) (x := 8) rfl rfl ?_
    refine mr_getfield (pc := 6) (v := .int (Y.2.2.2.2.2.2.2.2.2.1)) rfl lfRX1_42 rfl rfl ?_
    refine mr_if_le (pc := 9) 43 rfl (by decide) (fun c9 => ?_) (fun c9 => ?_)
    · have h := (if_pos c9).symm.trans h
      refine mr_iconst (pc := 43) (v := 0) rfl (by decide) ?_
      cases h; exact mr_zreturn (pc := 44) rfl rfl (Or.inl rfl) (Nat.le_of_ble_eq_true rfl) (Nat.le_of_ble_eq_true rfl)
    · have h := (if_neg c9).symm.trans h
      refine mr_aload_n (pc := 12) (x := 8) rfl rfl ?_
      refine mr_dup (pc := 13) rfl rfl ?_
      refine mr_getfield (pc := 14) (v := .int (Y.2.2.2.2.2.2.2.2.2.1)) rfl lfRX1_42 rfl rfl ?_
      refine mr_iconst (pc := 17) (v := 1) rfl (by decide) ?_
      refine mr_isub (pc := 18) rfl ?_
      refine ms_putfield (pc := 19) (h' := (xw Z (yw (Y.1, Y.2.1, Y.2.2.1, Y.2.2.2.1, Y.2.2.2.2.1, Y.2.2.2.2.2.1, Y.2.2.2.2.2.2.1, Y.2.2.2.2.2.2.2.1, Y.2.2.2.2.2.2.2.2.1, (Y.2.2.2.2.2.2.2.2.2.1) - (1), Y.2.2.2.2.2.2.2.2.2.2.1, Y.2.2.2.2.2.2.2.2.2.2.2.1, Y.2.2.2.2.2.2.2.2.2.2.2.2.1, Y.2.2.2.2.2.2.2.2.2.2.2.2.2.1, Y.2.2.2.2.2.2.2.2.2.2.2.2.2.2) T))) rfl lfRX1_42 rfl (Nat.le_of_ble_eq_true rfl) (by intro q hq; cases hq; rfl) rfl ?_
      refine mr_aload_n (pc := 22) (x := 8) rfl rfl ?_
      refine mr_getfield (pc := 23) (v := .ref 12) rfl lfRX1_20 rfl rfl ?_
      refine mr_aload_n (pc := 26) (x := 8) rfl rfl ?_
      refine mr_getfield (pc := 27) (v := .ref 16) rfl lfRX1_32 rfl rfl ?_
      refine mr_aload_n (pc := 30) (x := 8) rfl rfl ?_
      refine mr_getfield (pc := 31) (v := .int ((Y.2.2.2.2.2.2.2.2.2.1) - (1))) rfl lfRX1_42 rfl rfl ?_
      obtain ⟨g34, h⟩ := m_gd h
      refine mr_iaload (pc := 34) (f := Y.2.2.2.2.2.2.2.1) rfl rfl (vpb_in g34) ?_
      refine mr_dup2 (pc := 35) rfl rfl rfl ?_
      obtain ⟨g36, h⟩ := m_gd h
      refine mr_iaload (pc := 36) (f := Y.2.2.2.1) rfl rfl (vpb_in g36) ?_
      refine mr_iconst (pc := 37) (v := 1) rfl (by decide) ?_
      refine mr_iadd (pc := 38) rfl ?_
      obtain ⟨g39, h⟩ := m_gd h
      refine ms_iastore (pc := 39) (f := Y.2.2.2.1) (h' := (xw Z (yw (Y.1, Y.2.1, Y.2.2.1, upd (Y.2.2.2.1) (((Y.2.2.2.2.2.2.2.1) (((Y.2.2.2.2.2.2.2.2.2.1) - (1)) : Int32).toNatClampNeg) : Int32).toNatClampNeg (((Y.2.2.2.1) (((Y.2.2.2.2.2.2.2.1) (((Y.2.2.2.2.2.2.2.2.2.1) - (1)) : Int32).toNatClampNeg) : Int32).toNatClampNeg) + (1)), Y.2.2.2.2.1, Y.2.2.2.2.2.1, Y.2.2.2.2.2.2.1, Y.2.2.2.2.2.2.2.1, Y.2.2.2.2.2.2.2.2.1, (Y.2.2.2.2.2.2.2.2.2.1) - (1), Y.2.2.2.2.2.2.2.2.2.2.1, Y.2.2.2.2.2.2.2.2.2.2.2.1, Y.2.2.2.2.2.2.2.2.2.2.2.2.1, Y.2.2.2.2.2.2.2.2.2.2.2.2.2.1, Y.2.2.2.2.2.2.2.2.2.2.2.2.2.2) T))) rfl rfl g39 rfl ?_
      refine mr_goto (pc := 40) 5 rfl (by decide) ?_
      exact ih9 _ _ _ _ h
def g_X1_fail (Y : rS) (a1 : Int32) : Option (mO × rS) := g_X1_fail_5 mK (Y.1, Y.2.1, Y.2.2.1, Y.2.2.2.1, Y.2.2.2.2.1, Y.2.2.2.2.2.1, Y.2.2.2.2.2.2.1, Y.2.2.2.2.2.2.2.1, Y.2.2.2.2.2.2.2.2.1, Y.2.2.2.2.2.2.2.2.2.1, Y.2.2.2.2.2.2.2.2.2.2.1, Y.2.2.2.2.2.2.2.2.2.2.2.1, a1, Y.2.2.2.2.2.2.2.2.2.2.2.2.2.1, Y.2.2.2.2.2.2.2.2.2.2.2.2.2.2) (a1)
set_option maxRecDepth 100000 in
set_option maxHeartbeats 4000000 in
theorem F_X1_fail {S : Nat × (Nat → Int32)} {Z : cS} {T : mH} {Y R9 : rS} {o9 : mO} {a1 : Int32} (h : g_X1_fail Y a1 = some (o9, R9)) : mF S MX1_fail 0 (mEnt [.ref 8, .int a1] 2) [] (xw Z (yw Y T)) 0 0 (o9, (xw Z (yw R9 T)), 0, 0) := by
  unfold g_X1_fail at h
  refine mr_aload_n (pc := 0) (x := 8) rfl rfl ?_
  refine mr_iload_n (pc := 1) (x := a1) rfl rfl ?_
  refine ms_putfield (pc := 2) (h' := (xw Z (yw (Y.1, Y.2.1, Y.2.2.1, Y.2.2.2.1, Y.2.2.2.2.1, Y.2.2.2.2.2.1, Y.2.2.2.2.2.2.1, Y.2.2.2.2.2.2.2.1, Y.2.2.2.2.2.2.2.2.1, Y.2.2.2.2.2.2.2.2.2.1, Y.2.2.2.2.2.2.2.2.2.2.1, Y.2.2.2.2.2.2.2.2.2.2.2.1, a1, Y.2.2.2.2.2.2.2.2.2.2.2.2.2.1, Y.2.2.2.2.2.2.2.2.2.2.2.2.2.2) T))) rfl lfRX1_51 rfl (Nat.le_of_ble_eq_true rfl) (by intro q hq; cases hq; rfl) rfl ?_
  exact FL_X1_fail_5 mK _ _ _ _ h
def g_X1_hold (Y : rS) (a1 : Int32) : Option (mO × rS) := if vpb (a1) 8 then (if (((Y.1) ((a1) : Int32).toNatClampNeg) : Int32) = 0 then (bI (g_X1_fail Y (1)) (fun v11 Y11 => if ((v11) : Int32) = 0 ∨ ((v11) : Int32) = 1 then (some (.inl (some (.int (v11))), Y11)) else none)) else (if vpb (Y.2.2.2.2.2.2.2.2.2.1) 32 then (if (((Y.2.2.2.2.2.2.2.2.2.1) + (1)) : Int32) ≤ ((Y.2.2.2.2.2.2.2.2.2.2.2.1) : Int32) then (some (.inl (some (.int (1))), (Y.1, Y.2.1, Y.2.2.1, Y.2.2.2.1, Y.2.2.2.2.1, Y.2.2.2.2.2.1, Y.2.2.2.2.2.2.1, upd (Y.2.2.2.2.2.2.2.1) ((Y.2.2.2.2.2.2.2.2.2.1) : Int32).toNatClampNeg (a1), Y.2.2.2.2.2.2.2.2.1, (Y.2.2.2.2.2.2.2.2.2.1) + (1), (Y.2.2.2.2.2.2.2.2.2.2.1) + (1), Y.2.2.2.2.2.2.2.2.2.2.2.1, Y.2.2.2.2.2.2.2.2.2.2.2.2.1, Y.2.2.2.2.2.2.2.2.2.2.2.2.2.1, Y.2.2.2.2.2.2.2.2.2.2.2.2.2.2))) else (some (.inl (some (.int (1))), (Y.1, Y.2.1, Y.2.2.1, Y.2.2.2.1, Y.2.2.2.2.1, Y.2.2.2.2.2.1, Y.2.2.2.2.2.2.1, upd (Y.2.2.2.2.2.2.2.1) ((Y.2.2.2.2.2.2.2.2.2.1) : Int32).toNatClampNeg (a1), Y.2.2.2.2.2.2.2.2.1, (Y.2.2.2.2.2.2.2.2.2.1) + (1), (Y.2.2.2.2.2.2.2.2.2.2.1) + (1), (Y.2.2.2.2.2.2.2.2.2.1) + (1), Y.2.2.2.2.2.2.2.2.2.2.2.2.1, Y.2.2.2.2.2.2.2.2.2.2.2.2.2.1, Y.2.2.2.2.2.2.2.2.2.2.2.2.2.2)))) else none)) else none
set_option maxRecDepth 100000 in
set_option maxHeartbeats 4000000 in
theorem F_X1_hold {S : Nat × (Nat → Int32)} {Z : cS} {T : mH} {Y R9 : rS} {o9 : mO} {a1 : Int32} (h : g_X1_hold Y a1 = some (o9, R9)) : mF S MX1_hold 0 (mEnt [.ref 8, .int a1] 2) [] (xw Z (yw Y T)) 0 0 (o9, (xw Z (yw R9 T)), 0, 0) := by
  unfold g_X1_hold at h
  refine mr_aload_n (pc := 0) (x := 8) rfl rfl ?_
  refine mr_getfield (pc := 1) (v := .ref 9) rfl lfRX1_7 rfl rfl ?_
  refine mr_iload_n (pc := 4) (x := a1) rfl rfl ?_
  obtain ⟨g5, h⟩ := m_gd h
  refine mr_baload (pc := 5) (f := Y.1) rfl rfl (vpb_in g5) ?_
  refine mr_if_ne (pc := 6) 15 rfl (by decide) (fun c6 => ?_) (fun c6 => ?_)
  · have h := (if_neg c6).symm.trans h
    refine mr_aload_n (pc := 15) (x := 8) rfl rfl ?_
    refine mr_getfield (pc := 16) (v := .ref 16) rfl lfRX1_32 rfl rfl ?_
    refine mr_aload_n (pc := 19) (x := 8) rfl rfl ?_
    refine mr_getfield (pc := 20) (v := .int (Y.2.2.2.2.2.2.2.2.2.1)) rfl lfRX1_42 rfl rfl ?_
    refine mr_iload_n (pc := 23) (x := a1) rfl rfl ?_
    obtain ⟨g24, h⟩ := m_gd h
    refine ms_iastore (pc := 24) (f := Y.2.2.2.2.2.2.2.1) (h' := (xw Z (yw (Y.1, Y.2.1, Y.2.2.1, Y.2.2.2.1, Y.2.2.2.2.1, Y.2.2.2.2.2.1, Y.2.2.2.2.2.2.1, upd (Y.2.2.2.2.2.2.2.1) ((Y.2.2.2.2.2.2.2.2.2.1) : Int32).toNatClampNeg (a1), Y.2.2.2.2.2.2.2.2.1, Y.2.2.2.2.2.2.2.2.2.1, Y.2.2.2.2.2.2.2.2.2.2.1, Y.2.2.2.2.2.2.2.2.2.2.2.1, Y.2.2.2.2.2.2.2.2.2.2.2.2.1, Y.2.2.2.2.2.2.2.2.2.2.2.2.2.1, Y.2.2.2.2.2.2.2.2.2.2.2.2.2.2) T))) rfl rfl g24 rfl ?_
    refine mr_aload_n (pc := 25) (x := 8) rfl rfl ?_
    refine mr_dup (pc := 26) rfl rfl ?_
    refine mr_getfield (pc := 27) (v := .int (Y.2.2.2.2.2.2.2.2.2.1)) rfl lfRX1_42 rfl rfl ?_
    refine mr_iconst (pc := 30) (v := 1) rfl (by decide) ?_
    refine mr_iadd (pc := 31) rfl ?_
    refine ms_putfield (pc := 32) (h' := (xw Z (yw (Y.1, Y.2.1, Y.2.2.1, Y.2.2.2.1, Y.2.2.2.2.1, Y.2.2.2.2.2.1, Y.2.2.2.2.2.2.1, upd (Y.2.2.2.2.2.2.2.1) ((Y.2.2.2.2.2.2.2.2.2.1) : Int32).toNatClampNeg (a1), Y.2.2.2.2.2.2.2.2.1, (Y.2.2.2.2.2.2.2.2.2.1) + (1), Y.2.2.2.2.2.2.2.2.2.2.1, Y.2.2.2.2.2.2.2.2.2.2.2.1, Y.2.2.2.2.2.2.2.2.2.2.2.2.1, Y.2.2.2.2.2.2.2.2.2.2.2.2.2.1, Y.2.2.2.2.2.2.2.2.2.2.2.2.2.2) T))) rfl lfRX1_42 rfl (Nat.le_of_ble_eq_true rfl) (by intro q hq; cases hq; rfl) rfl ?_
    refine mr_aload_n (pc := 35) (x := 8) rfl rfl ?_
    refine mr_dup (pc := 36) rfl rfl ?_
    refine mr_getfield (pc := 37) (v := .int (Y.2.2.2.2.2.2.2.2.2.2.1)) rfl lfRX1_45 rfl rfl ?_
    refine mr_iconst (pc := 40) (v := 1) rfl (by decide) ?_
    refine mr_iadd (pc := 41) rfl ?_
    refine ms_putfield (pc := 42) (h' := (xw Z (yw (Y.1, Y.2.1, Y.2.2.1, Y.2.2.2.1, Y.2.2.2.2.1, Y.2.2.2.2.2.1, Y.2.2.2.2.2.2.1, upd (Y.2.2.2.2.2.2.2.1) ((Y.2.2.2.2.2.2.2.2.2.1) : Int32).toNatClampNeg (a1), Y.2.2.2.2.2.2.2.2.1, (Y.2.2.2.2.2.2.2.2.2.1) + (1), (Y.2.2.2.2.2.2.2.2.2.2.1) + (1), Y.2.2.2.2.2.2.2.2.2.2.2.1, Y.2.2.2.2.2.2.2.2.2.2.2.2.1, Y.2.2.2.2.2.2.2.2.2.2.2.2.2.1, Y.2.2.2.2.2.2.2.2.2.2.2.2.2.2) T))) rfl lfRX1_45 rfl (Nat.le_of_ble_eq_true rfl) (by intro q hq; cases hq; rfl) rfl ?_
    refine mr_aload_n (pc := 45) (x := 8) rfl rfl ?_
    refine mr_aload_n (pc := 46) (x := 8) rfl rfl ?_
    refine mr_getfield (pc := 47) (v := .int ((Y.2.2.2.2.2.2.2.2.2.1) + (1))) rfl lfRX1_42 rfl rfl ?_
    refine mr_aload_n (pc := 50) (x := 8) rfl rfl ?_
    refine mr_getfield (pc := 51) (v := .int (Y.2.2.2.2.2.2.2.2.2.2.2.1)) rfl lfRX1_48 rfl rfl ?_
    refine mr_icmp_le (pc := 54) 64 rfl (by decide) (fun c54 => ?_) (fun c54 => ?_)
    · have h := (if_pos c54).symm.trans h
      refine mr_aload_n (pc := 64) (x := 8) rfl rfl ?_
      refine mr_getfield (pc := 65) (v := .int (Y.2.2.2.2.2.2.2.2.2.2.2.1)) rfl lfRX1_48 rfl rfl ?_
      refine ms_putfield (pc := 68) (h' := (xw Z (yw (Y.1, Y.2.1, Y.2.2.1, Y.2.2.2.1, Y.2.2.2.2.1, Y.2.2.2.2.2.1, Y.2.2.2.2.2.2.1, upd (Y.2.2.2.2.2.2.2.1) ((Y.2.2.2.2.2.2.2.2.2.1) : Int32).toNatClampNeg (a1), Y.2.2.2.2.2.2.2.2.1, (Y.2.2.2.2.2.2.2.2.2.1) + (1), (Y.2.2.2.2.2.2.2.2.2.2.1) + (1), Y.2.2.2.2.2.2.2.2.2.2.2.1, Y.2.2.2.2.2.2.2.2.2.2.2.2.1, Y.2.2.2.2.2.2.2.2.2.2.2.2.2.1, Y.2.2.2.2.2.2.2.2.2.2.2.2.2.2) T))) rfl lfRX1_48 rfl (Nat.le_of_ble_eq_true rfl) (by intro q hq; cases hq; rfl) rfl ?_
      refine mr_iconst (pc := 71) (v := 1) rfl (by decide) ?_
      cases h; exact mr_zreturn (pc := 72) rfl rfl (Or.inr rfl) (Nat.le_of_ble_eq_true rfl) (Nat.le_of_ble_eq_true rfl)
    · have h := (if_neg c54).symm.trans h
      refine mr_aload_n (pc := 57) (x := 8) rfl rfl ?_
      refine mr_getfield (pc := 58) (v := .int ((Y.2.2.2.2.2.2.2.2.2.1) + (1))) rfl lfRX1_42 rfl rfl ?_
      refine mr_goto (pc := 61) 68 rfl (by decide) ?_
      refine ms_putfield (pc := 68) (h' := (xw Z (yw (Y.1, Y.2.1, Y.2.2.1, Y.2.2.2.1, Y.2.2.2.2.1, Y.2.2.2.2.2.1, Y.2.2.2.2.2.2.1, upd (Y.2.2.2.2.2.2.2.1) ((Y.2.2.2.2.2.2.2.2.2.1) : Int32).toNatClampNeg (a1), Y.2.2.2.2.2.2.2.2.1, (Y.2.2.2.2.2.2.2.2.2.1) + (1), (Y.2.2.2.2.2.2.2.2.2.2.1) + (1), (Y.2.2.2.2.2.2.2.2.2.1) + (1), Y.2.2.2.2.2.2.2.2.2.2.2.2.1, Y.2.2.2.2.2.2.2.2.2.2.2.2.2.1, Y.2.2.2.2.2.2.2.2.2.2.2.2.2.2) T))) rfl lfRX1_48 rfl (Nat.le_of_ble_eq_true rfl) (by intro q hq; cases hq; rfl) rfl ?_
      refine mr_iconst (pc := 71) (v := 1) rfl (by decide) ?_
      cases h; exact mr_zreturn (pc := 72) rfl rfl (Or.inr rfl) (Nat.le_of_ble_eq_true rfl) (Nat.le_of_ble_eq_true rfl)
  · have h := (if_pos c6).symm.trans h
    refine mr_aload_n (pc := 9) (x := 8) rfl rfl ?_
    refine mr_iconst (pc := 10) (v := 1) rfl (by decide) ?_
    rcases bI_inv h with ⟨v11, Y11, hc11, h⟩ | ⟨E11, Y11, hc11, hr⟩
    · refine mr_ret (mRunV (pc := 11) (q := 8) (As := [.int (1)]) (rest := []) rfl lkRX1_58 rfl rfl rfl (Nat.le_of_ble_eq_true rfl) (Nat.le_of_ble_eq_true rfl) (F_X1_fail hc11)) rfl (Nat.le_of_ble_eq_true rfl) (Nat.le_of_ble_eq_true rfl) ?_
      obtain ⟨g14, h⟩ := m_gd h
      cases h; exact mr_zreturn (pc := 14) rfl rfl g14 (Nat.le_of_ble_eq_true rfl) (Nat.le_of_ble_eq_true rfl)
    · cases hr; exact mr_thrown (mRunV (pc := 11) (q := 8) (As := [.int (1)]) (rest := []) rfl lkRX1_58 rfl rfl rfl (Nat.le_of_ble_eq_true rfl) (Nat.le_of_ble_eq_true rfl) (F_X1_fail hc11)) rfl rfl (Nat.le_of_ble_eq_true rfl) (Nat.le_of_ble_eq_true rfl)
def g_X1_leave (Y : rS) (a1 : Int32) : Option (mO × rS) := some (.inl none, (Y.1, Y.2.1, Y.2.2.1, Y.2.2.2.1, Y.2.2.2.2.1, Y.2.2.2.2.2.1, Y.2.2.2.2.2.2.1, Y.2.2.2.2.2.2.2.1, Y.2.2.2.2.2.2.2.2.1, (Y.2.2.2.2.2.2.2.2.2.1) - (a1), Y.2.2.2.2.2.2.2.2.2.2.1, Y.2.2.2.2.2.2.2.2.2.2.2.1, Y.2.2.2.2.2.2.2.2.2.2.2.2.1, Y.2.2.2.2.2.2.2.2.2.2.2.2.2.1, Y.2.2.2.2.2.2.2.2.2.2.2.2.2.2))
set_option maxRecDepth 100000 in
set_option maxHeartbeats 4000000 in
theorem F_X1_leave {S : Nat × (Nat → Int32)} {Z : cS} {T : mH} {Y R9 : rS} {o9 : mO} {a1 : Int32} (h : g_X1_leave Y a1 = some (o9, R9)) : mF S MX1_leave 0 (mEnt [.ref 8, .int a1] 2) [] (xw Z (yw Y T)) 0 0 (o9, (xw Z (yw R9 T)), 0, 0) := by
  unfold g_X1_leave at h
  refine mr_aload_n (pc := 0) (x := 8) rfl rfl ?_
  refine mr_dup (pc := 1) rfl rfl ?_
  refine mr_getfield (pc := 2) (v := .int (Y.2.2.2.2.2.2.2.2.2.1)) rfl lfRX1_42 rfl rfl ?_
  refine mr_iload_n (pc := 5) (x := a1) rfl rfl ?_
  refine mr_isub (pc := 6) rfl ?_
  refine ms_putfield (pc := 7) (h' := (xw Z (yw (Y.1, Y.2.1, Y.2.2.1, Y.2.2.2.1, Y.2.2.2.2.1, Y.2.2.2.2.2.1, Y.2.2.2.2.2.2.1, Y.2.2.2.2.2.2.2.1, Y.2.2.2.2.2.2.2.2.1, (Y.2.2.2.2.2.2.2.2.2.1) - (a1), Y.2.2.2.2.2.2.2.2.2.2.1, Y.2.2.2.2.2.2.2.2.2.2.2.1, Y.2.2.2.2.2.2.2.2.2.2.2.2.1, Y.2.2.2.2.2.2.2.2.2.2.2.2.2.1, Y.2.2.2.2.2.2.2.2.2.2.2.2.2.2) T))) rfl lfRX1_42 rfl (Nat.le_of_ble_eq_true rfl) (by intro q hq; cases hq; rfl) rfl ?_
  cases h; exact mr_return (pc := 10) rfl rfl (Nat.le_of_ble_eq_true rfl) (Nat.le_of_ble_eq_true rfl)
def g_X1_told (Y : rS) (a1 a2 a3 a4 : Int32) : Option (mO × rS) := if ((Y.2.2.2.2.2.2.2.2.2.2.2.2.1) : Int32) = ((1) : Int32) then (some (.inl (some (.int (0))), (Y.1, Y.2.1, Y.2.2.1, Y.2.2.2.1, Y.2.2.2.2.1, Y.2.2.2.2.2.1, Y.2.2.2.2.2.2.1, Y.2.2.2.2.2.2.2.1, a1, Y.2.2.2.2.2.2.2.2.2.1, Y.2.2.2.2.2.2.2.2.2.2.1, Y.2.2.2.2.2.2.2.2.2.2.2.1, Y.2.2.2.2.2.2.2.2.2.2.2.2.1, Y.2.2.2.2.2.2.2.2.2.2.2.2.2.1, Y.2.2.2.2.2.2.2.2.2.2.2.2.2.2))) else (if ((Y.2.2.2.2.2.2.2.2.2.2.2.2.1) : Int32) = ((2) : Int32) then (some (.inl (some (.int (0))), (Y.1, Y.2.1, Y.2.2.1, Y.2.2.2.1, Y.2.2.2.2.1, Y.2.2.2.2.2.1, Y.2.2.2.2.2.2.1, Y.2.2.2.2.2.2.2.1, a2, Y.2.2.2.2.2.2.2.2.2.1, Y.2.2.2.2.2.2.2.2.2.2.1, Y.2.2.2.2.2.2.2.2.2.2.2.1, Y.2.2.2.2.2.2.2.2.2.2.2.2.1, Y.2.2.2.2.2.2.2.2.2.2.2.2.2.1, Y.2.2.2.2.2.2.2.2.2.2.2.2.2.2))) else (if ((Y.2.2.2.2.2.2.2.2.2.2.2.2.1) : Int32) = ((3) : Int32) then (some (.inl (some (.int (0))), (Y.1, Y.2.1, Y.2.2.1, Y.2.2.2.1, Y.2.2.2.2.1, Y.2.2.2.2.2.1, Y.2.2.2.2.2.2.1, Y.2.2.2.2.2.2.2.1, a3, Y.2.2.2.2.2.2.2.2.2.1, Y.2.2.2.2.2.2.2.2.2.2.1, Y.2.2.2.2.2.2.2.2.2.2.2.1, Y.2.2.2.2.2.2.2.2.2.2.2.2.1, Y.2.2.2.2.2.2.2.2.2.2.2.2.2.1, Y.2.2.2.2.2.2.2.2.2.2.2.2.2.2))) else (some (.inl (some (.int (0))), (Y.1, Y.2.1, Y.2.2.1, Y.2.2.2.1, Y.2.2.2.2.1, Y.2.2.2.2.2.1, Y.2.2.2.2.2.2.1, Y.2.2.2.2.2.2.2.1, a4, Y.2.2.2.2.2.2.2.2.2.1, Y.2.2.2.2.2.2.2.2.2.2.1, Y.2.2.2.2.2.2.2.2.2.2.2.1, Y.2.2.2.2.2.2.2.2.2.2.2.2.1, Y.2.2.2.2.2.2.2.2.2.2.2.2.2.1, Y.2.2.2.2.2.2.2.2.2.2.2.2.2.2)))))
set_option maxRecDepth 100000 in
set_option maxHeartbeats 4000000 in
theorem F_X1_told {S : Nat × (Nat → Int32)} {Z : cS} {T : mH} {Y R9 : rS} {o9 : mO} {a1 a2 a3 a4 : Int32} (h : g_X1_told Y a1 a2 a3 a4 = some (o9, R9)) : mF S MX1_told 0 (mEnt [.ref 8, .int a1, .int a2, .int a3, .int a4] 5) [] (xw Z (yw Y T)) 0 0 (o9, (xw Z (yw R9 T)), 0, 0) := by
  unfold g_X1_told at h
  refine mr_aload_n (pc := 0) (x := 8) rfl rfl ?_
  refine mr_aload_n (pc := 1) (x := 8) rfl rfl ?_
  refine mr_getfield (pc := 2) (v := .int (Y.2.2.2.2.2.2.2.2.2.2.2.2.1)) rfl lfRX1_51 rfl rfl ?_
  refine mr_iconst (pc := 5) (v := 1) rfl (by decide) ?_
  refine mr_icmp_ne (pc := 6) 13 rfl (by decide) (fun c6 => ?_) (fun c6 => ?_)
  · have h := (if_neg c6).symm.trans h
    refine mr_aload_n (pc := 13) (x := 8) rfl rfl ?_
    refine mr_getfield (pc := 14) (v := .int (Y.2.2.2.2.2.2.2.2.2.2.2.2.1)) rfl lfRX1_51 rfl rfl ?_
    refine mr_iconst (pc := 17) (v := 2) rfl (by decide) ?_
    refine mr_icmp_ne (pc := 18) 25 rfl (by decide) (fun c18 => ?_) (fun c18 => ?_)
    · have h := (if_neg c18).symm.trans h
      refine mr_aload_n (pc := 25) (x := 8) rfl rfl ?_
      refine mr_getfield (pc := 26) (v := .int (Y.2.2.2.2.2.2.2.2.2.2.2.2.1)) rfl lfRX1_51 rfl rfl ?_
      refine mr_iconst (pc := 29) (v := 3) rfl (by decide) ?_
      refine mr_icmp_ne (pc := 30) 37 rfl (by decide) (fun c30 => ?_) (fun c30 => ?_)
      · have h := (if_neg c30).symm.trans h
        refine mr_iload (pc := 37) (x := a4) rfl rfl ?_
        refine ms_putfield (pc := 39) (h' := (xw Z (yw (Y.1, Y.2.1, Y.2.2.1, Y.2.2.2.1, Y.2.2.2.2.1, Y.2.2.2.2.2.1, Y.2.2.2.2.2.2.1, Y.2.2.2.2.2.2.2.1, a4, Y.2.2.2.2.2.2.2.2.2.1, Y.2.2.2.2.2.2.2.2.2.2.1, Y.2.2.2.2.2.2.2.2.2.2.2.1, Y.2.2.2.2.2.2.2.2.2.2.2.2.1, Y.2.2.2.2.2.2.2.2.2.2.2.2.2.1, Y.2.2.2.2.2.2.2.2.2.2.2.2.2.2) T))) rfl lfRX1_38 rfl (Nat.le_of_ble_eq_true rfl) (by intro q hq; cases hq; rfl) rfl ?_
        refine mr_iconst (pc := 42) (v := 0) rfl (by decide) ?_
        cases h; exact mr_ireturn (pc := 43) rfl rfl (Nat.le_of_ble_eq_true rfl) (Nat.le_of_ble_eq_true rfl)
      · have h := (if_pos c30).symm.trans h
        refine mr_iload_n (pc := 33) (x := a3) rfl rfl ?_
        refine mr_goto (pc := 34) 39 rfl (by decide) ?_
        refine ms_putfield (pc := 39) (h' := (xw Z (yw (Y.1, Y.2.1, Y.2.2.1, Y.2.2.2.1, Y.2.2.2.2.1, Y.2.2.2.2.2.1, Y.2.2.2.2.2.2.1, Y.2.2.2.2.2.2.2.1, a3, Y.2.2.2.2.2.2.2.2.2.1, Y.2.2.2.2.2.2.2.2.2.2.1, Y.2.2.2.2.2.2.2.2.2.2.2.1, Y.2.2.2.2.2.2.2.2.2.2.2.2.1, Y.2.2.2.2.2.2.2.2.2.2.2.2.2.1, Y.2.2.2.2.2.2.2.2.2.2.2.2.2.2) T))) rfl lfRX1_38 rfl (Nat.le_of_ble_eq_true rfl) (by intro q hq; cases hq; rfl) rfl ?_
        refine mr_iconst (pc := 42) (v := 0) rfl (by decide) ?_
        cases h; exact mr_ireturn (pc := 43) rfl rfl (Nat.le_of_ble_eq_true rfl) (Nat.le_of_ble_eq_true rfl)
    · have h := (if_pos c18).symm.trans h
      refine mr_iload_n (pc := 21) (x := a2) rfl rfl ?_
      refine mr_goto (pc := 22) 39 rfl (by decide) ?_
      refine ms_putfield (pc := 39) (h' := (xw Z (yw (Y.1, Y.2.1, Y.2.2.1, Y.2.2.2.1, Y.2.2.2.2.1, Y.2.2.2.2.2.1, Y.2.2.2.2.2.2.1, Y.2.2.2.2.2.2.2.1, a2, Y.2.2.2.2.2.2.2.2.2.1, Y.2.2.2.2.2.2.2.2.2.2.1, Y.2.2.2.2.2.2.2.2.2.2.2.1, Y.2.2.2.2.2.2.2.2.2.2.2.2.1, Y.2.2.2.2.2.2.2.2.2.2.2.2.2.1, Y.2.2.2.2.2.2.2.2.2.2.2.2.2.2) T))) rfl lfRX1_38 rfl (Nat.le_of_ble_eq_true rfl) (by intro q hq; cases hq; rfl) rfl ?_
      refine mr_iconst (pc := 42) (v := 0) rfl (by decide) ?_
      cases h; exact mr_ireturn (pc := 43) rfl rfl (Nat.le_of_ble_eq_true rfl) (Nat.le_of_ble_eq_true rfl)
  · have h := (if_pos c6).symm.trans h
    refine mr_iload_n (pc := 9) (x := a1) rfl rfl ?_
    refine mr_goto (pc := 10) 39 rfl (by decide) ?_
    refine ms_putfield (pc := 39) (h' := (xw Z (yw (Y.1, Y.2.1, Y.2.2.1, Y.2.2.2.1, Y.2.2.2.2.1, Y.2.2.2.2.2.1, Y.2.2.2.2.2.2.1, Y.2.2.2.2.2.2.2.1, a1, Y.2.2.2.2.2.2.2.2.2.1, Y.2.2.2.2.2.2.2.2.2.2.1, Y.2.2.2.2.2.2.2.2.2.2.2.1, Y.2.2.2.2.2.2.2.2.2.2.2.2.1, Y.2.2.2.2.2.2.2.2.2.2.2.2.2.1, Y.2.2.2.2.2.2.2.2.2.2.2.2.2.2) T))) rfl lfRX1_38 rfl (Nat.le_of_ble_eq_true rfl) (by intro q hq; cases hq; rfl) rfl ?_
    refine mr_iconst (pc := 42) (v := 0) rfl (by decide) ?_
    cases h; exact mr_ireturn (pc := 43) rfl rfl (Nat.le_of_ble_eq_true rfl) (Nat.le_of_ble_eq_true rfl)
def g_X1_dig (Y : rS) (a1 a2 : Int32) : Option (mO × rS) := cI (g_X1_isPool (a1)) Y (fun v2 => if ((v2) : Int32) = 0 then (if 0 < ((1) : Int32) then (some (.inl (some (.int (0))), (Y.1, Y.2.1, Y.2.2.1, Y.2.2.2.1, Y.2.2.2.2.1, Y.2.2.2.2.2.1, Y.2.2.2.2.2.2.1, Y.2.2.2.2.2.2.2.1, 1, Y.2.2.2.2.2.2.2.2.2.1, Y.2.2.2.2.2.2.2.2.2.2.1, Y.2.2.2.2.2.2.2.2.2.2.2.1, Y.2.2.2.2.2.2.2.2.2.2.2.2.1, Y.2.2.2.2.2.2.2.2.2.2.2.2.2.1, Y.2.2.2.2.2.2.2.2.2.2.2.2.2.2))) else (if vpb (a1) 8 then (if (((Y.1) ((a1) : Int32).toNatClampNeg) : Int32) = 0 then (if vpb (a1) 8 then (if vpb (a1) 8 then (if vpb (a1) 8 then (if vpb (a1) 8 then (some (.inl (some (.int (1))), (upd (Y.1) ((a1) : Int32).toNatClampNeg (vp_nar .boolean (1)), upd (Y.2.1) ((a1) : Int32).toNatClampNeg (a2), upd (Y.2.2.1) ((a1) : Int32).toNatClampNeg (0), upd (Y.2.2.2.1) ((a1) : Int32).toNatClampNeg (0), Y.2.2.2.2.1, Y.2.2.2.2.2.1, Y.2.2.2.2.2.2.1, Y.2.2.2.2.2.2.2.1, 1, Y.2.2.2.2.2.2.2.2.2.1, Y.2.2.2.2.2.2.2.2.2.2.1, Y.2.2.2.2.2.2.2.2.2.2.2.1, Y.2.2.2.2.2.2.2.2.2.2.2.2.1, Y.2.2.2.2.2.2.2.2.2.2.2.2.2.1, Y.2.2.2.2.2.2.2.2.2.2.2.2.2.2))) else none) else none) else none) else none) else (some (.inl (some (.int (0))), (Y.1, Y.2.1, Y.2.2.1, Y.2.2.2.1, Y.2.2.2.2.1, Y.2.2.2.2.2.1, Y.2.2.2.2.2.2.1, Y.2.2.2.2.2.2.2.1, 1, Y.2.2.2.2.2.2.2.2.2.1, Y.2.2.2.2.2.2.2.2.2.2.1, Y.2.2.2.2.2.2.2.2.2.2.2.1, Y.2.2.2.2.2.2.2.2.2.2.2.2.1, Y.2.2.2.2.2.2.2.2.2.2.2.2.2.1, Y.2.2.2.2.2.2.2.2.2.2.2.2.2.2)))) else none)) else (cI (g_X1_in (a2) (1) (9)) Y (fun v16 => if ((v16) : Int32) = 0 then (if 0 < ((2) : Int32) then (some (.inl (some (.int (0))), (Y.1, Y.2.1, Y.2.2.1, Y.2.2.2.1, Y.2.2.2.2.1, Y.2.2.2.2.2.1, Y.2.2.2.2.2.2.1, Y.2.2.2.2.2.2.2.1, 2, Y.2.2.2.2.2.2.2.2.2.1, Y.2.2.2.2.2.2.2.2.2.2.1, Y.2.2.2.2.2.2.2.2.2.2.2.1, Y.2.2.2.2.2.2.2.2.2.2.2.2.1, Y.2.2.2.2.2.2.2.2.2.2.2.2.2.1, Y.2.2.2.2.2.2.2.2.2.2.2.2.2.2))) else (if vpb (a1) 8 then (if (((Y.1) ((a1) : Int32).toNatClampNeg) : Int32) = 0 then (if vpb (a1) 8 then (if vpb (a1) 8 then (if vpb (a1) 8 then (if vpb (a1) 8 then (some (.inl (some (.int (1))), (upd (Y.1) ((a1) : Int32).toNatClampNeg (vp_nar .boolean (1)), upd (Y.2.1) ((a1) : Int32).toNatClampNeg (a2), upd (Y.2.2.1) ((a1) : Int32).toNatClampNeg (0), upd (Y.2.2.2.1) ((a1) : Int32).toNatClampNeg (0), Y.2.2.2.2.1, Y.2.2.2.2.2.1, Y.2.2.2.2.2.2.1, Y.2.2.2.2.2.2.2.1, 2, Y.2.2.2.2.2.2.2.2.2.1, Y.2.2.2.2.2.2.2.2.2.2.1, Y.2.2.2.2.2.2.2.2.2.2.2.1, Y.2.2.2.2.2.2.2.2.2.2.2.2.1, Y.2.2.2.2.2.2.2.2.2.2.2.2.2.1, Y.2.2.2.2.2.2.2.2.2.2.2.2.2.2))) else none) else none) else none) else none) else (some (.inl (some (.int (0))), (Y.1, Y.2.1, Y.2.2.1, Y.2.2.2.1, Y.2.2.2.2.1, Y.2.2.2.2.2.1, Y.2.2.2.2.2.2.1, Y.2.2.2.2.2.2.2.1, 2, Y.2.2.2.2.2.2.2.2.2.1, Y.2.2.2.2.2.2.2.2.2.2.1, Y.2.2.2.2.2.2.2.2.2.2.2.1, Y.2.2.2.2.2.2.2.2.2.2.2.2.1, Y.2.2.2.2.2.2.2.2.2.2.2.2.2.1, Y.2.2.2.2.2.2.2.2.2.2.2.2.2.2)))) else none)) else (if 0 < ((0) : Int32) then (some (.inl (some (.int (0))), (Y.1, Y.2.1, Y.2.2.1, Y.2.2.2.1, Y.2.2.2.2.1, Y.2.2.2.2.2.1, Y.2.2.2.2.2.2.1, Y.2.2.2.2.2.2.2.1, 0, Y.2.2.2.2.2.2.2.2.2.1, Y.2.2.2.2.2.2.2.2.2.2.1, Y.2.2.2.2.2.2.2.2.2.2.2.1, Y.2.2.2.2.2.2.2.2.2.2.2.2.1, Y.2.2.2.2.2.2.2.2.2.2.2.2.2.1, Y.2.2.2.2.2.2.2.2.2.2.2.2.2.2))) else (if vpb (a1) 8 then (if (((Y.1) ((a1) : Int32).toNatClampNeg) : Int32) = 0 then (if vpb (a1) 8 then (if vpb (a1) 8 then (if vpb (a1) 8 then (if vpb (a1) 8 then (some (.inl (some (.int (1))), (upd (Y.1) ((a1) : Int32).toNatClampNeg (vp_nar .boolean (1)), upd (Y.2.1) ((a1) : Int32).toNatClampNeg (a2), upd (Y.2.2.1) ((a1) : Int32).toNatClampNeg (0), upd (Y.2.2.2.1) ((a1) : Int32).toNatClampNeg (0), Y.2.2.2.2.1, Y.2.2.2.2.2.1, Y.2.2.2.2.2.2.1, Y.2.2.2.2.2.2.2.1, 0, Y.2.2.2.2.2.2.2.2.2.1, Y.2.2.2.2.2.2.2.2.2.2.1, Y.2.2.2.2.2.2.2.2.2.2.2.1, Y.2.2.2.2.2.2.2.2.2.2.2.2.1, Y.2.2.2.2.2.2.2.2.2.2.2.2.2.1, Y.2.2.2.2.2.2.2.2.2.2.2.2.2.2))) else none) else none) else none) else none) else (some (.inl (some (.int (0))), (Y.1, Y.2.1, Y.2.2.1, Y.2.2.2.1, Y.2.2.2.2.1, Y.2.2.2.2.2.1, Y.2.2.2.2.2.2.1, Y.2.2.2.2.2.2.2.1, 0, Y.2.2.2.2.2.2.2.2.2.1, Y.2.2.2.2.2.2.2.2.2.2.1, Y.2.2.2.2.2.2.2.2.2.2.2.1, Y.2.2.2.2.2.2.2.2.2.2.2.2.1, Y.2.2.2.2.2.2.2.2.2.2.2.2.2.1, Y.2.2.2.2.2.2.2.2.2.2.2.2.2.2)))) else none)))))
set_option maxRecDepth 100000 in
set_option maxHeartbeats 4000000 in
theorem F_X1_dig {S : Nat × (Nat → Int32)} {Z : cS} {T : mH} {Y R9 : rS} {o9 : mO} {a1 a2 : Int32} (h : g_X1_dig Y a1 a2 = some (o9, R9)) : mF S MX1_dig 0 (mEnt [.ref 8, .int a1, .int a2] 3) [] (xw Z (yw Y T)) 0 0 (o9, (xw Z (yw R9 T)), 0, 0) := by
  unfold g_X1_dig at h
  refine mr_aload_n (pc := 0) (x := 8) rfl rfl ?_
  refine mr_iload_n (pc := 1) (x := a1) rfl rfl ?_
  rcases cI_inv h with ⟨v2, hc2, h⟩ | ⟨E2, hc2, hr⟩
  · refine mr_ret (mRunS (pc := 2) (As := [.int (a1)]) (rest := [.ref 8]) rfl lkRX1_62 rfl (Nat.le_of_ble_eq_true rfl) (Nat.le_of_ble_eq_true rfl) (F_X1_isPool hc2)) rfl (Nat.le_of_ble_eq_true rfl) (Nat.le_of_ble_eq_true rfl) ?_
    refine mr_if_ne (pc := 5) 12 rfl (by decide) (fun c5 => ?_) (fun c5 => ?_)
    · have h := (if_neg c5).symm.trans h
      refine mr_iload_n (pc := 12) (x := a2) rfl rfl ?_
      refine mr_iconst (pc := 13) (v := 1) rfl (by decide) ?_
      refine mr_bipush (pc := 14) (v := 9) rfl (by decide) ?_
      rcases cI_inv h with ⟨v16, hc16, h⟩ | ⟨E16, hc16, hr⟩
      · refine mr_ret (mRunS (pc := 16) (As := [.int (a2), .int (1), .int (9)]) (rest := [.ref 8]) rfl lkRX1_54 rfl (Nat.le_of_ble_eq_true rfl) (Nat.le_of_ble_eq_true rfl) (F_X1_in hc16)) rfl (Nat.le_of_ble_eq_true rfl) (Nat.le_of_ble_eq_true rfl) ?_
        refine mr_if_ne (pc := 19) 26 rfl (by decide) (fun c19 => ?_) (fun c19 => ?_)
        · have h := (if_neg c19).symm.trans h
          refine mr_iconst (pc := 26) (v := 0) rfl (by decide) ?_
          refine ms_putfield (pc := 27) (h' := (xw Z (yw (Y.1, Y.2.1, Y.2.2.1, Y.2.2.2.1, Y.2.2.2.2.1, Y.2.2.2.2.2.1, Y.2.2.2.2.2.2.1, Y.2.2.2.2.2.2.2.1, 0, Y.2.2.2.2.2.2.2.2.2.1, Y.2.2.2.2.2.2.2.2.2.2.1, Y.2.2.2.2.2.2.2.2.2.2.2.1, Y.2.2.2.2.2.2.2.2.2.2.2.2.1, Y.2.2.2.2.2.2.2.2.2.2.2.2.2.1, Y.2.2.2.2.2.2.2.2.2.2.2.2.2.2) T))) rfl lfRX1_38 rfl (Nat.le_of_ble_eq_true rfl) (by intro q hq; cases hq; rfl) rfl ?_
          refine mr_aload_n (pc := 30) (x := 8) rfl rfl ?_
          refine mr_getfield (pc := 31) (v := .int (0)) rfl lfRX1_38 rfl rfl ?_
          refine mr_if_gt (pc := 34) 46 rfl (by decide) (fun c34 => ?_) (fun c34 => ?_)
          · have h := (if_pos c34).symm.trans h
            refine mr_iconst (pc := 46) (v := 0) rfl (by decide) ?_
            cases h; exact mr_ireturn (pc := 47) rfl rfl (Nat.le_of_ble_eq_true rfl) (Nat.le_of_ble_eq_true rfl)
          · have h := (if_neg c34).symm.trans h
            refine mr_aload_n (pc := 37) (x := 8) rfl rfl ?_
            refine mr_getfield (pc := 38) (v := .ref 9) rfl lfRX1_7 rfl rfl ?_
            refine mr_iload_n (pc := 41) (x := a1) rfl rfl ?_
            obtain ⟨g42, h⟩ := m_gd h
            refine mr_baload (pc := 42) (f := Y.1) rfl rfl (vpb_in g42) ?_
            refine mr_if_eq (pc := 43) 48 rfl (by decide) (fun c43 => ?_) (fun c43 => ?_)
            · have h := (if_pos c43).symm.trans h
              refine mr_aload_n (pc := 48) (x := 8) rfl rfl ?_
              refine mr_getfield (pc := 49) (v := .ref 9) rfl lfRX1_7 rfl rfl ?_
              refine mr_iload_n (pc := 52) (x := a1) rfl rfl ?_
              refine mr_iconst (pc := 53) (v := 1) rfl (by decide) ?_
              obtain ⟨g54, h⟩ := m_gd h
              refine ms_bastore (pc := 54) (f := Y.1) (h' := (xw Z (yw (upd (Y.1) ((a1) : Int32).toNatClampNeg (vp_nar .boolean (1)), Y.2.1, Y.2.2.1, Y.2.2.2.1, Y.2.2.2.2.1, Y.2.2.2.2.2.1, Y.2.2.2.2.2.2.1, Y.2.2.2.2.2.2.2.1, 0, Y.2.2.2.2.2.2.2.2.2.1, Y.2.2.2.2.2.2.2.2.2.2.1, Y.2.2.2.2.2.2.2.2.2.2.2.1, Y.2.2.2.2.2.2.2.2.2.2.2.2.1, Y.2.2.2.2.2.2.2.2.2.2.2.2.2.1, Y.2.2.2.2.2.2.2.2.2.2.2.2.2.2) T))) rfl rfl g54 rfl ?_
              refine mr_aload_n (pc := 55) (x := 8) rfl rfl ?_
              refine mr_getfield (pc := 56) (v := .ref 10) rfl lfRX1_13 rfl rfl ?_
              refine mr_iload_n (pc := 59) (x := a1) rfl rfl ?_
              refine mr_iload_n (pc := 60) (x := a2) rfl rfl ?_
              obtain ⟨g61, h⟩ := m_gd h
              refine ms_iastore (pc := 61) (f := Y.2.1) (h' := (xw Z (yw (upd (Y.1) ((a1) : Int32).toNatClampNeg (vp_nar .boolean (1)), upd (Y.2.1) ((a1) : Int32).toNatClampNeg (a2), Y.2.2.1, Y.2.2.2.1, Y.2.2.2.2.1, Y.2.2.2.2.2.1, Y.2.2.2.2.2.2.1, Y.2.2.2.2.2.2.2.1, 0, Y.2.2.2.2.2.2.2.2.2.1, Y.2.2.2.2.2.2.2.2.2.2.1, Y.2.2.2.2.2.2.2.2.2.2.2.1, Y.2.2.2.2.2.2.2.2.2.2.2.2.1, Y.2.2.2.2.2.2.2.2.2.2.2.2.2.1, Y.2.2.2.2.2.2.2.2.2.2.2.2.2.2) T))) rfl rfl g61 rfl ?_
              refine mr_aload_n (pc := 62) (x := 8) rfl rfl ?_
              refine mr_getfield (pc := 63) (v := .ref 11) rfl lfRX1_17 rfl rfl ?_
              refine mr_iload_n (pc := 66) (x := a1) rfl rfl ?_
              refine mr_iconst (pc := 67) (v := 0) rfl (by decide) ?_
              obtain ⟨g68, h⟩ := m_gd h
              refine ms_iastore (pc := 68) (f := Y.2.2.1) (h' := (xw Z (yw (upd (Y.1) ((a1) : Int32).toNatClampNeg (vp_nar .boolean (1)), upd (Y.2.1) ((a1) : Int32).toNatClampNeg (a2), upd (Y.2.2.1) ((a1) : Int32).toNatClampNeg (0), Y.2.2.2.1, Y.2.2.2.2.1, Y.2.2.2.2.2.1, Y.2.2.2.2.2.2.1, Y.2.2.2.2.2.2.2.1, 0, Y.2.2.2.2.2.2.2.2.2.1, Y.2.2.2.2.2.2.2.2.2.2.1, Y.2.2.2.2.2.2.2.2.2.2.2.1, Y.2.2.2.2.2.2.2.2.2.2.2.2.1, Y.2.2.2.2.2.2.2.2.2.2.2.2.2.1, Y.2.2.2.2.2.2.2.2.2.2.2.2.2.2) T))) rfl rfl g68 rfl ?_
              refine mr_aload_n (pc := 69) (x := 8) rfl rfl ?_
              refine mr_getfield (pc := 70) (v := .ref 12) rfl lfRX1_20 rfl rfl ?_
              refine mr_iload_n (pc := 73) (x := a1) rfl rfl ?_
              refine mr_iconst (pc := 74) (v := 0) rfl (by decide) ?_
              obtain ⟨g75, h⟩ := m_gd h
              refine ms_iastore (pc := 75) (f := Y.2.2.2.1) (h' := (xw Z (yw (upd (Y.1) ((a1) : Int32).toNatClampNeg (vp_nar .boolean (1)), upd (Y.2.1) ((a1) : Int32).toNatClampNeg (a2), upd (Y.2.2.1) ((a1) : Int32).toNatClampNeg (0), upd (Y.2.2.2.1) ((a1) : Int32).toNatClampNeg (0), Y.2.2.2.2.1, Y.2.2.2.2.2.1, Y.2.2.2.2.2.2.1, Y.2.2.2.2.2.2.2.1, 0, Y.2.2.2.2.2.2.2.2.2.1, Y.2.2.2.2.2.2.2.2.2.2.1, Y.2.2.2.2.2.2.2.2.2.2.2.1, Y.2.2.2.2.2.2.2.2.2.2.2.2.1, Y.2.2.2.2.2.2.2.2.2.2.2.2.2.1, Y.2.2.2.2.2.2.2.2.2.2.2.2.2.2) T))) rfl rfl g75 rfl ?_
              refine mr_iconst (pc := 76) (v := 1) rfl (by decide) ?_
              cases h; exact mr_ireturn (pc := 77) rfl rfl (Nat.le_of_ble_eq_true rfl) (Nat.le_of_ble_eq_true rfl)
            · have h := (if_neg c43).symm.trans h
              refine mr_iconst (pc := 46) (v := 0) rfl (by decide) ?_
              cases h; exact mr_ireturn (pc := 47) rfl rfl (Nat.le_of_ble_eq_true rfl) (Nat.le_of_ble_eq_true rfl)
        · have h := (if_pos c19).symm.trans h
          refine mr_iconst (pc := 22) (v := 2) rfl (by decide) ?_
          refine mr_goto (pc := 23) 27 rfl (by decide) ?_
          refine ms_putfield (pc := 27) (h' := (xw Z (yw (Y.1, Y.2.1, Y.2.2.1, Y.2.2.2.1, Y.2.2.2.2.1, Y.2.2.2.2.2.1, Y.2.2.2.2.2.2.1, Y.2.2.2.2.2.2.2.1, 2, Y.2.2.2.2.2.2.2.2.2.1, Y.2.2.2.2.2.2.2.2.2.2.1, Y.2.2.2.2.2.2.2.2.2.2.2.1, Y.2.2.2.2.2.2.2.2.2.2.2.2.1, Y.2.2.2.2.2.2.2.2.2.2.2.2.2.1, Y.2.2.2.2.2.2.2.2.2.2.2.2.2.2) T))) rfl lfRX1_38 rfl (Nat.le_of_ble_eq_true rfl) (by intro q hq; cases hq; rfl) rfl ?_
          refine mr_aload_n (pc := 30) (x := 8) rfl rfl ?_
          refine mr_getfield (pc := 31) (v := .int (2)) rfl lfRX1_38 rfl rfl ?_
          refine mr_if_gt (pc := 34) 46 rfl (by decide) (fun c34 => ?_) (fun c34 => ?_)
          · have h := (if_pos c34).symm.trans h
            refine mr_iconst (pc := 46) (v := 0) rfl (by decide) ?_
            cases h; exact mr_ireturn (pc := 47) rfl rfl (Nat.le_of_ble_eq_true rfl) (Nat.le_of_ble_eq_true rfl)
          · have h := (if_neg c34).symm.trans h
            refine mr_aload_n (pc := 37) (x := 8) rfl rfl ?_
            refine mr_getfield (pc := 38) (v := .ref 9) rfl lfRX1_7 rfl rfl ?_
            refine mr_iload_n (pc := 41) (x := a1) rfl rfl ?_
            obtain ⟨g42, h⟩ := m_gd h
            refine mr_baload (pc := 42) (f := Y.1) rfl rfl (vpb_in g42) ?_
            refine mr_if_eq (pc := 43) 48 rfl (by decide) (fun c43 => ?_) (fun c43 => ?_)
            · have h := (if_pos c43).symm.trans h
              refine mr_aload_n (pc := 48) (x := 8) rfl rfl ?_
              refine mr_getfield (pc := 49) (v := .ref 9) rfl lfRX1_7 rfl rfl ?_
              refine mr_iload_n (pc := 52) (x := a1) rfl rfl ?_
              refine mr_iconst (pc := 53) (v := 1) rfl (by decide) ?_
              obtain ⟨g54, h⟩ := m_gd h
              refine ms_bastore (pc := 54) (f := Y.1) (h' := (xw Z (yw (upd (Y.1) ((a1) : Int32).toNatClampNeg (vp_nar .boolean (1)), Y.2.1, Y.2.2.1, Y.2.2.2.1, Y.2.2.2.2.1, Y.2.2.2.2.2.1, Y.2.2.2.2.2.2.1, Y.2.2.2.2.2.2.2.1, 2, Y.2.2.2.2.2.2.2.2.2.1, Y.2.2.2.2.2.2.2.2.2.2.1, Y.2.2.2.2.2.2.2.2.2.2.2.1, Y.2.2.2.2.2.2.2.2.2.2.2.2.1, Y.2.2.2.2.2.2.2.2.2.2.2.2.2.1, Y.2.2.2.2.2.2.2.2.2.2.2.2.2.2) T))) rfl rfl g54 rfl ?_
              refine mr_aload_n (pc := 55) (x := 8) rfl rfl ?_
              refine mr_getfield (pc := 56) (v := .ref 10) rfl lfRX1_13 rfl rfl ?_
              refine mr_iload_n (pc := 59) (x := a1) rfl rfl ?_
              refine mr_iload_n (pc := 60) (x := a2) rfl rfl ?_
              obtain ⟨g61, h⟩ := m_gd h
              refine ms_iastore (pc := 61) (f := Y.2.1) (h' := (xw Z (yw (upd (Y.1) ((a1) : Int32).toNatClampNeg (vp_nar .boolean (1)), upd (Y.2.1) ((a1) : Int32).toNatClampNeg (a2), Y.2.2.1, Y.2.2.2.1, Y.2.2.2.2.1, Y.2.2.2.2.2.1, Y.2.2.2.2.2.2.1, Y.2.2.2.2.2.2.2.1, 2, Y.2.2.2.2.2.2.2.2.2.1, Y.2.2.2.2.2.2.2.2.2.2.1, Y.2.2.2.2.2.2.2.2.2.2.2.1, Y.2.2.2.2.2.2.2.2.2.2.2.2.1, Y.2.2.2.2.2.2.2.2.2.2.2.2.2.1, Y.2.2.2.2.2.2.2.2.2.2.2.2.2.2) T))) rfl rfl g61 rfl ?_
              refine mr_aload_n (pc := 62) (x := 8) rfl rfl ?_
              refine mr_getfield (pc := 63) (v := .ref 11) rfl lfRX1_17 rfl rfl ?_
              refine mr_iload_n (pc := 66) (x := a1) rfl rfl ?_
              refine mr_iconst (pc := 67) (v := 0) rfl (by decide) ?_
              obtain ⟨g68, h⟩ := m_gd h
              refine ms_iastore (pc := 68) (f := Y.2.2.1) (h' := (xw Z (yw (upd (Y.1) ((a1) : Int32).toNatClampNeg (vp_nar .boolean (1)), upd (Y.2.1) ((a1) : Int32).toNatClampNeg (a2), upd (Y.2.2.1) ((a1) : Int32).toNatClampNeg (0), Y.2.2.2.1, Y.2.2.2.2.1, Y.2.2.2.2.2.1, Y.2.2.2.2.2.2.1, Y.2.2.2.2.2.2.2.1, 2, Y.2.2.2.2.2.2.2.2.2.1, Y.2.2.2.2.2.2.2.2.2.2.1, Y.2.2.2.2.2.2.2.2.2.2.2.1, Y.2.2.2.2.2.2.2.2.2.2.2.2.1, Y.2.2.2.2.2.2.2.2.2.2.2.2.2.1, Y.2.2.2.2.2.2.2.2.2.2.2.2.2.2) T))) rfl rfl g68 rfl ?_
              refine mr_aload_n (pc := 69) (x := 8) rfl rfl ?_
              refine mr_getfield (pc := 70) (v := .ref 12) rfl lfRX1_20 rfl rfl ?_
              refine mr_iload_n (pc := 73) (x := a1) rfl rfl ?_
              refine mr_iconst (pc := 74) (v := 0) rfl (by decide) ?_
              obtain ⟨g75, h⟩ := m_gd h
              refine ms_iastore (pc := 75) (f := Y.2.2.2.1) (h' := (xw Z (yw (upd (Y.1) ((a1) : Int32).toNatClampNeg (vp_nar .boolean (1)), upd (Y.2.1) ((a1) : Int32).toNatClampNeg (a2), upd (Y.2.2.1) ((a1) : Int32).toNatClampNeg (0), upd (Y.2.2.2.1) ((a1) : Int32).toNatClampNeg (0), Y.2.2.2.2.1, Y.2.2.2.2.2.1, Y.2.2.2.2.2.2.1, Y.2.2.2.2.2.2.2.1, 2, Y.2.2.2.2.2.2.2.2.2.1, Y.2.2.2.2.2.2.2.2.2.2.1, Y.2.2.2.2.2.2.2.2.2.2.2.1, Y.2.2.2.2.2.2.2.2.2.2.2.2.1, Y.2.2.2.2.2.2.2.2.2.2.2.2.2.1, Y.2.2.2.2.2.2.2.2.2.2.2.2.2.2) T))) rfl rfl g75 rfl ?_
              refine mr_iconst (pc := 76) (v := 1) rfl (by decide) ?_
              cases h; exact mr_ireturn (pc := 77) rfl rfl (Nat.le_of_ble_eq_true rfl) (Nat.le_of_ble_eq_true rfl)
            · have h := (if_neg c43).symm.trans h
              refine mr_iconst (pc := 46) (v := 0) rfl (by decide) ?_
              cases h; exact mr_ireturn (pc := 47) rfl rfl (Nat.le_of_ble_eq_true rfl) (Nat.le_of_ble_eq_true rfl)
      · cases hr; exact mr_thrown (mRunS (pc := 16) (As := [.int (a2), .int (1), .int (9)]) (rest := [.ref 8]) rfl lkRX1_54 rfl (Nat.le_of_ble_eq_true rfl) (Nat.le_of_ble_eq_true rfl) (F_X1_in hc16)) rfl rfl (Nat.le_of_ble_eq_true rfl) (Nat.le_of_ble_eq_true rfl)
    · have h := (if_pos c5).symm.trans h
      refine mr_iconst (pc := 8) (v := 1) rfl (by decide) ?_
      refine mr_goto (pc := 9) 27 rfl (by decide) ?_
      refine ms_putfield (pc := 27) (h' := (xw Z (yw (Y.1, Y.2.1, Y.2.2.1, Y.2.2.2.1, Y.2.2.2.2.1, Y.2.2.2.2.2.1, Y.2.2.2.2.2.2.1, Y.2.2.2.2.2.2.2.1, 1, Y.2.2.2.2.2.2.2.2.2.1, Y.2.2.2.2.2.2.2.2.2.2.1, Y.2.2.2.2.2.2.2.2.2.2.2.1, Y.2.2.2.2.2.2.2.2.2.2.2.2.1, Y.2.2.2.2.2.2.2.2.2.2.2.2.2.1, Y.2.2.2.2.2.2.2.2.2.2.2.2.2.2) T))) rfl lfRX1_38 rfl (Nat.le_of_ble_eq_true rfl) (by intro q hq; cases hq; rfl) rfl ?_
      refine mr_aload_n (pc := 30) (x := 8) rfl rfl ?_
      refine mr_getfield (pc := 31) (v := .int (1)) rfl lfRX1_38 rfl rfl ?_
      refine mr_if_gt (pc := 34) 46 rfl (by decide) (fun c34 => ?_) (fun c34 => ?_)
      · have h := (if_pos c34).symm.trans h
        refine mr_iconst (pc := 46) (v := 0) rfl (by decide) ?_
        cases h; exact mr_ireturn (pc := 47) rfl rfl (Nat.le_of_ble_eq_true rfl) (Nat.le_of_ble_eq_true rfl)
      · have h := (if_neg c34).symm.trans h
        refine mr_aload_n (pc := 37) (x := 8) rfl rfl ?_
        refine mr_getfield (pc := 38) (v := .ref 9) rfl lfRX1_7 rfl rfl ?_
        refine mr_iload_n (pc := 41) (x := a1) rfl rfl ?_
        obtain ⟨g42, h⟩ := m_gd h
        refine mr_baload (pc := 42) (f := Y.1) rfl rfl (vpb_in g42) ?_
        refine mr_if_eq (pc := 43) 48 rfl (by decide) (fun c43 => ?_) (fun c43 => ?_)
        · have h := (if_pos c43).symm.trans h
          refine mr_aload_n (pc := 48) (x := 8) rfl rfl ?_
          refine mr_getfield (pc := 49) (v := .ref 9) rfl lfRX1_7 rfl rfl ?_
          refine mr_iload_n (pc := 52) (x := a1) rfl rfl ?_
          refine mr_iconst (pc := 53) (v := 1) rfl (by decide) ?_
          obtain ⟨g54, h⟩ := m_gd h
          refine ms_bastore (pc := 54) (f := Y.1) (h' := (xw Z (yw (upd (Y.1) ((a1) : Int32).toNatClampNeg (vp_nar .boolean (1)), Y.2.1, Y.2.2.1, Y.2.2.2.1, Y.2.2.2.2.1, Y.2.2.2.2.2.1, Y.2.2.2.2.2.2.1, Y.2.2.2.2.2.2.2.1, 1, Y.2.2.2.2.2.2.2.2.2.1, Y.2.2.2.2.2.2.2.2.2.2.1, Y.2.2.2.2.2.2.2.2.2.2.2.1, Y.2.2.2.2.2.2.2.2.2.2.2.2.1, Y.2.2.2.2.2.2.2.2.2.2.2.2.2.1, Y.2.2.2.2.2.2.2.2.2.2.2.2.2.2) T))) rfl rfl g54 rfl ?_
          refine mr_aload_n (pc := 55) (x := 8) rfl rfl ?_
          refine mr_getfield (pc := 56) (v := .ref 10) rfl lfRX1_13 rfl rfl ?_
          refine mr_iload_n (pc := 59) (x := a1) rfl rfl ?_
          refine mr_iload_n (pc := 60) (x := a2) rfl rfl ?_
          obtain ⟨g61, h⟩ := m_gd h
          refine ms_iastore (pc := 61) (f := Y.2.1) (h' := (xw Z (yw (upd (Y.1) ((a1) : Int32).toNatClampNeg (vp_nar .boolean (1)), upd (Y.2.1) ((a1) : Int32).toNatClampNeg (a2), Y.2.2.1, Y.2.2.2.1, Y.2.2.2.2.1, Y.2.2.2.2.2.1, Y.2.2.2.2.2.2.1, Y.2.2.2.2.2.2.2.1, 1, Y.2.2.2.2.2.2.2.2.2.1, Y.2.2.2.2.2.2.2.2.2.2.1, Y.2.2.2.2.2.2.2.2.2.2.2.1, Y.2.2.2.2.2.2.2.2.2.2.2.2.1, Y.2.2.2.2.2.2.2.2.2.2.2.2.2.1, Y.2.2.2.2.2.2.2.2.2.2.2.2.2.2) T))) rfl rfl g61 rfl ?_
          refine mr_aload_n (pc := 62) (x := 8) rfl rfl ?_
          refine mr_getfield (pc := 63) (v := .ref 11) rfl lfRX1_17 rfl rfl ?_
          refine mr_iload_n (pc := 66) (x := a1) rfl rfl ?_
          refine mr_iconst (pc := 67) (v := 0) rfl (by decide) ?_
          obtain ⟨g68, h⟩ := m_gd h
          refine ms_iastore (pc := 68) (f := Y.2.2.1) (h' := (xw Z (yw (upd (Y.1) ((a1) : Int32).toNatClampNeg (vp_nar .boolean (1)), upd (Y.2.1) ((a1) : Int32).toNatClampNeg (a2), upd (Y.2.2.1) ((a1) : Int32).toNatClampNeg (0), Y.2.2.2.1, Y.2.2.2.2.1, Y.2.2.2.2.2.1, Y.2.2.2.2.2.2.1, Y.2.2.2.2.2.2.2.1, 1, Y.2.2.2.2.2.2.2.2.2.1, Y.2.2.2.2.2.2.2.2.2.2.1, Y.2.2.2.2.2.2.2.2.2.2.2.1, Y.2.2.2.2.2.2.2.2.2.2.2.2.1, Y.2.2.2.2.2.2.2.2.2.2.2.2.2.1, Y.2.2.2.2.2.2.2.2.2.2.2.2.2.2) T))) rfl rfl g68 rfl ?_
          refine mr_aload_n (pc := 69) (x := 8) rfl rfl ?_
          refine mr_getfield (pc := 70) (v := .ref 12) rfl lfRX1_20 rfl rfl ?_
          refine mr_iload_n (pc := 73) (x := a1) rfl rfl ?_
          refine mr_iconst (pc := 74) (v := 0) rfl (by decide) ?_
          obtain ⟨g75, h⟩ := m_gd h
          refine ms_iastore (pc := 75) (f := Y.2.2.2.1) (h' := (xw Z (yw (upd (Y.1) ((a1) : Int32).toNatClampNeg (vp_nar .boolean (1)), upd (Y.2.1) ((a1) : Int32).toNatClampNeg (a2), upd (Y.2.2.1) ((a1) : Int32).toNatClampNeg (0), upd (Y.2.2.2.1) ((a1) : Int32).toNatClampNeg (0), Y.2.2.2.2.1, Y.2.2.2.2.2.1, Y.2.2.2.2.2.2.1, Y.2.2.2.2.2.2.2.1, 1, Y.2.2.2.2.2.2.2.2.2.1, Y.2.2.2.2.2.2.2.2.2.2.1, Y.2.2.2.2.2.2.2.2.2.2.2.1, Y.2.2.2.2.2.2.2.2.2.2.2.2.1, Y.2.2.2.2.2.2.2.2.2.2.2.2.2.1, Y.2.2.2.2.2.2.2.2.2.2.2.2.2.2) T))) rfl rfl g75 rfl ?_
          refine mr_iconst (pc := 76) (v := 1) rfl (by decide) ?_
          cases h; exact mr_ireturn (pc := 77) rfl rfl (Nat.le_of_ble_eq_true rfl) (Nat.le_of_ble_eq_true rfl)
        · have h := (if_neg c43).symm.trans h
          refine mr_iconst (pc := 46) (v := 0) rfl (by decide) ?_
          cases h; exact mr_ireturn (pc := 47) rfl rfl (Nat.le_of_ble_eq_true rfl) (Nat.le_of_ble_eq_true rfl)
  · cases hr; exact mr_thrown (mRunS (pc := 2) (As := [.int (a1)]) (rest := [.ref 8]) rfl lkRX1_62 rfl (Nat.le_of_ble_eq_true rfl) (Nat.le_of_ble_eq_true rfl) (F_X1_isPool hc2)) rfl rfl (Nat.le_of_ble_eq_true rfl) (Nat.le_of_ble_eq_true rfl)
