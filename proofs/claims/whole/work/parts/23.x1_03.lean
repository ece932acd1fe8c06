/-! THE METHODS OF X1 AS FUNCTIONS, by program (wip/whole/gencode.py) -/
def g_X1_boat (Y : rS) (a1 a2 a3 : Int32) : Option (mO × rS) := cI (g_X1_isBoat (a1)) Y (fun v2 => if ((v2) : Int32) = 0 then (if ((1) : Int32) ≤ 0 then (bI (g_X1_hold (Y.1, Y.2.1, Y.2.2.1, Y.2.2.2.1, Y.2.2.2.2.1, Y.2.2.2.2.2.1, Y.2.2.2.2.2.2.1, Y.2.2.2.2.2.2.2.1, 1, Y.2.2.2.2.2.2.2.2.2.1, Y.2.2.2.2.2.2.2.2.2.2.1, Y.2.2.2.2.2.2.2.2.2.2.2.1, Y.2.2.2.2.2.2.2.2.2.2.2.2.1, Y.2.2.2.2.2.2.2.2.2.2.2.2.2.1, Y.2.2.2.2.2.2.2.2.2.2.2.2.2.2) (a3)) (fun v48 Y48 => if ((v48) : Int32) = 0 then (bI (g_X1_told Y48 (3) (0) (0) (0)) (fun v59 Y59 => some (.inl (some (.int (v59))), Y59))) else (bI (g_X1_lieIn Y48 (a3)) (fun v65 Y65 => if vpb (a1) 10 then (if (((Y65.2.2.2.2.1) ((a1) : Int32).toNatClampNeg) : Int32) = ((a3) : Int32) then (if (((v65) - (1)) : Int32) < ((3) : Int32) then (if vpb (a1) 10 then (if vpb (a1) 10 then (bV (g_X1_leave (Y65.1, Y65.2.1, Y65.2.2.1, Y65.2.2.2.1, upd (Y65.2.2.2.2.1) ((a1) : Int32).toNatClampNeg (a3), upd (Y65.2.2.2.2.2.1) ((a1) : Int32).toNatClampNeg (a2), Y65.2.2.2.2.2.2.1, Y65.2.2.2.2.2.2.2.1, Y65.2.2.2.2.2.2.2.2.1, Y65.2.2.2.2.2.2.2.2.2.1, Y65.2.2.2.2.2.2.2.2.2.2.1, Y65.2.2.2.2.2.2.2.2.2.2.2.1, Y65.2.2.2.2.2.2.2.2.2.2.2.2.1, Y65.2.2.2.2.2.2.2.2.2.2.2.2.2.1, Y65.2.2.2.2.2.2.2.2.2.2.2.2.2.2) (1)) (fun Y119 => bI (g_X1_lieIn Y119 (a3)) (fun v124 Y124 => some (.inl (some (.int (v124))), Y124)))) else none) else none) else (bI (g_X1_fail Y65 (3)) (fun v90 Y90 => bI (g_X1_told Y90 (0) (0) (4) (0)) (fun v99 Y99 => some (.inl (some (.int (v99))), Y99))))) else (if (((v65) - (0)) : Int32) < ((3) : Int32) then (if vpb (a1) 10 then (if vpb (a1) 10 then (bV (g_X1_leave (Y65.1, Y65.2.1, Y65.2.2.1, Y65.2.2.2.1, upd (Y65.2.2.2.2.1) ((a1) : Int32).toNatClampNeg (a3), upd (Y65.2.2.2.2.2.1) ((a1) : Int32).toNatClampNeg (a2), Y65.2.2.2.2.2.2.1, Y65.2.2.2.2.2.2.2.1, Y65.2.2.2.2.2.2.2.2.1, Y65.2.2.2.2.2.2.2.2.2.1, Y65.2.2.2.2.2.2.2.2.2.2.1, Y65.2.2.2.2.2.2.2.2.2.2.2.1, Y65.2.2.2.2.2.2.2.2.2.2.2.2.1, Y65.2.2.2.2.2.2.2.2.2.2.2.2.2.1, Y65.2.2.2.2.2.2.2.2.2.2.2.2.2.2) (1)) (fun Y119 => bI (g_X1_lieIn Y119 (a3)) (fun v124 Y124 => some (.inl (some (.int (v124))), Y124)))) else none) else none) else (bI (g_X1_fail Y65 (3)) (fun v90 Y90 => bI (g_X1_told Y90 (0) (0) (4) (0)) (fun v99 Y99 => some (.inl (some (.int (v99))), Y99)))))) else none)))) else (some (.inl (some (.int (0))), (Y.1, Y.2.1, Y.2.2.1, Y.2.2.2.1, Y.2.2.2.2.1, Y.2.2.2.2.2.1, Y.2.2.2.2.2.2.1, Y.2.2.2.2.2.2.2.1, 1, Y.2.2.2.2.2.2.2.2.2.1, Y.2.2.2.2.2.2.2.2.2.2.1, Y.2.2.2.2.2.2.2.2.2.2.2.1, Y.2.2.2.2.2.2.2.2.2.2.2.2.1, Y.2.2.2.2.2.2.2.2.2.2.2.2.2.1, Y.2.2.2.2.2.2.2.2.2.2.2.2.2.2)))) else (cI (g_X1_isPool (a3)) Y (fun v9 => if ((v9) : Int32) = 0 then (if ((1) : Int32) ≤ 0 then (bI (g_X1_hold (Y.1, Y.2.1, Y.2.2.1, Y.2.2.2.1, Y.2.2.2.2.1, Y.2.2.2.2.2.1, Y.2.2.2.2.2.2.1, Y.2.2.2.2.2.2.2.1, 1, Y.2.2.2.2.2.2.2.2.2.1, Y.2.2.2.2.2.2.2.2.2.2.1, Y.2.2.2.2.2.2.2.2.2.2.2.1, Y.2.2.2.2.2.2.2.2.2.2.2.2.1, Y.2.2.2.2.2.2.2.2.2.2.2.2.2.1, Y.2.2.2.2.2.2.2.2.2.2.2.2.2.2) (a3)) (fun v48 Y48 => if ((v48) : Int32) = 0 then (bI (g_X1_told Y48 (3) (0) (0) (0)) (fun v59 Y59 => some (.inl (some (.int (v59))), Y59))) else (bI (g_X1_lieIn Y48 (a3)) (fun v65 Y65 => if vpb (a1) 10 then (if (((Y65.2.2.2.2.1) ((a1) : Int32).toNatClampNeg) : Int32) = ((a3) : Int32) then (if (((v65) - (1)) : Int32) < ((3) : Int32) then (if vpb (a1) 10 then (if vpb (a1) 10 then (bV (g_X1_leave (Y65.1, Y65.2.1, Y65.2.2.1, Y65.2.2.2.1, upd (Y65.2.2.2.2.1) ((a1) : Int32).toNatClampNeg (a3), upd (Y65.2.2.2.2.2.1) ((a1) : Int32).toNatClampNeg (a2), Y65.2.2.2.2.2.2.1, Y65.2.2.2.2.2.2.2.1, Y65.2.2.2.2.2.2.2.2.1, Y65.2.2.2.2.2.2.2.2.2.1, Y65.2.2.2.2.2.2.2.2.2.2.1, Y65.2.2.2.2.2.2.2.2.2.2.2.1, Y65.2.2.2.2.2.2.2.2.2.2.2.2.1, Y65.2.2.2.2.2.2.2.2.2.2.2.2.2.1, Y65.2.2.2.2.2.2.2.2.2.2.2.2.2.2) (1)) (fun Y119 => bI (g_X1_lieIn Y119 (a3)) (fun v124 Y124 => some (.inl (some (.int (v124))), Y124)))) else none) else none) else (bI (g_X1_fail Y65 (3)) (fun v90 Y90 => bI (g_X1_told Y90 (0) (0) (4) (0)) (fun v99 Y99 => some (.inl (some (.int (v99))), Y99))))) else (if (((v65) - (0)) : Int32) < ((3) : Int32) then (if vpb (a1) 10 then (if vpb (a1) 10 then (bV (g_X1_leave (Y65.1, Y65.2.1, Y65.2.2.1, Y65.2.2.2.1, upd (Y65.2.2.2.2.1) ((a1) : Int32).toNatClampNeg (a3), upd (Y65.2.2.2.2.2.1) ((a1) : Int32).toNatClampNeg (a2), Y65.2.2.2.2.2.2.1, Y65.2.2.2.2.2.2.2.1, Y65.2.2.2.2.2.2.2.2.1, Y65.2.2.2.2.2.2.2.2.2.1, Y65.2.2.2.2.2.2.2.2.2.2.1, Y65.2.2.2.2.2.2.2.2.2.2.2.1, Y65.2.2.2.2.2.2.2.2.2.2.2.2.1, Y65.2.2.2.2.2.2.2.2.2.2.2.2.2.1, Y65.2.2.2.2.2.2.2.2.2.2.2.2.2.2) (1)) (fun Y119 => bI (g_X1_lieIn Y119 (a3)) (fun v124 Y124 => some (.inl (some (.int (v124))), Y124)))) else none) else none) else (bI (g_X1_fail Y65 (3)) (fun v90 Y90 => bI (g_X1_told Y90 (0) (0) (4) (0)) (fun v99 Y99 => some (.inl (some (.int (v99))), Y99)))))) else none)))) else (some (.inl (some (.int (0))), (Y.1, Y.2.1, Y.2.2.1, Y.2.2.2.1, Y.2.2.2.2.1, Y.2.2.2.2.2.1, Y.2.2.2.2.2.2.1, Y.2.2.2.2.2.2.2.1, 1, Y.2.2.2.2.2.2.2.2.2.1, Y.2.2.2.2.2.2.2.2.2.2.1, Y.2.2.2.2.2.2.2.2.2.2.2.1, Y.2.2.2.2.2.2.2.2.2.2.2.2.1, Y.2.2.2.2.2.2.2.2.2.2.2.2.2.1, Y.2.2.2.2.2.2.2.2.2.2.2.2.2.2)))) else (cI (g_X1_in (a2) (1) (99)) Y (fun v23 => if ((v23) : Int32) = 0 then (if ((2) : Int32) ≤ 0 then (bI (g_X1_hold (Y.1, Y.2.1, Y.2.2.1, Y.2.2.2.1, Y.2.2.2.2.1, Y.2.2.2.2.2.1, Y.2.2.2.2.2.2.1, Y.2.2.2.2.2.2.2.1, 2, Y.2.2.2.2.2.2.2.2.2.1, Y.2.2.2.2.2.2.2.2.2.2.1, Y.2.2.2.2.2.2.2.2.2.2.2.1, Y.2.2.2.2.2.2.2.2.2.2.2.2.1, Y.2.2.2.2.2.2.2.2.2.2.2.2.2.1, Y.2.2.2.2.2.2.2.2.2.2.2.2.2.2) (a3)) (fun v48 Y48 => if ((v48) : Int32) = 0 then (bI (g_X1_told Y48 (3) (0) (0) (0)) (fun v59 Y59 => some (.inl (some (.int (v59))), Y59))) else (bI (g_X1_lieIn Y48 (a3)) (fun v65 Y65 => if vpb (a1) 10 then (if (((Y65.2.2.2.2.1) ((a1) : Int32).toNatClampNeg) : Int32) = ((a3) : Int32) then (if (((v65) - (1)) : Int32) < ((3) : Int32) then (if vpb (a1) 10 then (if vpb (a1) 10 then (bV (g_X1_leave (Y65.1, Y65.2.1, Y65.2.2.1, Y65.2.2.2.1, upd (Y65.2.2.2.2.1) ((a1) : Int32).toNatClampNeg (a3), upd (Y65.2.2.2.2.2.1) ((a1) : Int32).toNatClampNeg (a2), Y65.2.2.2.2.2.2.1, Y65.2.2.2.2.2.2.2.1, Y65.2.2.2.2.2.2.2.2.1, Y65.2.2.2.2.2.2.2.2.2.1, Y65.2.2.2.2.2.2.2.2.2.2.1, Y65.2.2.2.2.2.2.2.2.2.2.2.1, Y65.2.2.2.2.2.2.2.2.2.2.2.2.1, Y65.2.2.2.2.2.2.2.2.2.2.2.2.2.1, Y65.2.2.2.2.2.2.2.2.2.2.2.2.2.2) (1)) (fun Y119 => bI (g_X1_lieIn Y119 (a3)) (fun v124 Y124 => some (.inl (some (.int (v124))), Y124)))) else none) else none) else (bI (g_X1_fail Y65 (3)) (fun v90 Y90 => bI (g_X1_told Y90 (0) (0) (4) (0)) (fun v99 Y99 => some (.inl (some (.int (v99))), Y99))))) else (if (((v65) - (0)) : Int32) < ((3) : Int32) then (if vpb (a1) 10 then (if vpb (a1) 10 then (bV (g_X1_leave (Y65.1, Y65.2.1, Y65.2.2.1, Y65.2.2.2.1, upd (Y65.2.2.2.2.1) ((a1) : Int32).toNatClampNeg (a3), upd (Y65.2.2.2.2.2.1) ((a1) : Int32).toNatClampNeg (a2), Y65.2.2.2.2.2.2.1, Y65.2.2.2.2.2.2.2.1, Y65.2.2.2.2.2.2.2.2.1, Y65.2.2.2.2.2.2.2.2.2.1, Y65.2.2.2.2.2.2.2.2.2.2.1, Y65.2.2.2.2.2.2.2.2.2.2.2.1, Y65.2.2.2.2.2.2.2.2.2.2.2.2.1, Y65.2.2.2.2.2.2.2.2.2.2.2.2.2.1, Y65.2.2.2.2.2.2.2.2.2.2.2.2.2.2) (1)) (fun Y119 => bI (g_X1_lieIn Y119 (a3)) (fun v124 Y124 => some (.inl (some (.int (v124))), Y124)))) else none) else none) else (bI (g_X1_fail Y65 (3)) (fun v90 Y90 => bI (g_X1_told Y90 (0) (0) (4) (0)) (fun v99 Y99 => some (.inl (some (.int (v99))), Y99)))))) else none)))) else (some (.inl (some (.int (0))), (Y.1, Y.2.1, Y.2.2.1, Y.2.2.2.1, Y.2.2.2.2.1, Y.2.2.2.2.2.1, Y.2.2.2.2.2.2.1, Y.2.2.2.2.2.2.2.1, 2, Y.2.2.2.2.2.2.2.2.2.1, Y.2.2.2.2.2.2.2.2.2.2.1, Y.2.2.2.2.2.2.2.2.2.2.2.1, Y.2.2.2.2.2.2.2.2.2.2.2.2.1, Y.2.2.2.2.2.2.2.2.2.2.2.2.2.1, Y.2.2.2.2.2.2.2.2.2.2.2.2.2.2)))) else (if ((0) : Int32) ≤ 0 then (bI (g_X1_hold (Y.1, Y.2.1, Y.2.2.1, Y.2.2.2.1, Y.2.2.2.2.1, Y.2.2.2.2.2.1, Y.2.2.2.2.2.2.1, Y.2.2.2.2.2.2.2.1, 0, Y.2.2.2.2.2.2.2.2.2.1, Y.2.2.2.2.2.2.2.2.2.2.1, Y.2.2.2.2.2.2.2.2.2.2.2.1, Y.2.2.2.2.2.2.2.2.2.2.2.2.1, Y.2.2.2.2.2.2.2.2.2.2.2.2.2.1, Y.2.2.2.2.2.2.2.2.2.2.2.2.2.2) (a3)) (fun v48 Y48 => if ((v48) : Int32) = 0 then (bI (g_X1_told Y48 (3) (0) (0) (0)) (fun v59 Y59 => some (.inl (some (.int (v59))), Y59))) else (bI (g_X1_lieIn Y48 (a3)) (fun v65 Y65 => if vpb (a1) 10 then (if (((Y65.2.2.2.2.1) ((a1) : Int32).toNatClampNeg) : Int32) = ((a3) : Int32) then (if (((v65) - (1)) : Int32) < ((3) : Int32) then (if vpb (a1) 10 then (if vpb (a1) 10 then (bV (g_X1_leave (Y65.1, Y65.2.1, Y65.2.2.1, Y65.2.2.2.1, upd (Y65.2.2.2.2.1) ((a1) : Int32).toNatClampNeg (a3), upd (Y65.2.2.2.2.2.1) ((a1) : Int32).toNatClampNeg (a2), Y65.2.2.2.2.2.2.1, Y65.2.2.2.2.2.2.2.1, Y65.2.2.2.2.2.2.2.2.1, Y65.2.2.2.2.2.2.2.2.2.1, Y65.2.2.2.2.2.2.2.2.2.2.1, Y65.2.2.2.2.2.2.2.2.2.2.2.1, Y65.2.2.2.2.2.2.2.2.2.2.2.2.1, Y65.2.2.2.2.2.2.2.2.2.2.2.2.2.1, Y65.2.2.2.2.2.2.2.2.2.2.2.2.2.2) (1)) (fun Y119 => bI (g_X1_lieIn Y119 (a3)) (fun v124 Y124 => some (.inl (some (.int (v124))), Y124)))) else none) else none) else (bI (g_X1_fail Y65 (3)) (fun v90 Y90 => bI (g_X1_told Y90 (0) (0) (4) (0)) (fun v99 Y99 => some (.inl (some (.int (v99))), Y99))))) else (if (((v65) - (0)) : Int32) < ((3) : Int32) then (if vpb (a1) 10 then (if vpb (a1) 10 then (bV (g_X1_leave (Y65.1, Y65.2.1, Y65.2.2.1, Y65.2.2.2.1, upd (Y65.2.2.2.2.1) ((a1) : Int32).toNatClampNeg (a3), upd (Y65.2.2.2.2.2.1) ((a1) : Int32).toNatClampNeg (a2), Y65.2.2.2.2.2.2.1, Y65.2.2.2.2.2.2.2.1, Y65.2.2.2.2.2.2.2.2.1, Y65.2.2.2.2.2.2.2.2.2.1, Y65.2.2.2.2.2.2.2.2.2.2.1, Y65.2.2.2.2.2.2.2.2.2.2.2.1, Y65.2.2.2.2.2.2.2.2.2.2.2.2.1, Y65.2.2.2.2.2.2.2.2.2.2.2.2.2.1, Y65.2.2.2.2.2.2.2.2.2.2.2.2.2.2) (1)) (fun Y119 => bI (g_X1_lieIn Y119 (a3)) (fun v124 Y124 => some (.inl (some (.int (v124))), Y124)))) else none) else none) else (bI (g_X1_fail Y65 (3)) (fun v90 Y90 => bI (g_X1_told Y90 (0) (0) (4) (0)) (fun v99 Y99 => some (.inl (some (.int (v99))), Y99)))))) else none)))) else (some (.inl (some (.int (0))), (Y.1, Y.2.1, Y.2.2.1, Y.2.2.2.1, Y.2.2.2.2.1, Y.2.2.2.2.2.1, Y.2.2.2.2.2.2.1, Y.2.2.2.2.2.2.2.1, 0, Y.2.2.2.2.2.2.2.2.2.1, Y.2.2.2.2.2.2.2.2.2.2.1, Y.2.2.2.2.2.2.2.2.2.2.2.1, Y.2.2.2.2.2.2.2.2.2.2.2.2.1, Y.2.2.2.2.2.2.2.2.2.2.2.2.2.1, Y.2.2.2.2.2.2.2.2.2.2.2.2.2.2)))))))))
set_option maxRecDepth 100000 in
set_option maxHeartbeats 4000000 in
theorem F_X1_boat {S : Nat × (Nat → Int32)} {Z : cS} {T : mH} {Y R9 : rS} {o9 : mO} {a1 a2 a3 : Int32} (h : g_X1_boat Y a1 a2 a3 = some (o9, R9)) : mF S MX1_boat 0 (mEnt [.ref 8, .int a1, .int a2, .int a3] 4) [] (xw Z (yw Y T)) 0 0 (o9, (xw Z (yw R9 T)), 0, 0) := by
  unfold g_X1_boat at h
  refine mr_aload_n (pc := 0) (x := 8) rfl rfl ?_
  refine mr_iload_n (pc := 1) (x := a1) rfl rfl ?_
  rcases cI_inv h with ⟨v2, hc2, h⟩ | ⟨E2, hc2, hr⟩
  · refine mr_ret (mRunS (pc := 2) (As := [.int (a1)]) (rest := [.ref 8]) rfl lkRX1_80 rfl (Nat.le_of_ble_eq_true rfl) (Nat.le_of_ble_eq_true rfl) (F_X1_isBoat hc2)) rfl (Nat.le_of_ble_eq_true rfl) (Nat.le_of_ble_eq_true rfl) ?_
    refine mr_if_eq (pc := 5) 15 rfl (by decide) (fun c5 => ?_) (fun c5 => ?_)
    · have h := (if_pos c5).symm.trans h
      refine mr_iconst (pc := 15) (v := 1) rfl (by decide) ?_
      refine mr_goto (pc := 16) 34 rfl (by decide) ?_
      refine ms_putfield (pc := 34) (h' := (xw Z (yw (Y.1, Y.2.1, Y.2.2.1, Y.2.2.2.1, Y.2.2.2.2.1, Y.2.2.2.2.2.1, Y.2.2.2.2.2.2.1, Y.2.2.2.2.2.2.2.1, 1, Y.2.2.2.2.2.2.2.2.2.1, Y.2.2.2.2.2.2.2.2.2.2.1, Y.2.2.2.2.2.2.2.2.2.2.2.1, Y.2.2.2.2.2.2.2.2.2.2.2.2.1, Y.2.2.2.2.2.2.2.2.2.2.2.2.2.1, Y.2.2.2.2.2.2.2.2.2.2.2.2.2.2) T))) rfl lfRX1_38 rfl (Nat.le_of_ble_eq_true rfl) (by intro q hq; cases hq; rfl) rfl ?_
      refine mr_aload_n (pc := 37) (x := 8) rfl rfl ?_
      refine mr_getfield (pc := 38) (v := .int (1)) rfl lfRX1_38 rfl rfl ?_
      refine mr_if_le (pc := 41) 46 rfl (by decide) (fun c41 => ?_) (fun c41 => ?_)
      · have h := (if_pos c41).symm.trans h
        refine mr_aload_n (pc := 46) (x := 8) rfl rfl ?_
        refine mr_iload_n (pc := 47) (x := a3) rfl rfl ?_
        rcases bI_inv h with ⟨v48, Y48, hc48, h⟩ | ⟨E48, Y48, hc48, hr⟩
        · refine mr_ret (mRunV (pc := 48) (q := 8) (As := [.int (a3)]) (rest := []) rfl lkRX1_65 rfl rfl rfl (Nat.le_of_ble_eq_true rfl) (Nat.le_of_ble_eq_true rfl) (F_X1_hold hc48)) rfl (Nat.le_of_ble_eq_true rfl) (Nat.le_of_ble_eq_true rfl) ?_
          refine mr_if_ne (pc := 51) 63 rfl (by decide) (fun c51 => ?_) (fun c51 => ?_)
          · have h := (if_neg c51).symm.trans h
            refine mr_aload_n (pc := 63) (x := 8) rfl rfl ?_
            refine mr_iload_n (pc := 64) (x := a3) rfl rfl ?_
            rcases bI_inv h with ⟨v65, Y65, hc65, h⟩ | ⟨E65, Y65, hc65, hr⟩
            · refine mr_ret (mRunV (pc := 65) (q := 8) (As := [.int (a3)]) (rest := []) rfl lkRX1_83 rfl rfl rfl (Nat.le_of_ble_eq_true rfl) (Nat.le_of_ble_eq_true rfl) (F_X1_lieIn hc65)) rfl (Nat.le_of_ble_eq_true rfl) (Nat.le_of_ble_eq_true rfl) ?_
              refine mr_aload_n (pc := 68) (x := 8) rfl rfl ?_
              refine mr_getfield (pc := 69) (v := .ref 13) rfl lfRX1_23 rfl rfl ?_
              refine mr_iload_n (pc := 72) (x := a1) rfl rfl ?_
              obtain ⟨g73, h⟩ := m_gd h
              refine mr_iaload (pc := 73) (f := Y65.2.2.2.2.1) rfl rfl (vpb_in g73) ?_
              refine mr_iload_n (pc := 74) (x := a3) rfl rfl ?_
              refine mr_icmp_ne (pc := 75) 82 rfl (by decide) (fun c75 => ?_) (fun c75 => ?_)
              · have h := (if_neg c75).symm.trans h
                refine mr_iconst (pc := 82) (v := 0) rfl (by decide) ?_
                refine mr_isub (pc := 83) rfl ?_
                refine mr_iconst (pc := 84) (v := 3) rfl (by decide) ?_
                refine mr_icmp_lt (pc := 85) 103 rfl (by decide) (fun c85 => ?_) (fun c85 => ?_)
                · have h := (if_pos c85).symm.trans h
                  refine mr_aload_n (pc := 103) (x := 8) rfl rfl ?_
                  refine mr_getfield (pc := 104) (v := .ref 14) rfl lfRX1_26 rfl rfl ?_
                  refine mr_iload_n (pc := 107) (x := a1) rfl rfl ?_
                  refine mr_iload_n (pc := 108) (x := a2) rfl rfl ?_
                  obtain ⟨g109, h⟩ := m_gd h
                  refine ms_iastore (pc := 109) (f := Y65.2.2.2.2.2.1) (h' := (xw Z (yw (Y65.1, Y65.2.1, Y65.2.2.1, Y65.2.2.2.1, Y65.2.2.2.2.1, upd (Y65.2.2.2.2.2.1) ((a1) : Int32).toNatClampNeg (a2), Y65.2.2.2.2.2.2.1, Y65.2.2.2.2.2.2.2.1, Y65.2.2.2.2.2.2.2.2.1, Y65.2.2.2.2.2.2.2.2.2.1, Y65.2.2.2.2.2.2.2.2.2.2.1, Y65.2.2.2.2.2.2.2.2.2.2.2.1, Y65.2.2.2.2.2.2.2.2.2.2.2.2.1, Y65.2.2.2.2.2.2.2.2.2.2.2.2.2.1, Y65.2.2.2.2.2.2.2.2.2.2.2.2.2.2) T))) rfl rfl g109 rfl ?_
                  refine mr_aload_n (pc := 110) (x := 8) rfl rfl ?_
                  refine mr_getfield (pc := 111) (v := .ref 13) rfl lfRX1_23 rfl rfl ?_
                  refine mr_iload_n (pc := 114) (x := a1) rfl rfl ?_
                  refine mr_iload_n (pc := 115) (x := a3) rfl rfl ?_
                  obtain ⟨g116, h⟩ := m_gd h
                  refine ms_iastore (pc := 116) (f := Y65.2.2.2.2.1) (h' := (xw Z (yw (Y65.1, Y65.2.1, Y65.2.2.1, Y65.2.2.2.1, upd (Y65.2.2.2.2.1) ((a1) : Int32).toNatClampNeg (a3), upd (Y65.2.2.2.2.2.1) ((a1) : Int32).toNatClampNeg (a2), Y65.2.2.2.2.2.2.1, Y65.2.2.2.2.2.2.2.1, Y65.2.2.2.2.2.2.2.2.1, Y65.2.2.2.2.2.2.2.2.2.1, Y65.2.2.2.2.2.2.2.2.2.2.1, Y65.2.2.2.2.2.2.2.2.2.2.2.1, Y65.2.2.2.2.2.2.2.2.2.2.2.2.1, Y65.2.2.2.2.2.2.2.2.2.2.2.2.2.1, Y65.2.2.2.2.2.2.2.2.2.2.2.2.2.2) T))) rfl rfl g116 rfl ?_
                  refine mr_aload_n (pc := 117) (x := 8) rfl rfl ?_
                  refine mr_iconst (pc := 118) (v := 1) rfl (by decide) ?_
                  rcases bV_inv h with ⟨Y119, hc119, h⟩ | ⟨E119, Y119, hc119, hr⟩
                  · refine mr_ret (mRunV (pc := 119) (q := 8) (As := [.int (1)]) (rest := []) rfl lkRX1_72 rfl rfl rfl (Nat.le_of_ble_eq_true rfl) (Nat.le_of_ble_eq_true rfl) (F_X1_leave hc119)) rfl (Nat.le_of_ble_eq_true rfl) (Nat.le_of_ble_eq_true rfl) ?_
                    refine mr_aload_n (pc := 122) (x := 8) rfl rfl ?_
                    refine mr_iload_n (pc := 123) (x := a3) rfl rfl ?_
                    rcases bI_inv h with ⟨v124, Y124, hc124, h⟩ | ⟨E124, Y124, hc124, hr⟩
                    · refine mr_ret (mRunV (pc := 124) (q := 8) (As := [.int (a3)]) (rest := []) rfl lkRX1_83 rfl rfl rfl (Nat.le_of_ble_eq_true rfl) (Nat.le_of_ble_eq_true rfl) (F_X1_lieIn hc124)) rfl (Nat.le_of_ble_eq_true rfl) (Nat.le_of_ble_eq_true rfl) ?_
                      cases h; exact mr_ireturn (pc := 127) rfl rfl (Nat.le_of_ble_eq_true rfl) (Nat.le_of_ble_eq_true rfl)
                    · cases hr; exact mr_thrown (mRunV (pc := 124) (q := 8) (As := [.int (a3)]) (rest := []) rfl lkRX1_83 rfl rfl rfl (Nat.le_of_ble_eq_true rfl) (Nat.le_of_ble_eq_true rfl) (F_X1_lieIn hc124)) rfl rfl (Nat.le_of_ble_eq_true rfl) (Nat.le_of_ble_eq_true rfl)
                  · cases hr; exact mr_thrown (mRunV (pc := 119) (q := 8) (As := [.int (1)]) (rest := []) rfl lkRX1_72 rfl rfl rfl (Nat.le_of_ble_eq_true rfl) (Nat.le_of_ble_eq_true rfl) (F_X1_leave hc119)) rfl rfl (Nat.le_of_ble_eq_true rfl) (Nat.le_of_ble_eq_true rfl)
                · have h := (if_neg c85).symm.trans h
                  refine mr_aload_n (pc := 88) (x := 8) rfl rfl ?_
                  refine mr_iconst (pc := 89) (v := 3) rfl (by decide) ?_
                  rcases bI_inv h with ⟨v90, Y90, hc90, h⟩ | ⟨E90, Y90, hc90, hr⟩
                  · refine mr_ret (mRunV (pc := 90) (q := 8) (As := [.int (3)]) (rest := []) rfl lkRX1_58 rfl rfl rfl (Nat.le_of_ble_eq_true rfl) (Nat.le_of_ble_eq_true rfl) (F_X1_fail hc90)) rfl (Nat.le_of_ble_eq_true rfl) (Nat.le_of_ble_eq_true rfl) ?_
                    refine mr_pop (pc := 93) rfl rfl ?_
                    refine mr_aload_n (pc := 94) (x := 8) rfl rfl ?_
                    refine mr_iconst (pc := 95) (v := 0) rfl (by decide) ?_
                    refine mr_iconst (pc := 96) (v := 0) rfl (by decide) ?_
                    refine mr_iconst (pc := 97) (v := 4) rfl (by decide) ?_
                    refine mr_iconst (pc := 98) (v := 0) rfl (by decide) ?_
                    rcases bI_inv h with ⟨v99, Y99, hc99, h⟩ | ⟨E99, Y99, hc99, hr⟩
                    · refine mr_ret (mRunV (pc := 99) (q := 8) (As := [.int (0), .int (0), .int (4), .int (0)]) (rest := []) rfl lkRX1_68 rfl rfl rfl (Nat.le_of_ble_eq_true rfl) (Nat.le_of_ble_eq_true rfl) (F_X1_told hc99)) rfl (Nat.le_of_ble_eq_true rfl) (Nat.le_of_ble_eq_true rfl) ?_
                      cases h; exact mr_ireturn (pc := 102) rfl rfl (Nat.le_of_ble_eq_true rfl) (Nat.le_of_ble_eq_true rfl)
                    · cases hr; exact mr_thrown (mRunV (pc := 99) (q := 8) (As := [.int (0), .int (0), .int (4), .int (0)]) (rest := []) rfl lkRX1_68 rfl rfl rfl (Nat.le_of_ble_eq_true rfl) (Nat.le_of_ble_eq_true rfl) (F_X1_told hc99)) rfl rfl (Nat.le_of_ble_eq_true rfl) (Nat.le_of_ble_eq_true rfl)
                  · cases hr; exact mr_thrown (mRunV (pc := 90) (q := 8) (As := [.int (3)]) (rest := []) rfl lkRX1_58 rfl rfl rfl (Nat.le_of_ble_eq_true rfl) (Nat.le_of_ble_eq_true rfl) (F_X1_fail hc90)) rfl rfl (Nat.le_of_ble_eq_true rfl) (Nat.le_of_ble_eq_true rfl)
              · have h := (if_pos c75).symm.trans h
                refine mr_iconst (pc := 78) (v := 1) rfl (by decide) ?_
                refine mr_goto (pc := 79) 83 rfl (by decide) ?_
                refine mr_isub (pc := 83) rfl ?_
                refine mr_iconst (pc := 84) (v := 3) rfl (by decide) ?_
                refine mr_icmp_lt (pc := 85) 103 rfl (by decide) (fun c85 => ?_) (fun c85 => ?_)
                · have h := (if_pos c85).symm.trans h
                  refine mr_aload_n (pc := 103) (x := 8) rfl rfl ?_
                  refine mr_getfield (pc := 104) (v := .ref 14) rfl lfRX1_26 rfl rfl ?_
                  refine mr_iload_n (pc := 107) (x := a1) rfl rfl ?_
                  refine mr_iload_n (pc := 108) (x := a2) rfl rfl ?_
                  obtain ⟨g109, h⟩ := m_gd h
                  refine ms_iastore (pc := 109) (f := Y65.2.2.2.2.2.1) (h' := (xw Z (yw (Y65.1, Y65.2.1, Y65.2.2.1, Y65.2.2.2.1, Y65.2.2.2.2.1, upd (Y65.2.2.2.2.2.1) ((a1) : Int32).toNatClampNeg (a2), Y65.2.2.2.2.2.2.1, Y65.2.2.2.2.2.2.2.1, Y65.2.2.2.2.2.2.2.2.1, Y65.2.2.2.2.2.2.2.2.2.1, Y65.2.2.2.2.2.2.2.2.2.2.1, Y65.2.2.2.2.2.2.2.2.2.2.2.1, Y65.2.2.2.2.2.2.2.2.2.2.2.2.1, Y65.2.2.2.2.2.2.2.2.2.2.2.2.2.1, Y65.2.2.2.2.2.2.2.2.2.2.2.2.2.2) T))) rfl rfl g109 rfl ?_
                  refine mr_aload_n (pc := 110) (x := 8) rfl rfl ?_
                  refine mr_getfield (pc := 111) (v := .ref 13) rfl lfRX1_23 rfl rfl ?_
                  refine mr_iload_n (pc := 114) (x := a1) rfl rfl ?_
                  refine mr_iload_n (pc := 115) (x := a3) rfl rfl ?_
                  obtain ⟨g116, h⟩ := m_gd h
                  refine ms_iastore (pc := 116) (f := Y65.2.2.2.2.1) (h' := (xw Z (yw (Y65.1, Y65.2.1, Y65.2.2.1, Y65.2.2.2.1, upd (Y65.2.2.2.2.1) ((a1) : Int32).toNatClampNeg (a3), upd (Y65.2.2.2.2.2.1) ((a1) : Int32).toNatClampNeg (a2), Y65.2.2.2.2.2.2.1, Y65.2.2.2.2.2.2.2.1, Y65.2.2.2.2.2.2.2.2.1, Y65.2.2.2.2.2.2.2.2.2.1, Y65.2.2.2.2.2.2.2.2.2.2.1, Y65.2.2.2.2.2.2.2.2.2.2.2.1, Y65.2.2.2.2.2.2.2.2.2.2.2.2.1, Y65.2.2.2.2.2.2.2.2.2.2.2.2.2.1, Y65.2.2.2.2.2.2.2.2.2.2.2.2.2.2) T))) rfl rfl g116 rfl ?_
                  refine mr_aload_n (pc := 117) (x := 8) rfl rfl ?_
                  refine mr_iconst (pc := 118) (v := 1) rfl (by decide) ?_
                  rcases bV_inv h with ⟨Y119, hc119, h⟩ | ⟨E119, Y119, hc119, hr⟩
                  · refine mr_ret (mRunV (pc := 119) (q := 8) (As := [.int (1)]) (rest := []) rfl lkRX1_72 rfl rfl rfl (Nat.le_of_ble_eq_true rfl) (Nat.le_of_ble_eq_true rfl) (F_X1_leave hc119)) rfl (Nat.le_of_ble_eq_true rfl) (Nat.le_of_ble_eq_true rfl) ?_
                    refine mr_aload_n (pc := 122) (x := 8) rfl rfl ?_
                    refine mr_iload_n (pc := 123) (x := a3) rfl rfl ?_
                    rcases bI_inv h with ⟨v124, Y124, hc124, h⟩ | ⟨E124, Y124, hc124, hr⟩
                    · refine mr_ret (mRunV (pc := 124) (q := 8) (As := [.int (a3)]) (rest := []) rfl lkRX1_83 rfl rfl rfl (Nat.le_of_ble_eq_true rfl) (Nat.le_of_ble_eq_true rfl) (F_X1_lieIn hc124)) rfl (Nat.le_of_ble_eq_true rfl) (Nat.le_of_ble_eq_true rfl) ?_
                      cases h; exact mr_ireturn (pc := 127) rfl rfl (Nat.le_of_ble_eq_true rfl) (Nat.le_of_ble_eq_true rfl)
                    · cases hr; exact mr_thrown (mRunV (pc := 124) (q := 8) (As := [.int (a3)]) (rest := []) rfl lkRX1_83 rfl rfl rfl (Nat.le_of_ble_eq_true rfl) (Nat.le_of_ble_eq_true rfl) (F_X1_lieIn hc124)) rfl rfl (Nat.le_of_ble_eq_true rfl) (Nat.le_of_ble_eq_true rfl)
                  · cases hr; exact mr_thrown (mRunV (pc := 119) (q := 8) (As := [.int (1)]) (rest := []) rfl lkRX1_72 rfl rfl rfl (Nat.le_of_ble_eq_true rfl) (Nat.le_of_ble_eq_true rfl) (F_X1_leave hc119)) rfl rfl (Nat.le_of_ble_eq_true rfl) (Nat.le_of_ble_eq_true rfl)
                · have h := (if_neg c85).symm.trans h
                  refine mr_aload_n (pc := 88) (x := 8) rfl rfl ?_
                  refine mr_iconst (pc := 89) (v := 3) rfl (by decide) ?_
                  rcases bI_inv h with ⟨v90, Y90, hc90, h⟩ | ⟨E90, Y90, hc90, hr⟩
                  · refine mr_ret (mRunV (pc := 90) (q := 8) (As := [.int (3)]) (rest := []) rfl lkRX1_58 rfl rfl rfl (Nat.le_of_ble_eq_true rfl) (Nat.le_of_ble_eq_true rfl) (F_X1_fail hc90)) rfl (Nat.le_of_ble_eq_true rfl) (Nat.le_of_ble_eq_true rfl) ?_
                    refine mr_pop (pc := 93) rfl rfl ?_
                    refine mr_aload_n (pc := 94) (x := 8) rfl rfl ?_
                    refine mr_iconst (pc := 95) (v := 0) rfl (by decide) ?_
                    refine mr_iconst (pc := 96) (v := 0) rfl (by decide) ?_
                    refine mr_iconst (pc := 97) (v := 4) rfl (by decide) ?_
                    refine mr_iconst (pc := 98) (v := 0) rfl (by decide) ?_
                    rcases bI_inv h with ⟨v99, Y99, hc99, h⟩ | ⟨E99, Y99, hc99, hr⟩
                    · refine mr_ret (mRunV (pc := 99) (q := 8) (As := [.int (0), .int (0), .int (4), .int (0)]) (rest := []) rfl lkRX1_68 rfl rfl rfl (Nat.le_of_ble_eq_true rfl) (Nat.le_of_ble_eq_true rfl) (F_X1_told hc99)) rfl (Nat.le_of_ble_eq_true rfl) (Nat.le_of_ble_eq_true rfl) ?_
                      cases h; exact mr_ireturn (pc := 102) rfl rfl (Nat.le_of_ble_eq_true rfl) (Nat.le_of_ble_eq_true rfl)
                    · cases hr; exact mr_thrown (mRunV (pc := 99) (q := 8) (As := [.int (0), .int (0), .int (4), .int (0)]) (rest := []) rfl lkRX1_68 rfl rfl rfl (Nat.le_of_ble_eq_true rfl) (Nat.le_of_ble_eq_true rfl) (F_X1_told hc99)) rfl rfl (Nat.le_of_ble_eq_true rfl) (Nat.le_of_ble_eq_true rfl)
                  · cases hr; exact mr_thrown (mRunV (pc := 90) (q := 8) (As := [.int (3)]) (rest := []) rfl lkRX1_58 rfl rfl rfl (Nat.le_of_ble_eq_true rfl) (Nat.le_of_ble_eq_true rfl) (F_X1_fail hc90)) rfl rfl (Nat.le_of_ble_eq_true rfl) (Nat.le_of_ble_eq_true rfl)
            · cases hr; exact mr_thrown (mRunV (pc := 65) (q := 8) (As := [.int (a3)]) (rest := []) rfl lkRX1_83 rfl rfl rfl (Nat.le_of_ble_eq_true rfl) (Nat.le_of_ble_eq_true rfl) (F_X1_lieIn hc65)) rfl rfl (Nat.le_of_ble_eq_true rfl) (Nat.le_of_ble_eq_true rfl)
          · have h := (if_pos c51).symm.trans h
            refine mr_aload_n (pc := 54) (x := 8) rfl rfl ?_
            refine mr_iconst (pc := 55) (v := 3) rfl (by decide) ?_
            refine mr_iconst (pc := 56) (v := 0) rfl (by decide) ?_
            refine mr_iconst (pc := 57) (v := 0) rfl (by decide) ?_
            refine mr_iconst (pc := 58) (v := 0) rfl (by decide) ?_
            rcases bI_inv h with ⟨v59, Y59, hc59, h⟩ | ⟨E59, Y59, hc59, hr⟩
            · refine mr_ret (mRunV (pc := 59) (q := 8) (As := [.int (3), .int (0), .int (0), .int (0)]) (rest := []) rfl lkRX1_68 rfl rfl rfl (Nat.le_of_ble_eq_true rfl) (Nat.le_of_ble_eq_true rfl) (F_X1_told hc59)) rfl (Nat.le_of_ble_eq_true rfl) (Nat.le_of_ble_eq_true rfl) ?_
              cases h; exact mr_ireturn (pc := 62) rfl rfl (Nat.le_of_ble_eq_true rfl) (Nat.le_of_ble_eq_true rfl)
            · cases hr; exact mr_thrown (mRunV (pc := 59) (q := 8) (As := [.int (3), .int (0), .int (0), .int (0)]) (rest := []) rfl lkRX1_68 rfl rfl rfl (Nat.le_of_ble_eq_true rfl) (Nat.le_of_ble_eq_true rfl) (F_X1_told hc59)) rfl rfl (Nat.le_of_ble_eq_true rfl) (Nat.le_of_ble_eq_true rfl)
        · cases hr; exact mr_thrown (mRunV (pc := 48) (q := 8) (As := [.int (a3)]) (rest := []) rfl lkRX1_65 rfl rfl rfl (Nat.le_of_ble_eq_true rfl) (Nat.le_of_ble_eq_true rfl) (F_X1_hold hc48)) rfl rfl (Nat.le_of_ble_eq_true rfl) (Nat.le_of_ble_eq_true rfl)
      · have h := (if_neg c41).symm.trans h
        refine mr_iconst (pc := 44) (v := 0) rfl (by decide) ?_
        cases h; exact mr_ireturn (pc := 45) rfl rfl (Nat.le_of_ble_eq_true rfl) (Nat.le_of_ble_eq_true rfl)
    · have h := (if_neg c5).symm.trans h
      refine mr_iload_n (pc := 8) (x := a3) rfl rfl ?_
      rcases cI_inv h with ⟨v9, hc9, h⟩ | ⟨E9, hc9, hr⟩
      · refine mr_ret (mRunS (pc := 9) (As := [.int (a3)]) (rest := [.ref 8]) rfl lkRX1_62 rfl (Nat.le_of_ble_eq_true rfl) (Nat.le_of_ble_eq_true rfl) (F_X1_isPool hc9)) rfl (Nat.le_of_ble_eq_true rfl) (Nat.le_of_ble_eq_true rfl) ?_
        refine mr_if_ne (pc := 12) 19 rfl (by decide) (fun c12 => ?_) (fun c12 => ?_)
        · have h := (if_neg c12).symm.trans h
          refine mr_iload_n (pc := 19) (x := a2) rfl rfl ?_
          refine mr_iconst (pc := 20) (v := 1) rfl (by decide) ?_
          refine mr_bipush (pc := 21) (v := 99) rfl (by decide) ?_
          rcases cI_inv h with ⟨v23, hc23, h⟩ | ⟨E23, hc23, hr⟩
          · refine mr_ret (mRunS (pc := 23) (As := [.int (a2), .int (1), .int (99)]) (rest := [.ref 8]) rfl lkRX1_54 rfl (Nat.le_of_ble_eq_true rfl) (Nat.le_of_ble_eq_true rfl) (F_X1_in hc23)) rfl (Nat.le_of_ble_eq_true rfl) (Nat.le_of_ble_eq_true rfl) ?_
            refine mr_if_ne (pc := 26) 33 rfl (by decide) (fun c26 => ?_) (fun c26 => ?_)
            · have h := (if_neg c26).symm.trans h
              refine mr_iconst (pc := 33) (v := 0) rfl (by decide) ?_
              refine ms_putfield (pc := 34) (h' := (xw Z (yw (Y.1, Y.2.1, Y.2.2.1, Y.2.2.2.1, Y.2.2.2.2.1, Y.2.2.2.2.2.1, Y.2.2.2.2.2.2.1, Y.2.2.2.2.2.2.2.1, 0, Y.2.2.2.2.2.2.2.2.2.1, Y.2.2.2.2.2.2.2.2.2.2.1, Y.2.2.2.2.2.2.2.2.2.2.2.1, Y.2.2.2.2.2.2.2.2.2.2.2.2.1, Y.2.2.2.2.2.2.2.2.2.2.2.2.2.1, Y.2.2.2.2.2.2.2.2.2.2.2.2.2.2) T))) rfl lfRX1_38 rfl (Nat.le_of_ble_eq_true rfl) (by intro q hq; cases hq; rfl) rfl ?_
              refine mr_aload_n (pc := 37) (x := 8) rfl rfl ?_
              refine mr_getfield (pc := 38) (v := .int (0)) rfl lfRX1_38 rfl rfl ?_
              refine mr_if_le (pc := 41) 46 rfl (by decide) (fun c41 => ?_) (fun c41 => ?_)
              · have h := (if_pos c41).symm.trans h
                refine mr_aload_n (pc := 46) (x := 8) rfl rfl ?_
                refine mr_iload_n (pc := 47) (x := a3) rfl rfl ?_
                rcases bI_inv h with ⟨v48, Y48, hc48, h⟩ | ⟨E48, Y48, hc48, hr⟩
                · refine mr_ret (mRunV (pc := 48) (q := 8) (As := [.int (a3)]) (rest := []) rfl lkRX1_65 rfl rfl rfl (Nat.le_of_ble_eq_true rfl) (Nat.le_of_ble_eq_true rfl) (F_X1_hold hc48)) rfl (Nat.le_of_ble_eq_true rfl) (Nat.le_of_ble_eq_true rfl) ?_
                  refine mr_if_ne (pc := 51) 63 rfl (by decide) (fun c51 => ?_) (fun c51 => ?_)
                  · have h := (if_neg c51).symm.trans h
                    refine mr_aload_n (pc := 63) (x := 8) rfl rfl ?_
                    refine mr_iload_n (pc := 64) (x := a3) rfl rfl ?_
                    rcases bI_inv h with ⟨v65, Y65, hc65, h⟩ | ⟨E65, Y65, hc65, hr⟩
                    · refine mr_ret (mRunV (pc := 65) (q := 8) (As := [.int (a3)]) (rest := []) rfl lkRX1_83 rfl rfl rfl (Nat.le_of_ble_eq_true rfl) (Nat.le_of_ble_eq_true rfl) (F_X1_lieIn hc65)) rfl (Nat.le_of_ble_eq_true rfl) (Nat.le_of_ble_eq_true rfl) ?_
                      refine mr_aload_n (pc := 68) (x := 8) rfl rfl ?_
                      refine mr_getfield (pc := 69) (v := .ref 13) rfl lfRX1_23 rfl rfl ?_
                      refine mr_iload_n (pc := 72) (x := a1) rfl rfl ?_
                      obtain ⟨g73, h⟩ := m_gd h
                      refine mr_iaload (pc := 73) (f := Y65.2.2.2.2.1) rfl rfl (vpb_in g73) ?_
                      refine mr_iload_n (pc := 74) (x := a3) rfl rfl ?_
                      refine mr_icmp_ne (pc := 75) 82 rfl (by decide) (fun c75 => ?_) (fun c75 => ?_)
                      · have h := (if_neg c75).symm.trans h
                        refine mr_iconst (pc := 82) (v := 0) rfl (by decide) ?_
                        refine mr_isub (pc := 83) rfl ?_
                        refine mr_iconst (pc := 84) (v := 3) rfl (by decide) ?_
                        refine mr_icmp_lt (pc := 85) 103 rfl (by decide) (fun c85 => ?_) (fun c85 => ?_)
                        · have h := (if_pos c85).symm.trans h
                          refine mr_aload_n (pc := 103) (x := 8) rfl rfl ?_
                          refine mr_getfield (pc := 104) (v := .ref 14) rfl lfRX1_26 rfl rfl ?_
                          refine mr_iload_n (pc := 107) (x := a1) rfl rfl ?_
                          refine mr_iload_n (pc := 108) (x := a2) rfl rfl ?_
                          obtain ⟨g109, h⟩ := m_gd h
                          refine ms_iastore (pc := 109) (f := Y65.2.2.2.2.2.1) (h' := (xw Z (yw (Y65.1, Y65.2.1, Y65.2.2.1, Y65.2.2.2.1, Y65.2.2.2.2.1, upd (Y65.2.2.2.2.2.1) ((a1) : Int32).toNatClampNeg (a2), Y65.2.2.2.2.2.2.1, Y65.2.2.2.2.2.2.2.1, Y65.2.2.2.2.2.2.2.2.1, Y65.2.2.2.2.2.2.2.2.2.1, Y65.2.2.2.2.2.2.2.2.2.2.1, Y65.2.2.2.2.2.2.2.2.2.2.2.1, Y65.2.2.2.2.2.2.2.2.2.2.2.2.1, Y65.2.2.2.2.2.2.2.2.2.2.2.2.2.1, Y65.2.2.2.2.2.2.2.2.2.2.2.2.2.2) T))) rfl rfl g109 rfl ?_
                          refine mr_aload_n (pc := 110) (x := 8) rfl rfl ?_
                          refine mr_getfield (pc := 111) (v := .ref 13) rfl lfRX1_23 rfl rfl ?_
                          refine mr_iload_n (pc := 114) (x := a1) rfl rfl ?_
                          refine mr_iload_n (pc := 115) (x := a3) rfl rfl ?_
                          obtain ⟨g116, h⟩ := m_gd h
                          refine ms_iastore (pc := 116) (f := Y65.2.2.2.2.1) (h' := (xw Z (yw (Y65.1, Y65.2.1, Y65.2.2.1, Y65.2.2.2.1, upd (Y65.2.2.2.2.1) ((a1) : Int32).toNatClampNeg (a3), upd (Y65.2.2.2.2.2.1) ((a1) : Int32).toNatClampNeg (a2), Y65.2.2.2.2.2.2.1, Y65.2.2.2.2.2.2.2.1, Y65.2.2.2.2.2.2.2.2.1, Y65.2.2.2.2.2.2.2.2.2.1, Y65.2.2.2.2.2.2.2.2.2.2.1, Y65.2.2.2.2.2.2.2.2.2.2.2.1, Y65.2.2.2.2.2.2.2.2.2.2.2.2.1, Y65.2.2.2.2.2.2.2.2.2.2.2.2.2.1, Y65.2.2.2.2.2.2.2.2.2.2.2.2.2.2) T))) rfl rfl g116 rfl ?_
                          refine mr_aload_n (pc := 117) (x := 8) rfl rfl ?_
                          refine mr_iconst (pc := 118) (v := 1) rfl (by decide) ?_
                          rcases bV_inv h with ⟨Y119, hc119, h⟩ | ⟨E119, Y119, hc119, hr⟩
                          · refine mr_ret (mRunV (pc := 119) (q := 8) (As := [.int (1)]) (rest := []) rfl lkRX1_72 rfl rfl rfl (Nat.le_of_ble_eq_true rfl) (Nat.le_of_ble_eq_true rfl) (F_X1_leave hc119)) rfl (Nat.le_of_ble_eq_true rfl) (Nat.le_of_ble_eq_true rfl) ?_
                            refine mr_aload_n (pc := 122) (x := 8) rfl rfl ?_
                            refine mr_iload_n (pc := 123) (x := a3) rfl rfl ?_
                            rcases bI_inv h with ⟨v124, Y124, hc124, h⟩ | ⟨E124, Y124, hc124, hr⟩
                            · refine mr_ret (mRunV (pc := 124) (q := 8) (As := [.int (a3)]) (rest := []) rfl lkRX1_83 rfl rfl rfl (Nat.le_of_ble_eq_true rfl) (Nat.le_of_ble_eq_true rfl) (F_X1_lieIn hc124)) rfl (Nat.le_of_ble_eq_true rfl) (Nat.le_of_ble_eq_true rfl) ?_
                              cases h; exact mr_ireturn (pc := 127) rfl rfl (Nat.le_of_ble_eq_true rfl) (Nat.le_of_ble_eq_true rfl)
                            · cases hr; exact mr_thrown (mRunV (pc := 124) (q := 8) (As := [.int (a3)]) (rest := []) rfl lkRX1_83 rfl rfl rfl (Nat.le_of_ble_eq_true rfl) (Nat.le_of_ble_eq_true rfl) (F_X1_lieIn hc124)) rfl rfl (Nat.le_of_ble_eq_true rfl) (Nat.le_of_ble_eq_true rfl)
                          · cases hr; exact mr_thrown (mRunV (pc := 119) (q := 8) (As := [.int (1)]) (rest := []) rfl lkRX1_72 rfl rfl rfl (Nat.le_of_ble_eq_true rfl) (Nat.le_of_ble_eq_true rfl) (F_X1_leave hc119)) rfl rfl (Nat.le_of_ble_eq_true rfl) (Nat.le_of_ble_eq_true rfl)
                        · have h := (if_neg c85).symm.trans h
                          refine mr_aload_n (pc := 88) (x := 8) rfl rfl ?_
                          refine mr_iconst (pc := 89) (v := 3) rfl (by decide) ?_
                          rcases bI_inv h with ⟨v90, Y90, hc90, h⟩ | ⟨E90, Y90, hc90, hr⟩
                          · refine mr_ret (mRunV (pc := 90) (q := 8) (As := [.int (3)]) (rest := []) rfl lkRX1_58 rfl rfl rfl (Nat.le_of_ble_eq_true rfl) (Nat.le_of_ble_eq_true rfl) (F_X1_fail hc90)) rfl (Nat.le_of_ble_eq_true rfl) (Nat.le_of_ble_eq_true rfl) ?_
                            refine mr_pop (pc := 93) rfl rfl ?_
                            refine mr_aload_n (pc := 94) (x := 8) rfl rfl ?_
                            refine mr_iconst (pc := 95) (v := 0) rfl (by decide) ?_
                            refine mr_iconst (pc := 96) (v := 0) rfl (by decide) ?_
                            refine mr_iconst (pc := 97) (v := 4) rfl (by decide) ?_
                            refine mr_iconst (pc := 98) (v := 0) rfl (by decide) ?_
                            rcases bI_inv h with ⟨v99, Y99, hc99, h⟩ | ⟨E99, Y99, hc99, hr⟩
                            · refine mr_ret (mRunV (pc := 99) (q := 8) (As := [.int (0), .int (0), .int (4), .int (0)]) (rest := []) rfl lkRX1_68 rfl rfl rfl (Nat.le_of_ble_eq_true rfl) (Nat.le_of_ble_eq_true rfl) (F_X1_told hc99)) rfl (Nat.le_of_ble_eq_true rfl) (Nat.le_of_ble_eq_true rfl) ?_
                              cases h; exact mr_ireturn (pc := 102) rfl rfl (Nat.le_of_ble_eq_true rfl) (Nat.le_of_ble_eq_true rfl)
                            · cases hr; exact mr_thrown (mRunV (pc := 99) (q := 8) (As := [.int (0), .int (0), .int (4), .int (0)]) (rest := []) rfl lkRX1_68 rfl rfl rfl (Nat.le_of_ble_eq_true rfl) (Nat.le_of_ble_eq_true rfl) (F_X1_told hc99)) rfl rfl (Nat.le_of_ble_eq_true rfl) (Nat.le_of_ble_eq_true rfl)
                          · cases hr; exact mr_thrown (mRunV (pc := 90) (q := 8) (As := [.int (3)]) (rest := []) rfl lkRX1_58 rfl rfl rfl (Nat.le_of_ble_eq_true rfl) (Nat.le_of_ble_eq_true rfl) (F_X1_fail hc90)) rfl rfl (Nat.le_of_ble_eq_true rfl) (Nat.le_of_ble_eq_true rfl)
                      · have h := (if_pos c75).symm.trans h
                        refine mr_iconst (pc := 78) (v := 1) rfl (by decide) ?_
                        refine mr_goto (pc := 79) 83 rfl (by decide) ?_
                        refine mr_isub (pc := 83) rfl ?_
                        refine mr_iconst (pc := 84) (v := 3) rfl (by decide) ?_
                        refine mr_icmp_lt (pc := 85) 103 rfl (by decide) (fun c85 => ?_) (fun c85 => ?_)
                        · have h := (if_pos c85).symm.trans h
                          refine mr_aload_n (pc := 103) (x := 8) rfl rfl ?_
                          refine mr_getfield (pc := 104) (v := .ref 14) rfl lfRX1_26 rfl rfl ?_
                          refine mr_iload_n (pc := 107) (x := a1) rfl rfl ?_
                          refine mr_iload_n (pc := 108) (x := a2) rfl rfl ?_
                          obtain ⟨g109, h⟩ := m_gd h
                          refine ms_iastore (pc := 109) (f := Y65.2.2.2.2.2.1) (h' := (xw Z (yw (Y65.1, Y65.2.1, Y65.2.2.1, Y65.2.2.2.1, Y65.2.2.2.2.1, upd (Y65.2.2.2.2.2.1) ((a1) : Int32).toNatClampNeg (a2), Y65.2.2.2.2.2.2.1, Y65.2.2.2.2.2.2.2.1, Y65.2.2.2.2.2.2.2.2.1, Y65.2.2.2.2.2.2.2.2.2.1, Y65.2.2.2.2.2.2.2.2.2.2.1, Y65.2.2.2.2.2.2.2.2.2.2.2.1, Y65.2.2.2.2.2.2.2.2.2.2.2.2.1, Y65.2.2.2.2.2.2.2.2.2.2.2.2.2.1, Y65.2.2.2.2.2.2.2.2.2.2.2.2.2.2) T))) rfl rfl g109 rfl ?_
                          refine mr_aload_n (pc := 110) (x := 8) rfl rfl ?_
                          refine mr_getfield (pc := 111) (v := .ref 13) rfl lfRX1_23 rfl rfl ?_
                          refine mr_iload_n (pc := 114) (x := a1) rfl rfl ?_
                          refine mr_iload_n (pc := 115) (x := a3) rfl rfl ?_
                          obtain ⟨g116, h⟩ := m_gd h
                          refine ms_iastore (pc := 116) (f := Y65.2.2.2.2.1) (h' := (xw Z (yw (Y65.1, Y65.2.1, Y65.2.2.1, Y65.2.2.2.1, upd (Y65.2.2.2.2.1) ((a1) : Int32).toNatClampNeg (a3), upd (Y65.2.2.2.2.2.1) ((a1) : Int32).toNatClampNeg (a2), Y65.2.2.2.2.2.2.1, Y65.2.2.2.2.2.2.2.1, Y65.2.2.2.2.2.2.2.2.1, Y65.2.2.2.2.2.2.2.2.2.1, Y65.2.2.2.2.2.2.2.2.2.2.1, Y65.2.2.2.2.2.2.2.2.2.2.2.1, Y65.2.2.2.2.2.2.2.2.2.2.2.2.1, Y65.2.2.2.2.2.2.2.2.2.2.2.2.2.1, Y65.2.2.2.2.2.2.2.2.2.2.2.2.2.2) T))) rfl rfl g116 rfl ?_
                          refine mr_aload_n (pc := 117) (x := 8) rfl rfl ?_
                          refine mr_iconst (pc := 118) (v := 1) rfl (by decide) ?_
                          rcases bV_inv h with ⟨Y119, hc119, h⟩ | ⟨E119, Y119, hc119, hr⟩
                          · refine mr_ret (mRunV (pc := 119) (q := 8) (As := [.int (1)]) (rest := []) rfl lkRX1_72 rfl rfl rfl (Nat.le_of_ble_eq_true rfl) (Nat.le_of_ble_eq_true rfl) (F_X1_leave hc119)) rfl (Nat.le_of_ble_eq_true rfl) (Nat.le_of_ble_eq_true rfl) ?_
                            refine mr_aload_n (pc := 122) (x := 8) rfl rfl ?_
                            refine mr_iload_n (pc := 123) (x := a3) rfl rfl ?_
                            rcases bI_inv h with ⟨v124, Y124, hc124, h⟩ | ⟨E124, Y124, hc124, hr⟩
                            · refine mr_ret (mRunV (pc := 124) (q := 8) (As := [.int (a3)]) (rest := []) rfl lkRX1_83 rfl rfl rfl (Nat.le_of_ble_eq_true rfl) (Nat.le_of_ble_eq_true rfl) (F_X1_lieIn hc124)) rfl (Nat.le_of_ble_eq_true rfl) (Nat.le_of_ble_eq_true rfl) ?_
                              cases h; exact mr_ireturn (pc := 127) rfl rfl (Nat.le_of_ble_eq_true rfl) (Nat.le_of_ble_eq_true rfl)
                            · cases hr; exact mr_thrown (mRunV (pc := 124) (q := 8) (As := [.int (a3)]) (rest := []) rfl lkRX1_83 rfl rfl rfl (Nat.le_of_ble_eq_true rfl) (Nat.le_of_ble_eq_true rfl) (F_X1_lieIn hc124)) rfl rfl (Nat.le_of_ble_eq_true rfl) (Nat.le_of_ble_eq_true rfl)
                          · cases hr; exact mr_thrown (mRunV (pc := 119) (q := 8) (As := [.int (1)]) (rest := []) rfl lkRX1_72 rfl rfl rfl (Nat.le_of_ble_eq_true rfl) (Nat.le_of_ble_eq_true rfl) (F_X1_leave hc119)) rfl rfl (Nat.le_of_ble_eq_true rfl) (Nat.le_of_ble_eq_true rfl)
                        · have h := (if_neg c85).symm.trans h
                          refine mr_aload_n (pc := 88) (x := 8) rfl rfl ?_
                          refine mr_iconst (pc := 89) (v := 3) rfl (by decide) ?_
                          rcases bI_inv h with ⟨v90, Y90, hc90, h⟩ | ⟨E90, Y90, hc90, hr⟩
                          · refine mr_ret (mRunV (pc := 90) (q := 8) (As := [.int (3)]) (rest := []) rfl lkRX1_58 rfl rfl rfl (Nat.le_of_ble_eq_true rfl) (Nat.le_of_ble_eq_true rfl) (F_X1_fail hc90)) rfl (Nat.le_of_ble_eq_true rfl) (Nat.le_of_ble_eq_true rfl) ?_
                            refine mr_pop (pc := 93) rfl rfl ?_
                            refine mr_aload_n (pc := 94) (x := 8) rfl rfl ?_
                            refine mr_iconst (pc := 95) (v := 0) rfl (by decide) ?_
                            refine mr_iconst (pc := 96) (v := 0) rfl (by decide) ?_
                            refine mr_iconst (pc := 97) (v := 4) rfl (by decide) ?_
                            refine mr_iconst (pc := 98) (v := 0) rfl (by decide) ?_
                            rcases bI_inv h with ⟨v99, Y99, hc99, h⟩ | ⟨E99, Y99, hc99, hr⟩
                            · refine mr_ret (mRunV (pc := 99) (q := 8) (As := [.int (0), .int (0), .int (4), .int (0)]) (rest := []) rfl lkRX1_68 rfl rfl rfl (Nat.le_of_ble_eq_true rfl) (Nat.le_of_ble_eq_true rfl) (F_X1_told hc99)) rfl (Nat.le_of_ble_eq_true rfl) (Nat.le_of_ble_eq_true rfl) ?_
                              cases h; exact mr_ireturn (pc := 102) rfl rfl (Nat.le_of_ble_eq_true rfl) (Nat.le_of_ble_eq_true rfl)
                            · cases hr; exact mr_thrown (mRunV (pc := 99) (q := 8) (As := [.int (0), .int (0), .int (4), .int (0)]) (rest := []) rfl lkRX1_68 rfl rfl rfl (Nat.le_of_ble_eq_true rfl) (Nat.le_of_ble_eq_true rfl) (F_X1_told hc99)) rfl rfl (Nat.le_of_ble_eq_true rfl) (Nat.le_of_ble_eq_true rfl)
                          · cases hr; exact mr_thrown (mRunV (pc := 90) (q := 8) (As := [.int (3)]) (rest := []) rfl lkRX1_58 rfl rfl rfl (Nat.le_of_ble_eq_true rfl) (Nat.le_of_ble_eq_true rfl) (F_X1_fail hc90)) rfl rfl (Nat.le_of_ble_eq_true rfl) (Nat.le_of_ble_eq_true rfl)
                    · cases hr; exact mr_thrown (mRunV (pc := 65) (q := 8) (As := [.int (a3)]) (rest := []) rfl lkRX1_83 rfl rfl rfl (Nat.le_of_ble_eq_true rfl) (Nat.le_of_ble_eq_true rfl) (F_X1_lieIn hc65)) rfl rfl (Nat.le_of_ble_eq_true rfl) (Nat.le_of_ble_eq_true rfl)
                  · have h := (if_pos c51).symm.trans h
                    refine mr_aload_n (pc := 54) (x := 8) rfl rfl ?_
                    refine mr_iconst (pc := 55) (v := 3) rfl (by decide) ?_
                    refine mr_iconst (pc := 56) (v := 0) rfl (by decide) ?_
                    refine mr_iconst (pc := 57) (v := 0) rfl (by decide) ?_
                    refine mr_iconst (pc := 58) (v := 0) rfl (by decide) ?_
                    rcases bI_inv h with ⟨v59, Y59, hc59, h⟩ | ⟨E59, Y59, hc59, hr⟩
                    · refine mr_ret (mRunV (pc := 59) (q := 8) (As := [.int (3), .int (0), .int (0), .int (0)]) (rest := []) rfl lkRX1_68 rfl rfl rfl (Nat.le_of_ble_eq_true rfl) (Nat.le_of_ble_eq_true rfl) (F_X1_told hc59)) rfl (Nat.le_of_ble_eq_true rfl) (Nat.le_of_ble_eq_true rfl) ?_
                      cases h; exact mr_ireturn (pc := 62) rfl rfl (Nat.le_of_ble_eq_true rfl) (Nat.le_of_ble_eq_true rfl)
                    · cases hr; exact mr_thrown (mRunV (pc := 59) (q := 8) (As := [.int (3), .int (0), .int (0), .int (0)]) (rest := []) rfl lkRX1_68 rfl rfl rfl (Nat.le_of_ble_eq_true rfl) (Nat.le_of_ble_eq_true rfl) (F_X1_told hc59)) rfl rfl (Nat.le_of_ble_eq_true rfl) (Nat.le_of_ble_eq_true rfl)
                · cases hr; exact mr_thrown (mRunV (pc := 48) (q := 8) (As := [.int (a3)]) (rest := []) rfl lkRX1_65 rfl rfl rfl (Nat.le_of_ble_eq_true rfl) (Nat.le_of_ble_eq_true rfl) (F_X1_hold hc48)) rfl rfl (Nat.le_of_ble_eq_true rfl) (Nat.le_of_ble_eq_true rfl)
              · have h := (if_neg c41).symm.trans h
                refine mr_iconst (pc := 44) (v := 0) rfl (by decide) ?_
                cases h; exact mr_ireturn (pc := 45) rfl rfl (Nat.le_of_ble_eq_true rfl) (Nat.le_of_ble_eq_true rfl)
            · have h := (if_pos c26).symm.trans h
              refine mr_iconst (pc := 29) (v := 2) rfl (by decide) ?_
              refine mr_goto (pc := 30) 34 rfl (by decide) ?_
              refine ms_putfield (pc := 34) (h' := (xw Z (yw (Y.1, Y.2.1, Y.2.2.1, Y.2.2.2.1, Y.2.2.2.2.1, Y.2.2.2.2.2.1, Y.2.2.2.2.2.2.1, Y.2.2.2.2.2.2.2.1, 2, Y.2.2.2.2.2.2.2.2.2.1, Y.2.2.2.2.2.2.2.2.2.2.1, Y.2.2.2.2.2.2.2.2.2.2.2.1, Y.2.2.2.2.2.2.2.2.2.2.2.2.1, Y.2.2.2.2.2.2.2.2.2.2.2.2.2.1, Y.2.2.2.2.2.2.2.2.2.2.2.2.2.2) T))) rfl lfRX1_38 rfl (Nat.le_of_ble_eq_true rfl) (by intro q hq; cases hq; rfl) rfl ?_
              refine mr_aload_n (pc := 37) (x := 8) rfl rfl ?_
              refine mr_getfield (pc := 38) (v := .int (2)) rfl lfRX1_38 rfl rfl ?_
              refine mr_if_le (pc := 41) 46 rfl (by decide) (fun c41 => ?_) (fun c41 => ?_)
              · have h := (if_pos c41).symm.trans h
                refine mr_aload_n (pc := 46) (x := 8) rfl rfl ?_
                refine mr_iload_n (pc := 47) (x := a3) rfl rfl ?_
                rcases bI_inv h with ⟨v48, Y48, hc48, h⟩ | ⟨E48, Y48, hc48, hr⟩
                · refine mr_ret (mRunV (pc := 48) (q := 8) (As := [.int (a3)]) (rest := []) rfl lkRX1_65 rfl rfl rfl (Nat.le_of_ble_eq_true rfl) (Nat.le_of_ble_eq_true rfl) (F_X1_hold hc48)) rfl (Nat.le_of_ble_eq_true rfl) (Nat.le_of_ble_eq_true rfl) ?_
                  refine mr_if_ne (pc := 51) 63 rfl (by decide) (fun c51 => ?_) (fun c51 => ?_)
                  · have h := (if_neg c51).symm.trans h
                    refine mr_aload_n (pc := 63) (x := 8) rfl rfl ?_
                    refine mr_iload_n (pc := 64) (x := a3) rfl rfl ?_
                    rcases bI_inv h with ⟨v65, Y65, hc65, h⟩ | ⟨E65, Y65, hc65, hr⟩
                    · refine mr_ret (mRunV (pc := 65) (q := 8) (As := [.int (a3)]) (rest := []) rfl lkRX1_83 rfl rfl rfl (Nat.le_of_ble_eq_true rfl) (Nat.le_of_ble_eq_true rfl) (F_X1_lieIn hc65)) rfl (Nat.le_of_ble_eq_true rfl) (Nat.le_of_ble_eq_true rfl) ?_
                      refine mr_aload_n (pc := 68) (x := 8) rfl rfl ?_
                      refine mr_getfield (pc := 69) (v := .ref 13) rfl lfRX1_23 rfl rfl ?_
                      refine mr_iload_n (pc := 72) (x := a1) rfl rfl ?_
                      obtain ⟨g73, h⟩ := m_gd h
                      refine mr_iaload (pc := 73) (f := Y65.2.2.2.2.1) rfl rfl (vpb_in g73) ?_
                      refine mr_iload_n (pc := 74) (x := a3) rfl rfl ?_
                      refine mr_icmp_ne (pc := 75) 82 rfl (by decide) (fun c75 => ?_) (fun c75 => ?_)
                      · have h := (if_neg c75).symm.trans h
                        refine mr_iconst (pc := 82) (v := 0) rfl (by decide) ?_
                        refine mr_isub (pc := 83) rfl ?_
                        refine mr_iconst (pc := 84) (v := 3) rfl (by decide) ?_
                        refine mr_icmp_lt (pc := 85) 103 rfl (by decide) (fun c85 => ?_) (fun c85 => ?_)
                        · have h := (if_pos c85).symm.trans h
                          refine mr_aload_n (pc := 103) (x := 8) rfl rfl ?_
                          refine mr_getfield (pc := 104) (v := .ref 14) rfl lfRX1_26 rfl rfl ?_
                          refine mr_iload_n (pc := 107) (x := a1) rfl rfl ?_
                          refine mr_iload_n (pc := 108) (x := a2) rfl rfl ?_
                          obtain ⟨g109, h⟩ := m_gd h
                          refine ms_iastore (pc := 109) (f := Y65.2.2.2.2.2.1) (h' := (xw Z (yw (Y65.1, Y65.2.1, Y65.2.2.1, Y65.2.2.2.1, Y65.2.2.2.2.1, upd (Y65.2.2.2.2.2.1) ((a1) : Int32).toNatClampNeg (a2), Y65.2.2.2.2.2.2.1, Y65.2.2.2.2.2.2.2.1, Y65.2.2.2.2.2.2.2.2.1, Y65.2.2.2.2.2.2.2.2.2.1, Y65.2.2.2.2.2.2.2.2.2.2.1, Y65.2.2.2.2.2.2.2.2.2.2.2.1, Y65.2.2.2.2.2.2.2.2.2.2.2.2.1, Y65.2.2.2.2.2.2.2.2.2.2.2.2.2.1, Y65.2.2.2.2.2.2.2.2.2.2.2.2.2.2) T))) rfl rfl g109 rfl ?_
                          refine mr_aload_n (pc := 110) (x := 8) rfl rfl ?_
                          refine mr_getfield (pc := 111) (v := .ref 13) rfl lfRX1_23 rfl rfl ?_
                          refine mr_iload_n (pc := 114) (x := a1) rfl rfl ?_
                          refine mr_iload_n (pc := 115) (x := a3) rfl rfl ?_
                          obtain ⟨g116, h⟩ := m_gd h
                          refine ms_iastore (pc := 116) (f := Y65.2.2.2.2.1) (h' := (xw Z (yw (Y65.1, Y65.2.1, Y65.2.2.1, Y65.2.2.2.1, upd (Y65.2.2.2.2.1) ((a1) : Int32).toNatClampNeg (a3), upd (Y65.2.2.2.2.2.1) ((a1) : Int32).toNatClampNeg (a2), Y65.2.2.2.2.2.2.1, Y65.2.2.2.2.2.2.2.1, Y65.2.2.2.2.2.2.2.2.1, Y65.2.2.2.2.2.2.2.2.2.1, Y65.2.2.2.2.2.2.2.2.2.2.1, Y65.2.2.2.2.2.2.2.2.2.2.2.1, Y65.2.2.2.2.2.2.2.2.2.2.2.2.1, Y65.2.2.2.2.2.2.2.2.2.2.2.2.2.1, Y65.2.2.2.2.2.2.2.2.2.2.2.2.2.2) T))) rfl rfl g116 rfl ?_
                          refine mr_aload_n (pc := 117) (x := 8) rfl rfl ?_
                          refine mr_iconst (pc := 118) (v := 1) rfl (by decide) ?_
                          rcases bV_inv h with ⟨Y119, hc119, h⟩ | ⟨E119, Y119, hc119, hr⟩
                          · refine mr_ret (mRunV (pc := 119) (q := 8) (As := [.int (1)]) (rest := []) rfl lkRX1_72 rfl rfl rfl (Nat.le_of_ble_eq_true rfl) (Nat.le_of_ble_eq_true rfl) (F_X1_leave hc119)) rfl (Nat.le_of_ble_eq_true rfl) (Nat.le_of_ble_eq_true rfl) ?_
                            refine mr_aload_n (pc := 122) (x := 8) rfl rfl ?_
                            refine mr_iload_n (pc := 123) (x := a3) rfl rfl ?_
                            rcases bI_inv h with ⟨v124, Y124, hc124, h⟩ | ⟨E124, Y124, hc124, hr⟩
                            · refine mr_ret (mRunV (pc := 124) (q := 8) (As := [.int (a3)]) (rest := []) rfl lkRX1_83 rfl rfl rfl (Nat.le_of_ble_eq_true rfl) (Nat.le_of_ble_eq_true rfl) (F_X1_lieIn hc124)) rfl (Nat.le_of_ble_eq_true rfl) (Nat.le_of_ble_eq_true rfl) ?_
                              cases h; exact mr_ireturn (pc := 127) rfl rfl (Nat.le_of_ble_eq_true rfl) (Nat.le_of_ble_eq_true rfl)
                            · cases hr; exact mr_thrown (mRunV (pc := 124) (q := 8) (As := [.int (a3)]) (rest := []) rfl lkRX1_83 rfl rfl rfl (Nat.le_of_ble_eq_true rfl) (Nat.le_of_ble_eq_true rfl) (F_X1_lieIn hc124)) rfl rfl (Nat.le_of_ble_eq_true rfl) (Nat.le_of_ble_eq_true rfl)
                          · cases hr; exact mr_thrown (mRunV (pc := 119) (q := 8) (As := [.int (1)]) (rest := []) rfl lkRX1_72 rfl rfl rfl (Nat.le_of_ble_eq_true rfl) (Nat.le_of_ble_eq_true rfl) (F_X1_leave hc119)) rfl rfl (Nat.le_of_ble_eq_true rfl) (Nat.le_of_ble_eq_true rfl)
                        · have h := (if_neg c85).symm.trans h
                          refine mr_aload_n (pc := 88) (x := 8) rfl rfl ?_
                          refine mr_iconst (pc := 89) (v := 3) rfl (by decide) ?_
                          rcases bI_inv h with ⟨v90, Y90, hc90, h⟩ | ⟨E90, Y90, hc90, hr⟩
                          · refine mr_ret (mRunV (pc := 90) (q := 8) (As := [.int (3)]) (rest := []) rfl lkRX1_58 rfl rfl rfl (Nat.le_of_ble_eq_true rfl) (Nat.le_of_ble_eq_true rfl) (F_X1_fail hc90)) rfl (Nat.le_of_ble_eq_true rfl) (Nat.le_of_ble_eq_true rfl) ?_
                            refine mr_pop (pc := 93) rfl rfl ?_
                            refine mr_aload_n (pc := 94) (x := 8) rfl rfl ?_
                            refine mr_iconst (pc := 95) (v := 0) rfl (by decide) ?_
                            refine mr_iconst (pc := 96) (v := 0) rfl (by decide) ?_
                            refine mr_iconst (pc := 97) (v := 4) rfl (by decide) ?_
                            refine mr_iconst (pc := 98) (v := 0) rfl (by decide) ?_
                            rcases bI_inv h with ⟨v99, Y99, hc99, h⟩ | ⟨E99, Y99, hc99, hr⟩
                            · refine mr_ret (mRunV (pc := 99) (q := 8) (As := [.int (0), .int (0), .int (4), .int (0)]) (rest := []) rfl lkRX1_68 rfl rfl rfl (Nat.le_of_ble_eq_true rfl) (Nat.le_of_ble_eq_true rfl) (F_X1_told hc99)) rfl (Nat.le_of_ble_eq_true rfl) (Nat.le_of_ble_eq_true rfl) ?_
                              cases h; exact mr_ireturn (pc := 102) rfl rfl (Nat.le_of_ble_eq_true rfl) (Nat.le_of_ble_eq_true rfl)
                            · cases hr; exact mr_thrown (mRunV (pc := 99) (q := 8) (As := [.int (0), .int (0), .int (4), .int (0)]) (rest := []) rfl lkRX1_68 rfl rfl rfl (Nat.le_of_ble_eq_true rfl) (Nat.le_of_ble_eq_true rfl) (F_X1_told hc99)) rfl rfl (Nat.le_of_ble_eq_true rfl) (Nat.le_of_ble_eq_true rfl)
                          · cases hr; exact mr_thrown (mRunV (pc := 90) (q := 8) (As := [.int (3)]) (rest := []) rfl lkRX1_58 rfl rfl rfl (Nat.le_of_ble_eq_true rfl) (Nat.le_of_ble_eq_true rfl) (F_X1_fail hc90)) rfl rfl (Nat.le_of_ble_eq_true rfl) (Nat.le_of_ble_eq_true rfl)
                      · have h := (if_pos c75).symm.trans h
                        refine mr_iconst (pc := 78) (v := 1) rfl (by decide) ?_
                        refine mr_goto (pc := 79) 83 rfl (by decide) ?_
                        refine mr_isub (pc := 83) rfl ?_
                        refine mr_iconst (pc := 84) (v := 3) rfl (by decide) ?_
                        refine mr_icmp_lt (pc := 85) 103 rfl (by decide) (fun c85 => ?_) (fun c85 => ?_)
                        · have h := (if_pos c85).symm.trans h
                          refine mr_aload_n (pc := 103) (x := 8) rfl rfl ?_
                          refine mr_getfield (pc := 104) (v := .ref 14) rfl lfRX1_26 rfl rfl ?_
                          refine mr_iload_n (pc := 107) (x := a1) rfl rfl ?_
                          refine mr_iload_n (pc := 108) (x := a2) rfl rfl ?_
                          obtain ⟨g109, h⟩ := m_gd h
                          refine ms_iastore (pc := 109) (f := Y65.2.2.2.2.2.1) (h' := (xw Z (yw (Y65.1, Y65.2.1, Y65.2.2.1, Y65.2.2.2.1, Y65.2.2.2.2.1, upd (Y65.2.2.2.2.2.1) ((a1) : Int32).toNatClampNeg (a2), Y65.2.2.2.2.2.2.1, Y65.2.2.2.2.2.2.2.1, Y65.2.2.2.2.2.2.2.2.1, Y65.2.2.2.2.2.2.2.2.2.1, Y65.2.2.2.2.2.2.2.2.2.2.1, Y65.2.2.2.2.2.2.2.2.2.2.2.1, Y65.2.2.2.2.2.2.2.2.2.2.2.2.1, Y65.2.2.2.2.2.2.2.2.2.2.2.2.2.1, Y65.2.2.2.2.2.2.2.2.2.2.2.2.2.2) T))) rfl rfl g109 rfl ?_
                          refine mr_aload_n (pc := 110) (x := 8) rfl rfl ?_
                          refine mr_getfield (pc := 111) (v := .ref 13) rfl lfRX1_23 rfl rfl ?_
                          refine mr_iload_n (pc := 114) (x := a1) rfl rfl ?_
                          refine mr_iload_n (pc := 115) (x := a3) rfl rfl ?_
                          obtain ⟨g116, h⟩ := m_gd h
                          refine ms_iastore (pc := 116) (f := Y65.2.2.2.2.1) (h' := (xw Z (yw (Y65.1, Y65.2.1, Y65.2.2.1, Y65.2.2.2.1, upd (Y65.2.2.2.2.1) ((a1) : Int32).toNatClampNeg (a3), upd (Y65.2.2.2.2.2.1) ((a1) : Int32).toNatClampNeg (a2), Y65.2.2.2.2.2.2.1, Y65.2.2.2.2.2.2.2.1, Y65.2.2.2.2.2.2.2.2.1, Y65.2.2.2.2.2.2.2.2.2.1, Y65.2.2.2.2.2.2.2.2.2.2.1, Y65.2.2.2.2.2.2.2.2.2.2.2.1, Y65.2.2.2.2.2.2.2.2.2.2.2.2.1, Y65.2.2.2.2.2.2.2.2.2.2.2.2.2.1, Y65.2.2.2.2.2.2.2.2.2.2.2.2.2.2) T))) rfl rfl g116 rfl ?_
                          refine mr_aload_n (pc := 117) (x := 8) rfl rfl ?_
                          refine mr_iconst (pc := 118) (v := 1) rfl (by decide) ?_
                          rcases bV_inv h with ⟨Y119, hc119, h⟩ | ⟨E119, Y119, hc119, hr⟩
                          · refine mr_ret (mRunV (pc := 119) (q := 8) (As := [.int (1)]) (rest := []) rfl lkRX1_72 rfl rfl rfl (Nat.le_of_ble_eq_true rfl) (Nat.le_of_ble_eq_true rfl) (F_X1_leave hc119)) rfl (Nat.le_of_ble_eq_true rfl) (Nat.le_of_ble_eq_true rfl) ?_
                            refine mr_aload_n (pc := 122) (x := 8) rfl rfl ?_
                            refine mr_iload_n (pc := 123) (x := a3) rfl rfl ?_
                            rcases bI_inv h with ⟨v124, Y124, hc124, h⟩ | ⟨E124, Y124, hc124, hr⟩
                            · refine mr_ret (mRunV (pc := 124) (q := 8) (As := [.int (a3)]) (rest := []) rfl lkRX1_83 rfl rfl rfl (Nat.le_of_ble_eq_true rfl) (Nat.le_of_ble_eq_true rfl) (F_X1_lieIn hc124)) rfl (Nat.le_of_ble_eq_true rfl) (Nat.le_of_ble_eq_true rfl) ?_
                              cases h; exact mr_ireturn (pc := 127) rfl rfl (Nat.le_of_ble_eq_true rfl) (Nat.le_of_ble_eq_true rfl)
                            · cases hr; exact mr_thrown (mRunV (pc := 124) (q := 8) (As := [.int (a3)]) (rest := []) rfl lkRX1_83 rfl rfl rfl (Nat.le_of_ble_eq_true rfl) (Nat.le_of_ble_eq_true rfl) (F_X1_lieIn hc124)) rfl rfl (Nat.le_of_ble_eq_true rfl) (Nat.le_of_ble_eq_true rfl)
                          · cases hr; exact mr_thrown (mRunV (pc := 119) (q := 8) (As := [.int (1)]) (rest := []) rfl lkRX1_72 rfl rfl rfl (Nat.le_of_ble_eq_true rfl) (Nat.le_of_ble_eq_true rfl) (F_X1_leave hc119)) rfl rfl (Nat.le_of_ble_eq_true rfl) (Nat.le_of_ble_eq_true rfl)
                        · have h := (if_neg c85).symm.trans h
                          refine mr_aload_n (pc := 88) (x := 8) rfl rfl ?_
                          refine mr_iconst (pc := 89) (v := 3) rfl (by decide) ?_
                          rcases bI_inv h with ⟨v90, Y90, hc90, h⟩ | ⟨E90, Y90, hc90, hr⟩
                          · refine mr_ret (mRunV (pc := 90) (q := 8) (As := [.int (3)]) (rest := []) rfl lkRX1_58 rfl rfl rfl (Nat.le_of_ble_eq_true rfl) (Nat.le_of_ble_eq_true rfl) (F_X1_fail hc90)) rfl (Nat.le_of_ble_eq_true rfl) (Nat.le_of_ble_eq_true rfl) ?_
                            refine mr_pop (pc := 93) rfl rfl ?_
                            refine mr_aload_n (pc := 94) (x := 8) rfl rfl ?_
                            refine mr_iconst (pc := 95) (v := 0) rfl (by decide) ?_
                            refine mr_iconst (pc := 96) (v := 0) rfl (by decide) ?_
                            refine mr_iconst (pc := 97) (v := 4) rfl (by decide) ?_
                            refine mr_iconst (pc := 98) (v := 0) rfl (by decide) ?_
                            rcases bI_inv h with ⟨v99, Y99, hc99, h⟩ | ⟨E99, Y99, hc99, hr⟩
                            · refine mr_ret (mRunV (pc := 99) (q := 8) (As := [.int (0), .int (0), .int (4), .int (0)]) (rest := []) rfl lkRX1_68 rfl rfl rfl (Nat.le_of_ble_eq_true rfl) (Nat.le_of_ble_eq_true rfl) (F_X1_told hc99)) rfl (Nat.le_of_ble_eq_true rfl) (Nat.le_of_ble_eq_true rfl) ?_
                              cases h; exact mr_ireturn (pc := 102) rfl rfl (Nat.le_of_ble_eq_true rfl) (Nat.le_of_ble_eq_true rfl)
                            · cases hr; exact mr_thrown (mRunV (pc := 99) (q := 8) (As := [.int (0), .int (0), .int (4), .int (0)]) (rest := []) rfl lkRX1_68 rfl rfl rfl (Nat.le_of_ble_eq_true rfl) (Nat.le_of_ble_eq_true rfl) (F_X1_told hc99)) rfl rfl (Nat.le_of_ble_eq_true rfl) (Nat.le_of_ble_eq_true rfl)
                          · cases hr; exact mr_thrown (mRunV (pc := 90) (q := 8) (As := [.int (3)]) (rest := []) rfl lkRX1_58 rfl rfl rfl (Nat.le_of_ble_eq_true rfl) (Nat.le_of_ble_eq_true rfl) (F_X1_fail hc90)) rfl rfl (Nat.le_of_ble_eq_true rfl) (Nat.le_of_ble_eq_true rfl)
                    · cases hr; exact mr_thrown (mRunV (pc := 65) (q := 8) (As := [.int (a3)]) (rest := []) rfl lkRX1_83 rfl rfl rfl (Nat.le_of_ble_eq_true rfl) (Nat.le_of_ble_eq_true rfl) (F_X1_lieIn hc65)) rfl rfl (Nat.le_of_ble_eq_true rfl) (Nat.le_of_ble_eq_true rfl)
                  · have h := (if_pos c51).symm.trans h
                    refine mr_aload_n (pc := 54) (x := 8) rfl rfl ?_
                    refine mr_iconst (pc := 55) (v := 3) rfl (by decide) ?_
                    refine mr_iconst (pc := 56) (v := 0) rfl (by decide) ?_
                    refine mr_iconst (pc := 57) (v := 0) rfl (by decide) ?_
                    refine mr_iconst (pc := 58) (v := 0) rfl (by decide) ?_
                    rcases bI_inv h with ⟨v59, Y59, hc59, h⟩ | ⟨E59, Y59, hc59, hr⟩
                    · refine mr_ret (mRunV (pc := 59) (q := 8) (As := [.int (3), .int (0), .int (0), .int (0)]) (rest := []) rfl lkRX1_68 rfl rfl rfl (Nat.le_of_ble_eq_true rfl) (Nat.le_of_ble_eq_true rfl) (F_X1_told hc59)) rfl (Nat.le_of_ble_eq_true rfl) (Nat.le_of_ble_eq_true rfl) ?_
                      cases h; exact mr_ireturn (pc := 62) rfl rfl (Nat.le_of_ble_eq_true rfl) (Nat.le_of_ble_eq_true rfl)
                    · cases hr; exact mr_thrown (mRunV (pc := 59) (q := 8) (As := [.int (3), .int (0), .int (0), .int (0)]) (rest := []) rfl lkRX1_68 rfl rfl rfl (Nat.le_of_ble_eq_true rfl) (Nat.le_of_ble_eq_true rfl) (F_X1_told hc59)) rfl rfl (Nat.le_of_ble_eq_true rfl) (Nat.le_of_ble_eq_true rfl)
                · cases hr; exact mr_thrown (mRunV (pc := 48) (q := 8) (As := [.int (a3)]) (rest := []) rfl lkRX1_65 rfl rfl rfl (Nat.le_of_ble_eq_true rfl) (Nat.le_of_ble_eq_true rfl) (F_X1_hold hc48)) rfl rfl (Nat.le_of_ble_eq_true rfl) (Nat.le_of_ble_eq_true rfl)
              · have h := (if_neg c41).symm.trans h
                refine mr_iconst (pc := 44) (v := 0) rfl (by decide) ?_
                cases h; exact mr_ireturn (pc := 45) rfl rfl (Nat.le_of_ble_eq_true rfl) (Nat.le_of_ble_eq_true rfl)
          · cases hr; exact mr_thrown (mRunS (pc := 23) (As := [.int (a2), .int (1), .int (99)]) (rest := [.ref 8]) rfl lkRX1_54 rfl (Nat.le_of_ble_eq_true rfl) (Nat.le_of_ble_eq_true rfl) (F_X1_in hc23)) rfl rfl (Nat.le_of_ble_eq_true rfl) (Nat.le_of_ble_eq_true rfl)
        · have h := (if_pos c12).symm.trans h
          refine mr_iconst (pc := 15) (v := 1) rfl (by decide) ?_
          refine mr_goto (pc := 16) 34 rfl (by decide) ?_
          refine ms_putfield (pc := 34) (h' := (xw Z (yw (Y.1, Y.2.1, Y.2.2.1, Y.2.2.2.1, Y.2.2.2.2.1, Y.2.2.2.2.2.1, Y.2.2.2.2.2.2.1, Y.2.2.2.2.2.2.2.1, 1, Y.2.2.2.2.2.2.2.2.2.1, Y.2.2.2.2.2.2.2.2.2.2.1, Y.2.2.2.2.2.2.2.2.2.2.2.1, Y.2.2.2.2.2.2.2.2.2.2.2.2.1, Y.2.2.2.2.2.2.2.2.2.2.2.2.2.1, Y.2.2.2.2.2.2.2.2.2.2.2.2.2.2) T))) rfl lfRX1_38 rfl (Nat.le_of_ble_eq_true rfl) (by intro q hq; cases hq; rfl) rfl ?_
          refine mr_aload_n (pc := 37) (x := 8) rfl rfl ?_
          refine mr_getfield (pc := 38) (v := .int (1)) rfl lfRX1_38 rfl rfl ?_
          refine mr_if_le (pc := 41) 46 rfl (by decide) (fun c41 => ?_) (fun c41 => ?_)
          · have h := (if_pos c41).symm.trans h
            refine mr_aload_n (pc := 46) (x := 8) rfl rfl ?_
            refine mr_iload_n (pc := 47) (x := a3) rfl rfl ?_
            rcases bI_inv h with ⟨v48, Y48, hc48, h⟩ | ⟨E48, Y48, hc48, hr⟩
            · refine mr_ret (mRunV (pc := 48) (q := 8) (As := [.int (a3)]) (rest := []) rfl lkRX1_65 rfl rfl rfl (Nat.le_of_ble_eq_true rfl) (Nat.le_of_ble_eq_true rfl) (F_X1_hold hc48)) rfl (Nat.le_of_ble_eq_true rfl) (Nat.le_of_ble_eq_true rfl) ?_
              refine mr_if_ne (pc := 51) 63 rfl (by decide) (fun c51 => ?_) (fun c51 => ?_)
              · have h := (if_neg c51).symm.trans h
                refine mr_aload_n (pc := 63) (x := 8) rfl rfl ?_
                refine mr_iload_n (pc := 64) (x := a3) rfl rfl ?_
                rcases bI_inv h with ⟨v65, Y65, hc65, h⟩ | ⟨E65, Y65, hc65, hr⟩
                · refine mr_ret (mRunV (pc := 65) (q := 8) (As := [.int (a3)]) (rest := []) rfl lkRX1_83 rfl rfl rfl (Nat.le_of_ble_eq_true rfl) (Nat.le_of_ble_eq_true rfl) (F_X1_lieIn hc65)) rfl (Nat.le_of_ble_eq_true rfl) (Nat.le_of_ble_eq_true rfl) ?_
                  refine mr_aload_n (pc := 68) (x := 8) rfl rfl ?_
                  refine mr_getfield (pc := 69) (v := .ref 13) rfl lfRX1_23 rfl rfl ?_
                  refine mr_iload_n (pc := 72) (x := a1) rfl rfl ?_
                  obtain ⟨g73, h⟩ := m_gd h
                  refine mr_iaload (pc := 73) (f := Y65.2.2.2.2.1) rfl rfl (vpb_in g73) ?_
                  refine mr_iload_n (pc := 74) (x := a3) rfl rfl ?_
                  refine mr_icmp_ne (pc := 75) 82 rfl (by decide) (fun c75 => ?_) (fun c75 => ?_)
                  · have h := (if_neg c75).symm.trans h
                    refine mr_iconst (pc := 82) (v := 0) rfl (by decide) ?_
                    refine mr_isub (pc := 83) rfl ?_
                    refine mr_iconst (pc := 84) (v := 3) rfl (by decide) ?_
                    refine mr_icmp_lt (pc := 85) 103 rfl (by decide) (fun c85 => ?_) (fun c85 => ?_)
                    · have h := (if_pos c85).symm.trans h
                      refine mr_aload_n (pc := 103) (x := 8) rfl rfl ?_
                      refine mr_getfield (pc := 104) (v := .ref 14) rfl lfRX1_26 rfl rfl ?_
                      refine mr_iload_n (pc := 107) (x := a1) rfl rfl ?_
                      refine mr_iload_n (pc := 108) (x := a2) rfl rfl ?_
                      obtain ⟨g109, h⟩ := m_gd h
                      refine ms_iastore (pc := 109) (f := Y65.2.2.2.2.2.1) (h' := (xw Z (yw (Y65.1, Y65.2.1, Y65.2.2.1, Y65.2.2.2.1, Y65.2.2.2.2.1, upd (Y65.2.2.2.2.2.1) ((a1) : Int32).toNatClampNeg (a2), Y65.2.2.2.2.2.2.1, Y65.2.2.2.2.2.2.2.1, Y65.2.2.2.2.2.2.2.2.1, Y65.2.2.2.2.2.2.2.2.2.1, Y65.2.2.2.2.2.2.2.2.2.2.1, Y65.2.2.2.2.2.2.2.2.2.2.2.1, Y65.2.2.2.2.2.2.2.2.2.2.2.2.1, Y65.2.2.2.2.2.2.2.2.2.2.2.2.2.1, Y65.2.2.2.2.2.2.2.2.2.2.2.2.2.2) T))) rfl rfl g109 rfl ?_
                      refine mr_aload_n (pc := 110) (x := 8) rfl rfl ?_
                      refine mr_getfield (pc := 111) (v := .ref 13) rfl lfRX1_23 rfl rfl ?_
                      refine mr_iload_n (pc := 114) (x := a1) rfl rfl ?_
                      refine mr_iload_n (pc := 115) (x := a3) rfl rfl ?_
                      obtain ⟨g116, h⟩ := m_gd h
                      refine ms_iastore (pc := 116) (f := Y65.2.2.2.2.1) (h' := (xw Z (yw (Y65.1, Y65.2.1, Y65.2.2.1, Y65.2.2.2.1, upd (Y65.2.2.2.2.1) ((a1) : Int32).toNatClampNeg (a3), upd (Y65.2.2.2.2.2.1) ((a1) : Int32).toNatClampNeg (a2), Y65.2.2.2.2.2.2.1, Y65.2.2.2.2.2.2.2.1, Y65.2.2.2.2.2.2.2.2.1, Y65.2.2.2.2.2.2.2.2.2.1, Y65.2.2.2.2.2.2.2.2.2.2.1, Y65.2.2.2.2.2.2.2.2.2.2.2.1, Y65.2.2.2.2.2.2.2.2.2.2.2.2.1, Y65.2.2.2.2.2.2.2.2.2.2.2.2.2.1, Y65.2.2.2.2.2.2.2.2.2.2.2.2.2.2) T))) rfl rfl g116 rfl ?_
                      refine mr_aload_n (pc := 117) (x := 8) rfl rfl ?_
                      refine mr_iconst (pc := 118) (v := 1) rfl (by decide) ?_
                      rcases bV_inv h with ⟨Y119, hc119, h⟩ | ⟨E119, Y119, hc119, hr⟩
                      · refine mr_ret (mRunV (pc := 119) (q := 8) (As := [.int (1)]) (rest := []) rfl lkRX1_72 rfl rfl rfl (Nat.le_of_ble_eq_true rfl) (Nat.le_of_ble_eq_true rfl) (F_X1_leave hc119)) rfl (Nat.le_of_ble_eq_true rfl) (Nat.le_of_ble_eq_true rfl) ?_
                        refine mr_aload_n (pc := 122) (x := 8) rfl rfl ?_
                        refine mr_iload_n (pc := 123) (x := a3) rfl rfl ?_
                        rcases bI_inv h with ⟨v124, Y124, hc124, h⟩ | ⟨E124, Y124, hc124, hr⟩
                        · refine mr_ret (mRunV (pc := 124) (q := 8) (As := [.int (a3)]) (rest := []) rfl lkRX1_83 rfl rfl rfl (Nat.le_of_ble_eq_true rfl) (Nat.le_of_ble_eq_true rfl) (F_X1_lieIn hc124)) rfl (Nat.le_of_ble_eq_true rfl) (Nat.le_of_ble_eq_true rfl) ?_
                          cases h; exact mr_ireturn (pc := 127) rfl rfl (Nat.le_of_ble_eq_true rfl) (Nat.le_of_ble_eq_true rfl)
                        · cases hr; exact mr_thrown (mRunV (pc := 124) (q := 8) (As := [.int (a3)]) (rest := []) rfl lkRX1_83 rfl rfl rfl (Nat.le_of_ble_eq_true rfl) (Nat.le_of_ble_eq_true rfl) (F_X1_lieIn hc124)) rfl rfl (Nat.le_of_ble_eq_true rfl) (Nat.le_of_ble_eq_true rfl)
                      · cases hr; exact mr_thrown (mRunV (pc := 119) (q := 8) (As := [.int (1)]) (rest := []) rfl lkRX1_72 rfl rfl rfl (Nat.le_of_ble_eq_true rfl) (Nat.le_of_ble_eq_true rfl) (F_X1_leave hc119)) rfl rfl (Nat.le_of_ble_eq_true rfl) (Nat.le_of_ble_eq_true rfl)
                    · have h := (if_neg c85).symm.trans h
                      refine mr_aload_n (pc := 88) (x := 8) rfl rfl ?_
                      refine mr_iconst (pc := 89) (v := 3) rfl (by decide) ?_
                      rcases bI_inv h with ⟨v90, Y90, hc90, h⟩ | ⟨E90, Y90, hc90, hr⟩
                      · refine mr_ret (mRunV (pc := 90) (q := 8) (As := [.int (3)]) (rest := []) rfl lkRX1_58 rfl rfl rfl (Nat.le_of_ble_eq_true rfl) (Nat.le_of_ble_eq_true rfl) (F_X1_fail hc90)) rfl (Nat.le_of_ble_eq_true rfl) (Nat.le_of_ble_eq_true rfl) ?_
                        refine mr_pop (pc := 93) rfl rfl ?_
                        refine mr_aload_n (pc := 94) (x := 8) rfl rfl ?_
                        refine mr_iconst (pc := 95) (v := 0) rfl (by decide) ?_
                        refine mr_iconst (pc := 96) (v := 0) rfl (by decide) ?_
                        refine mr_iconst (pc := 97) (v := 4) rfl (by decide) ?_
                        refine mr_iconst (pc := 98) (v := 0) rfl (by decide) ?_
                        rcases bI_inv h with ⟨v99, Y99, hc99, h⟩ | ⟨E99, Y99, hc99, hr⟩
                        · refine mr_ret (mRunV (pc := 99) (q := 8) (As := [.int (0), .int (0), .int (4), .int (0)]) (rest := []) rfl lkRX1_68 rfl rfl rfl (Nat.le_of_ble_eq_true rfl) (Nat.le_of_ble_eq_true rfl) (F_X1_told hc99)) rfl (Nat.le_of_ble_eq_true rfl) (Nat.le_of_ble_eq_true rfl) ?_
                          cases h; exact mr_ireturn (pc := 102) rfl rfl (Nat.le_of_ble_eq_true rfl) (Nat.le_of_ble_eq_true rfl)
                        · cases hr; exact mr_thrown (mRunV (pc := 99) (q := 8) (As := [.int (0), .int (0), .int (4), .int (0)]) (rest := []) rfl lkRX1_68 rfl rfl rfl (Nat.le_of_ble_eq_true rfl) (Nat.le_of_ble_eq_true rfl) (F_X1_told hc99)) rfl rfl (Nat.le_of_ble_eq_true rfl) (Nat.le_of_ble_eq_true rfl)
                      · cases hr; exact mr_thrown (mRunV (pc := 90) (q := 8) (As := [.int (3)]) (rest := []) rfl lkRX1_58 rfl rfl rfl (Nat.le_of_ble_eq_true rfl) (Nat.le_of_ble_eq_true rfl) (F_X1_fail hc90)) rfl rfl (Nat.le_of_ble_eq_true rfl) (Nat.le_of_ble_eq_true rfl)
                  · have h := (if_pos c75).symm.trans h
                    refine mr_iconst (pc := 78) (v := 1) rfl (by decide) ?_
                    refine mr_goto (pc := 79) 83 rfl (by decide) ?_
                    refine mr_isub (pc := 83) rfl ?_
                    refine mr_iconst (pc := 84) (v := 3) rfl (by decide) ?_
                    refine mr_icmp_lt (pc := 85) 103 rfl (by decide) (fun c85 => ?_) (fun c85 => ?_)
                    · have h := (if_pos c85).symm.trans h
                      refine mr_aload_n (pc := 103) (x := 8) rfl rfl ?_
                      refine mr_getfield (pc := 104) (v := .ref 14) rfl lfRX1_26 rfl rfl ?_
                      refine mr_iload_n (pc := 107) (x := a1) rfl rfl ?_
                      refine mr_iload_n (pc := 108) (x := a2) rfl rfl ?_
                      obtain ⟨g109, h⟩ := m_gd h
                      refine ms_iastore (pc := 109) (f := Y65.2.2.2.2.2.1) (h' := (xw Z (yw (Y65.1, Y65.2.1, Y65.2.2.1, Y65.2.2.2.1, Y65.2.2.2.2.1, upd (Y65.2.2.2.2.2.1) ((a1) : Int32).toNatClampNeg (a2), Y65.2.2.2.2.2.2.1, Y65.2.2.2.2.2.2.2.1, Y65.2.2.2.2.2.2.2.2.1, Y65.2.2.2.2.2.2.2.2.2.1, Y65.2.2.2.2.2.2.2.2.2.2.1, Y65.2.2.2.2.2.2.2.2.2.2.2.1, Y65.2.2.2.2.2.2.2.2.2.2.2.2.1, Y65.2.2.2.2.2.2.2.2.2.2.2.2.2.1, Y65.2.2.2.2.2.2.2.2.2.2.2.2.2.2) T))) rfl rfl g109 rfl ?_
                      refine mr_aload_n (pc := 110) (x := 8) rfl rfl ?_
                      refine mr_getfield (pc := 111) (v := .ref 13) rfl lfRX1_23 rfl rfl ?_
                      refine mr_iload_n (pc := 114) (x := a1) rfl rfl ?_
                      refine mr_iload_n (pc := 115) (x := a3) rfl rfl ?_
                      obtain ⟨g116, h⟩ := m_gd h
                      refine ms_iastore (pc := 116) (f := Y65.2.2.2.2.1) (h' := (xw Z (yw (Y65.1, Y65.2.1, Y65.2.2.1, Y65.2.2.2.1, upd (Y65.2.2.2.2.1) ((a1) : Int32).toNatClampNeg (a3), upd (Y65.2.2.2.2.2.1) ((a1) : Int32).toNatClampNeg (a2), Y65.2.2.2.2.2.2.1, Y65.2.2.2.2.2.2.2.1, Y65.2.2.2.2.2.2.2.2.1, Y65.2.2.2.2.2.2.2.2.2.1, Y65.2.2.2.2.2.2.2.2.2.2.1, Y65.2.2.2.2.2.2.2.2.2.2.2.1, Y65.2.2.2.2.2.2.2.2.2.2.2.2.1, Y65.2.2.2.2.2.2.2.2.2.2.2.2.2.1, Y65.2.2.2.2.2.2.2.2.2.2.2.2.2.2) T))) rfl rfl g116 rfl ?_
                      refine mr_aload_n (pc := 117) (x := 8) rfl rfl ?_
                      refine mr_iconst (pc := 118) (v := 1) rfl (by decide) ?_
                      rcases bV_inv h with ⟨Y119, hc119, h⟩ | ⟨E119, Y119, hc119, hr⟩
                      · refine mr_ret (mRunV (pc := 119) (q := 8) (As := [.int (1)]) (rest := []) rfl lkRX1_72 rfl rfl rfl (Nat.le_of_ble_eq_true rfl) (Nat.le_of_ble_eq_true rfl) (F_X1_leave hc119)) rfl (Nat.le_of_ble_eq_true rfl) (Nat.le_of_ble_eq_true rfl) ?_
                        refine mr_aload_n (pc := 122) (x := 8) rfl rfl ?_
                        refine mr_iload_n (pc := 123) (x := a3) rfl rfl ?_
                        rcases bI_inv h with ⟨v124, Y124, hc124, h⟩ | ⟨E124, Y124, hc124, hr⟩
                        · refine mr_ret (mRunV (pc := 124) (q := 8) (As := [.int (a3)]) (rest := []) rfl lkRX1_83 rfl rfl rfl (Nat.le_of_ble_eq_true rfl) (Nat.le_of_ble_eq_true rfl) (F_X1_lieIn hc124)) rfl (Nat.le_of_ble_eq_true rfl) (Nat.le_of_ble_eq_true rfl) ?_
                          cases h; exact mr_ireturn (pc := 127) rfl rfl (Nat.le_of_ble_eq_true rfl) (Nat.le_of_ble_eq_true rfl)
                        · cases hr; exact mr_thrown (mRunV (pc := 124) (q := 8) (As := [.int (a3)]) (rest := []) rfl lkRX1_83 rfl rfl rfl (Nat.le_of_ble_eq_true rfl) (Nat.le_of_ble_eq_true rfl) (F_X1_lieIn hc124)) rfl rfl (Nat.le_of_ble_eq_true rfl) (Nat.le_of_ble_eq_true rfl)
                      · cases hr; exact mr_thrown (mRunV (pc := 119) (q := 8) (As := [.int (1)]) (rest := []) rfl lkRX1_72 rfl rfl rfl (Nat.le_of_ble_eq_true rfl) (Nat.le_of_ble_eq_true rfl) (F_X1_leave hc119)) rfl rfl (Nat.le_of_ble_eq_true rfl) (Nat.le_of_ble_eq_true rfl)
                    · have h := (if_neg c85).symm.trans h
                      refine mr_aload_n (pc := 88) (x := 8) rfl rfl ?_
                      refine mr_iconst (pc := 89) (v := 3) rfl (by decide) ?_
                      rcases bI_inv h with ⟨v90, Y90, hc90, h⟩ | ⟨E90, Y90, hc90, hr⟩
                      · refine mr_ret (mRunV (pc := 90) (q := 8) (As := [.int (3)]) (rest := []) rfl lkRX1_58 rfl rfl rfl (Nat.le_of_ble_eq_true rfl) (Nat.le_of_ble_eq_true rfl) (F_X1_fail hc90)) rfl (Nat.le_of_ble_eq_true rfl) (Nat.le_of_ble_eq_true rfl) ?_
                        refine mr_pop (pc := 93) rfl rfl ?_
                        refine mr_aload_n (pc := 94) (x := 8) rfl rfl ?_
                        refine mr_iconst (pc := 95) (v := 0) rfl (by decide) ?_
                        refine mr_iconst (pc := 96) (v := 0) rfl (by decide) ?_
                        refine mr_iconst (pc := 97) (v := 4) rfl (by decide) ?_
                        refine mr_iconst (pc := 98) (v := 0) rfl (by decide) ?_
                        rcases bI_inv h with ⟨v99, Y99, hc99, h⟩ | ⟨E99, Y99, hc99, hr⟩
                        · refine mr_ret (mRunV (pc := 99) (q := 8) (As := [.int (0), .int (0), .int (4), .int (0)]) (rest := []) rfl lkRX1_68 rfl rfl rfl (Nat.le_of_ble_eq_true rfl) (Nat.le_of_ble_eq_true rfl) (F_X1_told hc99)) rfl (Nat.le_of_ble_eq_true rfl) (Nat.le_of_ble_eq_true rfl) ?_
                          cases h; exact mr_ireturn (pc := 102) rfl rfl (Nat.le_of_ble_eq_true rfl) (Nat.le_of_ble_eq_true rfl)
                        · cases hr; exact mr_thrown (mRunV (pc := 99) (q := 8) (As := [.int (0), .int (0), .int (4), .int (0)]) (rest := []) rfl lkRX1_68 rfl rfl rfl (Nat.le_of_ble_eq_true rfl) (Nat.le_of_ble_eq_true rfl) (F_X1_told hc99)) rfl rfl (Nat.le_of_ble_eq_true rfl) (Nat.le_of_ble_eq_true rfl)
                      · cases hr; exact mr_thrown (mRunV (pc := 90) (q := 8) (As := [.int (3)]) (rest := []) rfl lkRX1_58 rfl rfl rfl (Nat.le_of_ble_eq_true rfl) (Nat.le_of_ble_eq_true rfl) (F_X1_fail hc90)) rfl rfl (Nat.le_of_ble_eq_true rfl) (Nat.le_of_ble_eq_true rfl)
                · cases hr; exact mr_thrown (mRunV (pc := 65) (q := 8) (As := [.int (a3)]) (rest := []) rfl lkRX1_83 rfl rfl rfl (Nat.le_of_ble_eq_true rfl) (Nat.le_of_ble_eq_true rfl) (F_X1_lieIn hc65)) rfl rfl (Nat.le_of_ble_eq_true rfl) (Nat.le_of_ble_eq_true rfl)
              · have h := (if_pos c51).symm.trans h
                refine mr_aload_n (pc := 54) (x := 8) rfl rfl ?_
                refine mr_iconst (pc := 55) (v := 3) rfl (by decide) ?_
                refine mr_iconst (pc := 56) (v := 0) rfl (by decide) ?_
                refine mr_iconst (pc := 57) (v := 0) rfl (by decide) ?_
                refine mr_iconst (pc := 58) (v := 0) rfl (by decide) ?_
                rcases bI_inv h with ⟨v59, Y59, hc59, h⟩ | ⟨E59, Y59, hc59, hr⟩
                · refine mr_ret (mRunV (pc := 59) (q := 8) (As := [.int (3), .int (0), .int (0), .int (0)]) (rest := []) rfl lkRX1_68 rfl rfl rfl (Nat.le_of_ble_eq_true rfl) (Nat.le_of_ble_eq_true rfl) (F_X1_told hc59)) rfl (Nat.le_of_ble_eq_true rfl) (Nat.le_of_ble_eq_true rfl) ?_
                  cases h; exact mr_ireturn (pc := 62) rfl rfl (Nat.le_of_ble_eq_true rfl) (Nat.le_of_ble_eq_true rfl)
                · cases hr; exact mr_thrown (mRunV (pc := 59) (q := 8) (As := [.int (3), .int (0), .int (0), .int (0)]) (rest := []) rfl lkRX1_68 rfl rfl rfl (Nat.le_of_ble_eq_true rfl) (Nat.le_of_ble_eq_true rfl) (F_X1_told hc59)) rfl rfl (Nat.le_of_ble_eq_true rfl) (Nat.le_of_ble_eq_true rfl)
            · cases hr; exact mr_thrown (mRunV (pc := 48) (q := 8) (As := [.int (a3)]) (rest := []) rfl lkRX1_65 rfl rfl rfl (Nat.le_of_ble_eq_true rfl) (Nat.le_of_ble_eq_true rfl) (F_X1_hold hc48)) rfl rfl (Nat.le_of_ble_eq_true rfl) (Nat.le_of_ble_eq_true rfl)
          · have h := (if_neg c41).symm.trans h
            refine mr_iconst (pc := 44) (v := 0) rfl (by decide) ?_
            cases h; exact mr_ireturn (pc := 45) rfl rfl (Nat.le_of_ble_eq_true rfl) (Nat.le_of_ble_eq_true rfl)
      · cases hr; exact mr_thrown (mRunS (pc := 9) (As := [.int (a3)]) (rest := [.ref 8]) rfl lkRX1_62 rfl (Nat.le_of_ble_eq_true rfl) (Nat.le_of_ble_eq_true rfl) (F_X1_isPool hc9)) rfl rfl (Nat.le_of_ble_eq_true rfl) (Nat.le_of_ble_eq_true rfl)
  · cases hr; exact mr_thrown (mRunS (pc := 2) (As := [.int (a1)]) (rest := [.ref 8]) rfl lkRX1_80 rfl (Nat.le_of_ble_eq_true rfl) (Nat.le_of_ble_eq_true rfl) (F_X1_isBoat hc2)) rfl rfl (Nat.le_of_ble_eq_true rfl) (Nat.le_of_ble_eq_true rfl)
