/-! THE LAW'S CASES, by program (wip/whole/gencases.py) -/
theorem m_cmp (x : Int64) : lg_cmp x x = 0 := by simp [lg_cmp]
abbrev ZL (i : Int32) : List (Option Value) := [some (.ref 1000), some (.ref 0), some (.ref 8), some (.ref 17), some (.int i), none, none]
set_option maxRecDepth 100000 in
set_option maxHeartbeats 4000000 in
theorem Z_dig {S : Nat × (Nat → Int32)} {X X' : cS} {Y Y' : rS} {kc b : Int32} {o o' : Nat → Int64} {i : Int32} {k n : Nat} {r : mR} (hi1 : vp_in (i + 1) S.1) (hi2 : vp_in (i + 2) S.1) (hH : mF S ML_dig 0 (mEnt [.ref 0, .int (S.2 (i + 1 : Int32).toNatClampNeg), .int (S.2 (i + 2 : Int32).toNatClampNeg), .ref 17] 5) [] (lw X Y o) 0 0 (.inl (some (.int kc)), lw X' Y o', 2, 16)) (hM : g_X1_dig Y (S.2 (i + 1 : Int32).toNatClampNeg) (S.2 (i + 2 : Int32).toNatClampNeg) = some (.inl (some (.int b)), Y')) (hT : Y'.2.2.2.2.2.2.2.2.1 = kc) (hV : kc = 0 → o' 0 = b.toInt64) (hk : k + 2 ≤ r.2.2.1) (hn : n + 16 ≤ r.2.2.2) (k9 : mF S ML_law 1143 (ZL i) [] (lw X' Y' o') (k + 2) (n + 16) r) : mF S ML_law 120 (ZL i) [] (lw X Y o) k n r := by
  refine mr_aload_n (pc := 120) rfl rfl ?_
  refine mr_aload_n (pc := 121) rfl rfl ?_
  refine mr_iload (pc := 122) rfl rfl ?_
  refine mr_iconst (pc := 124) (v := 1) rfl (by decide) ?_
  refine mr_iadd (pc := 125) rfl ?_
  refine mr_sload (pc := 126) rfl hi1 ?_
  refine mr_aload_n (pc := 127) rfl rfl ?_
  refine mr_iload (pc := 128) rfl rfl ?_
  refine mr_iconst (pc := 130) (v := 2) rfl (by decide) ?_
  refine mr_iadd (pc := 131) rfl ?_
  refine mr_sload (pc := 132) rfl hi2 ?_
  refine mr_aload_n (pc := 133) rfl rfl ?_
  refine mr_ret (mRunS (pc := 134) (As := [.ref 0, .int (S.2 (i + 1 : Int32).toNatClampNeg), .int (S.2 (i + 2 : Int32).toNatClampNeg), .ref 17]) (rest := []) rfl lkRL_71 rfl (Nat.le_of_ble_eq_true rfl) (Nat.le_of_ble_eq_true rfl) hH) rfl hk hn ?_
  refine ms_istore (pc := 137) (L' := [some (.ref 1000), some (.ref 0), some (.ref 8), some (.ref 17), some (.int i), some (.int kc), none]) rfl (by decide) rfl rfl ?_
  refine mr_aload_n (pc := 139) rfl rfl ?_
  refine mr_aload_n (pc := 140) rfl rfl ?_
  refine mr_iload (pc := 141) rfl rfl ?_
  refine mr_iconst (pc := 143) (v := 1) rfl (by decide) ?_
  refine mr_iadd (pc := 144) rfl ?_
  refine mr_sload (pc := 145) rfl hi1 ?_
  refine mr_aload_n (pc := 146) rfl rfl ?_
  refine mr_iload (pc := 147) rfl rfl ?_
  refine mr_iconst (pc := 149) (v := 2) rfl (by decide) ?_
  refine mr_iadd (pc := 150) rfl ?_
  refine mr_sload (pc := 151) rfl hi2 ?_
  refine mr_ret (mRunV (pc := 152) (q := 8) (As := [.int (S.2 (i + 1 : Int32).toNatClampNeg), .int (S.2 (i + 2 : Int32).toNatClampNeg)]) (rest := []) rfl lkRL_76 rfl rfl rfl (Nat.le_of_ble_eq_true rfl) (Nat.le_of_ble_eq_true rfl) (F_X1_dig (Z := X') (T := [.inl (2, 1, .inr (.inl o'))]) hM)) rfl hk hn ?_
  refine ms_istore (pc := 155) (L' := [some (.ref 1000), some (.ref 0), some (.ref 8), some (.ref 17), some (.int i), some (.int kc), some (.int b)]) rfl (by decide) rfl rfl ?_
  refine mr_aload_n (pc := 157) rfl rfl ?_
  refine mr_ret (mRunV (pc := 158) (q := 8) (As := []) (rest := []) rfl lkRL_77 rfl rfl rfl (Nat.le_of_ble_eq_true rfl) (Nat.le_of_ble_eq_true rfl) (F_X1_thrown (Z := X') (T := [.inl (2, 1, .inr (.inl o'))]) (Y := Y') (R9 := Y') (o9 := .inl (some (.int Y'.2.2.2.2.2.2.2.2.1))) rfl)) rfl hk hn ?_
  refine mr_iload (pc := 161) rfl rfl ?_
  refine mr_icmp_eq (pc := 163) 168 rfl (by decide) (fun _ => ?_) (fun c9 => absurd hT c9)
  refine mr_iload (pc := 168) rfl rfl ?_
  refine mr_if_ne (pc := 170) 185 rfl (by decide) (fun _ => ?_) (fun c0 => ?_)
  · skip
    refine mr_goto (pc := 185) 1143 rfl (by decide) ?_
    refine ms_drop (i := 5) (L' := [some (.ref 1000), some (.ref 0), some (.ref 8), some (.ref 17), some (.int i), none, some (.int b)]) rfl ?_
    refine ms_drop (i := 6) (L' := ZL i) rfl ?_
    exact k9
  · skip
    refine mr_aload_n (pc := 173) rfl rfl ?_
    refine mr_iconst (pc := 174) (v := 0) rfl (by decide) ?_
    refine mr_laload (pc := 175) (q := 17) (N := 1) (f := o') rfl rfl (vpb_in (by decide)) ?_
    refine mr_iload (pc := 176) rfl rfl ?_
    refine mr_i2l (pc := 178) rfl ?_
    refine mr_lcmp (pc := 179) rfl ?_
    refine mr_if_eq (pc := 180) 185 rfl (by decide) (fun _ => ?_) (fun c9 => absurd (by rw [show o' (0 : Int32).toNatClampNeg = b.toInt64 from hV c0]; exact m_cmp _) c9)
    refine mr_goto (pc := 185) 1143 rfl (by decide) ?_
    refine ms_drop (i := 5) (L' := [some (.ref 1000), some (.ref 0), some (.ref 8), some (.ref 17), some (.int i), none, some (.int b)]) rfl ?_
    refine ms_drop (i := 6) (L' := ZL i) rfl ?_
    exact k9
set_option maxRecDepth 100000 in
set_option maxHeartbeats 4000000 in
theorem Z_fill {S : Nat × (Nat → Int32)} {X X' : cS} {Y Y' : rS} {kc b : Int32} {o o' : Nat → Int64} {i : Int32} {k n : Nat} {r : mR} (hi1 : vp_in (i + 1) S.1) (hH : mF S ML_fill 0 (mEnt [.ref 0, .int (S.2 (i + 1 : Int32).toNatClampNeg), .ref 17] 4) [] (lw X Y o) 0 0 (.inl (some (.int kc)), lw X' Y o', 2, 16)) (hM : g_X1_fill Y (S.2 (i + 1 : Int32).toNatClampNeg) = some (.inl (some (.int b)), Y')) (hT : Y'.2.2.2.2.2.2.2.2.1 = kc) (hV : kc = 0 → o' 0 = b.toInt64) (hk : k + 2 ≤ r.2.2.1) (hn : n + 16 ≤ r.2.2.2) (k9 : mF S ML_law 1143 (ZL i) [] (lw X' Y' o') (k + 2) (n + 16) r) : mF S ML_law 188 (ZL i) [] (lw X Y o) k n r := by
  refine mr_aload_n (pc := 188) rfl rfl ?_
  refine mr_aload_n (pc := 189) rfl rfl ?_
  refine mr_iload (pc := 190) rfl rfl ?_
  refine mr_iconst (pc := 192) (v := 1) rfl (by decide) ?_
  refine mr_iadd (pc := 193) rfl ?_
  refine mr_sload (pc := 194) rfl hi1 ?_
  refine mr_aload_n (pc := 195) rfl rfl ?_
  refine mr_ret (mRunS (pc := 196) (As := [.ref 0, .int (S.2 (i + 1 : Int32).toNatClampNeg), .ref 17]) (rest := []) rfl lkRL_81 rfl (Nat.le_of_ble_eq_true rfl) (Nat.le_of_ble_eq_true rfl) hH) rfl hk hn ?_
  refine ms_istore (pc := 199) (L' := [some (.ref 1000), some (.ref 0), some (.ref 8), some (.ref 17), some (.int i), some (.int kc), none]) rfl (by decide) rfl rfl ?_
  refine mr_aload_n (pc := 201) rfl rfl ?_
  refine mr_aload_n (pc := 202) rfl rfl ?_
  refine mr_iload (pc := 203) rfl rfl ?_
  refine mr_iconst (pc := 205) (v := 1) rfl (by decide) ?_
  refine mr_iadd (pc := 206) rfl ?_
  refine mr_sload (pc := 207) rfl hi1 ?_
  refine mr_ret (mRunV (pc := 208) (q := 8) (As := [.int (S.2 (i + 1 : Int32).toNatClampNeg)]) (rest := []) rfl lkRL_84 rfl rfl rfl (Nat.le_of_ble_eq_true rfl) (Nat.le_of_ble_eq_true rfl) (F_X1_fill (Z := X') (T := [.inl (2, 1, .inr (.inl o'))]) hM)) rfl hk hn ?_
  refine ms_istore (pc := 211) (L' := [some (.ref 1000), some (.ref 0), some (.ref 8), some (.ref 17), some (.int i), some (.int kc), some (.int b)]) rfl (by decide) rfl rfl ?_
  refine mr_aload_n (pc := 213) rfl rfl ?_
  refine mr_ret (mRunV (pc := 214) (q := 8) (As := []) (rest := []) rfl lkRL_77 rfl rfl rfl (Nat.le_of_ble_eq_true rfl) (Nat.le_of_ble_eq_true rfl) (F_X1_thrown (Z := X') (T := [.inl (2, 1, .inr (.inl o'))]) (Y := Y') (R9 := Y') (o9 := .inl (some (.int Y'.2.2.2.2.2.2.2.2.1))) rfl)) rfl hk hn ?_
  refine mr_iload (pc := 217) rfl rfl ?_
  refine mr_icmp_eq (pc := 219) 224 rfl (by decide) (fun _ => ?_) (fun c9 => absurd hT c9)
  refine mr_iload (pc := 224) rfl rfl ?_
  refine mr_if_ne (pc := 226) 241 rfl (by decide) (fun _ => ?_) (fun c0 => ?_)
  · skip
    refine mr_goto (pc := 241) 1143 rfl (by decide) ?_
    refine ms_drop (i := 5) (L' := [some (.ref 1000), some (.ref 0), some (.ref 8), some (.ref 17), some (.int i), none, some (.int b)]) rfl ?_
    refine ms_drop (i := 6) (L' := ZL i) rfl ?_
    exact k9
  · skip
    refine mr_aload_n (pc := 229) rfl rfl ?_
    refine mr_iconst (pc := 230) (v := 0) rfl (by decide) ?_
    refine mr_laload (pc := 231) (q := 17) (N := 1) (f := o') rfl rfl (vpb_in (by decide)) ?_
    refine mr_iload (pc := 232) rfl rfl ?_
    refine mr_i2l (pc := 234) rfl ?_
    refine mr_lcmp (pc := 235) rfl ?_
    refine mr_if_eq (pc := 236) 241 rfl (by decide) (fun _ => ?_) (fun c9 => absurd (by rw [show o' (0 : Int32).toNatClampNeg = b.toInt64 from hV c0]; exact m_cmp _) c9)
    refine mr_goto (pc := 241) 1143 rfl (by decide) ?_
    refine ms_drop (i := 5) (L' := [some (.ref 1000), some (.ref 0), some (.ref 8), some (.ref 17), some (.int i), none, some (.int b)]) rfl ?_
    refine ms_drop (i := 6) (L' := ZL i) rfl ?_
    exact k9
set_option maxRecDepth 100000 in
set_option maxHeartbeats 4000000 in
theorem Z_pour {S : Nat × (Nat → Int32)} {X X' : cS} {Y Y' : rS} {kc b : Int32} {o o' : Nat → Int64} {i : Int32} {k n : Nat} {r : mR} (hi1 : vp_in (i + 1) S.1) (hi2 : vp_in (i + 2) S.1) (hH : mF S ML_pour 0 (mEnt [.ref 0, .int (S.2 (i + 1 : Int32).toNatClampNeg), .int (S.2 (i + 2 : Int32).toNatClampNeg), .ref 17] 5) [] (lw X Y o) 0 0 (.inl (some (.int kc)), lw X' Y o', 3, 24)) (hM : g_X1_pour Y (S.2 (i + 1 : Int32).toNatClampNeg) (S.2 (i + 2 : Int32).toNatClampNeg) = some (.inl (some (.int b)), Y')) (hT : Y'.2.2.2.2.2.2.2.2.1 = kc) (hV : kc = 0 → o' 0 = b.toInt64) (hk : k + 3 ≤ r.2.2.1) (hn : n + 24 ≤ r.2.2.2) (k9 : mF S ML_law 1143 (ZL i) [] (lw X' Y' o') (k + 3) (n + 24) r) : mF S ML_law 244 (ZL i) [] (lw X Y o) k n r := by
  refine mr_aload_n (pc := 244) rfl rfl ?_
  refine mr_aload_n (pc := 245) rfl rfl ?_
  refine mr_iload (pc := 246) rfl rfl ?_
  refine mr_iconst (pc := 248) (v := 1) rfl (by decide) ?_
  refine mr_iadd (pc := 249) rfl ?_
  refine mr_sload (pc := 250) rfl hi1 ?_
  refine mr_aload_n (pc := 251) rfl rfl ?_
  refine mr_iload (pc := 252) rfl rfl ?_
  refine mr_iconst (pc := 254) (v := 2) rfl (by decide) ?_
  refine mr_iadd (pc := 255) rfl ?_
  refine mr_sload (pc := 256) rfl hi2 ?_
  refine mr_aload_n (pc := 257) rfl rfl ?_
  refine mr_ret (mRunS (pc := 258) (As := [.ref 0, .int (S.2 (i + 1 : Int32).toNatClampNeg), .int (S.2 (i + 2 : Int32).toNatClampNeg), .ref 17]) (rest := []) rfl lkRL_85 rfl (Nat.le_of_ble_eq_true rfl) (Nat.le_of_ble_eq_true rfl) hH) rfl hk hn ?_
  refine ms_istore (pc := 261) (L' := [some (.ref 1000), some (.ref 0), some (.ref 8), some (.ref 17), some (.int i), some (.int kc), none]) rfl (by decide) rfl rfl ?_
  refine mr_aload_n (pc := 263) rfl rfl ?_
  refine mr_aload_n (pc := 264) rfl rfl ?_
  refine mr_iload (pc := 265) rfl rfl ?_
  refine mr_iconst (pc := 267) (v := 1) rfl (by decide) ?_
  refine mr_iadd (pc := 268) rfl ?_
  refine mr_sload (pc := 269) rfl hi1 ?_
  refine mr_aload_n (pc := 270) rfl rfl ?_
  refine mr_iload (pc := 271) rfl rfl ?_
  refine mr_iconst (pc := 273) (v := 2) rfl (by decide) ?_
  refine mr_iadd (pc := 274) rfl ?_
  refine mr_sload (pc := 275) rfl hi2 ?_
  refine mr_ret (mRunV (pc := 276) (q := 8) (As := [.int (S.2 (i + 1 : Int32).toNatClampNeg), .int (S.2 (i + 2 : Int32).toNatClampNeg)]) (rest := []) rfl lkRL_87 rfl rfl rfl (Nat.le_of_ble_eq_true rfl) (Nat.le_of_ble_eq_true rfl) (F_X1_pour (Z := X') (T := [.inl (2, 1, .inr (.inl o'))]) hM)) rfl hk hn ?_
  refine ms_istore (pc := 279) (L' := [some (.ref 1000), some (.ref 0), some (.ref 8), some (.ref 17), some (.int i), some (.int kc), some (.int b)]) rfl (by decide) rfl rfl ?_
  refine mr_aload_n (pc := 281) rfl rfl ?_
  refine mr_ret (mRunV (pc := 282) (q := 8) (As := []) (rest := []) rfl lkRL_77 rfl rfl rfl (Nat.le_of_ble_eq_true rfl) (Nat.le_of_ble_eq_true rfl) (F_X1_thrown (Z := X') (T := [.inl (2, 1, .inr (.inl o'))]) (Y := Y') (R9 := Y') (o9 := .inl (some (.int Y'.2.2.2.2.2.2.2.2.1))) rfl)) rfl hk hn ?_
  refine mr_iload (pc := 285) rfl rfl ?_
  refine mr_icmp_eq (pc := 287) 292 rfl (by decide) (fun _ => ?_) (fun c9 => absurd hT c9)
  refine mr_iload (pc := 292) rfl rfl ?_
  refine mr_if_ne (pc := 294) 309 rfl (by decide) (fun _ => ?_) (fun c0 => ?_)
  · skip
    refine mr_goto (pc := 309) 1143 rfl (by decide) ?_
    refine ms_drop (i := 5) (L' := [some (.ref 1000), some (.ref 0), some (.ref 8), some (.ref 17), some (.int i), none, some (.int b)]) rfl ?_
    refine ms_drop (i := 6) (L' := ZL i) rfl ?_
    exact k9
  · skip
    refine mr_aload_n (pc := 297) rfl rfl ?_
    refine mr_iconst (pc := 298) (v := 0) rfl (by decide) ?_
    refine mr_laload (pc := 299) (q := 17) (N := 1) (f := o') rfl rfl (vpb_in (by decide)) ?_
    refine mr_iload (pc := 300) rfl rfl ?_
    refine mr_i2l (pc := 302) rfl ?_
    refine mr_lcmp (pc := 303) rfl ?_
    refine mr_if_eq (pc := 304) 309 rfl (by decide) (fun _ => ?_) (fun c9 => absurd (by rw [show o' (0 : Int32).toNatClampNeg = b.toInt64 from hV c0]; exact m_cmp _) c9)
    refine mr_goto (pc := 309) 1143 rfl (by decide) ?_
    refine ms_drop (i := 5) (L' := [some (.ref 1000), some (.ref 0), some (.ref 8), some (.ref 17), some (.int i), none, some (.int b)]) rfl ?_
    refine ms_drop (i := 6) (L' := ZL i) rfl ?_
    exact k9
set_option maxRecDepth 100000 in
set_option maxHeartbeats 4000000 in
theorem Z_draw {S : Nat × (Nat → Int32)} {X X' : cS} {Y Y' : rS} {kc b : Int32} {o o' : Nat → Int64} {i : Int32} {k n : Nat} {r : mR} (hi1 : vp_in (i + 1) S.1) (hi2 : vp_in (i + 2) S.1) (hH : mF S ML_draw 0 (mEnt [.ref 0, .int (S.2 (i + 1 : Int32).toNatClampNeg), .int (S.2 (i + 2 : Int32).toNatClampNeg), .ref 17] 5) [] (lw X Y o) 0 0 (.inl (some (.int kc)), lw X' Y o', 3, 24)) (hM : g_X1_draw Y (S.2 (i + 1 : Int32).toNatClampNeg) (S.2 (i + 2 : Int32).toNatClampNeg) = some (.inl (some (.int b)), Y')) (hT : Y'.2.2.2.2.2.2.2.2.1 = kc) (hV : kc = 0 → o' 0 = b.toInt64) (hk : k + 3 ≤ r.2.2.1) (hn : n + 24 ≤ r.2.2.2) (k9 : mF S ML_law 1143 (ZL i) [] (lw X' Y' o') (k + 3) (n + 24) r) : mF S ML_law 312 (ZL i) [] (lw X Y o) k n r := by
  refine mr_aload_n (pc := 312) rfl rfl ?_
  refine mr_aload_n (pc := 313) rfl rfl ?_
  refine mr_iload (pc := 314) rfl rfl ?_
  refine mr_iconst (pc := 316) (v := 1) rfl (by decide) ?_
  refine mr_iadd (pc := 317) rfl ?_
  refine mr_sload (pc := 318) rfl hi1 ?_
  refine mr_aload_n (pc := 319) rfl rfl ?_
  refine mr_iload (pc := 320) rfl rfl ?_
  refine mr_iconst (pc := 322) (v := 2) rfl (by decide) ?_
  refine mr_iadd (pc := 323) rfl ?_
  refine mr_sload (pc := 324) rfl hi2 ?_
  refine mr_aload_n (pc := 325) rfl rfl ?_
  refine mr_ret (mRunS (pc := 326) (As := [.ref 0, .int (S.2 (i + 1 : Int32).toNatClampNeg), .int (S.2 (i + 2 : Int32).toNatClampNeg), .ref 17]) (rest := []) rfl lkRL_88 rfl (Nat.le_of_ble_eq_true rfl) (Nat.le_of_ble_eq_true rfl) hH) rfl hk hn ?_
  refine ms_istore (pc := 329) (L' := [some (.ref 1000), some (.ref 0), some (.ref 8), some (.ref 17), some (.int i), some (.int kc), none]) rfl (by decide) rfl rfl ?_
  refine mr_aload_n (pc := 331) rfl rfl ?_
  refine mr_aload_n (pc := 332) rfl rfl ?_
  refine mr_iload (pc := 333) rfl rfl ?_
  refine mr_iconst (pc := 335) (v := 1) rfl (by decide) ?_
  refine mr_iadd (pc := 336) rfl ?_
  refine mr_sload (pc := 337) rfl hi1 ?_
  refine mr_aload_n (pc := 338) rfl rfl ?_
  refine mr_iload (pc := 339) rfl rfl ?_
  refine mr_iconst (pc := 341) (v := 2) rfl (by decide) ?_
  refine mr_iadd (pc := 342) rfl ?_
  refine mr_sload (pc := 343) rfl hi2 ?_
  refine mr_ret (mRunV (pc := 344) (q := 8) (As := [.int (S.2 (i + 1 : Int32).toNatClampNeg), .int (S.2 (i + 2 : Int32).toNatClampNeg)]) (rest := []) rfl lkRL_90 rfl rfl rfl (Nat.le_of_ble_eq_true rfl) (Nat.le_of_ble_eq_true rfl) (F_X1_draw (Z := X') (T := [.inl (2, 1, .inr (.inl o'))]) hM)) rfl hk hn ?_
  refine ms_istore (pc := 347) (L' := [some (.ref 1000), some (.ref 0), some (.ref 8), some (.ref 17), some (.int i), some (.int kc), some (.int b)]) rfl (by decide) rfl rfl ?_
  refine mr_aload_n (pc := 349) rfl rfl ?_
  refine mr_ret (mRunV (pc := 350) (q := 8) (As := []) (rest := []) rfl lkRL_77 rfl rfl rfl (Nat.le_of_ble_eq_true rfl) (Nat.le_of_ble_eq_true rfl) (F_X1_thrown (Z := X') (T := [.inl (2, 1, .inr (.inl o'))]) (Y := Y') (R9 := Y') (o9 := .inl (some (.int Y'.2.2.2.2.2.2.2.2.1))) rfl)) rfl hk hn ?_
  refine mr_iload (pc := 353) rfl rfl ?_
  refine mr_icmp_eq (pc := 355) 360 rfl (by decide) (fun _ => ?_) (fun c9 => absurd hT c9)
  refine mr_iload (pc := 360) rfl rfl ?_
  refine mr_if_ne (pc := 362) 377 rfl (by decide) (fun _ => ?_) (fun c0 => ?_)
  · skip
    refine mr_goto (pc := 377) 1143 rfl (by decide) ?_
    refine ms_drop (i := 5) (L' := [some (.ref 1000), some (.ref 0), some (.ref 8), some (.ref 17), some (.int i), none, some (.int b)]) rfl ?_
    refine ms_drop (i := 6) (L' := ZL i) rfl ?_
    exact k9
  · skip
    refine mr_aload_n (pc := 365) rfl rfl ?_
    refine mr_iconst (pc := 366) (v := 0) rfl (by decide) ?_
    refine mr_laload (pc := 367) (q := 17) (N := 1) (f := o') rfl rfl (vpb_in (by decide)) ?_
    refine mr_iload (pc := 368) rfl rfl ?_
    refine mr_i2l (pc := 370) rfl ?_
    refine mr_lcmp (pc := 371) rfl ?_
    refine mr_if_eq (pc := 372) 377 rfl (by decide) (fun _ => ?_) (fun c9 => absurd (by rw [show o' (0 : Int32).toNatClampNeg = b.toInt64 from hV c0]; exact m_cmp _) c9)
    refine mr_goto (pc := 377) 1143 rfl (by decide) ?_
    refine ms_drop (i := 5) (L' := [some (.ref 1000), some (.ref 0), some (.ref 8), some (.ref 17), some (.int i), none, some (.int b)]) rfl ?_
    refine ms_drop (i := 6) (L' := ZL i) rfl ?_
    exact k9
set_option maxRecDepth 100000 in
set_option maxHeartbeats 4000000 in
theorem Z_boat {S : Nat × (Nat → Int32)} {X X' : cS} {Y Y' : rS} {kc b : Int32} {o o' : Nat → Int64} {i : Int32} {k n : Nat} {r : mR} (hi1 : vp_in (i + 1) S.1) (hi2 : vp_in (i + 2) S.1) (hi3 : vp_in (i + 3) S.1) (hH : mF S ML_boat 0 (mEnt [.ref 0, .int (S.2 (i + 1 : Int32).toNatClampNeg), .int (S.2 (i + 2 : Int32).toNatClampNeg), .int (S.2 (i + 3 : Int32).toNatClampNeg), .ref 17] 6) [] (lw X Y o) 0 0 (.inl (some (.int kc)), lw X' Y o', 4, 32)) (hM : g_X1_boat Y (S.2 (i + 1 : Int32).toNatClampNeg) (S.2 (i + 2 : Int32).toNatClampNeg) (S.2 (i + 3 : Int32).toNatClampNeg) = some (.inl (some (.int b)), Y')) (hT : Y'.2.2.2.2.2.2.2.2.1 = kc) (hV : kc = 0 → o' 0 = b.toInt64) (hk : k + 4 ≤ r.2.2.1) (hn : n + 32 ≤ r.2.2.2) (k9 : mF S ML_law 1143 (ZL i) [] (lw X' Y' o') (k + 4) (n + 32) r) : mF S ML_law 380 (ZL i) [] (lw X Y o) k n r := by
  refine mr_aload_n (pc := 380) rfl rfl ?_
  refine mr_aload_n (pc := 381) rfl rfl ?_
  refine mr_iload (pc := 382) rfl rfl ?_
  refine mr_iconst (pc := 384) (v := 1) rfl (by decide) ?_
  refine mr_iadd (pc := 385) rfl ?_
  refine mr_sload (pc := 386) rfl hi1 ?_
  refine mr_aload_n (pc := 387) rfl rfl ?_
  refine mr_iload (pc := 388) rfl rfl ?_
  refine mr_iconst (pc := 390) (v := 2) rfl (by decide) ?_
  refine mr_iadd (pc := 391) rfl ?_
  refine mr_sload (pc := 392) rfl hi2 ?_
  refine mr_aload_n (pc := 393) rfl rfl ?_
  refine mr_iload (pc := 394) rfl rfl ?_
  refine mr_iconst (pc := 396) (v := 3) rfl (by decide) ?_
  refine mr_iadd (pc := 397) rfl ?_
  refine mr_sload (pc := 398) rfl hi3 ?_
  refine mr_aload_n (pc := 399) rfl rfl ?_
  refine mr_ret (mRunS (pc := 400) (As := [.ref 0, .int (S.2 (i + 1 : Int32).toNatClampNeg), .int (S.2 (i + 2 : Int32).toNatClampNeg), .int (S.2 (i + 3 : Int32).toNatClampNeg), .ref 17]) (rest := []) rfl lkRL_91 rfl (Nat.le_of_ble_eq_true rfl) (Nat.le_of_ble_eq_true rfl) hH) rfl hk hn ?_
  refine ms_istore (pc := 403) (L' := [some (.ref 1000), some (.ref 0), some (.ref 8), some (.ref 17), some (.int i), some (.int kc), none]) rfl (by decide) rfl rfl ?_
  refine mr_aload_n (pc := 405) rfl rfl ?_
  refine mr_aload_n (pc := 406) rfl rfl ?_
  refine mr_iload (pc := 407) rfl rfl ?_
  refine mr_iconst (pc := 409) (v := 1) rfl (by decide) ?_
  refine mr_iadd (pc := 410) rfl ?_
  refine mr_sload (pc := 411) rfl hi1 ?_
  refine mr_aload_n (pc := 412) rfl rfl ?_
  refine mr_iload (pc := 413) rfl rfl ?_
  refine mr_iconst (pc := 415) (v := 2) rfl (by decide) ?_
  refine mr_iadd (pc := 416) rfl ?_
  refine mr_sload (pc := 417) rfl hi2 ?_
  refine mr_aload_n (pc := 418) rfl rfl ?_
  refine mr_iload (pc := 419) rfl rfl ?_
  refine mr_iconst (pc := 421) (v := 3) rfl (by decide) ?_
  refine mr_iadd (pc := 422) rfl ?_
  refine mr_sload (pc := 423) rfl hi3 ?_
  refine mr_ret (mRunV (pc := 424) (q := 8) (As := [.int (S.2 (i + 1 : Int32).toNatClampNeg), .int (S.2 (i + 2 : Int32).toNatClampNeg), .int (S.2 (i + 3 : Int32).toNatClampNeg)]) (rest := []) rfl lkRL_94 rfl rfl rfl (Nat.le_of_ble_eq_true rfl) (Nat.le_of_ble_eq_true rfl) (F_X1_boat (Z := X') (T := [.inl (2, 1, .inr (.inl o'))]) hM)) rfl hk hn ?_
  refine ms_istore (pc := 427) (L' := [some (.ref 1000), some (.ref 0), some (.ref 8), some (.ref 17), some (.int i), some (.int kc), some (.int b)]) rfl (by decide) rfl rfl ?_
  refine mr_aload_n (pc := 429) rfl rfl ?_
  refine mr_ret (mRunV (pc := 430) (q := 8) (As := []) (rest := []) rfl lkRL_77 rfl rfl rfl (Nat.le_of_ble_eq_true rfl) (Nat.le_of_ble_eq_true rfl) (F_X1_thrown (Z := X') (T := [.inl (2, 1, .inr (.inl o'))]) (Y := Y') (R9 := Y') (o9 := .inl (some (.int Y'.2.2.2.2.2.2.2.2.1))) rfl)) rfl hk hn ?_
  refine mr_iload (pc := 433) rfl rfl ?_
  refine mr_icmp_eq (pc := 435) 440 rfl (by decide) (fun _ => ?_) (fun c9 => absurd hT c9)
  refine mr_iload (pc := 440) rfl rfl ?_
  refine mr_if_ne (pc := 442) 457 rfl (by decide) (fun _ => ?_) (fun c0 => ?_)
  · skip
    refine mr_goto (pc := 457) 1143 rfl (by decide) ?_
    refine ms_drop (i := 5) (L' := [some (.ref 1000), some (.ref 0), some (.ref 8), some (.ref 17), some (.int i), none, some (.int b)]) rfl ?_
    refine ms_drop (i := 6) (L' := ZL i) rfl ?_
    exact k9
  · skip
    refine mr_aload_n (pc := 445) rfl rfl ?_
    refine mr_iconst (pc := 446) (v := 0) rfl (by decide) ?_
    refine mr_laload (pc := 447) (q := 17) (N := 1) (f := o') rfl rfl (vpb_in (by decide)) ?_
    refine mr_iload (pc := 448) rfl rfl ?_
    refine mr_i2l (pc := 450) rfl ?_
    refine mr_lcmp (pc := 451) rfl ?_
    refine mr_if_eq (pc := 452) 457 rfl (by decide) (fun _ => ?_) (fun c9 => absurd (by rw [show o' (0 : Int32).toNatClampNeg = b.toInt64 from hV c0]; exact m_cmp _) c9)
    refine mr_goto (pc := 457) 1143 rfl (by decide) ?_
    refine ms_drop (i := 5) (L' := [some (.ref 1000), some (.ref 0), some (.ref 8), some (.ref 17), some (.int i), none, some (.int b)]) rfl ?_
    refine ms_drop (i := 6) (L' := ZL i) rfl ?_
    exact k9
set_option maxRecDepth 100000 in
set_option maxHeartbeats 4000000 in
theorem Z_gate {S : Nat × (Nat → Int32)} {X X' : cS} {Y Y' : rS} {kc b : Int32} {o o' : Nat → Int64} {i : Int32} {k n : Nat} {r : mR} (hi1 : vp_in (i + 1) S.1) (hi2 : vp_in (i + 2) S.1) (hH : mF S ML_gate 0 (mEnt [.ref 0, .int (S.2 (i + 1 : Int32).toNatClampNeg), .int (S.2 (i + 2 : Int32).toNatClampNeg), .ref 17] 5) [] (lw X Y o) 0 0 (.inl (some (.int kc)), lw X' Y o', 2, 16)) (hM : g_X1_gate Y (S.2 (i + 1 : Int32).toNatClampNeg) (S.2 (i + 2 : Int32).toNatClampNeg) = some (.inl (some (.int b)), Y')) (hT : Y'.2.2.2.2.2.2.2.2.1 = kc) (hV : kc = 0 → o' 0 = b.toInt64) (hk : k + 2 ≤ r.2.2.1) (hn : n + 16 ≤ r.2.2.2) (k9 : mF S ML_law 1143 (ZL i) [] (lw X' Y' o') (k + 2) (n + 16) r) : mF S ML_law 460 (ZL i) [] (lw X Y o) k n r := by
  refine mr_aload_n (pc := 460) rfl rfl ?_
  refine mr_aload_n (pc := 461) rfl rfl ?_
  refine mr_iload (pc := 462) rfl rfl ?_
  refine mr_iconst (pc := 464) (v := 1) rfl (by decide) ?_
  refine mr_iadd (pc := 465) rfl ?_
  refine mr_sload (pc := 466) rfl hi1 ?_
  refine mr_aload_n (pc := 467) rfl rfl ?_
  refine mr_iload (pc := 468) rfl rfl ?_
  refine mr_iconst (pc := 470) (v := 2) rfl (by decide) ?_
  refine mr_iadd (pc := 471) rfl ?_
  refine mr_sload (pc := 472) rfl hi2 ?_
  refine mr_aload_n (pc := 473) rfl rfl ?_
  refine mr_ret (mRunS (pc := 474) (As := [.ref 0, .int (S.2 (i + 1 : Int32).toNatClampNeg), .int (S.2 (i + 2 : Int32).toNatClampNeg), .ref 17]) (rest := []) rfl lkRL_95 rfl (Nat.le_of_ble_eq_true rfl) (Nat.le_of_ble_eq_true rfl) hH) rfl hk hn ?_
  refine ms_istore (pc := 477) (L' := [some (.ref 1000), some (.ref 0), some (.ref 8), some (.ref 17), some (.int i), some (.int kc), none]) rfl (by decide) rfl rfl ?_
  refine mr_aload_n (pc := 479) rfl rfl ?_
  refine mr_aload_n (pc := 480) rfl rfl ?_
  refine mr_iload (pc := 481) rfl rfl ?_
  refine mr_iconst (pc := 483) (v := 1) rfl (by decide) ?_
  refine mr_iadd (pc := 484) rfl ?_
  refine mr_sload (pc := 485) rfl hi1 ?_
  refine mr_aload_n (pc := 486) rfl rfl ?_
  refine mr_iload (pc := 487) rfl rfl ?_
  refine mr_iconst (pc := 489) (v := 2) rfl (by decide) ?_
  refine mr_iadd (pc := 490) rfl ?_
  refine mr_sload (pc := 491) rfl hi2 ?_
  refine mr_ret (mRunV (pc := 492) (q := 8) (As := [.int (S.2 (i + 1 : Int32).toNatClampNeg), .int (S.2 (i + 2 : Int32).toNatClampNeg)]) (rest := []) rfl lkRL_97 rfl rfl rfl (Nat.le_of_ble_eq_true rfl) (Nat.le_of_ble_eq_true rfl) (F_X1_gate (Z := X') (T := [.inl (2, 1, .inr (.inl o'))]) hM)) rfl hk hn ?_
  refine ms_istore (pc := 495) (L' := [some (.ref 1000), some (.ref 0), some (.ref 8), some (.ref 17), some (.int i), some (.int kc), some (.int b)]) rfl (by decide) rfl rfl ?_
  refine mr_aload_n (pc := 497) rfl rfl ?_
  refine mr_ret (mRunV (pc := 498) (q := 8) (As := []) (rest := []) rfl lkRL_77 rfl rfl rfl (Nat.le_of_ble_eq_true rfl) (Nat.le_of_ble_eq_true rfl) (F_X1_thrown (Z := X') (T := [.inl (2, 1, .inr (.inl o'))]) (Y := Y') (R9 := Y') (o9 := .inl (some (.int Y'.2.2.2.2.2.2.2.2.1))) rfl)) rfl hk hn ?_
  refine mr_iload (pc := 501) rfl rfl ?_
  refine mr_icmp_eq (pc := 503) 508 rfl (by decide) (fun _ => ?_) (fun c9 => absurd hT c9)
  refine mr_iload (pc := 508) rfl rfl ?_
  refine mr_if_ne (pc := 510) 525 rfl (by decide) (fun _ => ?_) (fun c0 => ?_)
  · skip
    refine mr_goto (pc := 525) 1143 rfl (by decide) ?_
    refine ms_drop (i := 5) (L' := [some (.ref 1000), some (.ref 0), some (.ref 8), some (.ref 17), some (.int i), none, some (.int b)]) rfl ?_
    refine ms_drop (i := 6) (L' := ZL i) rfl ?_
    exact k9
  · skip
    refine mr_aload_n (pc := 513) rfl rfl ?_
    refine mr_iconst (pc := 514) (v := 0) rfl (by decide) ?_
    refine mr_laload (pc := 515) (q := 17) (N := 1) (f := o') rfl rfl (vpb_in (by decide)) ?_
    refine mr_iload (pc := 516) rfl rfl ?_
    refine mr_i2l (pc := 518) rfl ?_
    refine mr_lcmp (pc := 519) rfl ?_
    refine mr_if_eq (pc := 520) 525 rfl (by decide) (fun _ => ?_) (fun c9 => absurd (by rw [show o' (0 : Int32).toNatClampNeg = b.toInt64 from hV c0]; exact m_cmp _) c9)
    refine mr_goto (pc := 525) 1143 rfl (by decide) ?_
    refine ms_drop (i := 5) (L' := [some (.ref 1000), some (.ref 0), some (.ref 8), some (.ref 17), some (.int i), none, some (.int b)]) rfl ?_
    refine ms_drop (i := 6) (L' := ZL i) rfl ?_
    exact k9
set_option maxRecDepth 100000 in
set_option maxHeartbeats 4000000 in
theorem Z_level {S : Nat × (Nat → Int32)} {X X' : cS} {Y Y' : rS} {kc b : Int32} {o o' : Nat → Int64} {i : Int32} {k n : Nat} {r : mR} (hi1 : vp_in (i + 1) S.1) (hH : mF S ML_level 0 (mEnt [.ref 0, .int (S.2 (i + 1 : Int32).toNatClampNeg), .ref 17] 4) [] (lw X Y o) 0 0 (.inl (some (.int kc)), lw X' Y o', 2, 16)) (hM : g_X1_level Y (S.2 (i + 1 : Int32).toNatClampNeg) = some (.inl (some (.int b)), Y')) (hT : Y'.2.2.2.2.2.2.2.2.1 = kc) (hV : kc = 0 → o' 0 = b.toInt64) (hk : k + 2 ≤ r.2.2.1) (hn : n + 16 ≤ r.2.2.2) (k9 : mF S ML_law 1143 (ZL i) [] (lw X' Y' o') (k + 2) (n + 16) r) : mF S ML_law 528 (ZL i) [] (lw X Y o) k n r := by
  refine mr_aload_n (pc := 528) rfl rfl ?_
  refine mr_aload_n (pc := 529) rfl rfl ?_
  refine mr_iload (pc := 530) rfl rfl ?_
  refine mr_iconst (pc := 532) (v := 1) rfl (by decide) ?_
  refine mr_iadd (pc := 533) rfl ?_
  refine mr_sload (pc := 534) rfl hi1 ?_
  refine mr_aload_n (pc := 535) rfl rfl ?_
  refine mr_ret (mRunS (pc := 536) (As := [.ref 0, .int (S.2 (i + 1 : Int32).toNatClampNeg), .ref 17]) (rest := []) rfl lkRL_98 rfl (Nat.le_of_ble_eq_true rfl) (Nat.le_of_ble_eq_true rfl) hH) rfl hk hn ?_
  refine ms_istore (pc := 539) (L' := [some (.ref 1000), some (.ref 0), some (.ref 8), some (.ref 17), some (.int i), some (.int kc), none]) rfl (by decide) rfl rfl ?_
  refine mr_aload_n (pc := 541) rfl rfl ?_
  refine mr_aload_n (pc := 542) rfl rfl ?_
  refine mr_iload (pc := 543) rfl rfl ?_
  refine mr_iconst (pc := 545) (v := 1) rfl (by decide) ?_
  refine mr_iadd (pc := 546) rfl ?_
  refine mr_sload (pc := 547) rfl hi1 ?_
  refine mr_ret (mRunV (pc := 548) (q := 8) (As := [.int (S.2 (i + 1 : Int32).toNatClampNeg)]) (rest := []) rfl lkRL_100 rfl rfl rfl (Nat.le_of_ble_eq_true rfl) (Nat.le_of_ble_eq_true rfl) (F_X1_level (Z := X') (T := [.inl (2, 1, .inr (.inl o'))]) hM)) rfl hk hn ?_
  refine ms_istore (pc := 551) (L' := [some (.ref 1000), some (.ref 0), some (.ref 8), some (.ref 17), some (.int i), some (.int kc), some (.int b)]) rfl (by decide) rfl rfl ?_
  refine mr_aload_n (pc := 553) rfl rfl ?_
  refine mr_ret (mRunV (pc := 554) (q := 8) (As := []) (rest := []) rfl lkRL_77 rfl rfl rfl (Nat.le_of_ble_eq_true rfl) (Nat.le_of_ble_eq_true rfl) (F_X1_thrown (Z := X') (T := [.inl (2, 1, .inr (.inl o'))]) (Y := Y') (R9 := Y') (o9 := .inl (some (.int Y'.2.2.2.2.2.2.2.2.1))) rfl)) rfl hk hn ?_
  refine mr_iload (pc := 557) rfl rfl ?_
  refine mr_icmp_eq (pc := 559) 564 rfl (by decide) (fun _ => ?_) (fun c9 => absurd hT c9)
  refine mr_iload (pc := 564) rfl rfl ?_
  refine mr_if_ne (pc := 566) 581 rfl (by decide) (fun _ => ?_) (fun c0 => ?_)
  · skip
    refine mr_goto (pc := 581) 1143 rfl (by decide) ?_
    refine ms_drop (i := 5) (L' := [some (.ref 1000), some (.ref 0), some (.ref 8), some (.ref 17), some (.int i), none, some (.int b)]) rfl ?_
    refine ms_drop (i := 6) (L' := ZL i) rfl ?_
    exact k9
  · skip
    refine mr_aload_n (pc := 569) rfl rfl ?_
    refine mr_iconst (pc := 570) (v := 0) rfl (by decide) ?_
    refine mr_laload (pc := 571) (q := 17) (N := 1) (f := o') rfl rfl (vpb_in (by decide)) ?_
    refine mr_iload (pc := 572) rfl rfl ?_
    refine mr_i2l (pc := 574) rfl ?_
    refine mr_lcmp (pc := 575) rfl ?_
    refine mr_if_eq (pc := 576) 581 rfl (by decide) (fun _ => ?_) (fun c9 => absurd (by rw [show o' (0 : Int32).toNatClampNeg = b.toInt64 from hV c0]; exact m_cmp _) c9)
    refine mr_goto (pc := 581) 1143 rfl (by decide) ?_
    refine ms_drop (i := 5) (L' := [some (.ref 1000), some (.ref 0), some (.ref 8), some (.ref 17), some (.int i), none, some (.int b)]) rfl ?_
    refine ms_drop (i := 6) (L' := ZL i) rfl ?_
    exact k9
set_option maxRecDepth 100000 in
set_option maxHeartbeats 4000000 in
theorem Z_pass {S : Nat × (Nat → Int32)} {X X' : cS} {Y Y' : rS} {kc b : Int32} {o o' : Nat → Int64} {bo : Int32} {i : Int32} {k n : Nat} {r : mR} (hi1 : vp_in (i + 1) S.1) (hi2 : vp_in (i + 2) S.1) (hH : mF S ML_pass 0 (mEnt [.ref 0, .int (S.2 (i + 1 : Int32).toNatClampNeg), .int bo, .ref 17] 5) [] (lw X Y o) 0 0 (.inl (some (.int kc)), lw X' Y o', 3, 24)) (hM : g_X1_pass Y (S.2 (i + 1 : Int32).toNatClampNeg) bo = some (.inl (some (.int b)), Y')) (hT : Y'.2.2.2.2.2.2.2.2.1 = kc) (hV : kc = 0 → o' 0 = b.toInt64) (hs : (S.2 (i + 2 : Int32).toNatClampNeg = 0 ∧ bo = 0) ∨ (¬ S.2 (i + 2 : Int32).toNatClampNeg = 0 ∧ bo = 1)) (hk : k + 3 ≤ r.2.2.1) (hn : n + 24 ≤ r.2.2.2) (k9 : mF S ML_law 1143 (ZL i) [] (lw X' Y' o') (k + 3) (n + 24) r) : mF S ML_law 584 (ZL i) [] (lw X Y o) k n r := by
  rcases hs with ⟨hs, rfl⟩ | ⟨hs, rfl⟩
  · skip
    refine mr_aload_n (pc := 584) rfl rfl ?_
    refine mr_aload_n (pc := 585) rfl rfl ?_
    refine mr_iload (pc := 586) rfl rfl ?_
    refine mr_iconst (pc := 588) (v := 1) rfl (by decide) ?_
    refine mr_iadd (pc := 589) rfl ?_
    refine mr_sload (pc := 590) rfl hi1 ?_
    refine mr_aload_n (pc := 591) rfl rfl ?_
    refine mr_iload (pc := 592) rfl rfl ?_
    refine mr_iconst (pc := 594) (v := 2) rfl (by decide) ?_
    refine mr_iadd (pc := 595) rfl ?_
    refine mr_sload (pc := 596) rfl hi2 ?_
    refine mr_if_eq (pc := 597) 604 rfl (by decide) (fun _ => ?_) (fun c9 => absurd hs c9)
    refine mr_iconst (pc := 604) (v := 0) rfl (by decide) ?_
    refine mr_aload_n (pc := 605) rfl rfl ?_
    refine mr_ret (mRunS (pc := 606) (As := [.ref 0, .int (S.2 (i + 1 : Int32).toNatClampNeg), .int 0, .ref 17]) (rest := []) rfl lkRL_101 rfl (Nat.le_of_ble_eq_true rfl) (Nat.le_of_ble_eq_true rfl) hH) rfl hk hn ?_
    refine ms_istore (pc := 609) (L' := [some (.ref 1000), some (.ref 0), some (.ref 8), some (.ref 17), some (.int i), some (.int kc), none]) rfl (by decide) rfl rfl ?_
    refine mr_aload_n (pc := 611) rfl rfl ?_
    refine mr_aload_n (pc := 612) rfl rfl ?_
    refine mr_iload (pc := 613) rfl rfl ?_
    refine mr_iconst (pc := 615) (v := 1) rfl (by decide) ?_
    refine mr_iadd (pc := 616) rfl ?_
    refine mr_sload (pc := 617) rfl hi1 ?_
    refine mr_aload_n (pc := 618) rfl rfl ?_
    refine mr_iload (pc := 619) rfl rfl ?_
    refine mr_iconst (pc := 621) (v := 2) rfl (by decide) ?_
    refine mr_iadd (pc := 622) rfl ?_
    refine mr_sload (pc := 623) rfl hi2 ?_
    refine mr_if_eq (pc := 624) 631 rfl (by decide) (fun _ => ?_) (fun c9 => absurd hs c9)
    refine mr_iconst (pc := 631) (v := 0) rfl (by decide) ?_
    refine mr_ret (mRunV (pc := 632) (q := 8) (As := [.int (S.2 (i + 1 : Int32).toNatClampNeg), .int 0]) (rest := []) rfl lkRL_104 rfl rfl rfl (Nat.le_of_ble_eq_true rfl) (Nat.le_of_ble_eq_true rfl) (F_X1_pass (Z := X') (T := [.inl (2, 1, .inr (.inl o'))]) hM)) rfl hk hn ?_
    refine ms_istore (pc := 635) (L' := [some (.ref 1000), some (.ref 0), some (.ref 8), some (.ref 17), some (.int i), some (.int kc), some (.int b)]) rfl (by decide) rfl rfl ?_
    refine mr_aload_n (pc := 637) rfl rfl ?_
    refine mr_ret (mRunV (pc := 638) (q := 8) (As := []) (rest := []) rfl lkRL_77 rfl rfl rfl (Nat.le_of_ble_eq_true rfl) (Nat.le_of_ble_eq_true rfl) (F_X1_thrown (Z := X') (T := [.inl (2, 1, .inr (.inl o'))]) (Y := Y') (R9 := Y') (o9 := .inl (some (.int Y'.2.2.2.2.2.2.2.2.1))) rfl)) rfl hk hn ?_
    refine mr_iload (pc := 641) rfl rfl ?_
    refine mr_icmp_eq (pc := 643) 648 rfl (by decide) (fun _ => ?_) (fun c9 => absurd hT c9)
    refine mr_iload (pc := 648) rfl rfl ?_
    refine mr_if_ne (pc := 650) 665 rfl (by decide) (fun _ => ?_) (fun c0 => ?_)
    · skip
      refine mr_goto (pc := 665) 1143 rfl (by decide) ?_
      refine ms_drop (i := 5) (L' := [some (.ref 1000), some (.ref 0), some (.ref 8), some (.ref 17), some (.int i), none, some (.int b)]) rfl ?_
      refine ms_drop (i := 6) (L' := ZL i) rfl ?_
      exact k9
    · skip
      refine mr_aload_n (pc := 653) rfl rfl ?_
      refine mr_iconst (pc := 654) (v := 0) rfl (by decide) ?_
      refine mr_laload (pc := 655) (q := 17) (N := 1) (f := o') rfl rfl (vpb_in (by decide)) ?_
      refine mr_iload (pc := 656) rfl rfl ?_
      refine mr_i2l (pc := 658) rfl ?_
      refine mr_lcmp (pc := 659) rfl ?_
      refine mr_if_eq (pc := 660) 665 rfl (by decide) (fun _ => ?_) (fun c9 => absurd (by rw [show o' (0 : Int32).toNatClampNeg = b.toInt64 from hV c0]; exact m_cmp _) c9)
      refine mr_goto (pc := 665) 1143 rfl (by decide) ?_
      refine ms_drop (i := 5) (L' := [some (.ref 1000), some (.ref 0), some (.ref 8), some (.ref 17), some (.int i), none, some (.int b)]) rfl ?_
      refine ms_drop (i := 6) (L' := ZL i) rfl ?_
      exact k9
  · skip
    refine mr_aload_n (pc := 584) rfl rfl ?_
    refine mr_aload_n (pc := 585) rfl rfl ?_
    refine mr_iload (pc := 586) rfl rfl ?_
    refine mr_iconst (pc := 588) (v := 1) rfl (by decide) ?_
    refine mr_iadd (pc := 589) rfl ?_
    refine mr_sload (pc := 590) rfl hi1 ?_
    refine mr_aload_n (pc := 591) rfl rfl ?_
    refine mr_iload (pc := 592) rfl rfl ?_
    refine mr_iconst (pc := 594) (v := 2) rfl (by decide) ?_
    refine mr_iadd (pc := 595) rfl ?_
    refine mr_sload (pc := 596) rfl hi2 ?_
    refine mr_if_eq (pc := 597) 604 rfl (by decide) (fun c9 => absurd c9 hs) (fun _ => ?_)
    refine mr_iconst (pc := 600) (v := 1) rfl (by decide) ?_
    refine mr_goto (pc := 601) 605 rfl (by decide) ?_
    refine mr_aload_n (pc := 605) rfl rfl ?_
    refine mr_ret (mRunS (pc := 606) (As := [.ref 0, .int (S.2 (i + 1 : Int32).toNatClampNeg), .int 1, .ref 17]) (rest := []) rfl lkRL_101 rfl (Nat.le_of_ble_eq_true rfl) (Nat.le_of_ble_eq_true rfl) hH) rfl hk hn ?_
    refine ms_istore (pc := 609) (L' := [some (.ref 1000), some (.ref 0), some (.ref 8), some (.ref 17), some (.int i), some (.int kc), none]) rfl (by decide) rfl rfl ?_
    refine mr_aload_n (pc := 611) rfl rfl ?_
    refine mr_aload_n (pc := 612) rfl rfl ?_
    refine mr_iload (pc := 613) rfl rfl ?_
    refine mr_iconst (pc := 615) (v := 1) rfl (by decide) ?_
    refine mr_iadd (pc := 616) rfl ?_
    refine mr_sload (pc := 617) rfl hi1 ?_
    refine mr_aload_n (pc := 618) rfl rfl ?_
    refine mr_iload (pc := 619) rfl rfl ?_
    refine mr_iconst (pc := 621) (v := 2) rfl (by decide) ?_
    refine mr_iadd (pc := 622) rfl ?_
    refine mr_sload (pc := 623) rfl hi2 ?_
    refine mr_if_eq (pc := 624) 631 rfl (by decide) (fun c9 => absurd c9 hs) (fun _ => ?_)
    refine mr_iconst (pc := 627) (v := 1) rfl (by decide) ?_
    refine mr_goto (pc := 628) 632 rfl (by decide) ?_
    refine mr_ret (mRunV (pc := 632) (q := 8) (As := [.int (S.2 (i + 1 : Int32).toNatClampNeg), .int 1]) (rest := []) rfl lkRL_104 rfl rfl rfl (Nat.le_of_ble_eq_true rfl) (Nat.le_of_ble_eq_true rfl) (F_X1_pass (Z := X') (T := [.inl (2, 1, .inr (.inl o'))]) hM)) rfl hk hn ?_
    refine ms_istore (pc := 635) (L' := [some (.ref 1000), some (.ref 0), some (.ref 8), some (.ref 17), some (.int i), some (.int kc), some (.int b)]) rfl (by decide) rfl rfl ?_
    refine mr_aload_n (pc := 637) rfl rfl ?_
    refine mr_ret (mRunV (pc := 638) (q := 8) (As := []) (rest := []) rfl lkRL_77 rfl rfl rfl (Nat.le_of_ble_eq_true rfl) (Nat.le_of_ble_eq_true rfl) (F_X1_thrown (Z := X') (T := [.inl (2, 1, .inr (.inl o'))]) (Y := Y') (R9 := Y') (o9 := .inl (some (.int Y'.2.2.2.2.2.2.2.2.1))) rfl)) rfl hk hn ?_
    refine mr_iload (pc := 641) rfl rfl ?_
    refine mr_icmp_eq (pc := 643) 648 rfl (by decide) (fun _ => ?_) (fun c9 => absurd hT c9)
    refine mr_iload (pc := 648) rfl rfl ?_
    refine mr_if_ne (pc := 650) 665 rfl (by decide) (fun _ => ?_) (fun c0 => ?_)
    · skip
      refine mr_goto (pc := 665) 1143 rfl (by decide) ?_
      refine ms_drop (i := 5) (L' := [some (.ref 1000), some (.ref 0), some (.ref 8), some (.ref 17), some (.int i), none, some (.int b)]) rfl ?_
      refine ms_drop (i := 6) (L' := ZL i) rfl ?_
      exact k9
    · skip
      refine mr_aload_n (pc := 653) rfl rfl ?_
      refine mr_iconst (pc := 654) (v := 0) rfl (by decide) ?_
      refine mr_laload (pc := 655) (q := 17) (N := 1) (f := o') rfl rfl (vpb_in (by decide)) ?_
      refine mr_iload (pc := 656) rfl rfl ?_
      refine mr_i2l (pc := 658) rfl ?_
      refine mr_lcmp (pc := 659) rfl ?_
      refine mr_if_eq (pc := 660) 665 rfl (by decide) (fun _ => ?_) (fun c9 => absurd (by rw [show o' (0 : Int32).toNatClampNeg = b.toInt64 from hV c0]; exact m_cmp _) c9)
      refine mr_goto (pc := 665) 1143 rfl (by decide) ?_
      refine ms_drop (i := 5) (L' := [some (.ref 1000), some (.ref 0), some (.ref 8), some (.ref 17), some (.int i), none, some (.int b)]) rfl ?_
      refine ms_drop (i := 6) (L' := ZL i) rfl ?_
      exact k9
set_option maxRecDepth 100000 in
set_option maxHeartbeats 4000000 in
theorem Z_flight {S : Nat × (Nat → Int32)} {X X' : cS} {Y Y' : rS} {kc b : Int32} {o o' : Nat → Int64} {i : Int32} {k n : Nat} {r : mR} (hi1 : vp_in (i + 1) S.1) (hi2 : vp_in (i + 2) S.1) (hH : mF S ML_flight 0 (mEnt [.ref 0, .int (S.2 (i + 1 : Int32).toNatClampNeg), .int (S.2 (i + 2 : Int32).toNatClampNeg), .ref 17] 5) [] (lw X Y o) 0 0 (.inl (some (.int kc)), lw X' Y o', 3, 24)) (hM : g_X1_flight Y (S.2 (i + 1 : Int32).toNatClampNeg) (S.2 (i + 2 : Int32).toNatClampNeg) = some (.inl (some (.int b)), Y')) (hT : Y'.2.2.2.2.2.2.2.2.1 = kc) (hV : kc = 0 → o' 0 = b.toInt64) (hk : k + 3 ≤ r.2.2.1) (hn : n + 24 ≤ r.2.2.2) (k9 : mF S ML_law 1143 (ZL i) [] (lw X' Y' o') (k + 3) (n + 24) r) : mF S ML_law 668 (ZL i) [] (lw X Y o) k n r := by
  refine mr_aload_n (pc := 668) rfl rfl ?_
  refine mr_aload_n (pc := 669) rfl rfl ?_
  refine mr_iload (pc := 670) rfl rfl ?_
  refine mr_iconst (pc := 672) (v := 1) rfl (by decide) ?_
  refine mr_iadd (pc := 673) rfl ?_
  refine mr_sload (pc := 674) rfl hi1 ?_
  refine mr_aload_n (pc := 675) rfl rfl ?_
  refine mr_iload (pc := 676) rfl rfl ?_
  refine mr_iconst (pc := 678) (v := 2) rfl (by decide) ?_
  refine mr_iadd (pc := 679) rfl ?_
  refine mr_sload (pc := 680) rfl hi2 ?_
  refine mr_aload_n (pc := 681) rfl rfl ?_
  refine mr_ret (mRunS (pc := 682) (As := [.ref 0, .int (S.2 (i + 1 : Int32).toNatClampNeg), .int (S.2 (i + 2 : Int32).toNatClampNeg), .ref 17]) (rest := []) rfl lkRL_105 rfl (Nat.le_of_ble_eq_true rfl) (Nat.le_of_ble_eq_true rfl) hH) rfl hk hn ?_
  refine ms_istore (pc := 685) (L' := [some (.ref 1000), some (.ref 0), some (.ref 8), some (.ref 17), some (.int i), some (.int kc), none]) rfl (by decide) rfl rfl ?_
  refine mr_aload_n (pc := 687) rfl rfl ?_
  refine mr_aload_n (pc := 688) rfl rfl ?_
  refine mr_iload (pc := 689) rfl rfl ?_
  refine mr_iconst (pc := 691) (v := 1) rfl (by decide) ?_
  refine mr_iadd (pc := 692) rfl ?_
  refine mr_sload (pc := 693) rfl hi1 ?_
  refine mr_aload_n (pc := 694) rfl rfl ?_
  refine mr_iload (pc := 695) rfl rfl ?_
  refine mr_iconst (pc := 697) (v := 2) rfl (by decide) ?_
  refine mr_iadd (pc := 698) rfl ?_
  refine mr_sload (pc := 699) rfl hi2 ?_
  refine mr_ret (mRunV (pc := 700) (q := 8) (As := [.int (S.2 (i + 1 : Int32).toNatClampNeg), .int (S.2 (i + 2 : Int32).toNatClampNeg)]) (rest := []) rfl lkRL_107 rfl rfl rfl (Nat.le_of_ble_eq_true rfl) (Nat.le_of_ble_eq_true rfl) (F_X1_flight (Z := X') (T := [.inl (2, 1, .inr (.inl o'))]) hM)) rfl hk hn ?_
  refine ms_istore (pc := 703) (L' := [some (.ref 1000), some (.ref 0), some (.ref 8), some (.ref 17), some (.int i), some (.int kc), some (.int b)]) rfl (by decide) rfl rfl ?_
  refine mr_aload_n (pc := 705) rfl rfl ?_
  refine mr_ret (mRunV (pc := 706) (q := 8) (As := []) (rest := []) rfl lkRL_77 rfl rfl rfl (Nat.le_of_ble_eq_true rfl) (Nat.le_of_ble_eq_true rfl) (F_X1_thrown (Z := X') (T := [.inl (2, 1, .inr (.inl o'))]) (Y := Y') (R9 := Y') (o9 := .inl (some (.int Y'.2.2.2.2.2.2.2.2.1))) rfl)) rfl hk hn ?_
  refine mr_iload (pc := 709) rfl rfl ?_
  refine mr_icmp_eq (pc := 711) 716 rfl (by decide) (fun _ => ?_) (fun c9 => absurd hT c9)
  refine mr_iload (pc := 716) rfl rfl ?_
  refine mr_if_ne (pc := 718) 733 rfl (by decide) (fun _ => ?_) (fun c0 => ?_)
  · skip
    refine mr_goto (pc := 733) 1143 rfl (by decide) ?_
    refine ms_drop (i := 5) (L' := [some (.ref 1000), some (.ref 0), some (.ref 8), some (.ref 17), some (.int i), none, some (.int b)]) rfl ?_
    refine ms_drop (i := 6) (L' := ZL i) rfl ?_
    exact k9
  · skip
    refine mr_aload_n (pc := 721) rfl rfl ?_
    refine mr_iconst (pc := 722) (v := 0) rfl (by decide) ?_
    refine mr_laload (pc := 723) (q := 17) (N := 1) (f := o') rfl rfl (vpb_in (by decide)) ?_
    refine mr_iload (pc := 724) rfl rfl ?_
    refine mr_i2l (pc := 726) rfl ?_
    refine mr_lcmp (pc := 727) rfl ?_
    refine mr_if_eq (pc := 728) 733 rfl (by decide) (fun _ => ?_) (fun c9 => absurd (by rw [show o' (0 : Int32).toNatClampNeg = b.toInt64 from hV c0]; exact m_cmp _) c9)
    refine mr_goto (pc := 733) 1143 rfl (by decide) ?_
    refine ms_drop (i := 5) (L' := [some (.ref 1000), some (.ref 0), some (.ref 8), some (.ref 17), some (.int i), none, some (.int b)]) rfl ?_
    refine ms_drop (i := 6) (L' := ZL i) rfl ?_
    exact k9
set_option maxRecDepth 100000 in
set_option maxHeartbeats 4000000 in
theorem Z_trip {S : Nat × (Nat → Int32)} {X X' : cS} {Y Y' : rS} {kc b : Int32} {o o' : Nat → Int64} {i : Int32} {k n : Nat} {r : mR} (hi1 : vp_in (i + 1) S.1) (hi2 : vp_in (i + 2) S.1) (hH : mF S ML_trip 0 (mEnt [.ref 0, .int (S.2 (i + 1 : Int32).toNatClampNeg), .int (S.2 (i + 2 : Int32).toNatClampNeg), .ref 17] 5) [] (lw X Y o) 0 0 (.inl (some (.int kc)), lw X' Y o', 2, 16)) (hM : g_X1_trip Y (S.2 (i + 1 : Int32).toNatClampNeg) (S.2 (i + 2 : Int32).toNatClampNeg) = some (.inl (some (.int b)), Y')) (hT : Y'.2.2.2.2.2.2.2.2.1 = kc) (hV : kc = 0 → o' 0 = b.toInt64) (hk : k + 2 ≤ r.2.2.1) (hn : n + 16 ≤ r.2.2.2) (k9 : mF S ML_law 1143 (ZL i) [] (lw X' Y' o') (k + 2) (n + 16) r) : mF S ML_law 736 (ZL i) [] (lw X Y o) k n r := by
  refine mr_aload_n (pc := 736) rfl rfl ?_
  refine mr_aload_n (pc := 737) rfl rfl ?_
  refine mr_iload (pc := 738) rfl rfl ?_
  refine mr_iconst (pc := 740) (v := 1) rfl (by decide) ?_
  refine mr_iadd (pc := 741) rfl ?_
  refine mr_sload (pc := 742) rfl hi1 ?_
  refine mr_aload_n (pc := 743) rfl rfl ?_
  refine mr_iload (pc := 744) rfl rfl ?_
  refine mr_iconst (pc := 746) (v := 2) rfl (by decide) ?_
  refine mr_iadd (pc := 747) rfl ?_
  refine mr_sload (pc := 748) rfl hi2 ?_
  refine mr_aload_n (pc := 749) rfl rfl ?_
  refine mr_ret (mRunS (pc := 750) (As := [.ref 0, .int (S.2 (i + 1 : Int32).toNatClampNeg), .int (S.2 (i + 2 : Int32).toNatClampNeg), .ref 17]) (rest := []) rfl lkRL_108 rfl (Nat.le_of_ble_eq_true rfl) (Nat.le_of_ble_eq_true rfl) hH) rfl hk hn ?_
  refine ms_istore (pc := 753) (L' := [some (.ref 1000), some (.ref 0), some (.ref 8), some (.ref 17), some (.int i), some (.int kc), none]) rfl (by decide) rfl rfl ?_
  refine mr_aload_n (pc := 755) rfl rfl ?_
  refine mr_aload_n (pc := 756) rfl rfl ?_
  refine mr_iload (pc := 757) rfl rfl ?_
  refine mr_iconst (pc := 759) (v := 1) rfl (by decide) ?_
  refine mr_iadd (pc := 760) rfl ?_
  refine mr_sload (pc := 761) rfl hi1 ?_
  refine mr_aload_n (pc := 762) rfl rfl ?_
  refine mr_iload (pc := 763) rfl rfl ?_
  refine mr_iconst (pc := 765) (v := 2) rfl (by decide) ?_
  refine mr_iadd (pc := 766) rfl ?_
  refine mr_sload (pc := 767) rfl hi2 ?_
  refine mr_ret (mRunV (pc := 768) (q := 8) (As := [.int (S.2 (i + 1 : Int32).toNatClampNeg), .int (S.2 (i + 2 : Int32).toNatClampNeg)]) (rest := []) rfl lkRL_110 rfl rfl rfl (Nat.le_of_ble_eq_true rfl) (Nat.le_of_ble_eq_true rfl) (F_X1_trip (Z := X') (T := [.inl (2, 1, .inr (.inl o'))]) hM)) rfl hk hn ?_
  refine ms_istore (pc := 771) (L' := [some (.ref 1000), some (.ref 0), some (.ref 8), some (.ref 17), some (.int i), some (.int kc), some (.int b)]) rfl (by decide) rfl rfl ?_
  refine mr_aload_n (pc := 773) rfl rfl ?_
  refine mr_ret (mRunV (pc := 774) (q := 8) (As := []) (rest := []) rfl lkRL_77 rfl rfl rfl (Nat.le_of_ble_eq_true rfl) (Nat.le_of_ble_eq_true rfl) (F_X1_thrown (Z := X') (T := [.inl (2, 1, .inr (.inl o'))]) (Y := Y') (R9 := Y') (o9 := .inl (some (.int Y'.2.2.2.2.2.2.2.2.1))) rfl)) rfl hk hn ?_
  refine mr_iload (pc := 777) rfl rfl ?_
  refine mr_icmp_eq (pc := 779) 784 rfl (by decide) (fun _ => ?_) (fun c9 => absurd hT c9)
  refine mr_iload (pc := 784) rfl rfl ?_
  refine mr_if_ne (pc := 786) 801 rfl (by decide) (fun _ => ?_) (fun c0 => ?_)
  · skip
    refine mr_goto (pc := 801) 1143 rfl (by decide) ?_
    refine ms_drop (i := 5) (L' := [some (.ref 1000), some (.ref 0), some (.ref 8), some (.ref 17), some (.int i), none, some (.int b)]) rfl ?_
    refine ms_drop (i := 6) (L' := ZL i) rfl ?_
    exact k9
  · skip
    refine mr_aload_n (pc := 789) rfl rfl ?_
    refine mr_iconst (pc := 790) (v := 0) rfl (by decide) ?_
    refine mr_laload (pc := 791) (q := 17) (N := 1) (f := o') rfl rfl (vpb_in (by decide)) ?_
    refine mr_iload (pc := 792) rfl rfl ?_
    refine mr_i2l (pc := 794) rfl ?_
    refine mr_lcmp (pc := 795) rfl ?_
    refine mr_if_eq (pc := 796) 801 rfl (by decide) (fun _ => ?_) (fun c9 => absurd (by rw [show o' (0 : Int32).toNatClampNeg = b.toInt64 from hV c0]; exact m_cmp _) c9)
    refine mr_goto (pc := 801) 1143 rfl (by decide) ?_
    refine ms_drop (i := 5) (L' := [some (.ref 1000), some (.ref 0), some (.ref 8), some (.ref 17), some (.int i), none, some (.int b)]) rfl ?_
    refine ms_drop (i := 6) (L' := ZL i) rfl ?_
    exact k9
set_option maxRecDepth 100000 in
set_option maxHeartbeats 4000000 in
theorem Z_convoy {S : Nat × (Nat → Int32)} {X X' : cS} {Y Y' : rS} {kc b : Int32} {o o' : Nat → Int64} {bo : Int32} {i : Int32} {k n : Nat} {r : mR} (hi1 : vp_in (i + 1) S.1) (hi2 : vp_in (i + 2) S.1) (hH : mF S ML_convoy 0 (mEnt [.ref 0, .int (S.2 (i + 1 : Int32).toNatClampNeg), .int bo, .ref 17] 5) [] (lw X Y o) 0 0 (.inl (some (.int kc)), lw X' Y o', 1, 8)) (hM : g_X1_convoy Y (S.2 (i + 1 : Int32).toNatClampNeg) bo = some (.inl (some (.int b)), Y')) (hT : Y'.2.2.2.2.2.2.2.2.1 = kc) (hV : kc = 0 → o' 0 = b.toInt64) (hs : (S.2 (i + 2 : Int32).toNatClampNeg = 0 ∧ bo = 0) ∨ (¬ S.2 (i + 2 : Int32).toNatClampNeg = 0 ∧ bo = 1)) (hk : k + 1 ≤ r.2.2.1) (hn : n + 8 ≤ r.2.2.2) (k9 : mF S ML_law 1143 (ZL i) [] (lw X' Y' o') (k + 1) (n + 8) r) : mF S ML_law 804 (ZL i) [] (lw X Y o) k n r := by
  rcases hs with ⟨hs, rfl⟩ | ⟨hs, rfl⟩
  · skip
    refine mr_aload_n (pc := 804) rfl rfl ?_
    refine mr_aload_n (pc := 805) rfl rfl ?_
    refine mr_iload (pc := 806) rfl rfl ?_
    refine mr_iconst (pc := 808) (v := 1) rfl (by decide) ?_
    refine mr_iadd (pc := 809) rfl ?_
    refine mr_sload (pc := 810) rfl hi1 ?_
    refine mr_aload_n (pc := 811) rfl rfl ?_
    refine mr_iload (pc := 812) rfl rfl ?_
    refine mr_iconst (pc := 814) (v := 2) rfl (by decide) ?_
    refine mr_iadd (pc := 815) rfl ?_
    refine mr_sload (pc := 816) rfl hi2 ?_
    refine mr_if_eq (pc := 817) 824 rfl (by decide) (fun _ => ?_) (fun c9 => absurd hs c9)
    refine mr_iconst (pc := 824) (v := 0) rfl (by decide) ?_
    refine mr_aload_n (pc := 825) rfl rfl ?_
    refine mr_ret (mRunS (pc := 826) (As := [.ref 0, .int (S.2 (i + 1 : Int32).toNatClampNeg), .int 0, .ref 17]) (rest := []) rfl lkRL_111 rfl (Nat.le_of_ble_eq_true rfl) (Nat.le_of_ble_eq_true rfl) hH) rfl hk hn ?_
    refine ms_istore (pc := 829) (L' := [some (.ref 1000), some (.ref 0), some (.ref 8), some (.ref 17), some (.int i), some (.int kc), none]) rfl (by decide) rfl rfl ?_
    refine mr_aload_n (pc := 831) rfl rfl ?_
    refine mr_aload_n (pc := 832) rfl rfl ?_
    refine mr_iload (pc := 833) rfl rfl ?_
    refine mr_iconst (pc := 835) (v := 1) rfl (by decide) ?_
    refine mr_iadd (pc := 836) rfl ?_
    refine mr_sload (pc := 837) rfl hi1 ?_
    refine mr_aload_n (pc := 838) rfl rfl ?_
    refine mr_iload (pc := 839) rfl rfl ?_
    refine mr_iconst (pc := 841) (v := 2) rfl (by decide) ?_
    refine mr_iadd (pc := 842) rfl ?_
    refine mr_sload (pc := 843) rfl hi2 ?_
    refine mr_if_eq (pc := 844) 851 rfl (by decide) (fun _ => ?_) (fun c9 => absurd hs c9)
    refine mr_iconst (pc := 851) (v := 0) rfl (by decide) ?_
    refine mr_ret (mRunV (pc := 852) (q := 8) (As := [.int (S.2 (i + 1 : Int32).toNatClampNeg), .int 0]) (rest := []) rfl lkRL_113 rfl rfl rfl (Nat.le_of_ble_eq_true rfl) (Nat.le_of_ble_eq_true rfl) (F_X1_convoy (Z := X') (T := [.inl (2, 1, .inr (.inl o'))]) hM)) rfl hk hn ?_
    refine ms_istore (pc := 855) (L' := [some (.ref 1000), some (.ref 0), some (.ref 8), some (.ref 17), some (.int i), some (.int kc), some (.int b)]) rfl (by decide) rfl rfl ?_
    refine mr_aload_n (pc := 857) rfl rfl ?_
    refine mr_ret (mRunV (pc := 858) (q := 8) (As := []) (rest := []) rfl lkRL_77 rfl rfl rfl (Nat.le_of_ble_eq_true rfl) (Nat.le_of_ble_eq_true rfl) (F_X1_thrown (Z := X') (T := [.inl (2, 1, .inr (.inl o'))]) (Y := Y') (R9 := Y') (o9 := .inl (some (.int Y'.2.2.2.2.2.2.2.2.1))) rfl)) rfl hk hn ?_
    refine mr_iload (pc := 861) rfl rfl ?_
    refine mr_icmp_eq (pc := 863) 868 rfl (by decide) (fun _ => ?_) (fun c9 => absurd hT c9)
    refine mr_iload (pc := 868) rfl rfl ?_
    refine mr_if_ne (pc := 870) 885 rfl (by decide) (fun _ => ?_) (fun c0 => ?_)
    · skip
      refine mr_goto (pc := 885) 1143 rfl (by decide) ?_
      refine ms_drop (i := 5) (L' := [some (.ref 1000), some (.ref 0), some (.ref 8), some (.ref 17), some (.int i), none, some (.int b)]) rfl ?_
      refine ms_drop (i := 6) (L' := ZL i) rfl ?_
      exact k9
    · skip
      refine mr_aload_n (pc := 873) rfl rfl ?_
      refine mr_iconst (pc := 874) (v := 0) rfl (by decide) ?_
      refine mr_laload (pc := 875) (q := 17) (N := 1) (f := o') rfl rfl (vpb_in (by decide)) ?_
      refine mr_iload (pc := 876) rfl rfl ?_
      refine mr_i2l (pc := 878) rfl ?_
      refine mr_lcmp (pc := 879) rfl ?_
      refine mr_if_eq (pc := 880) 885 rfl (by decide) (fun _ => ?_) (fun c9 => absurd (by rw [show o' (0 : Int32).toNatClampNeg = b.toInt64 from hV c0]; exact m_cmp _) c9)
      refine mr_goto (pc := 885) 1143 rfl (by decide) ?_
      refine ms_drop (i := 5) (L' := [some (.ref 1000), some (.ref 0), some (.ref 8), some (.ref 17), some (.int i), none, some (.int b)]) rfl ?_
      refine ms_drop (i := 6) (L' := ZL i) rfl ?_
      exact k9
  · skip
    refine mr_aload_n (pc := 804) rfl rfl ?_
    refine mr_aload_n (pc := 805) rfl rfl ?_
    refine mr_iload (pc := 806) rfl rfl ?_
    refine mr_iconst (pc := 808) (v := 1) rfl (by decide) ?_
    refine mr_iadd (pc := 809) rfl ?_
    refine mr_sload (pc := 810) rfl hi1 ?_
    refine mr_aload_n (pc := 811) rfl rfl ?_
    refine mr_iload (pc := 812) rfl rfl ?_
    refine mr_iconst (pc := 814) (v := 2) rfl (by decide) ?_
    refine mr_iadd (pc := 815) rfl ?_
    refine mr_sload (pc := 816) rfl hi2 ?_
    refine mr_if_eq (pc := 817) 824 rfl (by decide) (fun c9 => absurd c9 hs) (fun _ => ?_)
    refine mr_iconst (pc := 820) (v := 1) rfl (by decide) ?_
    refine mr_goto (pc := 821) 825 rfl (by decide) ?_
    refine mr_aload_n (pc := 825) rfl rfl ?_
    refine mr_ret (mRunS (pc := 826) (As := [.ref 0, .int (S.2 (i + 1 : Int32).toNatClampNeg), .int 1, .ref 17]) (rest := []) rfl lkRL_111 rfl (Nat.le_of_ble_eq_true rfl) (Nat.le_of_ble_eq_true rfl) hH) rfl hk hn ?_
    refine ms_istore (pc := 829) (L' := [some (.ref 1000), some (.ref 0), some (.ref 8), some (.ref 17), some (.int i), some (.int kc), none]) rfl (by decide) rfl rfl ?_
    refine mr_aload_n (pc := 831) rfl rfl ?_
    refine mr_aload_n (pc := 832) rfl rfl ?_
    refine mr_iload (pc := 833) rfl rfl ?_
    refine mr_iconst (pc := 835) (v := 1) rfl (by decide) ?_
    refine mr_iadd (pc := 836) rfl ?_
    refine mr_sload (pc := 837) rfl hi1 ?_
    refine mr_aload_n (pc := 838) rfl rfl ?_
    refine mr_iload (pc := 839) rfl rfl ?_
    refine mr_iconst (pc := 841) (v := 2) rfl (by decide) ?_
    refine mr_iadd (pc := 842) rfl ?_
    refine mr_sload (pc := 843) rfl hi2 ?_
    refine mr_if_eq (pc := 844) 851 rfl (by decide) (fun c9 => absurd c9 hs) (fun _ => ?_)
    refine mr_iconst (pc := 847) (v := 1) rfl (by decide) ?_
    refine mr_goto (pc := 848) 852 rfl (by decide) ?_
    refine mr_ret (mRunV (pc := 852) (q := 8) (As := [.int (S.2 (i + 1 : Int32).toNatClampNeg), .int 1]) (rest := []) rfl lkRL_113 rfl rfl rfl (Nat.le_of_ble_eq_true rfl) (Nat.le_of_ble_eq_true rfl) (F_X1_convoy (Z := X') (T := [.inl (2, 1, .inr (.inl o'))]) hM)) rfl hk hn ?_
    refine ms_istore (pc := 855) (L' := [some (.ref 1000), some (.ref 0), some (.ref 8), some (.ref 17), some (.int i), some (.int kc), some (.int b)]) rfl (by decide) rfl rfl ?_
    refine mr_aload_n (pc := 857) rfl rfl ?_
    refine mr_ret (mRunV (pc := 858) (q := 8) (As := []) (rest := []) rfl lkRL_77 rfl rfl rfl (Nat.le_of_ble_eq_true rfl) (Nat.le_of_ble_eq_true rfl) (F_X1_thrown (Z := X') (T := [.inl (2, 1, .inr (.inl o'))]) (Y := Y') (R9 := Y') (o9 := .inl (some (.int Y'.2.2.2.2.2.2.2.2.1))) rfl)) rfl hk hn ?_
    refine mr_iload (pc := 861) rfl rfl ?_
    refine mr_icmp_eq (pc := 863) 868 rfl (by decide) (fun _ => ?_) (fun c9 => absurd hT c9)
    refine mr_iload (pc := 868) rfl rfl ?_
    refine mr_if_ne (pc := 870) 885 rfl (by decide) (fun _ => ?_) (fun c0 => ?_)
    · skip
      refine mr_goto (pc := 885) 1143 rfl (by decide) ?_
      refine ms_drop (i := 5) (L' := [some (.ref 1000), some (.ref 0), some (.ref 8), some (.ref 17), some (.int i), none, some (.int b)]) rfl ?_
      refine ms_drop (i := 6) (L' := ZL i) rfl ?_
      exact k9
    · skip
      refine mr_aload_n (pc := 873) rfl rfl ?_
      refine mr_iconst (pc := 874) (v := 0) rfl (by decide) ?_
      refine mr_laload (pc := 875) (q := 17) (N := 1) (f := o') rfl rfl (vpb_in (by decide)) ?_
      refine mr_iload (pc := 876) rfl rfl ?_
      refine mr_i2l (pc := 878) rfl ?_
      refine mr_lcmp (pc := 879) rfl ?_
      refine mr_if_eq (pc := 880) 885 rfl (by decide) (fun _ => ?_) (fun c9 => absurd (by rw [show o' (0 : Int32).toNatClampNeg = b.toInt64 from hV c0]; exact m_cmp _) c9)
      refine mr_goto (pc := 885) 1143 rfl (by decide) ?_
      refine ms_drop (i := 5) (L' := [some (.ref 1000), some (.ref 0), some (.ref 8), some (.ref 17), some (.int i), none, some (.int b)]) rfl ?_
      refine ms_drop (i := 6) (L' := ZL i) rfl ?_
      exact k9
set_option maxRecDepth 100000 in
set_option maxHeartbeats 4000000 in
theorem Z_share {S : Nat × (Nat → Int32)} {X X' : cS} {Y Y' : rS} {kc b : Int32} {o o' : Nat → Int64} {i : Int32} {k n : Nat} {r : mR} (hi1 : vp_in (i + 1) S.1) (hi2 : vp_in (i + 2) S.1) (hH : mF S ML_share 0 (mEnt [.ref 0, .int (S.2 (i + 1 : Int32).toNatClampNeg), .int (S.2 (i + 2 : Int32).toNatClampNeg), .ref 17] 5) [] (lw X Y o) 0 0 (.inl (some (.int kc)), lw X' Y o', 4, 32)) (hM : g_X1_share Y (S.2 (i + 1 : Int32).toNatClampNeg) (S.2 (i + 2 : Int32).toNatClampNeg) = some (.inl (some (.int b)), Y')) (hT : Y'.2.2.2.2.2.2.2.2.1 = kc) (hV : kc = 0 → o' 0 = b.toInt64) (hk : k + 4 ≤ r.2.2.1) (hn : n + 32 ≤ r.2.2.2) (k9 : mF S ML_law 1143 (ZL i) [] (lw X' Y' o') (k + 4) (n + 32) r) : mF S ML_law 888 (ZL i) [] (lw X Y o) k n r := by
  refine mr_aload_n (pc := 888) rfl rfl ?_
  refine mr_aload_n (pc := 889) rfl rfl ?_
  refine mr_iload (pc := 890) rfl rfl ?_
  refine mr_iconst (pc := 892) (v := 1) rfl (by decide) ?_
  refine mr_iadd (pc := 893) rfl ?_
  refine mr_sload (pc := 894) rfl hi1 ?_
  refine mr_aload_n (pc := 895) rfl rfl ?_
  refine mr_iload (pc := 896) rfl rfl ?_
  refine mr_iconst (pc := 898) (v := 2) rfl (by decide) ?_
  refine mr_iadd (pc := 899) rfl ?_
  refine mr_sload (pc := 900) rfl hi2 ?_
  refine mr_aload_n (pc := 901) rfl rfl ?_
  refine mr_ret (mRunS (pc := 902) (As := [.ref 0, .int (S.2 (i + 1 : Int32).toNatClampNeg), .int (S.2 (i + 2 : Int32).toNatClampNeg), .ref 17]) (rest := []) rfl lkRL_114 rfl (Nat.le_of_ble_eq_true rfl) (Nat.le_of_ble_eq_true rfl) hH) rfl hk hn ?_
  refine ms_istore (pc := 905) (L' := [some (.ref 1000), some (.ref 0), some (.ref 8), some (.ref 17), some (.int i), some (.int kc), none]) rfl (by decide) rfl rfl ?_
  refine mr_aload_n (pc := 907) rfl rfl ?_
  refine mr_aload_n (pc := 908) rfl rfl ?_
  refine mr_iload (pc := 909) rfl rfl ?_
  refine mr_iconst (pc := 911) (v := 1) rfl (by decide) ?_
  refine mr_iadd (pc := 912) rfl ?_
  refine mr_sload (pc := 913) rfl hi1 ?_
  refine mr_aload_n (pc := 914) rfl rfl ?_
  refine mr_iload (pc := 915) rfl rfl ?_
  refine mr_iconst (pc := 917) (v := 2) rfl (by decide) ?_
  refine mr_iadd (pc := 918) rfl ?_
  refine mr_sload (pc := 919) rfl hi2 ?_
  refine mr_ret (mRunV (pc := 920) (q := 8) (As := [.int (S.2 (i + 1 : Int32).toNatClampNeg), .int (S.2 (i + 2 : Int32).toNatClampNeg)]) (rest := []) rfl lkRL_116 rfl rfl rfl (Nat.le_of_ble_eq_true rfl) (Nat.le_of_ble_eq_true rfl) (F_X1_share (Z := X') (T := [.inl (2, 1, .inr (.inl o'))]) hM)) rfl hk hn ?_
  refine ms_istore (pc := 923) (L' := [some (.ref 1000), some (.ref 0), some (.ref 8), some (.ref 17), some (.int i), some (.int kc), some (.int b)]) rfl (by decide) rfl rfl ?_
  refine mr_aload_n (pc := 925) rfl rfl ?_
  refine mr_ret (mRunV (pc := 926) (q := 8) (As := []) (rest := []) rfl lkRL_77 rfl rfl rfl (Nat.le_of_ble_eq_true rfl) (Nat.le_of_ble_eq_true rfl) (F_X1_thrown (Z := X') (T := [.inl (2, 1, .inr (.inl o'))]) (Y := Y') (R9 := Y') (o9 := .inl (some (.int Y'.2.2.2.2.2.2.2.2.1))) rfl)) rfl hk hn ?_
  refine mr_iload (pc := 929) rfl rfl ?_
  refine mr_icmp_eq (pc := 931) 936 rfl (by decide) (fun _ => ?_) (fun c9 => absurd hT c9)
  refine mr_iload (pc := 936) rfl rfl ?_
  refine mr_if_ne (pc := 938) 953 rfl (by decide) (fun _ => ?_) (fun c0 => ?_)
  · skip
    refine mr_goto (pc := 953) 1143 rfl (by decide) ?_
    refine ms_drop (i := 5) (L' := [some (.ref 1000), some (.ref 0), some (.ref 8), some (.ref 17), some (.int i), none, some (.int b)]) rfl ?_
    refine ms_drop (i := 6) (L' := ZL i) rfl ?_
    exact k9
  · skip
    refine mr_aload_n (pc := 941) rfl rfl ?_
    refine mr_iconst (pc := 942) (v := 0) rfl (by decide) ?_
    refine mr_laload (pc := 943) (q := 17) (N := 1) (f := o') rfl rfl (vpb_in (by decide)) ?_
    refine mr_iload (pc := 944) rfl rfl ?_
    refine mr_i2l (pc := 946) rfl ?_
    refine mr_lcmp (pc := 947) rfl ?_
    refine mr_if_eq (pc := 948) 953 rfl (by decide) (fun _ => ?_) (fun c9 => absurd (by rw [show o' (0 : Int32).toNatClampNeg = b.toInt64 from hV c0]; exact m_cmp _) c9)
    refine mr_goto (pc := 953) 1143 rfl (by decide) ?_
    refine ms_drop (i := 5) (L' := [some (.ref 1000), some (.ref 0), some (.ref 8), some (.ref 17), some (.int i), none, some (.int b)]) rfl ?_
    refine ms_drop (i := 6) (L' := ZL i) rfl ?_
    exact k9
set_option maxRecDepth 100000 in
set_option maxHeartbeats 4000000 in
theorem Z_first {S : Nat × (Nat → Int32)} {X X' : cS} {Y Y' : rS} {b : Int32} {o' : Nat → Int64} {i : Int32} {k n : Nat} {r : mR} (hi1 : vp_in (i + 1) S.1) (hC : g_X0_first X (S.2 (i + 1 : Int32).toNatClampNeg) = some (.inl (some (.int b)), X')) (hM : g_X1_first Y (S.2 (i + 1 : Int32).toNatClampNeg) = some (.inl (some (.int b)), Y')) (hk : k + 0 ≤ r.2.2.1) (hn : n + 0 ≤ r.2.2.2) (k9 : mF S ML_law 1143 (ZL i) [] (lw X' Y' o') (k + 0) (n + 0) r) : mF S ML_law 956 (ZL i) [] (lw X Y o') k n r := by
  refine mr_aload_n (pc := 956) rfl rfl ?_
  refine mr_aload_n (pc := 957) rfl rfl ?_
  refine mr_iload (pc := 958) rfl rfl ?_
  refine mr_iconst (pc := 960) (v := 1) rfl (by decide) ?_
  refine mr_iadd (pc := 961) rfl ?_
  refine mr_sload (pc := 962) rfl hi1 ?_
  refine mr_ret (mRunV (pc := 963) (q := 0) (As := [.int (S.2 (i + 1 : Int32).toNatClampNeg)]) (rest := []) rfl lkRL_117 rfl rfl rfl (Nat.le_of_ble_eq_true rfl) (Nat.le_of_ble_eq_true rfl) (F_X0_first (T := yw Y [.inl (2, 1, .inr (.inl o'))]) hC)) rfl hk hn ?_
  refine mr_aload_n (pc := 966) rfl rfl ?_
  refine mr_aload_n (pc := 967) rfl rfl ?_
  refine mr_iload (pc := 968) rfl rfl ?_
  refine mr_iconst (pc := 970) (v := 1) rfl (by decide) ?_
  refine mr_iadd (pc := 971) rfl ?_
  refine mr_sload (pc := 972) rfl hi1 ?_
  refine mr_ret (mRunV (pc := 973) (q := 8) (As := [.int (S.2 (i + 1 : Int32).toNatClampNeg)]) (rest := [.int b]) rfl lkRL_120 rfl rfl rfl (Nat.le_of_ble_eq_true rfl) (Nat.le_of_ble_eq_true rfl) (F_X1_first (Z := X') (T := [.inl (2, 1, .inr (.inl o'))]) hM)) rfl hk hn ?_
  refine mr_icmp_eq (pc := 976) 1143 rfl (by decide) (fun _ => ?_) (fun c9 => absurd rfl c9)
  exact k9
set_option maxRecDepth 100000 in
set_option maxHeartbeats 4000000 in
theorem Z_pool {S : Nat × (Nat → Int32)} {X X' : cS} {Y Y' : rS} {kc b : Int32} {o o' : Nat → Int64} {i : Int32} {k n : Nat} {r : mR} (hi1 : vp_in (i + 1) S.1) (hi2 : vp_in (i + 2) S.1) (hH : mF S ML_pool 0 (mEnt [.ref 0, .int (S.2 (i + 1 : Int32).toNatClampNeg), .int (S.2 (i + 2 : Int32).toNatClampNeg), .ref 17] 5) [] (lw X Y o) 0 0 (.inl (some (.int kc)), lw X' Y o', 2, 16)) (hM : g_X1_pool Y (S.2 (i + 1 : Int32).toNatClampNeg) (S.2 (i + 2 : Int32).toNatClampNeg) = some (.inl (some (.int b)), Y')) (hT : Y'.2.2.2.2.2.2.2.2.1 = kc) (hV : kc = 0 → o' 0 = b.toInt64) (hk : k + 2 ≤ r.2.2.1) (hn : n + 16 ≤ r.2.2.2) (k9 : mF S ML_law 1143 (ZL i) [] (lw X' Y' o') (k + 2) (n + 16) r) : mF S ML_law 981 (ZL i) [] (lw X Y o) k n r := by
  refine mr_aload_n (pc := 981) rfl rfl ?_
  refine mr_aload_n (pc := 982) rfl rfl ?_
  refine mr_iload (pc := 983) rfl rfl ?_
  refine mr_iconst (pc := 985) (v := 1) rfl (by decide) ?_
  refine mr_iadd (pc := 986) rfl ?_
  refine mr_sload (pc := 987) rfl hi1 ?_
  refine mr_aload_n (pc := 988) rfl rfl ?_
  refine mr_iload (pc := 989) rfl rfl ?_
  refine mr_iconst (pc := 991) (v := 2) rfl (by decide) ?_
  refine mr_iadd (pc := 992) rfl ?_
  refine mr_sload (pc := 993) rfl hi2 ?_
  refine mr_aload_n (pc := 994) rfl rfl ?_
  refine mr_ret (mRunS (pc := 995) (As := [.ref 0, .int (S.2 (i + 1 : Int32).toNatClampNeg), .int (S.2 (i + 2 : Int32).toNatClampNeg), .ref 17]) (rest := []) rfl lkRL_121 rfl (Nat.le_of_ble_eq_true rfl) (Nat.le_of_ble_eq_true rfl) hH) rfl hk hn ?_
  refine ms_istore (pc := 998) (L' := [some (.ref 1000), some (.ref 0), some (.ref 8), some (.ref 17), some (.int i), some (.int kc), none]) rfl (by decide) rfl rfl ?_
  refine mr_aload_n (pc := 1000) rfl rfl ?_
  refine mr_aload_n (pc := 1001) rfl rfl ?_
  refine mr_iload (pc := 1002) rfl rfl ?_
  refine mr_iconst (pc := 1004) (v := 1) rfl (by decide) ?_
  refine mr_iadd (pc := 1005) rfl ?_
  refine mr_sload (pc := 1006) rfl hi1 ?_
  refine mr_aload_n (pc := 1007) rfl rfl ?_
  refine mr_iload (pc := 1008) rfl rfl ?_
  refine mr_iconst (pc := 1010) (v := 2) rfl (by decide) ?_
  refine mr_iadd (pc := 1011) rfl ?_
  refine mr_sload (pc := 1012) rfl hi2 ?_
  refine mr_ret (mRunV (pc := 1013) (q := 8) (As := [.int (S.2 (i + 1 : Int32).toNatClampNeg), .int (S.2 (i + 2 : Int32).toNatClampNeg)]) (rest := []) rfl lkRL_123 rfl rfl rfl (Nat.le_of_ble_eq_true rfl) (Nat.le_of_ble_eq_true rfl) (F_X1_pool (Z := X') (T := [.inl (2, 1, .inr (.inl o'))]) hM)) rfl hk hn ?_
  refine ms_istore (pc := 1016) (L' := [some (.ref 1000), some (.ref 0), some (.ref 8), some (.ref 17), some (.int i), some (.int kc), some (.int b)]) rfl (by decide) rfl rfl ?_
  refine mr_aload_n (pc := 1018) rfl rfl ?_
  refine mr_ret (mRunV (pc := 1019) (q := 8) (As := []) (rest := []) rfl lkRL_77 rfl rfl rfl (Nat.le_of_ble_eq_true rfl) (Nat.le_of_ble_eq_true rfl) (F_X1_thrown (Z := X') (T := [.inl (2, 1, .inr (.inl o'))]) (Y := Y') (R9 := Y') (o9 := .inl (some (.int Y'.2.2.2.2.2.2.2.2.1))) rfl)) rfl hk hn ?_
  refine mr_iload (pc := 1022) rfl rfl ?_
  refine mr_icmp_eq (pc := 1024) 1029 rfl (by decide) (fun _ => ?_) (fun c9 => absurd hT c9)
  refine mr_iload (pc := 1029) rfl rfl ?_
  refine mr_if_ne (pc := 1031) 1046 rfl (by decide) (fun _ => ?_) (fun c0 => ?_)
  · skip
    refine mr_goto (pc := 1046) 1143 rfl (by decide) ?_
    refine ms_drop (i := 5) (L' := [some (.ref 1000), some (.ref 0), some (.ref 8), some (.ref 17), some (.int i), none, some (.int b)]) rfl ?_
    refine ms_drop (i := 6) (L' := ZL i) rfl ?_
    exact k9
  · skip
    refine mr_aload_n (pc := 1034) rfl rfl ?_
    refine mr_iconst (pc := 1035) (v := 0) rfl (by decide) ?_
    refine mr_laload (pc := 1036) (q := 17) (N := 1) (f := o') rfl rfl (vpb_in (by decide)) ?_
    refine mr_iload (pc := 1037) rfl rfl ?_
    refine mr_i2l (pc := 1039) rfl ?_
    refine mr_lcmp (pc := 1040) rfl ?_
    refine mr_if_eq (pc := 1041) 1046 rfl (by decide) (fun _ => ?_) (fun c9 => absurd (by rw [show o' (0 : Int32).toNatClampNeg = b.toInt64 from hV c0]; exact m_cmp _) c9)
    refine mr_goto (pc := 1046) 1143 rfl (by decide) ?_
    refine ms_drop (i := 5) (L' := [some (.ref 1000), some (.ref 0), some (.ref 8), some (.ref 17), some (.int i), none, some (.int b)]) rfl ?_
    refine ms_drop (i := 6) (L' := ZL i) rfl ?_
    exact k9
set_option maxRecDepth 100000 in
set_option maxHeartbeats 4000000 in
theorem Z_where {S : Nat × (Nat → Int32)} {X X' : cS} {Y Y' : rS} {kc b : Int32} {o o' : Nat → Int64} {i : Int32} {k n : Nat} {r : mR} (hi1 : vp_in (i + 1) S.1) (hH : mF S ML_where 0 (mEnt [.ref 0, .int (S.2 (i + 1 : Int32).toNatClampNeg), .ref 17] 4) [] (lw X Y o) 0 0 (.inl (some (.int kc)), lw X' Y o', 1, 8)) (hM : g_X1_where Y (S.2 (i + 1 : Int32).toNatClampNeg) = some (.inl (some (.int b)), Y')) (hT : Y'.2.2.2.2.2.2.2.2.1 = kc) (hV : kc = 0 → o' 0 = b.toInt64) (hk : k + 1 ≤ r.2.2.1) (hn : n + 8 ≤ r.2.2.2) (k9 : mF S ML_law 1143 (ZL i) [] (lw X' Y' o') (k + 1) (n + 8) r) : mF S ML_law 1049 (ZL i) [] (lw X Y o) k n r := by
  refine mr_aload_n (pc := 1049) rfl rfl ?_
  refine mr_aload_n (pc := 1050) rfl rfl ?_
  refine mr_iload (pc := 1051) rfl rfl ?_
  refine mr_iconst (pc := 1053) (v := 1) rfl (by decide) ?_
  refine mr_iadd (pc := 1054) rfl ?_
  refine mr_sload (pc := 1055) rfl hi1 ?_
  refine mr_aload_n (pc := 1056) rfl rfl ?_
  refine mr_ret (mRunS (pc := 1057) (As := [.ref 0, .int (S.2 (i + 1 : Int32).toNatClampNeg), .ref 17]) (rest := []) rfl lkRL_124 rfl (Nat.le_of_ble_eq_true rfl) (Nat.le_of_ble_eq_true rfl) hH) rfl hk hn ?_
  refine ms_istore (pc := 1060) (L' := [some (.ref 1000), some (.ref 0), some (.ref 8), some (.ref 17), some (.int i), some (.int kc), none]) rfl (by decide) rfl rfl ?_
  refine mr_aload_n (pc := 1062) rfl rfl ?_
  refine mr_aload_n (pc := 1063) rfl rfl ?_
  refine mr_iload (pc := 1064) rfl rfl ?_
  refine mr_iconst (pc := 1066) (v := 1) rfl (by decide) ?_
  refine mr_iadd (pc := 1067) rfl ?_
  refine mr_sload (pc := 1068) rfl hi1 ?_
  refine mr_ret (mRunV (pc := 1069) (q := 8) (As := [.int (S.2 (i + 1 : Int32).toNatClampNeg)]) (rest := []) rfl lkRL_126 rfl rfl rfl (Nat.le_of_ble_eq_true rfl) (Nat.le_of_ble_eq_true rfl) (F_X1_where (Z := X') (T := [.inl (2, 1, .inr (.inl o'))]) hM)) rfl hk hn ?_
  refine ms_istore (pc := 1072) (L' := [some (.ref 1000), some (.ref 0), some (.ref 8), some (.ref 17), some (.int i), some (.int kc), some (.int b)]) rfl (by decide) rfl rfl ?_
  refine mr_aload_n (pc := 1074) rfl rfl ?_
  refine mr_ret (mRunV (pc := 1075) (q := 8) (As := []) (rest := []) rfl lkRL_77 rfl rfl rfl (Nat.le_of_ble_eq_true rfl) (Nat.le_of_ble_eq_true rfl) (F_X1_thrown (Z := X') (T := [.inl (2, 1, .inr (.inl o'))]) (Y := Y') (R9 := Y') (o9 := .inl (some (.int Y'.2.2.2.2.2.2.2.2.1))) rfl)) rfl hk hn ?_
  refine mr_iload (pc := 1078) rfl rfl ?_
  refine mr_icmp_eq (pc := 1080) 1085 rfl (by decide) (fun _ => ?_) (fun c9 => absurd hT c9)
  refine mr_iload (pc := 1085) rfl rfl ?_
  refine mr_if_ne (pc := 1087) 1102 rfl (by decide) (fun _ => ?_) (fun c0 => ?_)
  · skip
    refine mr_goto (pc := 1102) 1143 rfl (by decide) ?_
    refine ms_drop (i := 5) (L' := [some (.ref 1000), some (.ref 0), some (.ref 8), some (.ref 17), some (.int i), none, some (.int b)]) rfl ?_
    refine ms_drop (i := 6) (L' := ZL i) rfl ?_
    exact k9
  · skip
    refine mr_aload_n (pc := 1090) rfl rfl ?_
    refine mr_iconst (pc := 1091) (v := 0) rfl (by decide) ?_
    refine mr_laload (pc := 1092) (q := 17) (N := 1) (f := o') rfl rfl (vpb_in (by decide)) ?_
    refine mr_iload (pc := 1093) rfl rfl ?_
    refine mr_i2l (pc := 1095) rfl ?_
    refine mr_lcmp (pc := 1096) rfl ?_
    refine mr_if_eq (pc := 1097) 1102 rfl (by decide) (fun _ => ?_) (fun c9 => absurd (by rw [show o' (0 : Int32).toNatClampNeg = b.toInt64 from hV c0]; exact m_cmp _) c9)
    refine mr_goto (pc := 1102) 1143 rfl (by decide) ?_
    refine ms_drop (i := 5) (L' := [some (.ref 1000), some (.ref 0), some (.ref 8), some (.ref 17), some (.int i), none, some (.int b)]) rfl ?_
    refine ms_drop (i := 6) (L' := ZL i) rfl ?_
    exact k9
set_option maxRecDepth 100000 in
set_option maxHeartbeats 4000000 in
theorem Z_told {S : Nat × (Nat → Int32)} {X X' : cS} {Y Y' : rS} {b : Int32} {o' : Nat → Int64} {i : Int32} {k n : Nat} {r : mR} (hi1 : vp_in (i + 1) S.1) (hC : g_X0_told X (S.2 (i + 1 : Int32).toNatClampNeg) = some (.inl (some (.int b)), X')) (hM : g_X1_told_ Y (S.2 (i + 1 : Int32).toNatClampNeg) = some (.inl (some (.int b)), Y')) (hk : k + 0 ≤ r.2.2.1) (hn : n + 0 ≤ r.2.2.2) (k9 : mF S ML_law 1143 (ZL i) [] (lw X' Y' o') (k + 0) (n + 0) r) : mF S ML_law 1105 (ZL i) [] (lw X Y o') k n r := by
  refine mr_aload_n (pc := 1105) rfl rfl ?_
  refine mr_aload_n (pc := 1106) rfl rfl ?_
  refine mr_iload (pc := 1107) rfl rfl ?_
  refine mr_iconst (pc := 1109) (v := 1) rfl (by decide) ?_
  refine mr_iadd (pc := 1110) rfl ?_
  refine mr_sload (pc := 1111) rfl hi1 ?_
  refine mr_ret (mRunV (pc := 1112) (q := 0) (As := [.int (S.2 (i + 1 : Int32).toNatClampNeg)]) (rest := []) rfl lkRL_127 rfl rfl rfl (Nat.le_of_ble_eq_true rfl) (Nat.le_of_ble_eq_true rfl) (F_X0_told (T := yw Y [.inl (2, 1, .inr (.inl o'))]) hC)) rfl hk hn ?_
  refine mr_aload_n (pc := 1115) rfl rfl ?_
  refine mr_aload_n (pc := 1116) rfl rfl ?_
  refine mr_iload (pc := 1117) rfl rfl ?_
  refine mr_iconst (pc := 1119) (v := 1) rfl (by decide) ?_
  refine mr_iadd (pc := 1120) rfl ?_
  refine mr_sload (pc := 1121) rfl hi1 ?_
  refine mr_ret (mRunV (pc := 1122) (q := 8) (As := [.int (S.2 (i + 1 : Int32).toNatClampNeg)]) (rest := [.int b]) rfl lkRL_130 rfl rfl rfl (Nat.le_of_ble_eq_true rfl) (Nat.le_of_ble_eq_true rfl) (F_X1_told_ (Z := X') (T := [.inl (2, 1, .inr (.inl o'))]) hM)) rfl hk hn ?_
  refine mr_icmp_eq (pc := 1125) 1143 rfl (by decide) (fun _ => ?_) (fun c9 => absurd rfl c9)
  exact k9
set_option maxRecDepth 100000 in
set_option maxHeartbeats 4000000 in
theorem Z_clear {S : Nat × (Nat → Int32)} {X X' : cS} {Y Y' : rS} {b : Int32} {o' : Nat → Int64} {i : Int32} {k n : Nat} {r : mR}  (hC : g_X0_clear X  = some (.inl (some (.int b)), X')) (hM : g_X1_clear Y  = some (.inl (some (.int b)), Y')) (hk : k + 0 ≤ r.2.2.1) (hn : n + 0 ≤ r.2.2.2) (k9 : mF S ML_law 1143 (ZL i) [] (lw X' Y' o') (k + 0) (n + 0) r) : mF S ML_law 1130 (ZL i) [] (lw X Y o') k n r := by
  refine mr_aload_n (pc := 1130) rfl rfl ?_
  refine mr_ret (mRunV (pc := 1131) (q := 0) (As := []) (rest := []) rfl lkRL_131 rfl rfl rfl (Nat.le_of_ble_eq_true rfl) (Nat.le_of_ble_eq_true rfl) (F_X0_clear (T := yw Y [.inl (2, 1, .inr (.inl o'))]) hC)) rfl hk hn ?_
  refine mr_aload_n (pc := 1134) rfl rfl ?_
  refine mr_ret (mRunV (pc := 1135) (q := 8) (As := []) (rest := [.int b]) rfl lkRL_134 rfl rfl rfl (Nat.le_of_ble_eq_true rfl) (Nat.le_of_ble_eq_true rfl) (F_X1_clear (Z := X') (T := [.inl (2, 1, .inr (.inl o'))]) hM)) rfl hk hn ?_
  refine mr_icmp_eq (pc := 1138) 1143 rfl (by decide) (fun _ => ?_) (fun c9 => absurd rfl c9)
  exact k9
