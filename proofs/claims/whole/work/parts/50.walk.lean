/-! THE LAW FROM ITS ENTRY, in the small machine -/
theorem ms_new {S : Nat × (Nat → Int32)} {M : mM} {pc k n : Nat} {L : List (Option Value)} {st : List Value} {h h' : mH} {r : mR} {idx ci N : Nat} {fs : List Value} (hf : mAt M pc = some (.new idx, 3)) (lk : mLkN M.1.cls idx ci fs N) (hk' : k + 1 ≤ r.2.2.1) (hn' : n + N ≤ r.2.2.2) (h1 : h.length + 1 ≤ 1000) (h2 : mInH h.length (h.length + 1) h = true) (h3 : mInL h.length (h.length + 1) L = true) (h4 : st.all (mIn h.length (h.length + 1)) = true) (q : Nat) (hq : h.length = q) (hh : h ++ [.inr (ci, fs)] = h')
    (k9 : mF S M (pc + 3) L (.ref q :: st) h' (k + 1) (n + N) r) : mF S M pc L st h k n r := by
  subst hq; subst hh
  exact mr_new hf lk hk' hn' h1 h2 h3 h4 k9
set_option maxRecDepth 100000 in
set_option maxHeartbeats 4000000 in
theorem whole_mF {S : Nat × (Nat → Int32)} (hS : S.1 ≤ 2048) : ∃ h', mF S ML_law 0 (mEnt [.ref 1000] 7) [] [] 0 0 (.inl (some (.int 1)), h', 3103, 119045) := by
  obtain ⟨Y0, hb, hC⟩ := P_begin
  obtain ⟨h', hF⟩ := Z_loop hS 513 0 cs1 Y0 (fun _ => 0) 18 179 hC (by omega) (by omega) (by omega) (by omega) (by omega)
  refine ⟨h', ?_⟩
  refine ms_new (pc := 0) (h' := ([.inr (0, [.null, .null, .null, .null, .null, .null, .null, .int 0, .int 0, .int 0])] : mH)) rfl lnRX0 (Nat.le_of_ble_eq_true rfl) (Nat.le_of_ble_eq_true rfl) (Nat.le_of_ble_eq_true rfl) rfl rfl rfl 0 rfl rfl ?_
  refine mr_dup (pc := 3) rfl rfl ?_
  refine mr_init (pc := 4) (ci := 0) (fs := []) (h' := xw cs1 []) (k' := 7) (n' := 62) rfl lkRL_67 rfl (Nat.le_of_ble_eq_true rfl) (by decide) F_X0_init (Nat.le_of_ble_eq_true rfl) (Nat.le_of_ble_eq_true rfl) rfl rfl ?_
  refine ms_astore_n (pc := 7) (L' := [some (.ref 1000), some (.ref 0), none, none, none, none, none]) rfl (by decide) rfl rfl ?_
  refine ms_new (pc := 8) (h' := xw cs1 [.inr (1, [.int 0, .null, .null, .null, .null, .null, .null, .null, .null, .int 0, .int 0, .int 0, .int 0, .int 0, .int 0])]) rfl lnRX1 (Nat.le_of_ble_eq_true rfl) (Nat.le_of_ble_eq_true rfl) (Nat.le_of_ble_eq_true rfl) rfl rfl rfl 8 rfl rfl ?_
  refine mr_dup (pc := 11) rfl rfl ?_
  refine mr_init (pc := 12) (ci := 0) (fs := []) (h' := xw cs1 (yw Y0 [])) (k' := 8) (n' := 91) rfl lkRL_70 rfl (Nat.le_of_ble_eq_true rfl) (by decide) (F_X1_init hb) (Nat.le_of_ble_eq_true rfl) (Nat.le_of_ble_eq_true rfl) rfl rfl ?_
  refine ms_astore_n (pc := 15) (L' := [some (.ref 1000), some (.ref 0), some (.ref 8), none, none, none, none]) rfl (by decide) rfl rfl ?_
  refine mr_iconst (pc := 16) (v := 1) rfl (by decide) ?_
  refine ms_newlong (pc := 17) (N := 1) (h' := lw cs1 Y0 (fun _ => 0)) rfl (by decide) (by decide) (by decide) (Nat.le_of_ble_eq_true rfl) (Nat.le_of_ble_eq_true rfl) (Nat.le_of_ble_eq_true rfl) rfl rfl rfl 17 rfl rfl ?_
  refine ms_astore_n (pc := 19) (L' := [some (.ref 1000), some (.ref 0), some (.ref 8), some (.ref 17), none, none, none]) rfl (by decide) rfl rfl ?_
  refine mr_iconst (pc := 20) (v := 0) rfl (by decide) ?_
  refine ms_istore (pc := 21) (L' := ZL (nI (4 * 0))) rfl (by decide) rfl rfl ?_
  exact hF
