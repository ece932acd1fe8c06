/-! THE LAW'S LOOP -/
theorem zi (m L : Nat) (hL : L ≤ 2048) (hm : m ≤ 600) : (nI L - 4 < nI (4 * m)) ↔ L < 4 * m + 4 := by
  have e4 : (4 : Int32) = nI 4 := by decide
  rw [e4, Int32.lt_iff_toInt_lt, pk_sub_toInt (by omega) (by omega), nI_toInt (by omega)]
  omega
theorem zv {m L d : Nat} (hL : L ≤ 2048) (h : 4 * m + d < L) (hd : d < 4) {c : Int32} (hc : c = nI d) : vp_in (nI (4 * m) + c) L := by
  rw [hc, nI_add]
  exact vp_in_nI h (by omega)
set_option maxRecDepth 100000 in
set_option maxHeartbeats 4000000 in
theorem Z_loop {S : Nat × (Nat → Int32)} (hS : S.1 ≤ 2048) : ∀ (f m : Nat) (X : cS) (Y : rS) (o : Nat → Int64) (k n : Nat), Cp m X Y → S.1 < 4 * (m + f) → 4 * m ≤ S.1 → m ≤ 512 → k + 4 * f ≤ 3103 → n + 32 * f ≤ 119045 → ∃ h', mF S ML_law 23 (ZL (nI (4 * m))) [] (lw X Y o) k n (.inl (some (.int 1)), h', 3103, 119045) := by
  intro f
  induction f with
  | zero => intro m X Y o k n hC hf hm4 hm hk hn; exfalso; omega
  | succ f ih =>
    intro m X Y o k n hC hf hm4 hm hk hn
    by_cases hc : S.1 < 4 * m + 4
    · refine ⟨lw X Y o, ?_⟩
      refine mr_iload (pc := 23) rfl rfl ?_
      refine mr_aload_n (pc := 25) rfl rfl ?_
      refine mr_slen (pc := 26) rfl ?_
      refine mr_iconst (pc := 27) (v := 4) rfl (by decide) ?_
      refine mr_isub (pc := 28) rfl ?_
      refine mr_icmp_gt (pc := 29) 1149 rfl (by decide) (fun _ => ?_) (fun c9 => absurd ((zi m S.1 hS (by omega)).mpr hc) c9)
      refine mr_iconst (pc := 1149) (v := 1) rfl (by decide) ?_
      exact mr_zreturn (pc := 1150) rfl rfl (Or.inr rfl) (by omega) (by omega)
    · have hi0 : vp_in (nI (4 * m)) S.1 := vp_in_nI (by omega) (by omega)
      have hi1 : vp_in (nI (4 * m) + 1) S.1 := zv (d := 1) hS (by omega) (by omega) (by decide)
      have hi2 : vp_in (nI (4 * m) + 2) S.1 := zv (d := 2) hS (by omega) (by omega) (by decide)
      have hi3 : vp_in (nI (4 * m) + 3) S.1 := zv (d := 3) hS (by omega) (by omega) (by decide)
      have next : ∀ (X' : cS) (Y' : rS) (o' : Nat → Int64) (k' n' : Nat), Cp (m + 1) X' Y' → k' ≤ k + 4 → n' ≤ n + 32 → ∃ h', mF S ML_law 1143 (ZL (nI (4 * m))) [] (lw X' Y' o') k' n' (.inl (some (.int 1)), h', 3103, 119045) := by
        intro X' Y' o' k' n' hC' hk' hn'
        obtain ⟨h', hh⟩ := ih (m + 1) X' Y' o' k' n' hC' (by omega) (by omega) (by omega) (by omega) (by omega)
        refine ⟨h', ?_⟩
        refine ms_iinc (pc := 1143) (x := nI (4 * m)) (v := 4) (L' := ZL (nI (4 * (m + 1)))) rfl rfl (by decide) (by decide) rfl (by
          show ZL (nI (4 * m) + 4) = ZL (nI (4 * (m + 1)))
          rw [show (4 : Int32) = nI 4 from by decide, nI_add, show 4 * m + 4 = 4 * (m + 1) by omega]) ?_
        exact mr_goto (pc := 1146) 23 rfl (by decide) hh
      have head : ∀ h', (∀ x : Int32, x = (S.2 (nI (4 * m)).toNatClampNeg) &&& 31 → mF S ML_law 39 (ZL (nI (4 * m))) [.int x] (lw X Y o) k n (.inl (some (.int 1)), h', 3103, 119045)) → mF S ML_law 23 (ZL (nI (4 * m))) [] (lw X Y o) k n (.inl (some (.int 1)), h', 3103, 119045) := by
        intro h' hh
        refine mr_iload (pc := 23) rfl rfl ?_
        refine mr_aload_n (pc := 25) rfl rfl ?_
        refine mr_slen (pc := 26) rfl ?_
        refine mr_iconst (pc := 27) (v := 4) rfl (by decide) ?_
        refine mr_isub (pc := 28) rfl ?_
        refine mr_icmp_gt (pc := 29) 1149 rfl (by decide) (fun c9 => absurd ((zi m S.1 hS (by omega)).mp c9) hc) (fun _ => ?_)
        refine mr_aload_n (pc := 32) rfl rfl ?_
        refine mr_iload (pc := 33) rfl rfl ?_
        refine mr_sload (pc := 35) rfl hi0 ?_
        refine mr_bipush (pc := 36) (v := 31) rfl (by decide) ?_
        refine mr_iand (pc := 38) rfl ?_
        exact hh _ rfl
      obtain ⟨x, hx⟩ : ∃ x : Int32, x = (S.2 (nI (4 * m)).toNatClampNeg) &&& 31 := ⟨_, rfl⟩
      by_cases c0 : x = 0
      · skip
        obtain ⟨kc, b, X', Y', e1, e2, hC', e3⟩ := P_dig (by omega) hC (S.2 (nI (4 * m) + 1 : Int32).toNatClampNeg) (S.2 (nI (4 * m) + 2 : Int32).toNatClampNeg)
        rcases e3 with ⟨ek, e3⟩ | ⟨E, c, hE, ek, hc0, e3⟩
        · obtain ⟨h', hh⟩ := next X' Y' (vp_updL o 0 b.toInt64) (k + 2) (n + 16) hC' (by omega) (by omega)
          refine ⟨h', head h' (fun x9 hx9 => ?_)⟩
          rw [← hx] at hx9; subst hx9
          refine mr_tabIn (pc := 39) 120 rfl (by rw [c0]; decide) (by rw [c0]; decide) (by rw [c0]; rfl) (by decide) ?_
          exact Z_dig hi1 hi2 (H_dig_r e3) e1 (e2.trans ek) (fun _ => pk_uLs) (by show k + 2 ≤ 3103; omega) (by show n + 16 ≤ 119045; omega) hh
        · obtain ⟨h', hh⟩ := next X' Y' o (k + 2) (n + 16) hC' (by omega) (by omega)
          refine ⟨h', head h' (fun x9 hx9 => ?_)⟩
          rw [← hx] at hx9; subst hx9
          refine mr_tabIn (pc := 39) 120 rfl (by rw [c0]; decide) (by rw [c0]; decide) (by rw [c0]; rfl) (by decide) ?_
          simp only [List.mem_cons, List.not_mem_nil, or_false, Prod.mk.injEq] at hE
          rcases hE with ⟨rfl, rfl⟩ | ⟨rfl, rfl⟩
          · exact Z_dig hi1 hi2 (H_dig_xA e3) e1 (e2.trans ek) (fun q9 => absurd q9 hc0) (by show k + 2 ≤ 3103; omega) (by show n + 16 ≤ 119045; omega) hh
          · exact Z_dig hi1 hi2 (H_dig_xI e3) e1 (e2.trans ek) (fun q9 => absurd q9 hc0) (by show k + 2 ≤ 3103; omega) (by show n + 16 ≤ 119045; omega) hh
      by_cases c1 : x = 1
      · skip
        obtain ⟨kc, b, X', Y', e1, e2, hC', e3⟩ := P_fill (by omega) hC (S.2 (nI (4 * m) + 1 : Int32).toNatClampNeg)
        rcases e3 with ⟨ek, e3⟩ | ⟨E, c, hE, ek, hc0, e3⟩
        · obtain ⟨h', hh⟩ := next X' Y' (vp_updL o 0 b.toInt64) (k + 2) (n + 16) hC' (by omega) (by omega)
          refine ⟨h', head h' (fun x9 hx9 => ?_)⟩
          rw [← hx] at hx9; subst hx9
          refine mr_tabIn (pc := 39) 188 rfl (by rw [c1]; decide) (by rw [c1]; decide) (by rw [c1]; rfl) (by decide) ?_
          exact Z_fill hi1 (H_fill_r e3) e1 (e2.trans ek) (fun _ => pk_uLs) (by show k + 2 ≤ 3103; omega) (by show n + 16 ≤ 119045; omega) hh
        · obtain ⟨h', hh⟩ := next X' Y' o (k + 2) (n + 16) hC' (by omega) (by omega)
          refine ⟨h', head h' (fun x9 hx9 => ?_)⟩
          rw [← hx] at hx9; subst hx9
          refine mr_tabIn (pc := 39) 188 rfl (by rw [c1]; decide) (by rw [c1]; decide) (by rw [c1]; rfl) (by decide) ?_
          simp only [List.mem_cons, List.not_mem_nil, or_false, Prod.mk.injEq] at hE
          rcases hE with ⟨rfl, rfl⟩ | ⟨rfl, rfl⟩
          · exact Z_fill hi1 (H_fill_xA e3) e1 (e2.trans ek) (fun q9 => absurd q9 hc0) (by show k + 2 ≤ 3103; omega) (by show n + 16 ≤ 119045; omega) hh
          · exact Z_fill hi1 (H_fill_xN e3) e1 (e2.trans ek) (fun q9 => absurd q9 hc0) (by show k + 2 ≤ 3103; omega) (by show n + 16 ≤ 119045; omega) hh
      by_cases c2 : x = 2
      · skip
        obtain ⟨kc, b, X', Y', e1, e2, hC', e3⟩ := P_pour (by omega) hC (S.2 (nI (4 * m) + 1 : Int32).toNatClampNeg) (S.2 (nI (4 * m) + 2 : Int32).toNatClampNeg)
        rcases e3 with ⟨ek, e3⟩ | ⟨E, c, hE, ek, hc0, e3⟩
        · obtain ⟨h', hh⟩ := next X' Y' (vp_updL o 0 b.toInt64) (k + 3) (n + 24) hC' (by omega) (by omega)
          refine ⟨h', head h' (fun x9 hx9 => ?_)⟩
          rw [← hx] at hx9; subst hx9
          refine mr_tabIn (pc := 39) 244 rfl (by rw [c2]; decide) (by rw [c2]; decide) (by rw [c2]; rfl) (by decide) ?_
          exact Z_pour hi1 hi2 (H_pour_r e3) e1 (e2.trans ek) (fun _ => pk_uLs) (by show k + 3 ≤ 3103; omega) (by show n + 24 ≤ 119045; omega) hh
        · obtain ⟨h', hh⟩ := next X' Y' o (k + 3) (n + 24) hC' (by omega) (by omega)
          refine ⟨h', head h' (fun x9 hx9 => ?_)⟩
          rw [← hx] at hx9; subst hx9
          refine mr_tabIn (pc := 39) 244 rfl (by rw [c2]; decide) (by rw [c2]; decide) (by rw [c2]; rfl) (by decide) ?_
          simp only [List.mem_cons, List.not_mem_nil, or_false, Prod.mk.injEq] at hE
          rcases hE with ⟨rfl, rfl⟩ | ⟨rfl, rfl⟩ | ⟨rfl, rfl⟩
          · exact Z_pour hi1 hi2 (H_pour_xA e3) e1 (e2.trans ek) (fun q9 => absurd q9 hc0) (by show k + 3 ≤ 3103; omega) (by show n + 24 ≤ 119045; omega) hh
          · exact Z_pour hi1 hi2 (H_pour_xI e3) e1 (e2.trans ek) (fun q9 => absurd q9 hc0) (by show k + 3 ≤ 3103; omega) (by show n + 24 ≤ 119045; omega) hh
          · exact Z_pour hi1 hi2 (H_pour_xN e3) e1 (e2.trans ek) (fun q9 => absurd q9 hc0) (by show k + 3 ≤ 3103; omega) (by show n + 24 ≤ 119045; omega) hh
      by_cases c3 : x = 3
      · skip
        obtain ⟨kc, b, X', Y', e1, e2, hC', e3⟩ := P_draw (by omega) hC (S.2 (nI (4 * m) + 1 : Int32).toNatClampNeg) (S.2 (nI (4 * m) + 2 : Int32).toNatClampNeg)
        rcases e3 with ⟨ek, e3⟩ | ⟨E, c, hE, ek, hc0, e3⟩
        · obtain ⟨h', hh⟩ := next X' Y' (vp_updL o 0 b.toInt64) (k + 3) (n + 24) hC' (by omega) (by omega)
          refine ⟨h', head h' (fun x9 hx9 => ?_)⟩
          rw [← hx] at hx9; subst hx9
          refine mr_tabIn (pc := 39) 312 rfl (by rw [c3]; decide) (by rw [c3]; decide) (by rw [c3]; rfl) (by decide) ?_
          exact Z_draw hi1 hi2 (H_draw_r e3) e1 (e2.trans ek) (fun _ => pk_uLs) (by show k + 3 ≤ 3103; omega) (by show n + 24 ≤ 119045; omega) hh
        · obtain ⟨h', hh⟩ := next X' Y' o (k + 3) (n + 24) hC' (by omega) (by omega)
          refine ⟨h', head h' (fun x9 hx9 => ?_)⟩
          rw [← hx] at hx9; subst hx9
          refine mr_tabIn (pc := 39) 312 rfl (by rw [c3]; decide) (by rw [c3]; decide) (by rw [c3]; rfl) (by decide) ?_
          simp only [List.mem_cons, List.not_mem_nil, or_false, Prod.mk.injEq] at hE
          rcases hE with ⟨rfl, rfl⟩ | ⟨rfl, rfl⟩ | ⟨rfl, rfl⟩
          · exact Z_draw hi1 hi2 (H_draw_xA e3) e1 (e2.trans ek) (fun q9 => absurd q9 hc0) (by show k + 3 ≤ 3103; omega) (by show n + 24 ≤ 119045; omega) hh
          · exact Z_draw hi1 hi2 (H_draw_xI e3) e1 (e2.trans ek) (fun q9 => absurd q9 hc0) (by show k + 3 ≤ 3103; omega) (by show n + 24 ≤ 119045; omega) hh
          · exact Z_draw hi1 hi2 (H_draw_xN e3) e1 (e2.trans ek) (fun q9 => absurd q9 hc0) (by show k + 3 ≤ 3103; omega) (by show n + 24 ≤ 119045; omega) hh
      by_cases c4 : x = 4
      · skip
        obtain ⟨kc, b, X', Y', e1, e2, hC', e3⟩ := P_boat (by omega) hC (S.2 (nI (4 * m) + 1 : Int32).toNatClampNeg) (S.2 (nI (4 * m) + 2 : Int32).toNatClampNeg) (S.2 (nI (4 * m) + 3 : Int32).toNatClampNeg)
        rcases e3 with ⟨ek, e3⟩ | ⟨E, c, hE, ek, hc0, e3⟩
        · obtain ⟨h', hh⟩ := next X' Y' (vp_updL o 0 b.toInt64) (k + 4) (n + 32) hC' (by omega) (by omega)
          refine ⟨h', head h' (fun x9 hx9 => ?_)⟩
          rw [← hx] at hx9; subst hx9
          refine mr_tabIn (pc := 39) 380 rfl (by rw [c4]; decide) (by rw [c4]; decide) (by rw [c4]; rfl) (by decide) ?_
          exact Z_boat hi1 hi2 hi3 (H_boat_r e3) e1 (e2.trans ek) (fun _ => pk_uLs) (by show k + 4 ≤ 3103; omega) (by show n + 32 ≤ 119045; omega) hh
        · obtain ⟨h', hh⟩ := next X' Y' o (k + 4) (n + 32) hC' (by omega) (by omega)
          refine ⟨h', head h' (fun x9 hx9 => ?_)⟩
          rw [← hx] at hx9; subst hx9
          refine mr_tabIn (pc := 39) 380 rfl (by rw [c4]; decide) (by rw [c4]; decide) (by rw [c4]; rfl) (by decide) ?_
          simp only [List.mem_cons, List.not_mem_nil, or_false, Prod.mk.injEq] at hE
          rcases hE with ⟨rfl, rfl⟩ | ⟨rfl, rfl⟩ | ⟨rfl, rfl⟩ | ⟨rfl, rfl⟩
          · exact Z_boat hi1 hi2 hi3 (H_boat_xA e3) e1 (e2.trans ek) (fun q9 => absurd q9 hc0) (by show k + 4 ≤ 3103; omega) (by show n + 32 ≤ 119045; omega) hh
          · exact Z_boat hi1 hi2 hi3 (H_boat_xI e3) e1 (e2.trans ek) (fun q9 => absurd q9 hc0) (by show k + 4 ≤ 3103; omega) (by show n + 32 ≤ 119045; omega) hh
          · exact Z_boat hi1 hi2 hi3 (H_boat_xN e3) e1 (e2.trans ek) (fun q9 => absurd q9 hc0) (by show k + 4 ≤ 3103; omega) (by show n + 32 ≤ 119045; omega) hh
          · exact Z_boat hi1 hi2 hi3 (H_boat_xU e3) e1 (e2.trans ek) (fun q9 => absurd q9 hc0) (by show k + 4 ≤ 3103; omega) (by show n + 32 ≤ 119045; omega) hh
      by_cases c5 : x = 5
      · skip
        obtain ⟨kc, b, X', Y', e1, e2, hC', e3⟩ := P_gate (by omega) hC (S.2 (nI (4 * m) + 1 : Int32).toNatClampNeg) (S.2 (nI (4 * m) + 2 : Int32).toNatClampNeg)
        rcases e3 with ⟨ek, e3⟩ | ⟨E, c, hE, ek, hc0, e3⟩
        · obtain ⟨h', hh⟩ := next X' Y' (vp_updL o 0 b.toInt64) (k + 2) (n + 16) hC' (by omega) (by omega)
          refine ⟨h', head h' (fun x9 hx9 => ?_)⟩
          rw [← hx] at hx9; subst hx9
          refine mr_tabIn (pc := 39) 460 rfl (by rw [c5]; decide) (by rw [c5]; decide) (by rw [c5]; rfl) (by decide) ?_
          exact Z_gate hi1 hi2 (H_gate_r e3) e1 (e2.trans ek) (fun _ => pk_uLs) (by show k + 2 ≤ 3103; omega) (by show n + 16 ≤ 119045; omega) hh
        · obtain ⟨h', hh⟩ := next X' Y' o (k + 2) (n + 16) hC' (by omega) (by omega)
          refine ⟨h', head h' (fun x9 hx9 => ?_)⟩
          rw [← hx] at hx9; subst hx9
          refine mr_tabIn (pc := 39) 460 rfl (by rw [c5]; decide) (by rw [c5]; decide) (by rw [c5]; rfl) (by decide) ?_
          simp only [List.mem_cons, List.not_mem_nil, or_false, Prod.mk.injEq] at hE
          rcases hE with ⟨rfl, rfl⟩ | ⟨rfl, rfl⟩
          · exact Z_gate hi1 hi2 (H_gate_xA e3) e1 (e2.trans ek) (fun q9 => absurd q9 hc0) (by show k + 2 ≤ 3103; omega) (by show n + 16 ≤ 119045; omega) hh
          · exact Z_gate hi1 hi2 (H_gate_xI e3) e1 (e2.trans ek) (fun q9 => absurd q9 hc0) (by show k + 2 ≤ 3103; omega) (by show n + 16 ≤ 119045; omega) hh
      by_cases c6 : x = 6
      · skip
        obtain ⟨kc, b, X', Y', e1, e2, hC', e3⟩ := P_level (by omega) hC (S.2 (nI (4 * m) + 1 : Int32).toNatClampNeg)
        rcases e3 with ⟨ek, e3⟩ | ⟨E, c, hE, ek, hc0, e3⟩
        · obtain ⟨h', hh⟩ := next X' Y' (vp_updL o 0 b.toInt64) (k + 2) (n + 16) hC' (by omega) (by omega)
          refine ⟨h', head h' (fun x9 hx9 => ?_)⟩
          rw [← hx] at hx9; subst hx9
          refine mr_tabIn (pc := 39) 528 rfl (by rw [c6]; decide) (by rw [c6]; decide) (by rw [c6]; rfl) (by decide) ?_
          exact Z_level hi1 (H_level_r e3) e1 (e2.trans ek) (fun _ => pk_uLs) (by show k + 2 ≤ 3103; omega) (by show n + 16 ≤ 119045; omega) hh
        · obtain ⟨h', hh⟩ := next X' Y' o (k + 2) (n + 16) hC' (by omega) (by omega)
          refine ⟨h', head h' (fun x9 hx9 => ?_)⟩
          rw [← hx] at hx9; subst hx9
          refine mr_tabIn (pc := 39) 528 rfl (by rw [c6]; decide) (by rw [c6]; decide) (by rw [c6]; rfl) (by decide) ?_
          simp only [List.mem_cons, List.not_mem_nil, or_false, Prod.mk.injEq] at hE
          rcases hE with ⟨rfl, rfl⟩ | ⟨rfl, rfl⟩ | ⟨rfl, rfl⟩ | ⟨rfl, rfl⟩
          · exact Z_level hi1 (H_level_xA e3) e1 (e2.trans ek) (fun q9 => absurd q9 hc0) (by show k + 2 ≤ 3103; omega) (by show n + 16 ≤ 119045; omega) hh
          · exact Z_level hi1 (H_level_xN e3) e1 (e2.trans ek) (fun q9 => absurd q9 hc0) (by show k + 2 ≤ 3103; omega) (by show n + 16 ≤ 119045; omega) hh
          · exact Z_level hi1 (H_level_xS e3) e1 (e2.trans ek) (fun q9 => absurd q9 hc0) (by show k + 2 ≤ 3103; omega) (by show n + 16 ≤ 119045; omega) hh
          · exact Z_level hi1 (H_level_xD e3) e1 (e2.trans ek) (fun q9 => absurd q9 hc0) (by show k + 2 ≤ 3103; omega) (by show n + 16 ≤ 119045; omega) hh
      by_cases c7 : x = 7
      · skip
        obtain ⟨bo, hs, hb⟩ : ∃ bo : Int32, ((S.2 (nI (4 * m) + 2 : Int32).toNatClampNeg = 0 ∧ bo = 0) ∨ (¬ S.2 (nI (4 * m) + 2 : Int32).toNatClampNeg = 0 ∧ bo = 1)) ∧ (bo = 0 ∨ bo = 1) := by
          by_cases hz : S.2 (nI (4 * m) + 2 : Int32).toNatClampNeg = 0
          · exact ⟨0, Or.inl ⟨hz, rfl⟩, Or.inl rfl⟩
          · exact ⟨1, Or.inr ⟨hz, rfl⟩, Or.inr rfl⟩
        obtain ⟨kc, b, X', Y', e1, e2, hC', e3⟩ := P_pass (by omega) hC (S.2 (nI (4 * m) + 1 : Int32).toNatClampNeg) bo hb
        rcases e3 with ⟨ek, e3⟩ | ⟨E, c, hE, ek, hc0, e3⟩
        · obtain ⟨h', hh⟩ := next X' Y' (vp_updL o 0 b.toInt64) (k + 3) (n + 24) hC' (by omega) (by omega)
          refine ⟨h', head h' (fun x9 hx9 => ?_)⟩
          rw [← hx] at hx9; subst hx9
          refine mr_tabIn (pc := 39) 584 rfl (by rw [c7]; decide) (by rw [c7]; decide) (by rw [c7]; rfl) (by decide) ?_
          exact Z_pass hi1 hi2 (H_pass_r e3) e1 (e2.trans ek) (fun _ => pk_uLs) hs (by show k + 3 ≤ 3103; omega) (by show n + 24 ≤ 119045; omega) hh
        · obtain ⟨h', hh⟩ := next X' Y' o (k + 3) (n + 24) hC' (by omega) (by omega)
          refine ⟨h', head h' (fun x9 hx9 => ?_)⟩
          rw [← hx] at hx9; subst hx9
          refine mr_tabIn (pc := 39) 584 rfl (by rw [c7]; decide) (by rw [c7]; decide) (by rw [c7]; rfl) (by decide) ?_
          simp only [List.mem_cons, List.not_mem_nil, or_false, Prod.mk.injEq] at hE
          rcases hE with ⟨rfl, rfl⟩ | ⟨rfl, rfl⟩ | ⟨rfl, rfl⟩ | ⟨rfl, rfl⟩ | ⟨rfl, rfl⟩
          · exact Z_pass hi1 hi2 (H_pass_xA e3) e1 (e2.trans ek) (fun q9 => absurd q9 hc0) hs (by show k + 3 ≤ 3103; omega) (by show n + 24 ≤ 119045; omega) hh
          · exact Z_pass hi1 hi2 (H_pass_xN e3) e1 (e2.trans ek) (fun q9 => absurd q9 hc0) hs (by show k + 3 ≤ 3103; omega) (by show n + 24 ≤ 119045; omega) hh
          · exact Z_pass hi1 hi2 (H_pass_xS e3) e1 (e2.trans ek) (fun q9 => absurd q9 hc0) hs (by show k + 3 ≤ 3103; omega) (by show n + 24 ≤ 119045; omega) hh
          · exact Z_pass hi1 hi2 (H_pass_xU e3) e1 (e2.trans ek) (fun q9 => absurd q9 hc0) hs (by show k + 3 ≤ 3103; omega) (by show n + 24 ≤ 119045; omega) hh
          · exact Z_pass hi1 hi2 (H_pass_xD e3) e1 (e2.trans ek) (fun q9 => absurd q9 hc0) hs (by show k + 3 ≤ 3103; omega) (by show n + 24 ≤ 119045; omega) hh
      by_cases c8 : x = 8
      · skip
        obtain ⟨kc, b, X', Y', e1, e2, hC', e3⟩ := P_flight (by omega) hC (S.2 (nI (4 * m) + 1 : Int32).toNatClampNeg) (S.2 (nI (4 * m) + 2 : Int32).toNatClampNeg)
        rcases e3 with ⟨ek, e3⟩ | ⟨E, c, hE, ek, hc0, e3⟩
        · obtain ⟨h', hh⟩ := next X' Y' (vp_updL o 0 b.toInt64) (k + 3) (n + 24) hC' (by omega) (by omega)
          refine ⟨h', head h' (fun x9 hx9 => ?_)⟩
          rw [← hx] at hx9; subst hx9
          refine mr_tabIn (pc := 39) 668 rfl (by rw [c8]; decide) (by rw [c8]; decide) (by rw [c8]; rfl) (by decide) ?_
          exact Z_flight hi1 hi2 (H_flight_r e3) e1 (e2.trans ek) (fun _ => pk_uLs) (by show k + 3 ≤ 3103; omega) (by show n + 24 ≤ 119045; omega) hh
        · obtain ⟨h', hh⟩ := next X' Y' o (k + 3) (n + 24) hC' (by omega) (by omega)
          refine ⟨h', head h' (fun x9 hx9 => ?_)⟩
          rw [← hx] at hx9; subst hx9
          refine mr_tabIn (pc := 39) 668 rfl (by rw [c8]; decide) (by rw [c8]; decide) (by rw [c8]; rfl) (by decide) ?_
          simp only [List.mem_cons, List.not_mem_nil, or_false, Prod.mk.injEq] at hE
          rcases hE with ⟨rfl, rfl⟩ | ⟨rfl, rfl⟩ | ⟨rfl, rfl⟩ | ⟨rfl, rfl⟩ | ⟨rfl, rfl⟩
          · exact Z_flight hi1 hi2 (H_flight_xA e3) e1 (e2.trans ek) (fun q9 => absurd q9 hc0) (by show k + 3 ≤ 3103; omega) (by show n + 24 ≤ 119045; omega) hh
          · exact Z_flight hi1 hi2 (H_flight_xN e3) e1 (e2.trans ek) (fun q9 => absurd q9 hc0) (by show k + 3 ≤ 3103; omega) (by show n + 24 ≤ 119045; omega) hh
          · exact Z_flight hi1 hi2 (H_flight_xS e3) e1 (e2.trans ek) (fun q9 => absurd q9 hc0) (by show k + 3 ≤ 3103; omega) (by show n + 24 ≤ 119045; omega) hh
          · exact Z_flight hi1 hi2 (H_flight_xU e3) e1 (e2.trans ek) (fun q9 => absurd q9 hc0) (by show k + 3 ≤ 3103; omega) (by show n + 24 ≤ 119045; omega) hh
          · exact Z_flight hi1 hi2 (H_flight_xD e3) e1 (e2.trans ek) (fun q9 => absurd q9 hc0) (by show k + 3 ≤ 3103; omega) (by show n + 24 ≤ 119045; omega) hh
      by_cases c9 : x = 9
      · skip
        obtain ⟨kc, b, X', Y', e1, e2, hC', e3⟩ := P_trip (by omega) hC (S.2 (nI (4 * m) + 1 : Int32).toNatClampNeg) (S.2 (nI (4 * m) + 2 : Int32).toNatClampNeg)
        rcases e3 with ⟨ek, e3⟩ | ⟨E, c, hE, ek, hc0, e3⟩
        · obtain ⟨h', hh⟩ := next X' Y' (vp_updL o 0 b.toInt64) (k + 2) (n + 16) hC' (by omega) (by omega)
          refine ⟨h', head h' (fun x9 hx9 => ?_)⟩
          rw [← hx] at hx9; subst hx9
          refine mr_tabIn (pc := 39) 736 rfl (by rw [c9]; decide) (by rw [c9]; decide) (by rw [c9]; rfl) (by decide) ?_
          exact Z_trip hi1 hi2 (H_trip_r e3) e1 (e2.trans ek) (fun _ => pk_uLs) (by show k + 2 ≤ 3103; omega) (by show n + 16 ≤ 119045; omega) hh
        · obtain ⟨h', hh⟩ := next X' Y' o (k + 2) (n + 16) hC' (by omega) (by omega)
          refine ⟨h', head h' (fun x9 hx9 => ?_)⟩
          rw [← hx] at hx9; subst hx9
          refine mr_tabIn (pc := 39) 736 rfl (by rw [c9]; decide) (by rw [c9]; decide) (by rw [c9]; rfl) (by decide) ?_
          simp only [List.mem_cons, List.not_mem_nil, or_false, Prod.mk.injEq] at hE
          obtain ⟨rfl, rfl⟩ := hE
          exact Z_trip hi1 hi2 (H_trip_xA e3) e1 (e2.trans ek) (fun q9 => absurd q9 hc0) (by show k + 2 ≤ 3103; omega) (by show n + 16 ≤ 119045; omega) hh
      by_cases c10 : x = 10
      · skip
        obtain ⟨bo, hs, hb⟩ : ∃ bo : Int32, ((S.2 (nI (4 * m) + 2 : Int32).toNatClampNeg = 0 ∧ bo = 0) ∨ (¬ S.2 (nI (4 * m) + 2 : Int32).toNatClampNeg = 0 ∧ bo = 1)) ∧ (bo = 0 ∨ bo = 1) := by
          by_cases hz : S.2 (nI (4 * m) + 2 : Int32).toNatClampNeg = 0
          · exact ⟨0, Or.inl ⟨hz, rfl⟩, Or.inl rfl⟩
          · exact ⟨1, Or.inr ⟨hz, rfl⟩, Or.inr rfl⟩
        obtain ⟨kc, b, X', Y', e1, e2, hC', e3⟩ := P_convoy (by omega) hC (S.2 (nI (4 * m) + 1 : Int32).toNatClampNeg) bo hb
        rcases e3 with ⟨ek, e3⟩ | ⟨E, c, hE, ek, hc0, e3⟩
        · obtain ⟨h', hh⟩ := next X' Y' (vp_updL o 0 b.toInt64) (k + 1) (n + 8) hC' (by omega) (by omega)
          refine ⟨h', head h' (fun x9 hx9 => ?_)⟩
          rw [← hx] at hx9; subst hx9
          refine mr_tabIn (pc := 39) 804 rfl (by rw [c10]; decide) (by rw [c10]; decide) (by rw [c10]; rfl) (by decide) ?_
          exact Z_convoy hi1 hi2 (H_convoy_r e3) e1 (e2.trans ek) (fun _ => pk_uLs) hs (by show k + 1 ≤ 3103; omega) (by show n + 8 ≤ 119045; omega) hh
        · obtain ⟨h', hh⟩ := next X' Y' o (k + 1) (n + 8) hC' (by omega) (by omega)
          refine ⟨h', head h' (fun x9 hx9 => ?_)⟩
          rw [← hx] at hx9; subst hx9
          refine mr_tabIn (pc := 39) 804 rfl (by rw [c10]; decide) (by rw [c10]; decide) (by rw [c10]; rfl) (by decide) ?_
          simp only [List.mem_cons, List.not_mem_nil, or_false, Prod.mk.injEq] at hE
          obtain ⟨rfl, rfl⟩ := hE
          exact Z_convoy hi1 hi2 (H_convoy_xI e3) e1 (e2.trans ek) (fun q9 => absurd q9 hc0) hs (by show k + 1 ≤ 3103; omega) (by show n + 8 ≤ 119045; omega) hh
      by_cases c11 : x = 11
      · skip
        obtain ⟨kc, b, X', Y', e1, e2, hC', e3⟩ := P_share (by omega) hC (S.2 (nI (4 * m) + 1 : Int32).toNatClampNeg) (S.2 (nI (4 * m) + 2 : Int32).toNatClampNeg)
        rcases e3 with ⟨ek, e3⟩ | ⟨E, c, hE, ek, hc0, e3⟩
        · obtain ⟨h', hh⟩ := next X' Y' (vp_updL o 0 b.toInt64) (k + 4) (n + 32) hC' (by omega) (by omega)
          refine ⟨h', head h' (fun x9 hx9 => ?_)⟩
          rw [← hx] at hx9; subst hx9
          refine mr_tabIn (pc := 39) 888 rfl (by rw [c11]; decide) (by rw [c11]; decide) (by rw [c11]; rfl) (by decide) ?_
          exact Z_share hi1 hi2 (H_share_r e3) e1 (e2.trans ek) (fun _ => pk_uLs) (by show k + 4 ≤ 3103; omega) (by show n + 32 ≤ 119045; omega) hh
        · obtain ⟨h', hh⟩ := next X' Y' o (k + 4) (n + 32) hC' (by omega) (by omega)
          refine ⟨h', head h' (fun x9 hx9 => ?_)⟩
          rw [← hx] at hx9; subst hx9
          refine mr_tabIn (pc := 39) 888 rfl (by rw [c11]; decide) (by rw [c11]; decide) (by rw [c11]; rfl) (by decide) ?_
          simp only [List.mem_cons, List.not_mem_nil, or_false, Prod.mk.injEq] at hE
          rcases hE with ⟨rfl, rfl⟩ | ⟨rfl, rfl⟩ | ⟨rfl, rfl⟩
          · exact Z_share hi1 hi2 (H_share_xA e3) e1 (e2.trans ek) (fun q9 => absurd q9 hc0) (by show k + 4 ≤ 3103; omega) (by show n + 32 ≤ 119045; omega) hh
          · exact Z_share hi1 hi2 (H_share_xI e3) e1 (e2.trans ek) (fun q9 => absurd q9 hc0) (by show k + 4 ≤ 3103; omega) (by show n + 32 ≤ 119045; omega) hh
          · exact Z_share hi1 hi2 (H_share_xN e3) e1 (e2.trans ek) (fun q9 => absurd q9 hc0) (by show k + 4 ≤ 3103; omega) (by show n + 32 ≤ 119045; omega) hh
      by_cases c12 : x = 12
      · skip
        obtain ⟨b, X', Y', e1, hC', e3⟩ := P_first (by omega) hC (S.2 (nI (4 * m) + 1 : Int32).toNatClampNeg)
        obtain ⟨h', hh⟩ := next X' Y' o k n hC' (by omega) (by omega)
        refine ⟨h', head h' (fun x9 hx9 => ?_)⟩
        rw [← hx] at hx9; subst hx9
        refine mr_tabIn (pc := 39) 956 rfl (by rw [c12]; decide) (by rw [c12]; decide) (by rw [c12]; rfl) (by decide) ?_
        exact Z_first hi1 e3 e1 (by show k + 0 ≤ 3103; omega) (by show n + 0 ≤ 119045; omega) hh
      by_cases c13 : x = 13
      · skip
        obtain ⟨kc, b, X', Y', e1, e2, hC', e3⟩ := P_pool (by omega) hC (S.2 (nI (4 * m) + 1 : Int32).toNatClampNeg) (S.2 (nI (4 * m) + 2 : Int32).toNatClampNeg)
        rcases e3 with ⟨ek, e3⟩ | ⟨E, c, hE, ek, hc0, e3⟩
        · obtain ⟨h', hh⟩ := next X' Y' (vp_updL o 0 b.toInt64) (k + 2) (n + 16) hC' (by omega) (by omega)
          refine ⟨h', head h' (fun x9 hx9 => ?_)⟩
          rw [← hx] at hx9; subst hx9
          refine mr_tabIn (pc := 39) 981 rfl (by rw [c13]; decide) (by rw [c13]; decide) (by rw [c13]; rfl) (by decide) ?_
          exact Z_pool hi1 hi2 (H_pool_r e3) e1 (e2.trans ek) (fun _ => pk_uLs) (by show k + 2 ≤ 3103; omega) (by show n + 16 ≤ 119045; omega) hh
        · obtain ⟨h', hh⟩ := next X' Y' o (k + 2) (n + 16) hC' (by omega) (by omega)
          refine ⟨h', head h' (fun x9 hx9 => ?_)⟩
          rw [← hx] at hx9; subst hx9
          refine mr_tabIn (pc := 39) 981 rfl (by rw [c13]; decide) (by rw [c13]; decide) (by rw [c13]; rfl) (by decide) ?_
          simp only [List.mem_cons, List.not_mem_nil, or_false, Prod.mk.injEq] at hE
          rcases hE with ⟨rfl, rfl⟩ | ⟨rfl, rfl⟩
          · exact Z_pool hi1 hi2 (H_pool_xA e3) e1 (e2.trans ek) (fun q9 => absurd q9 hc0) (by show k + 2 ≤ 3103; omega) (by show n + 16 ≤ 119045; omega) hh
          · exact Z_pool hi1 hi2 (H_pool_xN e3) e1 (e2.trans ek) (fun q9 => absurd q9 hc0) (by show k + 2 ≤ 3103; omega) (by show n + 16 ≤ 119045; omega) hh
      by_cases c14 : x = 14
      · skip
        obtain ⟨kc, b, X', Y', e1, e2, hC', e3⟩ := P_where (by omega) hC (S.2 (nI (4 * m) + 1 : Int32).toNatClampNeg)
        rcases e3 with ⟨ek, e3⟩ | ⟨E, c, hE, ek, hc0, e3⟩
        · obtain ⟨h', hh⟩ := next X' Y' (vp_updL o 0 b.toInt64) (k + 1) (n + 8) hC' (by omega) (by omega)
          refine ⟨h', head h' (fun x9 hx9 => ?_)⟩
          rw [← hx] at hx9; subst hx9
          refine mr_tabIn (pc := 39) 1049 rfl (by rw [c14]; decide) (by rw [c14]; decide) (by rw [c14]; rfl) (by decide) ?_
          exact Z_where hi1 (H_where_r e3) e1 (e2.trans ek) (fun _ => pk_uLs) (by show k + 1 ≤ 3103; omega) (by show n + 8 ≤ 119045; omega) hh
        · obtain ⟨h', hh⟩ := next X' Y' o (k + 1) (n + 8) hC' (by omega) (by omega)
          refine ⟨h', head h' (fun x9 hx9 => ?_)⟩
          rw [← hx] at hx9; subst hx9
          refine mr_tabIn (pc := 39) 1049 rfl (by rw [c14]; decide) (by rw [c14]; decide) (by rw [c14]; rfl) (by decide) ?_
          simp only [List.mem_cons, List.not_mem_nil, or_false, Prod.mk.injEq] at hE
          obtain ⟨rfl, rfl⟩ := hE
          exact Z_where hi1 (H_where_xA e3) e1 (e2.trans ek) (fun q9 => absurd q9 hc0) (by show k + 1 ≤ 3103; omega) (by show n + 8 ≤ 119045; omega) hh
      by_cases c15 : x = 15
      · skip
        obtain ⟨b, X', Y', e1, hC', e3⟩ := P_told (by omega) hC (S.2 (nI (4 * m) + 1 : Int32).toNatClampNeg)
        obtain ⟨h', hh⟩ := next X' Y' o k n hC' (by omega) (by omega)
        refine ⟨h', head h' (fun x9 hx9 => ?_)⟩
        rw [← hx] at hx9; subst hx9
        refine mr_tabIn (pc := 39) 1105 rfl (by rw [c15]; decide) (by rw [c15]; decide) (by rw [c15]; rfl) (by decide) ?_
        exact Z_told hi1 e3 e1 (by show k + 0 ≤ 3103; omega) (by show n + 0 ≤ 119045; omega) hh
      by_cases c16 : x = 16
      · skip
        obtain ⟨b, X', Y', e1, hC', e3⟩ := P_clear (by omega) hC 
        obtain ⟨h', hh⟩ := next X' Y' o k n hC' (by omega) (by omega)
        refine ⟨h', head h' (fun x9 hx9 => ?_)⟩
        rw [← hx] at hx9; subst hx9
        refine mr_tabIn (pc := 39) 1130 rfl (by rw [c16]; decide) (by rw [c16]; decide) (by rw [c16]; rfl) (by decide) ?_
        exact Z_clear e3 e1 (by show k + 0 ≤ 3103; omega) (by show n + 0 ≤ 119045; omega) hh
      have hC1 : Cp (m + 1) X Y := by
        obtain ⟨p1, ⟨g9, w1, w2⟩, p3⟩ := hC
        exact ⟨p1, ⟨g9, w1, by omega⟩, p3⟩
      obtain ⟨h', hh⟩ := next X Y o k n hC1 (by omega) (by omega)
      refine ⟨h', head h' (fun x9 hx9 => ?_)⟩
      rw [← hx] at hx9; subst hx9
      exact mr_tabOut (pc := 39) 1143 rfl (m_tabOut _ _ _ (fun c h1 h2 => by rcases (show c = 0 ∨ c = 1 ∨ c = 2 ∨ c = 3 ∨ c = 4 ∨ c = 5 ∨ c = 6 ∨ c = 7 ∨ c = 8 ∨ c = 9 ∨ c = 10 ∨ c = 11 ∨ c = 12 ∨ c = 13 ∨ c = 14 ∨ c = 15 ∨ c = 16 by omega) with rfl | rfl | rfl | rfl | rfl | rfl | rfl | rfl | rfl | rfl | rfl | rfl | rfl | rfl | rfl | rfl | rfl <;> assumption)) (by decide) hh
