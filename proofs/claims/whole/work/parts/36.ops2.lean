/-! THE CALLS: fill, pour, draw, boat, pool -/
theorem opR_ok' {exs : List (String × Int32)} {rx : Option (mO × cS)} {ry : Option (mO × rS)} {Q : cS → rS → Prop} {b : Int32} {X' : cS} {Y' : rS} (hQ : Q X' Y') (hx : rx = some (.inl (some (.int b)), X')) (hy : ry = some (.inl (some (.int b)), Y')) (ht : yT Y' = 0) : opR exs rx ry Q := ⟨0, b, X', Y', hy, ht, hQ, Or.inl ⟨rfl, hx⟩⟩
theorem e_leaveX {dn m : Nat} {X : cS} {x : Int32} (hx : x = nI m) (hd : dn + m < 1000) (he : xe X = nI (dn + m)) : g_X0_leave X x = some (.inl none, (X.1, X.2.1, X.2.2.1, X.2.2.2.1, X.2.2.2.2.1, X.2.2.2.2.2.1, X.2.2.2.2.2.2.1, nI dn, X.2.2.2.2.2.2.2.2.1, X.2.2.2.2.2.2.2.2.2)) := by
  subst hx
  have he1 : X.2.2.2.2.2.2.2.1 = nI (dn + m) := he
  rw [g_X0_leave, he1, pk_sub (by omega), Nat.add_sub_cancel]
  by_cases c : dn = 0
  · subst c; rw [if_neg (by decide)]; rfl
  · rw [if_pos (show (0 : Int32) < nI dn from q_lt 0 dn (by omega))]
theorem e_leaveY {dn m : Nat} {Y : rS} {x : Int32} (hx : x = nI m) (hd : dn + m < 1000) (ho : yo Y = nI (dn + m)) : g_X1_leave Y x = some (.inl none, (Y.1, Y.2.1, Y.2.2.1, Y.2.2.2.1, Y.2.2.2.2.1, Y.2.2.2.2.2.1, Y.2.2.2.2.2.2.1, Y.2.2.2.2.2.2.2.1, Y.2.2.2.2.2.2.2.2.1, nI dn, Y.2.2.2.2.2.2.2.2.2.2.1, Y.2.2.2.2.2.2.2.2.2.2.2.1, Y.2.2.2.2.2.2.2.2.2.2.2.2.1, Y.2.2.2.2.2.2.2.2.2.2.2.2.2.1, Y.2.2.2.2.2.2.2.2.2.2.2.2.2.2)) := by
  subst hx
  have ho1 : Y.2.2.2.2.2.2.2.2.2.1 = nI (dn + m) := ho
  rw [g_X1_leave, ho1, pk_sub (by omega), Nat.add_sub_cancel]
theorem Coup_leave {dn m B : Nat} {X : cS} {Y : rS} (h : Coup (dn + m) B X Y) : Coup dn B (X.1, X.2.1, X.2.2.1, X.2.2.2.1, X.2.2.2.2.1, X.2.2.2.2.2.1, X.2.2.2.2.2.2.1, nI dn, X.2.2.2.2.2.2.2.2.1, X.2.2.2.2.2.2.2.2.2) (Y.1, Y.2.1, Y.2.2.1, Y.2.2.2.1, Y.2.2.2.2.1, Y.2.2.2.2.2.1, Y.2.2.2.2.2.2.1, Y.2.2.2.2.2.2.2.1, Y.2.2.2.2.2.2.2.2.1, nI dn, Y.2.2.2.2.2.2.2.2.2.2.1, Y.2.2.2.2.2.2.2.2.2.2.2.1, Y.2.2.2.2.2.2.2.2.2.2.2.2.1, Y.2.2.2.2.2.2.2.2.2.2.2.2.2.1, Y.2.2.2.2.2.2.2.2.2.2.2.2.2.2) := by
  obtain ⟨hp, hw, hu, hdr, hq, hpl, hz, hm, he, ho, hs⟩ := h
  exact ⟨hp, hw, hu, hdr, hq, hpl, hz, hm, rfl, rfl, fun i hi => hs i (by omega)⟩
/-- one pool's water set -/
theorem Coup_set {dn B B' : Nat} {X : cS} {Y : rS} {WX WY : Nat → Int32} {gw : Nat → Nat} {j x : Nat} (v : Int32) (h : Coup dn B X Y) (hgw : ∀ k, k < 8 → xW X k = nI (gw k)) (hj : j < 8) (hd : ¬ xa X j = 0) (hs : nsum gw 8 + x ≤ B' + gw j) (hX : ∀ k, k < 8 → WX k = if k = j then nI x else xW X k) (hY : ∀ k, k < 8 → WY k = if k = j then nI x else yW Y k) : Coup dn B' (X.1, WX, X.2.2.1, X.2.2.2.1, X.2.2.2.2.1, X.2.2.2.2.2.1, X.2.2.2.2.2.2.1, X.2.2.2.2.2.2.2.1, X.2.2.2.2.2.2.2.2.1, X.2.2.2.2.2.2.2.2.2) (Y.1, Y.2.1, WY, Y.2.2.2.1, Y.2.2.2.2.1, Y.2.2.2.2.2.1, Y.2.2.2.2.2.2.1, Y.2.2.2.2.2.2.2.1, Y.2.2.2.2.2.2.2.2.1, Y.2.2.2.2.2.2.2.2.2.1, Y.2.2.2.2.2.2.2.2.2.2.1, Y.2.2.2.2.2.2.2.2.2.2.2.1, Y.2.2.2.2.2.2.2.2.2.2.2.2.1, v, Y.2.2.2.2.2.2.2.2.2.2.2.2.2.2) := by
  refine Coup_W v h ⟨updN gw j x, ?_, ?_⟩ ?_ ?_
  · intro k hk
    rw [hX k hk]
    unfold updN
    split
    · rfl
    · exact hgw k hk
  · have h2 := nsum_upd gw j x 8
    rw [if_pos hj, if_pos hj] at h2
    omega
  · intro k hk h0
    rw [hX k hk, if_neg (show ¬ k = j from fun c => hd (c ▸ h0))]
    rcases h.1 k hk with ⟨_, a2, _⟩ | ⟨⟨m, m1, m2, e⟩, _⟩
    · exact a2
    · exact absurd (e.symm.trans h0) (nI_ne0 m1 (by omega))
  · intro k hk h0
    rw [hX k hk, hY k hk]
    rcases h.1 k hk with ⟨a1, _⟩ | ⟨_, _, _, a4, _⟩
    · exact absurd a1 h0
    · rw [a4]
/-- a pool's water, as a number, on both sides -/
theorem s_water {dn B : Nat} {X : cS} {Y : rS} {j : Nat} (h : Coup dn B X Y) (hj : j < 8) (hd : ¬ xa X j = 0) : ∃ gw : Nat → Nat, (∀ k, k < 8 → xW X k = nI (gw k)) ∧ nsum gw 8 ≤ B ∧ gw j ≤ B ∧ yW Y j = nI (gw j) := by
  obtain ⟨gw, hgw, hs⟩ := h.2.1
  have := nsum_le (f := gw) 8 j hj
  refine ⟨gw, hgw, hs, by omega, ?_⟩
  rcases h.1 j hj with ⟨a1, _⟩ | ⟨_, _, _, a4, _⟩
  · exact absurd a1 hd
  · exact a4.trans (hgw j hj)
theorem P_pour {n : Nat} {X : cS} {Y : rS} (hn : n ≤ 600) (h : Cp n X Y) (a1 a2 : Int32) : opR [(xA, 1), (xI, 2), (xN, 3)] (g_X0_pour X a1 a2) (g_X1_pour Y a1 a2) (Cp (n + 1)) := by
  rw [g_X0_pour, g_X1_pour]
  rcases ck_pool a1 with ⟨j, hj, rfl, x1, y1⟩ | ⟨x1, y1⟩
  · rw [cV_of x1, cI_of y1, if_neg e10]
    rcases ck_in a2 0 9999 with ⟨r1, r2, x2, y2⟩ | ⟨x2, y2⟩
    · rw [cV_of x2, cI_of y2, if_neg e10, if_pos l00, g_X0_pourInto]
      obtain ⟨u, hu, rfl⟩ : ∃ m : Nat, m ≤ 9999 ∧ a2 = nI m := nI_of2 (M := 9999) (n := 9999) (by decide) r1 r2
      have h0 : Coup 0 (9999 * n) X (Y.1, Y.2.1, Y.2.2.1, Y.2.2.2.1, Y.2.2.2.2.1, Y.2.2.2.2.2.1, Y.2.2.2.2.2.2.1, Y.2.2.2.2.2.2.2.1, 0, Y.2.2.2.2.2.2.2.2.2.1, Y.2.2.2.2.2.2.2.2.2.2.1, Y.2.2.2.2.2.2.2.2.2.2.2.1, Y.2.2.2.2.2.2.2.2.2.2.2.2.1, Y.2.2.2.2.2.2.2.2.2.2.2.2.2.1, Y.2.2.2.2.2.2.2.2.2.2.2.2.2.2) := h
      rcases s_hold (j := j) (by omega) hj h0 with ⟨_, x3, X1, Y1, x4, y3, h1, hF, k1⟩ | ⟨d1, X1, Y1, x3, y3, h1, k1, w1⟩
      · rw [bI_of x3, if_pos rfl, bI_of x4, bI_of rfl, cI_ex an_1, bI_of y3, if_pos rfl, bI_of (told1 hF)]
        exact opR_ex rfl rfl (c := 3) rfl (by decide) (by simp) (Cp_of h1 (by omega))
      · have d1' : ¬ xa X1 j = 0 := by rw [k1.2.2.2]; exact d1
        obtain ⟨gw, hgw, hs, hle, hy⟩ := s_water h1 hj d1'
        have wx : X1.2.1 (nI j).toNatClampNeg = nI (gw j) := by rw [cl_nI (show j < 2 ^ 31 by omega)]; exact hgw j hj
        have wy : Y1.2.2.1 (nI j).toNatClampNeg = nI (gw j) := by rw [cl_nI (show j < 2 ^ 31 by omega)]; exact hy
        rw [bI_of x3, if_neg e10, bI_of y3, if_neg e10]
        simp only [if_pos (vpb_nI hj)]
        rw [wx, wy, nI_add]
        -- the new water
        have fin : ∀ (w : Nat) (GX : cS), w ≤ gw j + 9999 → (GX = (X1.1, upd (X1.2.1) j (nI w), X1.2.2.1, X1.2.2.2.1, X1.2.2.2.2.1, X1.2.2.2.2.2.1, X1.2.2.2.2.2.2.1, X1.2.2.2.2.2.2.2.1, X1.2.2.2.2.2.2.2.2.1, X1.2.2.2.2.2.2.2.2.2) ∨ (w = gw j ∧ GX = X1)) →
            opR [(xA, 1), (xI, 2), (xN, 3)] (bI (bV (g_X0_leave GX 1) (fun X48 => some (.inl (some (.int (X48.2.1 (nI j).toNatClampNeg))), X48))) (fun v15 X15 => cI (g_X0_answered v15) X15 (fun v18 => some (.inl (some (.int v18)), X15))))
              (bV (g_X1_leave (Y1.1, Y1.2.1, upd (Y1.2.2.1) (nI j).toNatClampNeg (nI w), Y1.2.2.2.1, Y1.2.2.2.2.1, Y1.2.2.2.2.2.1, Y1.2.2.2.2.2.2.1, Y1.2.2.2.2.2.2.2.1, Y1.2.2.2.2.2.2.2.2.1, Y1.2.2.2.2.2.2.2.2.2.1, Y1.2.2.2.2.2.2.2.2.2.2.1, Y1.2.2.2.2.2.2.2.2.2.2.2.1, Y1.2.2.2.2.2.2.2.2.2.2.2.2.1, Y1.2.2.2.2.2.2.2.2.2.2.2.2.2.1, Y1.2.2.2.2.2.2.2.2.2.2.2.2.2.2) 1) (fun Y112 => some (.inl (some (.int (Y112.2.2.1 (nI j).toNatClampNeg))), Y112))) (Cp (n + 1)) := by
          intro w GX hw hG
          have hC : Coup 1 (9999 * (n + 1)) GX (Y1.1, Y1.2.1, upd (Y1.2.2.1) j (nI w), Y1.2.2.2.1, Y1.2.2.2.2.1, Y1.2.2.2.2.2.1, Y1.2.2.2.2.2.2.1, Y1.2.2.2.2.2.2.2.1, Y1.2.2.2.2.2.2.2.2.1, Y1.2.2.2.2.2.2.2.2.2.1, Y1.2.2.2.2.2.2.2.2.2.2.1, Y1.2.2.2.2.2.2.2.2.2.2.2.1, Y1.2.2.2.2.2.2.2.2.2.2.2.2.1, Y1.2.2.2.2.2.2.2.2.2.2.2.2.2.1, Y1.2.2.2.2.2.2.2.2.2.2.2.2.2.2) := by
            rcases hG with rfl | ⟨rfl, rfl⟩
            · exact Coup_set (x := w) (Y1.2.2.2.2.2.2.2.2.2.2.2.2.2.1) h1 hgw hj d1' (by omega) (fun k _ => rfl) (fun k _ => rfl)
            · exact Coup_set (WX := xW GX) (x := gw j) (Y1.2.2.2.2.2.2.2.2.2.2.2.2.2.1) h1 hgw hj d1' (by omega) (fun k hk => by
                by_cases e : k = j
                · subst e; rw [if_pos rfl]; exact hgw k hk
                · rw [if_neg e]) (fun k _ => rfl)
          have hv : xW GX j = nI w := by
            rcases hG with rfl | ⟨rfl, rfl⟩
            · exact pk_us
            · exact hgw j hj
          have hv1 : GX.2.1 j = nI w := hv
          rw [cl_nI (show j < 2 ^ 31 by omega), bV_of (e_leaveX (dn := 0) (m := 1) (x := 1) rfl (by omega) hC.2.2.2.2.2.2.2.2.1), bV_of (e_leaveY (dn := 0) (m := 1) (x := 1) rfl (by omega) hC.2.2.2.2.2.2.2.2.2.1), bI_of rfl, hv1, cI_of (an_ok (by omega))]
          have e9 : upd (Y1.2.2.1) j (nI w) j = nI w := pk_us
          have hC2 : Cp (n + 1) _ _ := Coup_leave (dn := 0) (m := 1) hC
          exact opR_ok' hC2 (b := nI w) rfl (by dsimp only; rw [e9]) k1.1
        by_cases c1 : 9999 ≤ gw j
        · rw [if_pos (show (9999 : Int32) ≤ nI (gw j) from q_le 9999 (gw j) c1)]
          by_cases c2 : gw j + u ≤ 9999
          · rw [if_pos (show nI (gw j + u) ≤ 9999 from q_le (gw j + u) 9999 c2), if_pos (nI_le (show gw j + u ≤ gw j by omega) (by omega))]
            exact fin (gw j) X1 (by omega) (Or.inr ⟨rfl, rfl⟩)
          · rw [if_neg (show ¬ nI (gw j + u) ≤ 9999 from q_nle (gw j + u) 9999 (by omega)), if_pos (show (9999 : Int32) ≤ nI (gw j) from q_le 9999 (gw j) c1)]
            exact fin (gw j) X1 (by omega) (Or.inr ⟨rfl, rfl⟩)
        · have c1' : ¬ (9999 : Int32) ≤ nI (gw j) := q_nle 9999 (gw j) (by omega)
          rw [if_neg c1']
          by_cases c2 : gw j + u ≤ 9999
          · have ex : (if nI (gw j + u) < (9999 : Int32) then nI (gw j + u) else 9999) = nI (gw j + u) := by
              by_cases c3 : gw j + u < 9999
              · exact if_pos (q_lt (gw j + u) 9999 c3)
              · rw [if_neg (q_nlt (gw j + u) 9999 (by omega))]
                rw [show gw j + u = 9999 by omega]; rfl
            rw [ex, if_pos (show nI (gw j + u) ≤ 9999 from q_le (gw j + u) 9999 c2)]
            by_cases c3 : u = 0
            · subst c3
              rw [if_pos (nI_le (show gw j + 0 ≤ gw j by omega) (by omega))]
              refine fin (gw j) _ (by omega) (Or.inl ?_)
              rw [cl_nI (show j < 2 ^ 31 by omega)]; rfl
            · rw [if_neg (nI_ge (show gw j < gw j + u by omega) (by omega))]
              refine fin (gw j + u) _ (by omega) (Or.inl ?_)
              rw [cl_nI (show j < 2 ^ 31 by omega)]
          · rw [if_neg (show ¬ nI (gw j + u) < 9999 from q_nlt (gw j + u) 9999 (by omega)), if_neg (show ¬ nI (gw j + u) ≤ 9999 from q_nle (gw j + u) 9999 (by omega)), if_neg c1']
            refine fin 9999 _ (by omega) (Or.inl ?_)
            rw [cl_nI (show j < 2 ^ 31 by omega)]; rfl
    · rw [cV_ex x2, cI_of y2, if_pos rfl, if_neg n20]
      refine opR_ex rfl rfl (c := 2) rfl (by decide) (by simp) ?_; exact Cp_s h
  · rw [cV_ex x1, cI_of y1, if_pos rfl, if_neg n10]
    refine opR_ex rfl rfl (c := 1) rfl (by decide) (by simp) ?_; exact Cp_s h
theorem P_pool {n : Nat} {X : cS} {Y : rS} (hn : n ≤ 600) (h : Cp n X Y) (a1 a2 : Int32) : opR [(xA, 1), (xN, 2)] (g_X0_pool X a1 a2) (g_X1_pool Y a1 a2) (Cp (n + 1)) := by
  rw [g_X0_pool, g_X1_pool]
  rcases ck_pool a1 with ⟨j, hj, rfl, x1, y1⟩ | ⟨x1, y1⟩
  · rw [cV_of x1, cI_of y1, if_neg e10, bI_of (s_isDug hj)]
    simp only [if_pos (vpb_nI hj)]
    have h0 : Coup 0 (9999 * n) X (Y.1, Y.2.1, Y.2.2.1, Y.2.2.2.1, Y.2.2.2.2.1, Y.2.2.2.2.2.1, Y.2.2.2.2.2.2.1, Y.2.2.2.2.2.2.2.1, 0, Y.2.2.2.2.2.2.2.2.2.1, Y.2.2.2.2.2.2.2.2.2.2.1, Y.2.2.2.2.2.2.2.2.2.2.2.1, Y.2.2.2.2.2.2.2.2.2.2.2.2.1, Y.2.2.2.2.2.2.2.2.2.2.2.2.2.1, Y.2.2.2.2.2.2.2.2.2.2.2.2.2.2) := h
    by_cases c : xa X j = 0
    · have c1 : Y.1 (nI j).toNatClampNeg = 0 := by rw [cl_nI (show j < 2 ^ 31 by omega)]; exact (dg_iff h.1 hj).mpr c
      rw [if_pos c, if_pos rfl, if_pos c1, if_neg n20]
      refine opR_ex rfl rfl (c := 2) rfl (by decide) (by simp) ?_; exact Cp_s h
    · have c1 : ¬ Y.1 (nI j).toNatClampNeg = 0 := by rw [cl_nI (show j < 2 ^ 31 by omega)]; exact fun e => c ((dg_iff h.1 hj).mp e)
      rw [if_neg c, if_neg e10, if_neg c1, if_pos l00]
      simp only [cl_nI (show j < 2 ^ 31 by omega)]
      obtain ⟨m, w, ea, hm, ew, _, hb⟩ := s_nums (by omega) h0 hj c
      obtain ⟨x3, y3⟩ := s_height h0.1 hj ea hm ew hb
      obtain ⟨eA, eW, eL⟩ : Y.2.1 j = X.1 j ∧ Y.2.2.1 j = X.2.1 j ∧ Y.2.2.2.1 j = X.2.2.1 j := by
        rcases h.1 j hj with ⟨b1, _⟩ | ⟨_, _, b3, b4, b5⟩
        · exact absurd b1 c
        · exact ⟨b3, b4, b5⟩
      rw [eA, eW, eL, bI_of x3, bI_of y3, bI_of (s_boatsIn X (nI j)), bI_of (s_lieIn (fun b hb => h0.2.2.2.2.1 b hb) (nI j))]
      by_cases z0 : a2 = 0
      · rw [if_pos z0, if_pos z0]; refine opR_ok rfl rfl rfl ?_; exact Cp_s h
      · rw [if_neg z0, if_neg z0]
        by_cases z1 : a2 = 1
        · rw [if_pos z1, if_pos z1]; refine opR_ok rfl rfl rfl ?_; exact Cp_s h
        · rw [if_neg z1, if_neg z1]
          by_cases z2 : a2 = 2
          · rw [if_pos z2, if_pos z2]; refine opR_ok rfl rfl rfl ?_; exact Cp_s h
          · rw [if_neg z2, if_neg z2]
            by_cases z3 : a2 = 3
            · rw [if_pos z3, if_pos z3]; refine opR_ok rfl rfl rfl ?_; exact Cp_s h
            · rw [if_neg z3, if_neg z3]
              by_cases z4 : a2 = 4
              · rw [if_pos z4, if_pos z4]; refine opR_ok rfl rfl rfl ?_; exact Cp_s h
              · rw [if_neg z4, if_neg z4]; refine opR_ok rfl rfl rfl ?_; exact Cp_s h
  · rw [cV_ex x1, cI_of y1, if_pos rfl, if_neg n10]
    refine opR_ex rfl rfl (c := 1) rfl (by decide) (by simp) ?_; exact Cp_s h
/-- draught and place of a boat -/
theorem Coup_bd {dn B : Nat} {X : cS} {Y : rS} {b p : Nat} (z : Int32) (h : Coup dn B X Y) (hb : b < 10) (hp : p < 8) (hc : cB (upd (xq X) b (nI p)) (nI p) 10 ≤ 3) : Coup dn B (X.1, X.2.1, X.2.2.1, X.2.2.2.1, upd (X.2.2.2.2.1) b z, upd (X.2.2.2.2.2.1) b (nI p), X.2.2.2.2.2.2.1, X.2.2.2.2.2.2.2.1, X.2.2.2.2.2.2.2.2.1, X.2.2.2.2.2.2.2.2.2) (Y.1, Y.2.1, Y.2.2.1, Y.2.2.2.1, upd (Y.2.2.2.2.1) b (nI p), upd (Y.2.2.2.2.2.1) b z, Y.2.2.2.2.2.2.1, Y.2.2.2.2.2.2.2.1, Y.2.2.2.2.2.2.2.2.1, Y.2.2.2.2.2.2.2.2.2.1, Y.2.2.2.2.2.2.2.2.2.2.1, Y.2.2.2.2.2.2.2.2.2.2.2.1, Y.2.2.2.2.2.2.2.2.2.2.2.2.1, Y.2.2.2.2.2.2.2.2.2.2.2.2.2.1, Y.2.2.2.2.2.2.2.2.2.2.2.2.2.2) := by
  obtain ⟨h1, h2, h3, h4, h5, h6, h7⟩ := h
  refine ⟨h1, h2, h3, ?_, ?_, ⟨?_, ?_⟩, h7⟩
  · intro j hj
    show upd (Y.2.2.2.2.2.1) b z j = upd (X.2.2.2.2.1) b z j
    unfold upd
    split
    · rfl
    · exact h4 j hj
  · intro j hj
    show upd (Y.2.2.2.2.1) b (nI p) j = upd (X.2.2.2.2.2.1) b (nI p) j
    unfold upd
    split
    · rfl
    · exact h5 j hj
  · intro j hj
    show upd (X.2.2.2.2.2.1) b (nI p) j = -1 ∨ ∃ j', j' < 8 ∧ upd (X.2.2.2.2.2.1) b (nI p) j = nI j'
    by_cases e : j = b
    · subst e; exact Or.inr ⟨p, hp, pk_us⟩
    · have e2 : upd (X.2.2.2.2.2.1) b (nI p) j = X.2.2.2.2.2.1 j := pk_un e
      rw [e2]
      exact h6.1 j hj
  · intro j hj
    show cB (upd (xq X) b (nI p)) (nI j) 10 ≤ 3
    by_cases e : p = j
    · subst e; exact hc
    · have h9 := cB_upd (xq X) (nI j) (nI p) b 10
      have h8 := h6.2 j hj
      rw [if_neg (show ¬ (b < 10 ∧ nI p = nI j) from fun c => e ((nI_eq (by omega) (by omega)).mp c.2))] at h9
      omega
theorem P_boat {n : Nat} {X : cS} {Y : rS} (hn : n ≤ 600) (h : Cp n X Y) (a1 a2 a3 : Int32) : opR [(xA, 1), (xI, 2), (xN, 3), (xU, 4)] (g_X0_boat X a1 a2 a3) (g_X1_boat Y a1 a2 a3) (Cp (n + 1)) := by
  rw [g_X0_boat, g_X1_boat]
  rcases ck_boat a1 with ⟨b, hb, rfl, x1, y1⟩ | ⟨x1, y1⟩
  · rw [cV_of x1, cI_of y1, if_neg e10]
    rcases ck_pool a3 with ⟨j, hj, rfl, x2, y2⟩ | ⟨x2, y2⟩
    · rw [cV_of x2, cI_of y2, if_neg e10]
      rcases ck_in a2 1 99 with ⟨r1, r2, x3, y3⟩ | ⟨x3, y3⟩
      · rw [cV_of x3, cI_of y3, if_neg e10, if_pos l00, g_X0_berth]
        have h0 : Coup 0 (9999 * n) X (Y.1, Y.2.1, Y.2.2.1, Y.2.2.2.1, Y.2.2.2.2.1, Y.2.2.2.2.2.1, Y.2.2.2.2.2.2.1, Y.2.2.2.2.2.2.2.1, 0, Y.2.2.2.2.2.2.2.2.2.1, Y.2.2.2.2.2.2.2.2.2.2.1, Y.2.2.2.2.2.2.2.2.2.2.2.1, Y.2.2.2.2.2.2.2.2.2.2.2.2.1, Y.2.2.2.2.2.2.2.2.2.2.2.2.2.1, Y.2.2.2.2.2.2.2.2.2.2.2.2.2.2) := h
        rcases s_hold (j := j) (by omega) hj h0 with ⟨_, x4, X1, Y1, x5, y4, h1, hF, k1⟩ | ⟨d1, X1, Y1, x4, y4, h1, k1, w1⟩
        · rw [bI_of x4, if_pos rfl, bI_of x5, bI_of rfl, cI_ex an_1, bI_of y4, if_pos rfl, bI_of (told1 hF)]
          exact opR_ex rfl rfl (c := 3) rfl (by decide) (by simp) (Cp_of h1 (by omega))
        · have q1 : X1.2.2.2.2.2.1 (nI b).toNatClampNeg = xq X1 b := by rw [cl_nI (show b < 2 ^ 31 by omega)]
          have q2 : Y1.2.2.2.2.1 (nI b).toNatClampNeg = xq X1 b := by rw [cl_nI (show b < 2 ^ 31 by omega)]; exact h1.2.2.2.2.1 b hb
          have hle := cB_le (xq X1) (nI j) 10
          rw [bI_of x4, if_neg e10, bI_of y4, if_neg e10, bI_of (s_lieIn (fun b9 h9 => h1.2.2.2.2.1 b9 h9) (nI j)), bI_of (s_boatsIn X1 (nI j)), q1, q2]
          simp only [if_pos (vpb_nI hb), cl_nI (show b < 2 ^ 31 by omega)]
          have hup := cB_upd (xq X1) (nI j) (nI j) b 10
          rw [if_pos (show b < 10 ∧ nI j = nI j from ⟨hb, rfl⟩)] at hup
          -- once it may lie there
          have fin : cB (upd (xq X1) b (nI j)) (nI j) 10 ≤ 3 →
              opR [(xA, 1), (xI, 2), (xN, 3), (xU, 4)] (bI (bV (g_X0_leave (X1.1, X1.2.1, X1.2.2.1, X1.2.2.2.1, upd (X1.2.2.2.2.1) b a2, upd (X1.2.2.2.2.2.1) b (nI j), X1.2.2.2.2.2.2.1, X1.2.2.2.2.2.2.2.1, X1.2.2.2.2.2.2.2.2.1, X1.2.2.2.2.2.2.2.2.2) 1) (fun X55 => bI (g_X0_boatsIn X55 (nI j)) (fun v60 X60 => some (.inl (some (.int v60)), X60)))) (fun v19 X19 => cI (g_X0_answered v19) X19 (fun v22 => some (.inl (some (.int v22)), X19))))
                (bV (g_X1_leave (Y1.1, Y1.2.1, Y1.2.2.1, Y1.2.2.2.1, upd (Y1.2.2.2.2.1) b (nI j), upd (Y1.2.2.2.2.2.1) b a2, Y1.2.2.2.2.2.2.1, Y1.2.2.2.2.2.2.2.1, Y1.2.2.2.2.2.2.2.2.1, Y1.2.2.2.2.2.2.2.2.2.1, Y1.2.2.2.2.2.2.2.2.2.2.1, Y1.2.2.2.2.2.2.2.2.2.2.2.1, Y1.2.2.2.2.2.2.2.2.2.2.2.2.1, Y1.2.2.2.2.2.2.2.2.2.2.2.2.2.1, Y1.2.2.2.2.2.2.2.2.2.2.2.2.2.2) 1) (fun Y119 => bI (g_X1_lieIn Y119 (nI j)) (fun v124 Y124 => some (.inl (some (.int v124)), Y124)))) (Cp (n + 1)) := by
            intro hc
            have hC := Coup_bd a2 h1 hb hj hc
            have hC2 := Coup_leave (dn := 0) (m := 1) hC
            rw [bV_of (e_leaveX (dn := 0) (m := 1) (x := 1) rfl (by omega) hC.2.2.2.2.2.2.2.2.1), bV_of (e_leaveY (dn := 0) (m := 1) (x := 1) rfl (by omega) hC.2.2.2.2.2.2.2.2.2.1), bI_of (s_boatsIn _ (nI j)), bI_of rfl, cI_of (an_ok ?_), bI_of (s_lieIn (fun b9 h9 => hC2.2.2.2.2.1 b9 h9) (nI j))]
            · exact opR_ok rfl rfl k1.1 (Cp_of hC2 (by omega))
            · exact Nat.lt_of_le_of_lt (cB_le _ _ 10) (by omega)
          by_cases c : xq X1 b = nI j
          · rw [if_pos (show b < 10 ∧ xq X1 b = nI j from ⟨hb, c⟩)] at hup
            have h3 := h1.2.2.2.2.2.1.2 j hj
            have hc0 : cB (upd (xq X1) b (nI j)) (nI j) 10 = cB (xq X1) (nI j) 10 := by omega
            have hpos : 1 ≤ cB (xq X1) (nI j) 10 := by
              have h9 := cB_upd (xq X1) (nI j) (-1) b 10
              rw [if_pos (show b < 10 ∧ xq X1 b = nI j from ⟨hb, c⟩), if_neg (show ¬ (b < 10 ∧ (-1 : Int32) = nI j) from fun e => nI_neg1 j (by omega) e.2.symm)] at h9
              omega
            rw [if_pos c, if_pos c, nI_s1 _ hpos, if_pos (show nI (cB (xq X1) (nI j) 10 - 1) < 3 from q_lt (cB (xq X1) (nI j) 10 - 1) 3 (by omega))]
            exact fin (by omega)
          · rw [if_neg (show ¬ (b < 10 ∧ xq X1 b = nI j) from fun e => c e.2)] at hup
            rw [if_neg c, if_neg c, show nI (cB (xq X1) (nI j) 10) - 0 = nI (cB (xq X1) (nI j) 10) from Int32.sub_zero _]
            by_cases c3 : cB (xq X1) (nI j) 10 < 3
            · have c4 : nI (cB (xq X1) (nI j) 10) < 3 := q_lt (cB (xq X1) (nI j) 10) 3 c3
              rw [if_pos c4, if_pos c4]
              exact fin (by omega)
            · have c4 : ¬ nI (cB (xq X1) (nI j) 10) < 3 := q_nlt (cB (xq X1) (nI j) 10) 3 (by omega)
              obtain ⟨X', Y', l1, l2, l3, l4, l5⟩ := s_fail 3 (by omega) h1
              rw [if_neg c4, if_neg c4, bI_of l1, bI_of rfl, show (-(3 : Int32)) = -3 from rfl, cI_ex an_3, bI_of l2, bI_of (told3 l4)]
              exact opR_ex rfl rfl (c := 4) rfl (by decide) (by simp) (Cp_of l3 (by omega))
      · rw [cV_ex x3, cI_of y3, if_pos rfl, if_neg n20]
        refine opR_ex rfl rfl (c := 2) rfl (by decide) (by simp) ?_; exact Cp_s h
    · rw [cV_ex x2, cI_of y2, if_pos rfl, if_neg n10]
      refine opR_ex rfl rfl (c := 1) rfl (by decide) (by simp) ?_; exact Cp_s h
  · rw [cV_ex x1, cI_of y1, if_pos rfl, if_neg n10]
    refine opR_ex rfl rfl (c := 1) rfl (by decide) (by simp) ?_; exact Cp_s h
