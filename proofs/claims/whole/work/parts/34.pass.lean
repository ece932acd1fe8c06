/-! A GATE, A PASS on both sides -/
theorem e_holdAll2 {X : cS} {g : Nat} (hg : g < 7) : g_X0_holdAll X (nI g) (nI g + 1) = g_X0_holdAll_24 mK X (nI g) (nI (g + 1)) 1 2 0 := by
  rw [g_X0_holdAll, nI_1, if_neg (nI_nlt (by omega) (by omega)), pk_sub (by omega), if_pos (nI_pos' (by omega))]
  have e : g + 1 - g = 1 := by omega
  rw [e]
  rfl
theorem s_levels {dn B g : Nat} {X : cS} {Y : rS} (hB : B < 2 ^ 30) (hg : g < 7) (hdn : dn < 10) (h : Coup dn B X Y) :
    (∃ X' Y' w, g_X0_levelGate X (nI g) = some (.inl (some (.int (nI w))), X') ∧ g_X1_levels Y (nI g) = some (.inl (some (.int 1)), Y') ∧ w ≤ 200 ∧ ywn Y' = nI w ∧ Coup dn B X' Y' ∧ kp X X' Y Y') ∨
    (∃ X' Y' r, g_X0_levelGate X (nI g) = some (.inl (some (.int (-r))), X') ∧ g_X1_levels Y (nI g) = some (.inl (some (.int 0)), Y') ∧ (r = 1 ∨ r = 2 ∨ r = 4) ∧ yF Y' = r ∧ Coup 0 B X' Y' ∧ kp X X' Y Y') := by
  have hK := mK_gt
  obtain ⟨f, hf⟩ : ∃ f, mK = f + 3 := ⟨mK - 3, by omega⟩
  rw [g_X0_levelGate, g_X1_levels, e_holdAll2 hg]
  rcases s_hold (j := g) (by omega) (by omega) h with ⟨_, x1, X1, Y1, x2, y1, h1, hF, k1⟩ | ⟨d1, X1, Y1, x1, y1, h1, k1, w1⟩
  · have hA : g_X0_holdAll_24 mK X (nI g) (nI (g + 1)) 1 2 0 = some (.inl (some (.int 0)), X) := by
      rw [hf, g_X0_holdAll_24, if_neg (show ¬ (2 : Int32) ≤ 0 by decide), show nI g + (0 : Int32) * 1 = nI g from by rw [Int32.zero_mul, Int32.add_zero], bI_of x1]
      exact if_pos rfl
    rw [bI_of hA, if_pos rfl, bI_of x2, bI_of y1, if_pos rfl]
    exact Or.inr ⟨X1, Y1, 1, rfl, rfl, Or.inl rfl, hF, h1, k1⟩
  · rw [bI_of y1, if_neg e10, nI_1]
    rcases s_hold (j := g + 1) (by omega) (by omega) h1 with ⟨_, x3, X2, Y2, x4, y2, h2, hF, k2⟩ | ⟨d2, X2, Y2, x3, y2, h2, k2, w2⟩
    · have hA : g_X0_holdAll_24 mK X (nI g) (nI (g + 1)) 1 2 0 = some (.inl (some (.int 0)), X1) := by
        rw [hf, g_X0_holdAll_24, if_neg (show ¬ (2 : Int32) ≤ 0 by decide), show nI g + (0 : Int32) * 1 = nI g from by rw [Int32.zero_mul, Int32.add_zero], bI_of x1, if_neg e10, g_X0_holdAll_24, if_neg (show ¬ (2 : Int32) ≤ 0 + 1 by decide), show nI g + (0 + 1 : Int32) * 1 = nI (g + 1) from by rw [show (0 + 1 : Int32) * 1 = 1 from by decide, nI_1], bI_of x3]
        exact if_pos rfl
      rw [bI_of hA, if_pos rfl, bI_of x4, bI_of y2, if_pos rfl]
      exact Or.inr ⟨X2, Y2, 1, rfl, rfl, Or.inl rfl, hF, h2, kp_tr k1 k2⟩
    · have hA : g_X0_holdAll_24 mK X (nI g) (nI (g + 1)) 1 2 0 = some (.inl (some (.int 1)), X2) := by
        rw [hf, g_X0_holdAll_24, if_neg (show ¬ (2 : Int32) ≤ 0 by decide), show nI g + (0 : Int32) * 1 = nI g from by rw [Int32.zero_mul, Int32.add_zero], bI_of x1, if_neg e10, g_X0_holdAll_24, if_neg (show ¬ (2 : Int32) ≤ 0 + 1 by decide), show nI g + (0 + 1 : Int32) * 1 = nI (g + 1) from by rw [show (0 + 1 : Int32) * 1 = 1 from by decide, nI_1], bI_of x3, if_neg e10, g_X0_holdAll_24]
        exact if_pos (by decide)
      have k12 := kp_tr k1 k2
      have hu : Y2.2.2.2.2.2.2.1 g = X2.2.2.2.1 g := h2.2.2.1 g hg
      rw [bI_of hA, if_neg e10, bI_of y2, if_neg e10]
      simp only [if_pos (vpb_nI hg)]
      by_cases cu : X2.2.2.2.1 g = 0
      · have cu1 : X2.2.2.2.1 (nI g).toNatClampNeg = 0 := by rw [cl_nI (show g < 2 ^ 31 by omega)]; exact cu
        have cu2 : Y2.2.2.2.2.2.2.1 (nI g).toNatClampNeg = 0 := by rw [cl_nI (show g < 2 ^ 31 by omega)]; exact hu.trans cu
        obtain ⟨X', Y', l1, l2, l3, l4, l5⟩ := s_fail 2 (by omega) h2
        rw [if_pos cu1, if_pos cu2, bI_of l1, s_failB l2]
        exact Or.inr ⟨X', Y', 2, rfl, rfl, Or.inr (Or.inl rfl), l4, l3, kp_tr k12 l5⟩
      · have cu1 : ¬ X2.2.2.2.1 (nI g).toNatClampNeg = 0 := by rw [cl_nI (show g < 2 ^ 31 by omega)]; exact cu
        have cu2 : ¬ Y2.2.2.2.2.2.2.1 (nI g).toNatClampNeg = 0 := by rw [cl_nI (show g < 2 ^ 31 by omega)]; exact fun e => cu (hu.symm.trans e)
        rw [if_neg cu1, if_neg cu2, cl_nI (show g < 2 ^ 31 by omega)]
        have hC : Coup (dn + 2) B (X2.1, X2.2.1, X2.2.2.1, upd (X2.2.2.2.1) g (X2.2.2.2.1 g - 1), X2.2.2.2.2.1, X2.2.2.2.2.2.1, X2.2.2.2.2.2.2.1, X2.2.2.2.2.2.2.2.1, X2.2.2.2.2.2.2.2.2.1, X2.2.2.2.2.2.2.2.2.2) (Y2.1, Y2.2.1, Y2.2.2.1, Y2.2.2.2.1, Y2.2.2.2.2.1, Y2.2.2.2.2.2.1, upd (Y2.2.2.2.2.2.2.1) g (Y2.2.2.2.2.2.2.1 g - 1), Y2.2.2.2.2.2.2.2.1, Y2.2.2.2.2.2.2.2.2.1, Y2.2.2.2.2.2.2.2.2.2.1, Y2.2.2.2.2.2.2.2.2.2.2.1, Y2.2.2.2.2.2.2.2.2.2.2.2.1, Y2.2.2.2.2.2.2.2.2.2.2.2.2.1, 0, Y2.2.2.2.2.2.2.2.2.2.2.2.2.2.2) := by
          obtain ⟨hp, hw, hu9, hr⟩ := h2
          refine ⟨hp, hw, fun j hj => ?_, hr⟩
          show upd (Y2.2.2.2.2.2.2.1) g (Y2.2.2.2.2.2.2.1 g - 1) j = upd (X2.2.2.2.1) g (X2.2.2.2.1 g - 1) j
          rw [hu]
          unfold upd
          split
          · rfl
          · exact hu9 j hj
        have kk : kp X (X2.1, X2.2.1, X2.2.2.1, upd (X2.2.2.2.1) g (X2.2.2.2.1 g - 1), X2.2.2.2.2.1, X2.2.2.2.2.2.1, X2.2.2.2.2.2.2.1, X2.2.2.2.2.2.2.2.1, X2.2.2.2.2.2.2.2.2.1, X2.2.2.2.2.2.2.2.2.2) Y (Y2.1, Y2.2.1, Y2.2.2.1, Y2.2.2.2.1, Y2.2.2.2.2.1, Y2.2.2.2.2.2.1, upd (Y2.2.2.2.2.2.2.1) g (Y2.2.2.2.2.2.2.1 g - 1), Y2.2.2.2.2.2.2.2.1, Y2.2.2.2.2.2.2.2.2.1, Y2.2.2.2.2.2.2.2.2.2.1, Y2.2.2.2.2.2.2.2.2.2.2.1, Y2.2.2.2.2.2.2.2.2.2.2.2.1, Y2.2.2.2.2.2.2.2.2.2.2.2.2.1, 0, Y2.2.2.2.2.2.2.2.2.2.2.2.2.2.2) := k12
        have d1' : ¬ X2.1 g = 0 := by
          have e : X2.1 = xa X := k12.2.2.2
          rw [e]; exact d1
        have d2' : ¬ X2.1 (g + 1) = 0 := by
          have e : X2.1 = xa X1 := k2.2.2.2
          rw [e]; exact d2
        rcases l_level hB hg hdn 200 mK mK 0 _ _ (by omega) (by omega) (by omega) hC d1' d2' rfl with ⟨X', Y', w, q1, q2, q3, q4, q5, q6⟩ | ⟨X', Y', q1, q2, q3, q4, q5⟩
        · exact Or.inl ⟨X', Y', w, q1, q2, q3, q4, q5, kp_tr kk q6⟩
        · exact Or.inr ⟨X', Y', 4, q1, q2, Or.inr (Or.inr rfl), q3, q4, kp_tr kk q5⟩
/-- the boat's new place -/
theorem Coup_q {dn B : Nat} {X : cS} {Y : rS} {b p : Nat} (h : Coup dn B X Y) (hb : b < 10) (hp : p < 8) (hc : cB (xq X) (nI p) 10 < 3) : Coup dn B (X.1, X.2.1, X.2.2.1, X.2.2.2.1, X.2.2.2.2.1, upd (X.2.2.2.2.2.1) b (nI p), X.2.2.2.2.2.2.1, X.2.2.2.2.2.2.2.1, X.2.2.2.2.2.2.2.2.1, X.2.2.2.2.2.2.2.2.2) (Y.1, Y.2.1, Y.2.2.1, Y.2.2.2.1, upd (Y.2.2.2.2.1) b (nI p), Y.2.2.2.2.2.1, Y.2.2.2.2.2.2.1, Y.2.2.2.2.2.2.2.1, Y.2.2.2.2.2.2.2.2.1, Y.2.2.2.2.2.2.2.2.2.1, Y.2.2.2.2.2.2.2.2.2.2.1, Y.2.2.2.2.2.2.2.2.2.2.2.1, Y.2.2.2.2.2.2.2.2.2.2.2.2.1, Y.2.2.2.2.2.2.2.2.2.2.2.2.2.1, Y.2.2.2.2.2.2.2.2.2.2.2.2.2.2) := by
  obtain ⟨h1, h2, h3, h4, h5, h6, h7⟩ := h
  refine ⟨h1, h2, h3, h4, ?_, ⟨?_, ?_⟩, h7⟩
  · intro j hj
    show upd (Y.2.2.2.2.1) b (nI p) j = upd (X.2.2.2.2.2.1) b (nI p) j
    unfold upd
    split
    · rfl
    · exact h5 j hj
  · intro j hj
    show upd (X.2.2.2.2.2.1) b (nI p) j = -1 ∨ _
    by_cases e : j = b
    · subst e; exact Or.inr ⟨p, hp, pk_us⟩
    · have e2 : upd (X.2.2.2.2.2.1) b (nI p) j = X.2.2.2.2.2.1 j := pk_un e
      show upd (X.2.2.2.2.2.1) b (nI p) j = -1 ∨ ∃ j', j' < 8 ∧ upd (X.2.2.2.2.2.1) b (nI p) j = nI j'
      rw [e2]
      exact h6.1 j hj
  · intro j hj
    have h9 := cB_upd (xq X) (nI j) (nI p) b 10
    have h8 := h6.2 j hj
    show cB (upd (xq X) b (nI p)) (nI j) 10 ≤ 3
    by_cases e : p = j
    · subst e
      rw [if_pos (show b < 10 ∧ nI p = nI p from ⟨hb, rfl⟩)] at h9
      omega
    · rw [if_neg (show ¬ (b < 10 ∧ nI p = nI j) from fun c => e ((nI_eq (by omega) (by omega)).mp c.2))] at h9
      omega
/-- a pass from own to behind, through the gate g between them; the two ways of the class and of the reference -/
theorem s_passW {dn B b o p g : Nat} {X : cS} {Y : rS} (hB : B < 2 ^ 30) (hdn : dn < 9) (hb : b < 10) (ho : o < 8) (hp : p < 8) (hg : g < 7) (h : Coup dn B X Y)
    (GX : Option (mO × cS)) (GY : Option (mO × rS))
    (eX : GX = bI (g_X0_hold X (nI o)) (fun v24 X24 => if v24 = 0 then (bI (g_X0_failing X24 1) (fun v32 X32 => some (.inl (some (.int v32)), X32))) else (bI (g_X0_levelGate X24 (nI g)) (fun v43 X43 => if 0 ≤ v43 then (bI (g_X0_hold X43 (nI p)) (fun v59 X59 => if v59 = 0 then (bI (g_X0_failing X59 1) (fun v67 X67 => some (.inl (some (.int v67)), X67))) else (bI (g_X0_boatsIn X59 (nI p)) (fun v74 X74 => if (3 : Int32) ≤ v74 then (bI (g_X0_failing X74 3) (fun v98 X98 => some (.inl (some (.int v98)), X98))) else (bI (g_X0_heightOf X74 (nI p)) (fun v84 X84 => if vpb (nI b) 10 then (if X84.2.2.2.2.1 (nI b).toNatClampNeg ≤ v84 then (if vpb (nI b) 10 then (bV (g_X0_leave (X84.1, X84.2.1, X84.2.2.1, X84.2.2.2.1, X84.2.2.2.2.1, upd (X84.2.2.2.2.2.1) (nI b).toNatClampNeg (nI p), X84.2.2.2.2.2.2.1, X84.2.2.2.2.2.2.2.1, X84.2.2.2.2.2.2.2.2.1, X84.2.2.2.2.2.2.2.2.2) 2) (fun X112 => some (.inl (some (.int (nI p))), X112))) else none) else (bI (g_X0_failing X84 3) (fun v98 X98 => some (.inl (some (.int v98)), X98)))) else none)))))) else (some (.inl (some (.int v43)), X43))))))
    (eY : GY = bI (g_X1_hold Y (nI o)) (fun v24 Y24 => if v24 = 0 then (some (.inl (some (.int 0)), Y24)) else (bI (g_X1_levels Y24 (nI g)) (fun v41 Y41 => if v41 = 0 then (some (.inl (some (.int 0)), Y41)) else (bI (g_X1_hold Y41 (nI p)) (fun v50 Y50 => if v50 = 0 then (some (.inl (some (.int 0)), Y50)) else (bI (g_X1_lieIn Y50 (nI p)) (fun v61 Y61 => if (3 : Int32) ≤ v61 then (bI (g_X1_fail Y61 3) (fun v85 Y85 => if v85 = 0 ∨ v85 = 1 then (some (.inl (some (.int v85)), Y85)) else none)) else (bI (g_X1_heightOf Y61 (nI p)) (fun v71 Y71 => if vpb (nI b) 10 then (if Y71.2.2.2.2.2.1 (nI b).toNatClampNeg ≤ v71 then (if vpb (nI b) 10 then (bV (g_X1_leave (Y71.1, Y71.2.1, Y71.2.2.1, Y71.2.2.2.1, upd (Y71.2.2.2.2.1) (nI b).toNatClampNeg (nI p), Y71.2.2.2.2.2.1, Y71.2.2.2.2.2.2.1, Y71.2.2.2.2.2.2.2.1, Y71.2.2.2.2.2.2.2.2.1, Y71.2.2.2.2.2.2.2.2.2.1, Y71.2.2.2.2.2.2.2.2.2.2.1, Y71.2.2.2.2.2.2.2.2.2.2.2.1, Y71.2.2.2.2.2.2.2.2.2.2.2.2.1, Y71.2.2.2.2.2.2.2.2.2.2.2.2.2.1, Y71.2.2.2.2.2.2.2.2.2.2.2.2.2.2) 2) (fun Y99 => some (.inl (some (.int 1)), Y99))) else none) else (bI (g_X1_fail Y71 3) (fun v85 Y85 => if v85 = 0 ∨ v85 = 1 then (some (.inl (some (.int v85)), Y85)) else none))) else none)))))))))) :
    (∃ X' Y', GX = some (.inl (some (.int (nI p))), X') ∧ GY = some (.inl (some (.int 1)), Y') ∧ Coup dn B X' Y' ∧ yT Y' = yT Y ∧ yp Y' = yp Y ∧ xq X' b = nI p ∧ (∀ b', b' ≠ b → xq X' b' = xq X b')) ∨
    (∃ X' Y' r, GX = some (.inl (some (.int (-r))), X') ∧ GY = some (.inl (some (.int 0)), Y') ∧ (r = 1 ∨ r = 2 ∨ r = 3 ∨ r = 4) ∧ yF Y' = r ∧ Coup 0 B X' Y' ∧ kp X X' Y Y') := by
  subst eX; subst eY
  rcases s_hold (j := o) (by omega) ho h with ⟨_, x1, X1, Y1, x2, y1, h1, hF, k1⟩ | ⟨d1, X1, Y1, x1, y1, h1, k1, w1⟩
  · rw [bI_of x1, if_pos rfl, bI_of x2, bI_of y1, if_pos rfl]
    exact Or.inr ⟨X1, Y1, 1, rfl, rfl, Or.inl rfl, hF, h1, k1⟩
  · rw [bI_of x1, if_neg e10, bI_of y1, if_neg e10]
    rcases s_levels hB hg (by omega) h1 with ⟨X2, Y2, w, x2, y2, hw, hwn, h2, k2⟩ | ⟨X2, Y2, r, x2, y2, hr, hF, h2, k2⟩
    · rw [bI_of x2, if_pos (nI_pos' (by omega)), bI_of y2, if_neg e10]
      have k12 := kp_tr k1 k2
      rcases s_hold (j := p) (by omega) hp h2 with ⟨_, x3, X3, Y3, x4, y3, h3, hF, k3⟩ | ⟨d3, X3, Y3, x3, y3, h3, k3, w3⟩
      · rw [bI_of x3, if_pos rfl, bI_of x4, bI_of y3, if_pos rfl]
        exact Or.inr ⟨X3, Y3, 1, rfl, rfl, Or.inl rfl, hF, h3, kp_tr k12 k3⟩
      · have k13 := kp_tr k12 k3
        have hle := cB_le (xq X3) (nI p) 10
        rw [bI_of x3, if_neg e10, bI_of y3, if_neg e10, bI_of (s_boatsIn X3 (nI p)), bI_of (s_lieIn (fun b9 h9 => h3.2.2.2.2.1 b9 h9) (nI p))]
        have hf3 := s_fail 3 (by omega) h3
        by_cases c3 : 3 ≤ cB (xq X3) (nI p) 10
        · have c4 : (3 : Int32) ≤ nI (cB (xq X3) (nI p) 10) := q_le 3 (cB (xq X3) (nI p) 10) c3
          obtain ⟨X', Y', l1, l2, l3, l4, l5⟩ := hf3
          rw [if_pos c4, if_pos c4, bI_of l1, s_failB l2]
          exact Or.inr ⟨X', Y', 3, rfl, rfl, Or.inr (Or.inr (Or.inl rfl)), l4, l3, kp_tr k13 l5⟩
        · have c4 : ¬ (3 : Int32) ≤ nI (cB (xq X3) (nI p) 10) := q_nle 3 (cB (xq X3) (nI p) 10) (by omega)
          have d3' : ¬ xa X3 p = 0 := by rw [k3.2.2.2]; exact d3
          obtain ⟨m, w9, ea, hm, ew, _, hb9⟩ := s_nums (by omega) h3 hp d3'
          obtain ⟨x5, y5⟩ := s_height h3.1 hp ea hm ew hb9
          have hdr : Y3.2.2.2.2.2.1 (nI b).toNatClampNeg = X3.2.2.2.2.1 (nI b).toNatClampNeg := by rw [cl_nI (show b < 2 ^ 31 by omega)]; exact h3.2.2.2.1 b hb
          rw [if_neg c4, if_neg c4, bI_of x5, bI_of y5, hdr]
          simp only [if_pos (vpb_nI hb)]
          by_cases ch : X3.2.2.2.2.1 (nI b).toNatClampNeg ≤ nI (w9 / m)
          · rw [if_pos ch, if_pos ch, cl_nI (show b < 2 ^ 31 by omega)]
            have hC := Coup_q h3 hb hp (by omega)
            obtain ⟨X', Y', l1, l2, l3, l4, l5, _⟩ := s_leave (dn := dn) (m := 2) (x := 2) rfl (by omega) hC
            rw [bV_of l1, bV_of l2]
            refine Or.inl ⟨X', Y', rfl, rfl, l3, l4.1.trans k13.1, l4.2.1.trans k13.2.1, ?_, fun b' hb' => ?_⟩
            · rw [l4.2.2.1]; exact pk_us
            · rw [l4.2.2.1]
              have e : upd (X3.2.2.2.2.2.1) b (nI p) b' = X3.2.2.2.2.2.1 b' := pk_un hb'
              exact e.trans (congrFun k13.2.2.1 b')
          · obtain ⟨X', Y', l1, l2, l3, l4, l5⟩ := hf3
            rw [if_neg ch, if_neg ch, bI_of l1, s_failB l2]
            exact Or.inr ⟨X', Y', 3, rfl, rfl, Or.inr (Or.inr (Or.inl rfl)), l4, l3, kp_tr k13 l5⟩
    · have hn : ¬ (0 : Int32) ≤ -r := by rcases hr with rfl | rfl | rfl <;> decide
      rw [bI_of x2, if_neg hn, bI_of y2, if_pos rfl]
      refine Or.inr ⟨X2, Y2, r, rfl, rfl, ?_, hF, h2, kp_tr k1 k2⟩
      rcases hr with e | e | e
      · exact Or.inl e
      · exact Or.inr (Or.inl e)
      · exact Or.inr (Or.inr (Or.inr e))
theorem s_pass {dn B b o p : Nat} {X : cS} {Y : rS} {up : Int32} (hB : B < 2 ^ 30) (hdn : dn < 9) (hb : b < 10) (ho : o < 8) (hq : xq X b = nI o) (hu : (up = 0 ∧ 0 < o ∧ p = o - 1) ∨ (up = 1 ∧ o < 7 ∧ p = o + 1)) (h : Coup dn B X Y) :
    (∃ X' Y', g_X0_passBoat X (nI b) up = some (.inl (some (.int (nI p))), X') ∧ g_X1_passes Y (nI b) up = some (.inl (some (.int 1)), Y') ∧ Coup dn B X' Y' ∧ yT Y' = yT Y ∧ yp Y' = yp Y ∧ xq X' b = nI p ∧ (∀ b', b' ≠ b → xq X' b' = xq X b')) ∨
    (∃ X' Y' r, g_X0_passBoat X (nI b) up = some (.inl (some (.int (-r))), X') ∧ g_X1_passes Y (nI b) up = some (.inl (some (.int 0)), Y') ∧ (r = 1 ∨ r = 2 ∨ r = 3 ∨ r = 4) ∧ yF Y' = r ∧ Coup 0 B X' Y' ∧ kp X X' Y Y') := by
  have q1 : X.2.2.2.2.2.1 (nI b).toNatClampNeg = nI o := by rw [cl_nI (show b < 2 ^ 31 by omega)]; exact hq
  have q2 : Y.2.2.2.2.1 (nI b).toNatClampNeg = nI o := by rw [cl_nI (show b < 2 ^ 31 by omega)]; exact (h.2.2.2.2.1 b hb).trans hq
  rcases hu with ⟨rfl, h0, rfl⟩ | ⟨rfl, h0, rfl⟩
  · refine s_passW (g := o - 1) hB hdn hb ho (by omega) (by omega) h _ _ ?_ ?_
    · rw [g_X0_passBoat, if_pos (vpb_nI hb), if_pos rfl, q1, nI_s1 _ h0, if_pos (nI_lt (by omega) (by omega))]
    · rw [g_X1_passes, if_pos (vpb_nI hb), if_pos rfl, q2, nI_s1 _ h0]
      simp only [if_true]
  · refine s_passW (g := o) hB hdn hb ho (by omega) (by omega) h _ _ ?_ ?_
    · rw [g_X0_passBoat, if_pos (vpb_nI hb), if_neg e10, q1, nI_1, if_neg (nI_nlt (by omega) (by omega))]
    · rw [g_X1_passes, if_pos (vpb_nI hb), if_neg e10, q2, nI_1]
      simp only [if_neg e10]
