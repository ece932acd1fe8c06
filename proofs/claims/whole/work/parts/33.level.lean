/-! LEVELLING on both sides -/
/-- the waters changed on both sides -/
theorem Coup_W {dn B B' : Nat} {X : cS} {Y : rS} {WX WY : Nat → Int32} (v : Int32) (h : Coup dn B X Y) (hW : wat WX B') (h0 : ∀ j, j < 8 → xa X j = 0 → WX j = 0) (h1 : ∀ j, j < 8 → ¬ xa X j = 0 → WY j = WX j) : Coup dn B' (X.1, WX, X.2.2.1, X.2.2.2.1, X.2.2.2.2.1, X.2.2.2.2.2.1, X.2.2.2.2.2.2.1, X.2.2.2.2.2.2.2.1, X.2.2.2.2.2.2.2.2.1, X.2.2.2.2.2.2.2.2.2) (Y.1, Y.2.1, WY, Y.2.2.2.1, Y.2.2.2.2.1, Y.2.2.2.2.2.1, Y.2.2.2.2.2.2.1, Y.2.2.2.2.2.2.2.1, Y.2.2.2.2.2.2.2.2.1, Y.2.2.2.2.2.2.2.2.2.1, Y.2.2.2.2.2.2.2.2.2.2.1, Y.2.2.2.2.2.2.2.2.2.2.2.1, Y.2.2.2.2.2.2.2.2.2.2.2.2.1, v, Y.2.2.2.2.2.2.2.2.2.2.2.2.2.2) := by
  obtain ⟨hp, hw, hr⟩ := h
  refine ⟨?_, hW, hr⟩
  intro j hj
  rcases hp j hj with ⟨a1, a2, a3, a4⟩ | ⟨a1, a2, a3, a4, a5⟩
  · exact Or.inl ⟨a1, h0 j hj a1, a3, a4⟩
  · obtain ⟨m, m1, m2, e⟩ := a1
    exact Or.inr ⟨⟨m, m1, m2, e⟩, a2, a3, h1 j hj (by rw [e]; exact nI_ne0 m1 (by omega)), a5⟩
/-- water from one pool to another -/
theorem Coup_move {dn B : Nat} {X : cS} {Y : rS} {WX WY : Nat → Int32} {gw : Nat → Nat} {a b x y : Nat} (v : Int32) (h : Coup dn B X Y) (hgw : ∀ j, j < 8 → xW X j = nI (gw j)) (hs : nsum gw 8 ≤ B) (ha : a < 8) (hb : b < 8) (hab : a ≠ b) (hda : ¬ xa X a = 0) (hdb : ¬ xa X b = 0) (he : x + y = gw a + gw b)
    (hX : ∀ j, j < 8 → WX j = if j = b then nI y else if j = a then nI x else xW X j) (hY : ∀ j, j < 8 → WY j = if j = b then nI y else if j = a then nI x else yW Y j) : Coup dn B (X.1, WX, X.2.2.1, X.2.2.2.1, X.2.2.2.2.1, X.2.2.2.2.2.1, X.2.2.2.2.2.2.1, X.2.2.2.2.2.2.2.1, X.2.2.2.2.2.2.2.2.1, X.2.2.2.2.2.2.2.2.2) (Y.1, Y.2.1, WY, Y.2.2.2.1, Y.2.2.2.2.1, Y.2.2.2.2.2.1, Y.2.2.2.2.2.2.1, Y.2.2.2.2.2.2.2.1, Y.2.2.2.2.2.2.2.2.1, Y.2.2.2.2.2.2.2.2.2.1, Y.2.2.2.2.2.2.2.2.2.2.1, Y.2.2.2.2.2.2.2.2.2.2.2.1, Y.2.2.2.2.2.2.2.2.2.2.2.2.1, v, Y.2.2.2.2.2.2.2.2.2.2.2.2.2.2) := by
  refine Coup_W v h ⟨updN (updN gw a x) b y, ?_, ?_⟩ ?_ ?_
  · intro j hj
    rw [hX j hj]
    unfold updN
    split
    · rfl
    · split
      · rfl
      · exact hgw j hj
  · have h1 := nsum_upd (updN gw a x) b y 8
    have h2 := nsum_upd gw a x 8
    have h3 : updN gw a x b = gw b := if_neg (fun c => hab c.symm)
    rw [if_pos hb, if_pos hb, h3] at h1
    rw [if_pos ha, if_pos ha] at h2
    omega
  · intro j hj h0
    rw [hX j hj, if_neg (show ¬ j = b from fun c => hdb (c ▸ h0)), if_neg (show ¬ j = a from fun c => hda (c ▸ h0))]
    rcases h.1 j hj with ⟨_, a2, _⟩ | ⟨⟨m, m1, m2, e⟩, _⟩
    · exact a2
    · exact absurd (e.symm.trans h0) (nI_ne0 m1 (by omega))
  · intro j hj h0
    rw [hX j hj, hY j hj]
    rcases h.1 j hj with ⟨a1, _⟩ | ⟨_, _, _, a4, _⟩
    · exact absurd a1 h0
    · rw [a4]
theorem nI_m1' (w : Nat) (h : 1 ≤ w) : nI w + (-1) = nI (w - 1) := by
  obtain ⟨w, rfl⟩ : ∃ v, w = v + 1 := ⟨w - 1, by omega⟩
  exact pk_m1 w
theorem nI_s1 (w : Nat) (h : 1 ≤ w) : nI w - 1 = nI (w - 1) := by
  obtain ⟨w, rfl⟩ : ∃ v, w = v + 1 := ⟨w - 1, by omega⟩
  exact nI_pred w
theorem nI_sm (w : Nat) : nI w - (-1) = nI (w + 1) := by
  rw [← nI_1]
  apply Int32.toInt_inj.mp
  rw [Int32.toInt_sub, Int32.toInt_add]
  rfl
theorem l_level {dn B g : Nat} (hB : B < 2 ^ 30) (hg : g < 7) (hdn : dn < 10) : ∀ (m f f' i : Nat) (X : cS) (Y : rS), i + m = 200 → m < f → m < f' → Coup (dn + 2) B X Y → ¬ xa X g = 0 → ¬ xa X (g + 1) = 0 → ywn Y = nI i →
    (∃ X' Y' w, g_X0_levelGate_44 f X (nI g) (nI i) = some (.inl (some (.int (nI w))), X') ∧ g_X1_levels_50 f' Y (nI g) = some (.inl (some (.int 1)), Y') ∧ w ≤ 200 ∧ ywn Y' = nI w ∧ Coup dn B X' Y' ∧ kp X X' Y Y') ∨
    (∃ X' Y', g_X0_levelGate_44 f X (nI g) (nI i) = some (.inl (some (.int (-4))), X') ∧ g_X1_levels_50 f' Y (nI g) = some (.inl (some (.int 0)), Y') ∧ yF Y' = 4 ∧ Coup 0 B X' Y' ∧ kp X X' Y Y') := by
  intro m
  induction m with
  | zero =>
    intro f f' i X Y hi hf hf' h d1 d2 hwn
    obtain ⟨f, rfl⟩ : ∃ g, f = g + 1 := ⟨f - 1, by omega⟩
    obtain ⟨f', rfl⟩ : ∃ g, f' = g + 1 := ⟨f' - 1, by omega⟩
    obtain rfl : i = 200 := by omega
    obtain ⟨m1, w1, ea1, hm1, ew1, _, hb1⟩ := s_nums (by omega) h (show g < 8 by omega) d1
    obtain ⟨m2, w2, ea2, hm2, ew2, _, hb2⟩ := s_nums (by omega) h (show g + 1 < 8 by omega) d2
    obtain ⟨x1, y1⟩ := s_height h.1 (show g < 8 by omega) ea1 hm1 ew1 hb1
    obtain ⟨x2, y2⟩ := s_height h.1 (show g + 1 < 8 by omega) ea2 hm2 ew2 hb2
    have hwn1 : Y.2.2.2.2.2.2.2.2.2.2.2.2.2.1 = nI 200 := hwn
    rw [g_X0_levelGate_44, g_X1_levels_50, hwn1, nI_1, if_pos (show (200 : Int32) ≤ nI 200 from q_le 200 200 (by omega)), if_pos (show (200 : Int32) ≤ nI 200 from q_le 200 200 (by omega)), bI_of x1, bI_of x2, bI_of y1, bI_of y2]
    by_cases c : nI (w1 / m1) = nI (w2 / m2)
    · rw [if_pos c, if_pos c]
      obtain ⟨X', Y', l1, l2, l3, l4, l5, _⟩ := s_leave (dn := dn) (m := 2) (x := 2) rfl (by omega) h
      rw [bV_of l1, bV_of l2]
      exact Or.inl ⟨X', Y', 200, rfl, rfl, by omega, l5.trans hwn, l3, l4⟩
    · rw [if_neg c, if_neg c]
      obtain ⟨X', Y', l1, l2, l3, l4, l5⟩ := s_fail 4 (by omega) h
      rw [bI_of l1, s_failB l2]
      exact Or.inr ⟨X', Y', rfl, rfl, l4, l3, l5⟩
  | succ m ih =>
    intro f f' i X Y hi hf hf' h d1 d2 hwn
    obtain ⟨f, rfl⟩ : ∃ g, f = g + 1 := ⟨f - 1, by omega⟩
    obtain ⟨f', rfl⟩ : ∃ g, f' = g + 1 := ⟨f' - 1, by omega⟩
    obtain ⟨gw, hgw, hsum⟩ := h.2.1
    have g8 : g < 8 := by omega
    have g9 : g + 1 < 8 := by omega
    have hb1 : gw g < 2 ^ 30 := by have := nsum_le (f := gw) 8 g g8; omega
    have hb2 : gw (g + 1) < 2 ^ 30 := by have := nsum_le (f := gw) 8 (g + 1) g9; omega
    obtain ⟨m1, _, ea1, hm1, _⟩ := s_nums (by omega) h g8 d1
    obtain ⟨m2, _, ea2, hm2, _⟩ := s_nums (by omega) h g9 d2
    have ew1 := hgw g g8
    have ew2 := hgw (g + 1) g9
    have ew1' : X.2.1 g = nI (gw g) := ew1
    have ew2' : X.2.1 (g + 1) = nI (gw (g + 1)) := ew2
    have ev1 : Y.2.2.1 g = nI (gw g) := by
      rcases h.1 g g8 with ⟨a1, _⟩ | ⟨_, _, _, a4, _⟩
      · exact absurd a1 d1
      · exact a4.trans ew1
    have ev2 : Y.2.2.1 (g + 1) = nI (gw (g + 1)) := by
      rcases h.1 (g + 1) g9 with ⟨a1, _⟩ | ⟨_, _, _, a4, _⟩
      · exact absurd a1 d2
      · exact a4.trans ew2
    obtain ⟨x1, y1⟩ := s_height h.1 g8 ea1 hm1 ew1 (by omega)
    obtain ⟨x2, y2⟩ := s_height h.1 g9 ea2 hm2 ew2 (by omega)
    have hwn1 : Y.2.2.2.2.2.2.2.2.2.2.2.2.2.1 = nI i := hwn
    rw [g_X0_levelGate_44, g_X1_levels_50, hwn1, nI_1, if_neg (show ¬ (200 : Int32) ≤ nI i from q_nle 200 i (by omega)), if_neg (show ¬ (200 : Int32) ≤ nI i from q_nle 200 i (by omega)), bI_of x1, bI_of x2, bI_of y1, bI_of y2]
    by_cases c : nI (gw g / m1) = nI (gw (g + 1) / m2)
    · rw [if_pos c, if_pos c, bI_of x1, bI_of x2, bI_of y1, bI_of y2, if_pos c, if_pos c]
      obtain ⟨X', Y', l1, l2, l3, l4, l5, _⟩ := s_leave (dn := dn) (m := 2) (x := 2) rfl (by omega) h
      rw [bV_of l1, bV_of l2]
      exact Or.inl ⟨X', Y', i, rfl, rfl, by omega, l5.trans hwn, l3, l4⟩
    · have hq1 : gw g / m1 < 2 ^ 31 := Nat.lt_of_le_of_lt (Nat.div_le_self _ _) (by omega)
      have hq2 : gw (g + 1) / m2 < 2 ^ 31 := Nat.lt_of_le_of_lt (Nat.div_le_self _ _) (by omega)
      have cn : gw g / m1 ≠ gw (g + 1) / m2 := fun e => c (congrArg nI e)
      have z1 : (2 : Int32) * nI g + 1 - nI (g + 1) = nI g := by
        rw [show (2 : Int32) = nI 2 from rfl, pk_mul, nI_1, pk_sub (by omega)]
        exact congrArg nI (by omega)
      have z2 : (2 : Int32) * nI g + 1 - nI g = nI (g + 1) := by
        rw [show (2 : Int32) = nI 2 from rfl, pk_mul, nI_1, pk_sub (by omega)]
        exact congrArg nI (by omega)
      rw [if_neg c, if_neg c, bI_of y1, bI_of y2]
      by_cases cl : gw g / m1 ≤ gw (g + 1) / m2
      · have hle : nI (gw g / m1) ≤ nI (gw (g + 1) / m2) := nI_le cl hq2
        have hpos : 1 ≤ gw (g + 1) := by
          refine Nat.pos_of_ne_zero fun e => ?_
          rw [e, Nat.zero_div] at cl cn
          exact cn (Nat.le_zero.mp cl)
        have hX : g_X0_moveUnit X (nI g) (nI (g + 1)) = some (.inl none, (X.1, upd (upd (X.2.1) g (nI (gw g + 1))) (g + 1) (nI (gw (g + 1) - 1)), X.2.2.1, X.2.2.2.1, X.2.2.2.2.1, X.2.2.2.2.2.1, X.2.2.2.2.2.2.1, X.2.2.2.2.2.2.2.1, X.2.2.2.2.2.2.2.2.1, X.2.2.2.2.2.2.2.2.2)) := by
          rw [g_X0_moveUnit, bI_of x1, bI_of x2, if_pos hle, if_pos (vpb_nI g8), if_pos (vpb_nI g8), if_pos (vpb_nI g9), if_pos (vpb_nI g9), cl_nI (show g < 2 ^ 31 by omega), cl_nI (show g + 1 < 2 ^ 31 by omega), ew1', nI_sm, pk_un (show g + 1 ≠ g by omega), ew2', nI_m1' _ hpos]
        rw [bV_of hX, if_pos hle, if_pos (vpb_nI g9), if_pos (vpb_nI g9), z1, if_pos (vpb_nI g8), if_pos (vpb_nI g8), cl_nI (show g < 2 ^ 31 by omega), cl_nI (show g + 1 < 2 ^ 31 by omega), ev2, nI_s1 _ hpos, pk_un (show g ≠ g + 1 by omega), ev1, hwn1, nI_1, nI_1]
        have hC := Coup_move (nI (i + 1)) (x := gw g + 1) (y := gw (g + 1) - 1) (WX := upd (upd (X.2.1) g (nI (gw g + 1))) (g + 1) (nI (gw (g + 1) - 1))) (WY := upd (upd (Y.2.2.1) (g + 1) (nI (gw (g + 1) - 1))) g (nI (gw g + 1))) h hgw hsum g8 g9 (by omega) d1 d2 (by omega) (fun j _ => rfl) (fun j _ => by
          unfold upd
          by_cases e1 : j = g
          · rw [if_pos e1, if_neg (by omega), if_pos e1]
          · rw [if_neg e1, if_neg e1])
        exact ih f f' (i + 1) _ _ (by omega) (by omega) (by omega) hC d1 d2 rfl
      · have hle : ¬ nI (gw g / m1) ≤ nI (gw (g + 1) / m2) := nI_ge (by omega) hq1
        have hpos : 1 ≤ gw g := by
          refine Nat.pos_of_ne_zero fun e => ?_
          rw [e, Nat.zero_div] at cl
          exact cl (Nat.zero_le _)
        have hX : g_X0_moveUnit X (nI g) (nI (g + 1)) = some (.inl none, (X.1, upd (upd (X.2.1) g (nI (gw g - 1))) (g + 1) (nI (gw (g + 1) + 1)), X.2.2.1, X.2.2.2.1, X.2.2.2.2.1, X.2.2.2.2.2.1, X.2.2.2.2.2.2.1, X.2.2.2.2.2.2.2.1, X.2.2.2.2.2.2.2.2.1, X.2.2.2.2.2.2.2.2.2)) := by
          rw [g_X0_moveUnit, bI_of x1, bI_of x2, if_neg hle, if_pos (vpb_nI g8), if_pos (vpb_nI g8), if_pos (vpb_nI g9), if_pos (vpb_nI g9), cl_nI (show g < 2 ^ 31 by omega), cl_nI (show g + 1 < 2 ^ 31 by omega), ew1', nI_s1 _ hpos, pk_un (show g + 1 ≠ g by omega), ew2', nI_1]
        rw [bV_of hX, if_neg hle, if_pos (vpb_nI g8), if_pos (vpb_nI g8), z2, if_pos (vpb_nI g9), if_pos (vpb_nI g9), cl_nI (show g < 2 ^ 31 by omega), cl_nI (show g + 1 < 2 ^ 31 by omega), ev1, nI_s1 _ hpos, pk_un (show g + 1 ≠ g by omega), ev2, hwn1, nI_1, nI_1]
        have hC := Coup_move (nI (i + 1)) (x := gw g - 1) (y := gw (g + 1) + 1) (WX := upd (upd (X.2.1) g (nI (gw g - 1))) (g + 1) (nI (gw (g + 1) + 1))) (WY := upd (upd (Y.2.2.1) g (nI (gw g - 1))) (g + 1) (nI (gw (g + 1) + 1))) h hgw hsum g8 g9 (by omega) d1 d2 (by omega) (fun j _ => rfl) (fun j _ => rfl)
        exact ih f f' (i + 1) _ _ (by omega) (by omega) (by omega) hC d1 d2 rfl
