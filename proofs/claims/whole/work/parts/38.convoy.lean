/-! THE CALLS: convoy -/
theorem cv_end (f : Nat) (Y : rS) (a1 a2 c x : Int32) : g_X1_convoy_39 (f + 1) Y a1 a2 c 1 x = some (.inl (some (.int c)), Y) := by
  rw [g_X1_convoy_39]
  by_cases h : (10 : Int32) ≤ x
  · rw [if_pos h]
  · rw [if_neg h, if_neg e10]
/-- one boat of the convoy, on both sides: gone, or not, or the end -/
theorem s_cv {B b o p : Nat} {X : cS} {Y : rS} {up c : Int32} (hB : B < 2 ^ 30) (hb : b < 10) (ho : o < 8) (hq : xq X b = nI o) (hu : (up = 0 ∧ 0 < o ∧ p = o - 1) ∨ (up = 1 ∧ o < 7 ∧ p = o + 1)) (h : Coup 0 B X Y) (f f' : Nat) (a1 x : Int32)
    (ih : ∀ X' Y' (c' : Int32), Coup 0 B X' Y' → ∃ v X'' Y'', g_X0_convoy_13 f X' a1 up c' x = some (.inl (some (.int v)), X'') ∧ g_X1_convoy_39 (f' + 1) Y' a1 up c' 0 x = some (.inl (some (.int v)), Y'') ∧ Coup 0 B X'' Y'' ∧ yT Y'' = yT Y') :
    ∃ v X'' Y'', (bI (g_X0_passInConvoy X (nI b) up) (fun v44 X44 => if v44 = -2 then (some (.inl (some (.int c)), X44)) else (if v44 < 0 then (g_X0_convoy_13 f X44 a1 up (c + 0) x) else (g_X0_convoy_13 f X44 a1 up (c + 1) x)))) = some (.inl (some (.int v)), X'') ∧
      (bI (g_X1_passes Y (nI b) up) (fun v115 Y115 => if v115 = 0 then (if Y115.2.2.2.2.2.2.2.2.2.2.2.2.1 = 4 then (bI (g_X1_passes Y115 (nI b) up) (fun v137 Y137 => if v137 = 0 then (if v137 = 0 then (if Y137.2.2.2.2.2.2.2.2.2.2.2.2.1 = 2 then (g_X1_convoy_39 (f' + 1) Y137 a1 up (c + 0) 1 x) else (g_X1_convoy_39 (f' + 1) Y137 a1 up (c + 0) 0 x)) else (g_X1_convoy_39 (f' + 1) Y137 a1 up (c + 0) 0 x)) else (if v137 = 0 then (if Y137.2.2.2.2.2.2.2.2.2.2.2.2.1 = 2 then (g_X1_convoy_39 (f' + 1) Y137 a1 up (c + 1) 1 x) else (g_X1_convoy_39 (f' + 1) Y137 a1 up (c + 1) 0 x)) else (g_X1_convoy_39 (f' + 1) Y137 a1 up (c + 1) 0 x)))) else (if v115 = 0 then (if v115 = 0 then (if Y115.2.2.2.2.2.2.2.2.2.2.2.2.1 = 2 then (g_X1_convoy_39 (f' + 1) Y115 a1 up (c + 0) 1 x) else (g_X1_convoy_39 (f' + 1) Y115 a1 up (c + 0) 0 x)) else (g_X1_convoy_39 (f' + 1) Y115 a1 up (c + 0) 0 x)) else (if v115 = 0 then (if Y115.2.2.2.2.2.2.2.2.2.2.2.2.1 = 2 then (g_X1_convoy_39 (f' + 1) Y115 a1 up (c + 1) 1 x) else (g_X1_convoy_39 (f' + 1) Y115 a1 up (c + 1) 0 x)) else (g_X1_convoy_39 (f' + 1) Y115 a1 up (c + 1) 0 x)))) else (if v115 = 0 then (if v115 = 0 then (if Y115.2.2.2.2.2.2.2.2.2.2.2.2.1 = 2 then (g_X1_convoy_39 (f' + 1) Y115 a1 up (c + 0) 1 x) else (g_X1_convoy_39 (f' + 1) Y115 a1 up (c + 0) 0 x)) else (g_X1_convoy_39 (f' + 1) Y115 a1 up (c + 0) 0 x)) else (if v115 = 0 then (if Y115.2.2.2.2.2.2.2.2.2.2.2.2.1 = 2 then (g_X1_convoy_39 (f' + 1) Y115 a1 up (c + 1) 1 x) else (g_X1_convoy_39 (f' + 1) Y115 a1 up (c + 1) 0 x)) else (g_X1_convoy_39 (f' + 1) Y115 a1 up (c + 1) 0 x))))) = some (.inl (some (.int v)), Y'') ∧ Coup 0 B X'' Y'' ∧ yT Y'' = yT Y := by
  have hp : p < 8 := by rcases hu with ⟨_, _, _⟩ | ⟨_, _, _⟩ <;> omega
  have hp2 : ¬ nI p = -2 := by
    intro e
    have := congrArg Int32.toInt e
    rw [nI_toInt (by omega)] at this
    have h2 : (-2 : Int32).toInt = -2 := by decide
    omega
  have hp4 : ¬ nI p = -4 := by
    intro e
    have := congrArg Int32.toInt e
    rw [nI_toInt (by omega)] at this
    have h2 : (-4 : Int32).toInt = -4 := by decide
    omega
  rcases s_pass (p := p) hB (by omega) hb ho hq hu h with ⟨X1, Y1, x1, y1, h1, k1, _⟩ | ⟨X1, Y1, r, x1, y1, hr, hF, h1, k1⟩
  · have eX : g_X0_passInConvoy X (nI b) up = some (.inl (some (.int (nI p))), X1) := by
      rw [g_X0_passInConvoy, bI_of x1, if_neg hp4]
    rw [bI_of eX, if_neg hp2, if_neg (nI_pos (by omega)), bI_of y1]
    simp only [if_neg e10]
    obtain ⟨v, X2, Y2, z1, z2, z3, z4⟩ := ih X1 Y1 (c + 1) h1
    exact ⟨v, X2, Y2, z1, z2, z3, z4.trans k1⟩
  · have hF' : Y1.2.2.2.2.2.2.2.2.2.2.2.2.1 = r := hF
    by_cases r4 : r = 4
    · subst r4
      have hq1 : xq X1 b = nI o := by rw [k1.2.2.1]; exact hq
      rcases s_pass (p := p) hB (by omega) hb ho hq1 hu h1 with ⟨X2, Y2, x2, y2, h2, k2, _⟩ | ⟨X2, Y2, r, x2, y2, hr2, hF2, h2, k2⟩
      · have eX : g_X0_passInConvoy X (nI b) up = some (.inl (some (.int (nI p))), X2) := by
          rw [g_X0_passInConvoy, bI_of x1, if_pos rfl, bI_of x2]
        rw [bI_of eX, if_neg hp2, if_neg (nI_pos (by omega)), bI_of y1, if_pos rfl, if_pos hF', bI_of y2]
        simp only [if_neg e10]
        obtain ⟨v, X3, Y3, z1, z2, z3, z4⟩ := ih X2 Y2 (c + 1) h2
        exact ⟨v, X3, Y3, z1, z2, z3, z4.trans (k2.trans k1.1)⟩
      · have hF2' : Y2.2.2.2.2.2.2.2.2.2.2.2.2.1 = r := hF2
        have eX : g_X0_passInConvoy X (nI b) up = some (.inl (some (.int (-r))), X2) := by
          rw [g_X0_passInConvoy, bI_of x1, if_pos rfl, bI_of x2]
        rw [bI_of eX, bI_of y1, if_pos rfl, if_pos hF', bI_of y2, if_pos rfl, if_pos rfl, hF2', Int32.add_zero]
        by_cases r2 : r = 2
        · subst r2
          rw [if_pos rfl, if_pos rfl, cv_end]
          exact ⟨c, X2, Y2, rfl, rfl, h2, k2.1.trans k1.1⟩
        · rw [if_neg r2, if_neg (show ¬ -r = -2 by rcases hr2 with rfl | rfl | rfl | rfl <;> first | exact absurd rfl r2 | decide), if_pos (show -r < 0 by rcases hr2 with rfl | rfl | rfl | rfl <;> decide)]
          obtain ⟨v, X3, Y3, z1, z2, z3, z4⟩ := ih X2 Y2 c h2
          exact ⟨v, X3, Y3, z1, z2, z3, z4.trans (k2.1.trans k1.1)⟩
    · have eX : g_X0_passInConvoy X (nI b) up = some (.inl (some (.int (-r))), X1) := by
        rw [g_X0_passInConvoy, bI_of x1, if_neg (show ¬ -r = -4 by rcases hr with rfl | rfl | rfl | rfl <;> first | exact absurd rfl r4 | decide)]
      rw [bI_of eX, bI_of y1, if_pos rfl, hF', if_neg r4, if_pos rfl, if_pos rfl, Int32.add_zero]
      by_cases r2 : r = 2
      · subst r2
        rw [if_pos rfl, if_pos rfl, cv_end]
        exact ⟨c, X1, Y1, rfl, rfl, h1, k1.1⟩
      · rw [if_neg r2, if_neg (show ¬ -r = -2 by rcases hr with rfl | rfl | rfl | rfl <;> first | exact absurd rfl r2 | decide), if_pos (show -r < 0 by rcases hr with rfl | rfl | rfl | rfl <;> decide)]
        obtain ⟨v, X3, Y3, z1, z2, z3, z4⟩ := ih X1 Y1 c h1
        exact ⟨v, X3, Y3, z1, z2, z3, z4.trans k1.1⟩
theorem l_convoy {B : Nat} (hB : B < 2 ^ 30) (a1 up : Int32) (hup : up = 0 ∨ up = 1) : ∀ (m f f' i : Nat) (c : Int32) (X : cS) (Y : rS), i + m = 10 → m < f → m + 1 < f' → Coup 0 B X Y → ∃ v X'' Y'', g_X0_convoy_13 f X a1 up c (nI i) = some (.inl (some (.int v)), X'') ∧ g_X1_convoy_39 f' Y a1 up c 0 (nI i) = some (.inl (some (.int v)), Y'') ∧ Coup 0 B X'' Y'' ∧ yT Y'' = yT Y := by
  intro m
  induction m with
  | zero =>
    intro f f' i c X Y hi hf hf' h
    obtain ⟨f, rfl⟩ : ∃ g, f = g + 1 := ⟨f - 1, by omega⟩
    obtain ⟨f', rfl⟩ : ∃ g, f' = g + 1 := ⟨f' - 1, by omega⟩
    obtain rfl : i = 10 := by omega
    rw [g_X0_convoy_13, g_X1_convoy_39, if_pos (show (10 : Int32) ≤ nI 10 from q_le 10 10 (by omega)), if_pos (show (10 : Int32) ≤ nI 10 from q_le 10 10 (by omega))]
    exact ⟨c, X, Y, rfl, rfl, h, rfl⟩
  | succ m ih0 =>
    intro f f' i c X Y hi hf hf' h
    obtain ⟨f, rfl⟩ : ∃ g, f = g + 1 := ⟨f - 1, by omega⟩
    obtain ⟨f', rfl⟩ : ∃ g, f' = g + 1 + 1 := ⟨f' - 2, by omega⟩
    have hi10 : i < 10 := by omega
    have ih : ∀ X' Y' (c' : Int32), Coup 0 B X' Y' → ∃ v X'' Y'', g_X0_convoy_13 f X' a1 up c' (nI (i + 1)) = some (.inl (some (.int v)), X'') ∧ g_X1_convoy_39 (f' + 1) Y' a1 up c' 0 (nI (i + 1)) = some (.inl (some (.int v)), Y'') ∧ Coup 0 B X'' Y'' ∧ yT Y'' = yT Y' := fun X' Y' c' h' => ih0 f (f' + 1) (i + 1) c' X' Y' (by omega) (by omega) (by omega) h'
    have hq : Y.2.2.2.2.1 i = X.2.2.2.2.2.1 i := h.2.2.2.2.1 i hi10
    have q1 : X.2.2.2.2.2.1 (nI i).toNatClampNeg = X.2.2.2.2.2.1 i := by rw [cl_nI (show i < 2 ^ 31 by omega)]
    have q2 : Y.2.2.2.2.1 (nI i).toNatClampNeg = X.2.2.2.2.2.1 i := by rw [cl_nI (show i < 2 ^ 31 by omega)]; exact hq
    rw [g_X0_convoy_13, g_X1_convoy_39, if_neg (show ¬ (10 : Int32) ≤ nI i from q_nle 10 i hi10), if_neg (show ¬ (10 : Int32) ≤ nI i from q_nle 10 i hi10), if_pos rfl, nI_1]
    simp only [if_pos (vpb_nI hi10)]
    rw [q2]
    by_cases cb : (a1 >>> (nI i &&& 31)) &&& 1 = 1
    · simp only [if_pos cb]
      rcases h.2.2.2.2.2.1.1 i hi10 with e | ⟨o, ho, e⟩
      · have c1 : X.2.2.2.2.2.1 i = -1 := e
        have eS : g_X0_canSetOut X (nI i) up = some (.inl (some (.int 0)), X) := by
          rw [g_X0_canSetOut, if_pos (vpb_nI hi10), q1, c1, if_pos rfl]
        rw [bI_of eS, if_pos rfl, c1, if_pos rfl, cI_of (show g_X1_isPool (-1) = some (.inl (some (.int 0))) by decide), if_pos rfl]
        exact ih X Y c h
      · have c1 : X.2.2.2.2.2.1 i = nI o := e
        have cn : ¬ nI o = -1 := nI_neg1 o (by omega)
        rw [c1, if_neg cn]
        rcases s_way ho hup with ⟨p, hw, x2, y2⟩ | ⟨x2, y2⟩
        · have eS : g_X0_canSetOut X (nI i) up = some (.inl (some (.int 1)), X) := by
            rw [g_X0_canSetOut, if_pos (vpb_nI hi10), q1, c1, if_neg cn, if_pos (vpb_nI hi10), cI_of x2, if_neg e10]
          rw [bI_of eS, if_neg e10]
          have key := s_cv (c := c) hB hi10 ho e hw h f f' a1 (nI (i + 1)) ih
          rcases hup with rfl | rfl
          · rw [if_pos rfl] at y2
            rw [if_pos rfl, cI_of y2, if_neg e10]
            exact key
          · rw [if_neg e10] at y2
            rw [if_neg e10, cI_of y2, if_neg e10]
            exact key
        · have eS : g_X0_canSetOut X (nI i) up = some (.inl (some (.int 0)), X) := by
            rw [g_X0_canSetOut, if_pos (vpb_nI hi10), q1, c1, if_neg cn, if_pos (vpb_nI hi10), cI_of x2, if_pos rfl]
          rw [bI_of eS, if_pos rfl]
          rcases hup with rfl | rfl
          · rw [if_pos rfl] at y2
            rw [if_pos rfl, cI_of y2, if_pos rfl]
            exact ih X Y c h
          · rw [if_neg e10] at y2
            rw [if_neg e10, cI_of y2, if_pos rfl]
            exact ih X Y c h
    · simp only [if_neg cb, ite_self]
      exact ih X Y c h
theorem P_convoy {n : Nat} {X : cS} {Y : rS} (hn : n ≤ 600) (h : Cp n X Y) (a1 a2 : Int32) (ha2 : a2 = 0 ∨ a2 = 1) : opR [(xI, 1)] (g_X0_convoy X a1 a2) (g_X1_convoy Y a1 a2) (Cp (n + 1)) := by
  have hK := mK_gt
  rw [g_X0_convoy, g_X1_convoy]
  rcases ck_in a1 0 1023 with ⟨r1, r2, x1, y1⟩ | ⟨x1, y1⟩
  · rw [cV_of x1, cI_of y1, if_neg e10, if_pos l00]
    obtain ⟨v, X', Y', z1, z2, z3, z4⟩ := l_convoy (B := 9999 * n) (by omega) a1 a2 ha2 10 mK mK 0 0 X (Y.1, Y.2.1, Y.2.2.1, Y.2.2.2.1, Y.2.2.2.2.1, Y.2.2.2.2.2.1, Y.2.2.2.2.2.2.1, Y.2.2.2.2.2.2.2.1, 0, Y.2.2.2.2.2.2.2.2.2.1, Y.2.2.2.2.2.2.2.2.2.2.1, Y.2.2.2.2.2.2.2.2.2.2.2.1, Y.2.2.2.2.2.2.2.2.2.2.2.2.1, Y.2.2.2.2.2.2.2.2.2.2.2.2.2.1, Y.2.2.2.2.2.2.2.2.2.2.2.2.2.2) (by omega) (by omega) (by omega) h
    exact opR_ok z1 z2 z4 (Cp_of z3 (by omega))
  · obtain ⟨f, hf⟩ : ∃ f, mK = f + 1 := ⟨mK - 1, by omega⟩
    rw [cV_ex x1, cI_of y1, if_pos rfl, if_neg n10]
    have e : g_X1_convoy_39 mK (Y.1, Y.2.1, Y.2.2.1, Y.2.2.2.1, Y.2.2.2.2.1, Y.2.2.2.2.2.1, Y.2.2.2.2.2.2.1, Y.2.2.2.2.2.2.2.1, 1, Y.2.2.2.2.2.2.2.2.2.1, Y.2.2.2.2.2.2.2.2.2.2.1, Y.2.2.2.2.2.2.2.2.2.2.2.1, Y.2.2.2.2.2.2.2.2.2.2.2.2.1, Y.2.2.2.2.2.2.2.2.2.2.2.2.2.1, Y.2.2.2.2.2.2.2.2.2.2.2.2.2.2) a1 a2 0 1 0 = some (.inl (some (.int 0)), (Y.1, Y.2.1, Y.2.2.1, Y.2.2.2.1, Y.2.2.2.2.1, Y.2.2.2.2.2.1, Y.2.2.2.2.2.2.1, Y.2.2.2.2.2.2.2.1, 1, Y.2.2.2.2.2.2.2.2.2.1, Y.2.2.2.2.2.2.2.2.2.2.1, Y.2.2.2.2.2.2.2.2.2.2.2.1, Y.2.2.2.2.2.2.2.2.2.2.2.2.1, Y.2.2.2.2.2.2.2.2.2.2.2.2.2.1, Y.2.2.2.2.2.2.2.2.2.2.2.2.2.2)) := by rw [hf]; exact cv_end f _ _ _ _ _
    rw [e]
    refine opR_ex rfl rfl (c := 1) rfl (by decide) (by simp) ?_; exact Cp_s h
