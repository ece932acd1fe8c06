/-! THE CALLS: clear; the beginning -/
theorem l_beg51 (Y : rS) : ∀ (m f i : Nat), i + m = 7 → m < f → g_X1_begin_51 f (Y.1, Y.2.1, Y.2.2.1, Y.2.2.2.1, Y.2.2.2.2.1, Y.2.2.2.2.2.1, afill (Y.2.2.2.2.2.2.1) i 5, Y.2.2.2.2.2.2.2.1, Y.2.2.2.2.2.2.2.2.1, Y.2.2.2.2.2.2.2.2.2.1, Y.2.2.2.2.2.2.2.2.2.2.1, Y.2.2.2.2.2.2.2.2.2.2.2.1, Y.2.2.2.2.2.2.2.2.2.2.2.2.1, Y.2.2.2.2.2.2.2.2.2.2.2.2.2.1, Y.2.2.2.2.2.2.2.2.2.2.2.2.2.2) (nI i) = some (.inl none, (Y.1, Y.2.1, Y.2.2.1, Y.2.2.2.1, Y.2.2.2.2.1, Y.2.2.2.2.2.1, afill (Y.2.2.2.2.2.2.1) 7 5, Y.2.2.2.2.2.2.2.1, Y.2.2.2.2.2.2.2.2.1, 0, 0, 0, 0, Y.2.2.2.2.2.2.2.2.2.2.2.2.2.1, Y.2.2.2.2.2.2.2.2.2.2.2.2.2.2)) := by
  intro m
  induction m with
  | zero =>
    intro f i hi hf
    obtain ⟨f, rfl⟩ : ∃ g, f = g + 1 := ⟨f - 1, by omega⟩
    obtain rfl : i = 7 := by omega
    rw [g_X1_begin_51, if_pos (show (7 : Int32) ≤ nI 7 from q_le 7 7 (by omega))]
  | succ m ih =>
    intro f i hi hf
    obtain ⟨f, rfl⟩ : ∃ g, f = g + 1 := ⟨f - 1, by omega⟩
    rw [g_X1_begin_51, if_neg (show ¬ (7 : Int32) ≤ nI i from q_nle 7 i (by omega)), if_pos (vpb_nI (show i < 7 by omega))]
    dsimp only
    rw [cl_nI (show i < 2 ^ 31 by omega), afill_s, nI_1]
    exact ih f (i + 1) (by omega) (by omega)
theorem l_beg23 (Y : rS) : ∀ (m f i : Nat), i + m = 10 → m < f → g_X1_begin_23 f (Y.1, Y.2.1, Y.2.2.1, Y.2.2.2.1, afill (Y.2.2.2.2.1) i (-1), afill (Y.2.2.2.2.2.1) i 1, Y.2.2.2.2.2.2.1, Y.2.2.2.2.2.2.2.1, Y.2.2.2.2.2.2.2.2.1, Y.2.2.2.2.2.2.2.2.2.1, Y.2.2.2.2.2.2.2.2.2.2.1, Y.2.2.2.2.2.2.2.2.2.2.2.1, Y.2.2.2.2.2.2.2.2.2.2.2.2.1, Y.2.2.2.2.2.2.2.2.2.2.2.2.2.1, Y.2.2.2.2.2.2.2.2.2.2.2.2.2.2) (nI i) = some (.inl none, (Y.1, Y.2.1, Y.2.2.1, Y.2.2.2.1, afill (Y.2.2.2.2.1) 10 (-1), afill (Y.2.2.2.2.2.1) 10 1, afill (Y.2.2.2.2.2.2.1) 7 5, Y.2.2.2.2.2.2.2.1, Y.2.2.2.2.2.2.2.2.1, 0, 0, 0, 0, Y.2.2.2.2.2.2.2.2.2.2.2.2.2.1, Y.2.2.2.2.2.2.2.2.2.2.2.2.2.2)) := by
  have hK := mK_gt
  intro m
  induction m with
  | zero =>
    intro f i hi hf
    obtain ⟨f, rfl⟩ : ∃ g, f = g + 1 := ⟨f - 1, by omega⟩
    obtain rfl : i = 10 := by omega
    rw [g_X1_begin_23, if_pos (show (10 : Int32) ≤ nI 10 from q_le 10 10 (by omega))]
    have e := l_beg51 (Y.1, Y.2.1, Y.2.2.1, Y.2.2.2.1, afill (Y.2.2.2.2.1) 10 (-1), afill (Y.2.2.2.2.2.1) 10 1, Y.2.2.2.2.2.2.1, Y.2.2.2.2.2.2.2.1, Y.2.2.2.2.2.2.2.2.1, Y.2.2.2.2.2.2.2.2.2.1, Y.2.2.2.2.2.2.2.2.2.2.1, Y.2.2.2.2.2.2.2.2.2.2.2.1, Y.2.2.2.2.2.2.2.2.2.2.2.2.1, Y.2.2.2.2.2.2.2.2.2.2.2.2.2.1, Y.2.2.2.2.2.2.2.2.2.2.2.2.2.2) 7 mK 0 (by omega) (by omega)
    dsimp only at e
    rw [afill_0] at e
    exact e
  | succ m ih =>
    intro f i hi hf
    obtain ⟨f, rfl⟩ : ∃ g, f = g + 1 := ⟨f - 1, by omega⟩
    rw [g_X1_begin_23, if_neg (show ¬ (10 : Int32) ≤ nI i from q_nle 10 i (by omega)), if_pos (vpb_nI (show i < 10 by omega)), if_pos (vpb_nI (show i < 10 by omega))]
    dsimp only
    rw [cl_nI (show i < 2 ^ 31 by omega), afill_s, afill_s, nI_1]
    exact ih f (i + 1) (by omega) (by omega)
theorem l_beg2 (Y : rS) : ∀ (m f i : Nat), i + m = 8 → m < f → g_X1_begin_2 f (afill (Y.1) i 0, Y.2.1, Y.2.2.1, Y.2.2.2.1, Y.2.2.2.2.1, Y.2.2.2.2.2.1, Y.2.2.2.2.2.2.1, Y.2.2.2.2.2.2.2.1, Y.2.2.2.2.2.2.2.2.1, Y.2.2.2.2.2.2.2.2.2.1, Y.2.2.2.2.2.2.2.2.2.2.1, Y.2.2.2.2.2.2.2.2.2.2.2.1, Y.2.2.2.2.2.2.2.2.2.2.2.2.1, Y.2.2.2.2.2.2.2.2.2.2.2.2.2.1, Y.2.2.2.2.2.2.2.2.2.2.2.2.2.2) (nI i) = some (.inl none, (afill (Y.1) 8 0, Y.2.1, Y.2.2.1, Y.2.2.2.1, afill (Y.2.2.2.2.1) 10 (-1), afill (Y.2.2.2.2.2.1) 10 1, afill (Y.2.2.2.2.2.2.1) 7 5, Y.2.2.2.2.2.2.2.1, Y.2.2.2.2.2.2.2.2.1, 0, 0, 0, 0, Y.2.2.2.2.2.2.2.2.2.2.2.2.2.1, Y.2.2.2.2.2.2.2.2.2.2.2.2.2.2)) := by
  have hK := mK_gt
  intro m
  induction m with
  | zero =>
    intro f i hi hf
    obtain ⟨f, rfl⟩ : ∃ g, f = g + 1 := ⟨f - 1, by omega⟩
    obtain rfl : i = 8 := by omega
    rw [g_X1_begin_2, if_pos (show (8 : Int32) ≤ nI 8 from q_le 8 8 (by omega))]
    have e := l_beg23 (afill (Y.1) 8 0, Y.2.1, Y.2.2.1, Y.2.2.2.1, Y.2.2.2.2.1, Y.2.2.2.2.2.1, Y.2.2.2.2.2.2.1, Y.2.2.2.2.2.2.2.1, Y.2.2.2.2.2.2.2.2.1, Y.2.2.2.2.2.2.2.2.2.1, Y.2.2.2.2.2.2.2.2.2.2.1, Y.2.2.2.2.2.2.2.2.2.2.2.1, Y.2.2.2.2.2.2.2.2.2.2.2.2.1, Y.2.2.2.2.2.2.2.2.2.2.2.2.2.1, Y.2.2.2.2.2.2.2.2.2.2.2.2.2.2) 10 mK 0 (by omega) (by omega)
    dsimp only at e
    rw [afill_0, afill_0] at e
    exact e
  | succ m ih =>
    intro f i hi hf
    obtain ⟨f, rfl⟩ : ∃ g, f = g + 1 := ⟨f - 1, by omega⟩
    rw [g_X1_begin_2, if_neg (show ¬ (8 : Int32) ≤ nI i from q_nle 8 i (by omega)), if_pos (vpb_nI (show i < 8 by omega))]
    dsimp only
    rw [cl_nI (show i < 2 ^ 31 by omega), nb0, afill_s, nI_1]
    exact ih f (i + 1) (by omega) (by omega)
theorem s_begin (Y : rS) : g_X1_begin Y = some (.inl none, (afill (Y.1) 8 0, Y.2.1, Y.2.2.1, Y.2.2.2.1, afill (Y.2.2.2.2.1) 10 (-1), afill (Y.2.2.2.2.2.1) 10 1, afill (Y.2.2.2.2.2.2.1) 7 5, Y.2.2.2.2.2.2.2.1, Y.2.2.2.2.2.2.2.2.1, 0, 0, 0, 0, Y.2.2.2.2.2.2.2.2.2.2.2.2.2.1, Y.2.2.2.2.2.2.2.2.2.2.2.2.2.2)) := by
  have hK := mK_gt
  have e := l_beg2 Y 8 mK 0 (by omega) (by omega)
  rw [afill_0] at e
  exact e
theorem af_in {f : Nat → Int32} {N j : Nat} {v : Int32} (h : j < N) : afill f N v j = v := if_pos h
theorem nsum_0 : ∀ k, nsum (fun _ => 0) k = 0 := by
  intro k
  induction k with
  | zero => rfl
  | succ k ih => rw [nsum, ih]
theorem cB_af (q : Nat → Int32) (p : Int32) (hp : ¬ (-1 : Int32) = p) (N : Nat) : ∀ k, k ≤ N → cB (afill q N (-1)) p k = 0 := by
  intro k
  induction k with
  | zero => intro _; rfl
  | succ k ih => intro hk; rw [cB, ih (by omega), af_in (by omega), if_neg hp]
theorem Coup_reset {B : Nat} (X : cS) (Y : rS) (he : xe X = 0) : Coup 0 B (afill (X.1) 8 0, afill (X.2.1) 8 0, afill (X.2.2.1) 8 0, afill (X.2.2.2.1) 7 5, afill (X.2.2.2.2.1) 10 1, afill (X.2.2.2.2.2.1) 10 (-1), X.2.2.2.2.2.2.1, X.2.2.2.2.2.2.2.1, 0, 0) (afill (Y.1) 8 0, Y.2.1, Y.2.2.1, Y.2.2.2.1, afill (Y.2.2.2.2.1) 10 (-1), afill (Y.2.2.2.2.2.1) 10 1, afill (Y.2.2.2.2.2.2.1) 7 5, Y.2.2.2.2.2.2.2.1, Y.2.2.2.2.2.2.2.2.1, 0, 0, 0, 0, Y.2.2.2.2.2.2.2.2.2.2.2.2.2.1, Y.2.2.2.2.2.2.2.2.2.2.2.2.2.2) := by
  refine ⟨fun j hj => Or.inl ⟨af_in hj, af_in hj, af_in hj, af_in hj⟩, ⟨fun _ => 0, fun j hj => af_in hj, ?_⟩, fun g hg => ?_, fun b hb => ?_, fun b hb => ?_, ⟨fun b hb => Or.inl (af_in hb), fun j hj => ?_⟩, rfl, rfl, he, rfl, fun i hi => absurd hi (Nat.not_lt_zero _)⟩
  · rw [nsum_0]; exact Nat.zero_le _
  · show afill _ 7 5 g = afill _ 7 5 g
    rw [af_in hg, af_in hg]
  · show afill _ 10 1 b = afill _ 10 1 b
    rw [af_in hb, af_in hb]
  · show afill _ 10 (-1) b = afill _ 10 (-1) b
    rw [af_in hb, af_in hb]
  · have e : cB (afill (X.2.2.2.2.2.1) 10 (-1)) (nI j) 10 = 0 := cB_af _ _ (fun e => nI_neg1 j (by omega) e.symm) 10 10 (Nat.le_refl _)
    show cB (afill (X.2.2.2.2.2.1) 10 (-1)) (nI j) 10 ≤ 3
    rw [e]; exact Nat.zero_le _
theorem P_clear {n : Nat} {X : cS} {Y : rS} (hn : n ≤ 600) (h : Cp n X Y) : opS (g_X0_clear X ) (g_X1_clear Y ) (Cp (n + 1)) := by
  have hK := mK_gt
  have eD : g_X1_dug (Y.1, Y.2.1, Y.2.2.1, Y.2.2.2.1, Y.2.2.2.2.1, Y.2.2.2.2.2.1, Y.2.2.2.2.2.2.1, Y.2.2.2.2.2.2.2.1, 0, Y.2.2.2.2.2.2.2.2.2.1, Y.2.2.2.2.2.2.2.2.2.2.1, Y.2.2.2.2.2.2.2.2.2.2.2.1, Y.2.2.2.2.2.2.2.2.2.2.2.2.1, Y.2.2.2.2.2.2.2.2.2.2.2.2.2.1, Y.2.2.2.2.2.2.2.2.2.2.2.2.2.2) = _ := l_countY (X := X) (Y.1, Y.2.1, Y.2.2.1, Y.2.2.2.1, Y.2.2.2.2.1, Y.2.2.2.2.2.1, Y.2.2.2.2.2.2.1, Y.2.2.2.2.2.2.2.1, 0, Y.2.2.2.2.2.2.2.2.2.1, Y.2.2.2.2.2.2.2.2.2.2.1, Y.2.2.2.2.2.2.2.2.2.2.2.1, Y.2.2.2.2.2.2.2.2.2.2.2.2.1, Y.2.2.2.2.2.2.2.2.2.2.2.2.2.1, Y.2.2.2.2.2.2.2.2.2.2.2.2.2.2) h.1 8 mK 0 0 (by omega) (by omega)
  have eC : g_X0_countDug X = _ := l_countX X 8 mK 0 0 (by omega) (by omega)
  rw [g_X0_clear, g_X1_clear, bI_of eC, bI_of eD, bV_of (s_begin _), g_X0_reset, bV_of rfl]
  exact ⟨_, _, _, rfl, Coup_reset X (Y.1, Y.2.1, Y.2.2.1, Y.2.2.2.1, Y.2.2.2.2.1, Y.2.2.2.2.2.1, Y.2.2.2.2.2.2.1, Y.2.2.2.2.2.2.2.1, 0, Y.2.2.2.2.2.2.2.2.2.1, Y.2.2.2.2.2.2.2.2.2.2.1, Y.2.2.2.2.2.2.2.2.2.2.2.1, Y.2.2.2.2.2.2.2.2.2.2.2.2.1, Y.2.2.2.2.2.2.2.2.2.2.2.2.2.1, Y.2.2.2.2.2.2.2.2.2.2.2.2.2.2) h.2.2.2.2.2.2.2.2.1, rfl⟩
theorem P_begin : ∃ Y, g_X1_begin rs0 = some (.inl none, Y) ∧ Cp 0 cs1 Y := by
  refine ⟨_, s_begin rs0, ?_⟩
  exact Coup_reset cs0 rs0 rfl
