/-! THE CALLS: fill, draw, first, told, clear; the beginning -/
/-- the boats of p among the first i taken out -/
def qf (q : Nat → Int32) (p : Int32) (i : Nat) : Nat → Int32 := fun b => if b < i ∧ q b = p then -1 else q b
theorem qf_0 (q : Nat → Int32) (p : Int32) : qf q p 0 = q := by funext b; exact if_neg (fun h => absurd h.1 (Nat.not_lt_zero _))
theorem qf_s1 {q : Nat → Int32} {p : Int32} {i : Nat} (h : q i = p) : upd (qf q p i) i (-1) = qf q p (i + 1) := by
  funext b
  unfold upd qf
  by_cases e : b = i
  · subst e; rw [if_pos rfl, if_pos ⟨by omega, h⟩]
  · rw [if_neg e]
    by_cases c : b < i ∧ q b = p
    · rw [if_pos c, if_pos ⟨by omega, c.2⟩]
    · rw [if_neg c, if_neg (fun d => c ⟨by omega, d.2⟩)]
theorem qf_s0 {q : Nat → Int32} {p : Int32} {i : Nat} (h : ¬ q i = p) : qf q p i = qf q p (i + 1) := by
  funext b
  unfold qf
  by_cases c : b < i ∧ q b = p
  · rw [if_pos c, if_pos ⟨by omega, c.2⟩]
  · rw [if_neg c, if_neg]
    intro d
    by_cases e : b = i
    · subst e; exact h d.2
    · exact c ⟨by omega, d.2⟩
theorem qf_at (q : Nat → Int32) (p : Int32) (i : Nat) : qf q p i i = q i := if_neg (fun h => absurd h.1 (Nat.lt_irrefl _))
theorem l_fillX (X : cS) (j : Nat) (hj : j < 8) (b2 : Int32) (q0 : Nat → Int32) : ∀ (m f i : Nat), i + m = 10 → m < f → g_X0_fillIn_22 f (X.1, X.2.1, X.2.2.1, X.2.2.2.1, X.2.2.2.2.1, qf q0 (nI j) i, X.2.2.2.2.2.2.1, X.2.2.2.2.2.2.2.1, X.2.2.2.2.2.2.2.2.1, X.2.2.2.2.2.2.2.2.2) (nI j) b2 (nI i) = bV (g_X0_leave (upd (X.1) j 0, upd (X.2.1) j 0, upd (X.2.2.1) j 0, X.2.2.2.1, X.2.2.2.2.1, qf q0 (nI j) 10, X.2.2.2.2.2.2.1, X.2.2.2.2.2.2.2.1, X.2.2.2.2.2.2.2.2.1, X.2.2.2.2.2.2.2.2.2) 1) (fun X74 => some (.inl (some (.int b2)), X74)) := by
  intro m
  induction m with
  | zero =>
    intro f i hi hf
    obtain ⟨f, rfl⟩ : ∃ g, f = g + 1 := ⟨f - 1, by omega⟩
    obtain rfl : i = 10 := by omega
    rw [g_X0_fillIn_22, if_pos (show (10 : Int32) ≤ nI 10 from q_le 10 10 (by omega)), if_pos (vpb_nI hj), if_pos (vpb_nI hj), if_pos (vpb_nI hj), cl_nI (show j < 2 ^ 31 by omega)]
  | succ m ih =>
    intro f i hi hf
    obtain ⟨f, rfl⟩ : ∃ g, f = g + 1 := ⟨f - 1, by omega⟩
    have h9 := ih f (i + 1) (by omega) (by omega)
    rw [g_X0_fillIn_22, if_neg (show ¬ (10 : Int32) ≤ nI i from q_nle 10 i (by omega)), if_pos (vpb_nI (show i < 10 by omega))]
    dsimp only
    rw [if_pos (vpb_nI (show i < 10 by omega)), cl_nI (show i < 2 ^ 31 by omega), nI_1]
    by_cases c : q0 i = nI j
    · rw [if_pos (show qf q0 (nI j) i i = nI j from (qf_at q0 (nI j) i).trans c), qf_s1 c]; exact h9
    · rw [if_neg (show ¬ qf q0 (nI j) i i = nI j from fun e => c ((qf_at q0 (nI j) i).symm.trans e)), qf_s0 c]; exact h9
theorem l_fillY (Y : rS) (j : Nat) (hj : j < 8) (q0 : Nat → Int32) : ∀ (m f i : Nat), i + m = 10 → m < f → g_X1_fill_46 f (Y.1, Y.2.1, Y.2.2.1, Y.2.2.2.1, qf q0 (nI j) i, Y.2.2.2.2.2.1, Y.2.2.2.2.2.2.1, Y.2.2.2.2.2.2.2.1, Y.2.2.2.2.2.2.2.2.1, Y.2.2.2.2.2.2.2.2.2.1, Y.2.2.2.2.2.2.2.2.2.2.1, Y.2.2.2.2.2.2.2.2.2.2.2.1, Y.2.2.2.2.2.2.2.2.2.2.2.2.1, Y.2.2.2.2.2.2.2.2.2.2.2.2.2.1, Y.2.2.2.2.2.2.2.2.2.2.2.2.2.2) (nI j) (nI (cB q0 (nI j) i)) (nI i) = bV (g_X1_leave (Y.1, Y.2.1, Y.2.2.1, Y.2.2.2.1, qf q0 (nI j) 10, Y.2.2.2.2.2.1, Y.2.2.2.2.2.2.1, Y.2.2.2.2.2.2.2.1, Y.2.2.2.2.2.2.2.2.1, Y.2.2.2.2.2.2.2.2.2.1, Y.2.2.2.2.2.2.2.2.2.2.1, Y.2.2.2.2.2.2.2.2.2.2.2.1, Y.2.2.2.2.2.2.2.2.2.2.2.2.1, Y.2.2.2.2.2.2.2.2.2.2.2.2.2.1, Y.2.2.2.2.2.2.2.2.2.2.2.2.2.2) 1) (fun Y80 => some (.inl (some (.int (nI (cB q0 (nI j) 10)))), (upd (Y80.1) j 0, Y80.2.1, Y80.2.2.1, Y80.2.2.2.1, Y80.2.2.2.2.1, Y80.2.2.2.2.2.1, Y80.2.2.2.2.2.2.1, Y80.2.2.2.2.2.2.2.1, Y80.2.2.2.2.2.2.2.2.1, Y80.2.2.2.2.2.2.2.2.2.1, Y80.2.2.2.2.2.2.2.2.2.2.1, Y80.2.2.2.2.2.2.2.2.2.2.2.1, Y80.2.2.2.2.2.2.2.2.2.2.2.2.1, Y80.2.2.2.2.2.2.2.2.2.2.2.2.2.1, Y80.2.2.2.2.2.2.2.2.2.2.2.2.2.2))) := by
  intro m
  induction m with
  | zero =>
    intro f i hi hf
    obtain ⟨f, rfl⟩ : ∃ g, f = g + 1 := ⟨f - 1, by omega⟩
    obtain rfl : i = 10 := by omega
    rw [g_X1_fill_46, if_pos (show (10 : Int32) ≤ nI 10 from q_le 10 10 (by omega))]
    simp only [if_pos (vpb_nI hj), cl_nI (show j < 2 ^ 31 by omega), nb0]
  | succ m ih =>
    intro f i hi hf
    obtain ⟨f, rfl⟩ : ∃ g, f = g + 1 := ⟨f - 1, by omega⟩
    have h9 := ih f (i + 1) (by omega) (by omega)
    rw [cB] at h9
    rw [g_X1_fill_46, if_neg (show ¬ (10 : Int32) ≤ nI i from q_nle 10 i (by omega)), if_pos (vpb_nI (show i < 10 by omega))]
    dsimp only
    rw [if_pos (vpb_nI (show i < 10 by omega)), cl_nI (show i < 2 ^ 31 by omega), nI_1, nI_1]
    by_cases c : q0 i = nI j
    · rw [if_pos c] at h9
      rw [if_pos (show qf q0 (nI j) i i = nI j from (qf_at q0 (nI j) i).trans c), qf_s1 c]; exact h9
    · rw [if_neg c] at h9
      rw [if_neg (show ¬ qf q0 (nI j) i i = nI j from fun e => c ((qf_at q0 (nI j) i).symm.trans e)), qf_s0 c]; exact h9
theorem cB_qf (q : Nat → Int32) (p p' : Int32) (hp : ¬ (-1 : Int32) = p') (i : Nat) : ∀ k, cB (qf q p i) p' k ≤ cB q p' k := by
  intro k
  induction k with
  | zero => exact Nat.le_refl _
  | succ k ih =>
    rw [cB, cB]
    have : (if qf q p i k = p' then 1 else 0) ≤ (if q k = p' then 1 else 0) := by
      by_cases c : k < i ∧ q k = p
      · have e : qf q p i k = -1 := if_pos c
        rw [e, if_neg hp]; exact Nat.zero_le _
      · have e : qf q p i k = q k := if_neg c
        rw [e]; exact Nat.le_refl _
    omega
theorem P_fill {n : Nat} {X : cS} {Y : rS} (hn : n ≤ 600) (h : Cp n X Y) (a1 : Int32) : opR [(xA, 1), (xN, 2)] (g_X0_fill X a1) (g_X1_fill Y a1) (Cp (n + 1)) := by
  have hK := mK_gt
  rw [g_X0_fill, g_X1_fill]
  rcases ck_pool a1 with ⟨j, hj, rfl, x1, y1⟩ | ⟨x1, y1⟩
  · rw [cV_of x1, cI_of y1, if_neg e10, if_pos l00, g_X0_fillIn]
    have h0 : Coup 0 (9999 * n) X (Y.1, Y.2.1, Y.2.2.1, Y.2.2.2.1, Y.2.2.2.2.1, Y.2.2.2.2.2.1, Y.2.2.2.2.2.2.1, Y.2.2.2.2.2.2.2.1, 0, Y.2.2.2.2.2.2.2.2.2.1, Y.2.2.2.2.2.2.2.2.2.2.1, Y.2.2.2.2.2.2.2.2.2.2.2.1, Y.2.2.2.2.2.2.2.2.2.2.2.2.1, Y.2.2.2.2.2.2.2.2.2.2.2.2.2.1, Y.2.2.2.2.2.2.2.2.2.2.2.2.2.2) := h
    rcases s_hold (j := j) (by omega) hj h0 with ⟨_, x3, X1, Y1, x4, y3, h1, hF, k1⟩ | ⟨d1, X1, Y1, x3, y3, h1, k1, w1⟩
    · rw [bI_of x3, if_pos rfl, bI_of x4, bI_of rfl, cI_ex an_1, bI_of y3, if_pos rfl, bI_of (told1 hF)]
      exact opR_ex rfl rfl (c := 2) rfl (by decide) (by simp) (Cp_of h1 (by omega))
    · have hc : cB (yq Y1) (nI j) 10 = cB (xq X1) (nI j) 10 := cB_congr _ 10 (fun b hb => h1.2.2.2.2.1 b hb)
      have eX := l_fillX X1 j hj (nI (cB (xq X1) (nI j) 10)) (xq X1) 10 mK 0 (by omega) (by omega)
      have eY := l_fillY Y1 j hj (yq Y1) 10 mK 0 (by omega) (by omega)
      rw [qf_0] at eX eY
      rw [hc] at eY
      have eX1 : g_X0_fillIn_22 mK X1 (nI j) (nI (cB (xq X1) (nI j) 10)) 0 = _ := eX
      have eY1 : g_X1_fill_46 mK Y1 (nI j) 0 0 = _ := eY
      rw [bI_of x3, if_neg e10, bI_of y3, if_neg e10, bI_of (s_boatsIn X1 (nI j)), eX1, eY1, bV_of (e_leaveX (dn := 0) (m := 1) (x := 1) rfl (by omega) ?_), bV_of (e_leaveY (dn := 0) (m := 1) (x := 1) rfl (by omega) ?_), bI_of rfl, cI_of (an_ok (Nat.lt_of_le_of_lt (cB_le _ _ 10) (by omega)))]
      rotate_left
      · exact h1.2.2.2.2.2.2.2.2.2.1
      · exact h1.2.2.2.2.2.2.2.2.1
      refine opR_ok rfl rfl k1.1 ?_
      obtain ⟨hp, ⟨gw, hgw, hs⟩, hu, hdr, hq, hpl, hz, hm, he, ho, hst⟩ := h1
      refine ⟨?_, ⟨updN gw j 0, ?_, ?_⟩, hu, hdr, ?_, ⟨?_, ?_⟩, hz, hm, rfl, rfl, fun i hi => absurd hi (Nat.not_lt_zero _)⟩
      · intro k hk
        show (upd (X1.1) j 0 k = 0 ∧ upd (X1.2.1) j 0 k = 0 ∧ upd (X1.2.2.1) j 0 k = 0 ∧ upd (Y1.1) j 0 k = 0) ∨ ((∃ m, 1 ≤ m ∧ m ≤ 9 ∧ upd (X1.1) j 0 k = nI m) ∧ upd (Y1.1) j 0 k = 1 ∧ Y1.2.1 k = upd (X1.1) j 0 k ∧ Y1.2.2.1 k = upd (X1.2.1) j 0 k ∧ Y1.2.2.2.1 k = upd (X1.2.2.1) j 0 k)
        by_cases e : k = j
        · subst e; rw [pk_us, pk_us, pk_us, pk_us]; exact Or.inl ⟨rfl, rfl, rfl, rfl⟩
        · rw [pk_un e, pk_un e, pk_un e, pk_un e]; exact hp k hk
      · exact wat_upd (x := 0) hgw
      · have h2 := nsum_upd gw j 0 8
        rw [if_pos hj, if_pos hj] at h2
        omega
      · intro b hb
        show qf (yq Y1) (nI j) 10 b = qf (xq X1) (nI j) 10 b
        unfold qf
        rw [hq b hb]
      · intro b hb
        show qf (xq X1) (nI j) 10 b = -1 ∨ ∃ j', j' < 8 ∧ qf (xq X1) (nI j) 10 b = nI j'
        unfold qf
        split
        · exact Or.inl rfl
        · exact hpl.1 b hb
      · intro k hk
        exact Nat.le_trans (cB_qf (xq X1) (nI j) (nI k) (fun e => nI_neg1 k (by omega) e.symm) 10 10) (hpl.2 k hk)
  · rw [cV_ex x1, cI_of y1, if_pos rfl, if_neg n10]
    refine opR_ex rfl rfl (c := 1) rfl (by decide) (by simp) ?_; exact Cp_s h
theorem upd_upd (f : Nat → Int32) (k : Nat) (a b : Int32) : upd (upd f k a) k b = upd f k b := by
  funext j; unfold upd; split <;> rfl
theorem l_draw (Y : rS) (W : Nat → Int32) {j m h T : Nat} (hj : j < 8) (hm : 1 ≤ m ∧ m ≤ 9) (hA : yA Y j = nI m) (hh : h < 2 ^ 31) (hT : T / m ≤ h) : ∀ (d f w c : Nat), w = T + d → d < f → w < 2 ^ 31 → (d = 0 ∨ T + 1 = (h + 1) * m) → g_X1_draw_52 f (Y.1, Y.2.1, upd W j (nI w), Y.2.2.2.1, Y.2.2.2.2.1, Y.2.2.2.2.2.1, Y.2.2.2.2.2.2.1, Y.2.2.2.2.2.2.2.1, Y.2.2.2.2.2.2.2.2.1, Y.2.2.2.2.2.2.2.2.2.1, Y.2.2.2.2.2.2.2.2.2.2.1, Y.2.2.2.2.2.2.2.2.2.2.2.1, Y.2.2.2.2.2.2.2.2.2.2.2.2.1, Y.2.2.2.2.2.2.2.2.2.2.2.2.2.1, Y.2.2.2.2.2.2.2.2.2.2.2.2.2.2) (nI j) (nI h) (nI c) = bV (g_X1_leave (Y.1, Y.2.1, upd W j (nI T), Y.2.2.2.1, Y.2.2.2.2.1, Y.2.2.2.2.2.1, Y.2.2.2.2.2.2.1, Y.2.2.2.2.2.2.2.1, Y.2.2.2.2.2.2.2.2.1, Y.2.2.2.2.2.2.2.2.2.1, Y.2.2.2.2.2.2.2.2.2.2.1, Y.2.2.2.2.2.2.2.2.2.2.2.1, Y.2.2.2.2.2.2.2.2.2.2.2.2.1, Y.2.2.2.2.2.2.2.2.2.2.2.2.2.1, Y.2.2.2.2.2.2.2.2.2.2.2.2.2.2) 1) (fun Y79 => some (.inl (some (.int (nI (c + d)))), Y79)) := by
  have hA1 : Y.2.1 (nI j).toNatClampNeg = nI m := by rw [cl_nI (show j < 2 ^ 31 by omega)]; exact hA
  have hn : ¬ nI m = 0 := nI_ne0 hm.1 (by omega)
  have hH : ∀ w, w < 2 ^ 31 → g_X1_heightOf (Y.1, Y.2.1, upd W j (nI w), Y.2.2.2.1, Y.2.2.2.2.1, Y.2.2.2.2.2.1, Y.2.2.2.2.2.2.1, Y.2.2.2.2.2.2.2.1, Y.2.2.2.2.2.2.2.2.1, Y.2.2.2.2.2.2.2.2.2.1, Y.2.2.2.2.2.2.2.2.2.2.1, Y.2.2.2.2.2.2.2.2.2.2.2.1, Y.2.2.2.2.2.2.2.2.2.2.2.2.1, Y.2.2.2.2.2.2.2.2.2.2.2.2.2.1, Y.2.2.2.2.2.2.2.2.2.2.2.2.2.2) (nI j) = some (.inl (some (.int (nI (w / m)))), (Y.1, Y.2.1, upd W j (nI w), Y.2.2.2.1, Y.2.2.2.2.1, Y.2.2.2.2.2.1, Y.2.2.2.2.2.2.1, Y.2.2.2.2.2.2.2.1, Y.2.2.2.2.2.2.2.2.1, Y.2.2.2.2.2.2.2.2.2.1, Y.2.2.2.2.2.2.2.2.2.2.1, Y.2.2.2.2.2.2.2.2.2.2.2.1, Y.2.2.2.2.2.2.2.2.2.2.2.2.1, Y.2.2.2.2.2.2.2.2.2.2.2.2.2.1, Y.2.2.2.2.2.2.2.2.2.2.2.2.2.2)) := by
    intro w hw
    rw [g_X1_heightOf, if_pos (vpb_nI hj), if_pos (vpb_nI hj)]
    dsimp only
    rw [hA1, if_pos hn, cl_nI (show j < 2 ^ 31 by omega), pk_us, pk_div hw (by omega) (by omega)]
  intro d
  induction d with
  | zero =>
    intro f w c hw hf hb _
    obtain ⟨f, rfl⟩ : ∃ g, f = g + 1 := ⟨f - 1, by omega⟩
    obtain rfl : w = T := by omega
    rw [g_X1_draw_52, bI_of (hH w hb), if_pos (nI_le hT hh)]
    rfl
  | succ d ih =>
    intro f w c hw hf hb hd
    obtain ⟨f, rfl⟩ : ∃ g, f = g + 1 := ⟨f - 1, by omega⟩
    have hT2 : T + 1 = (h + 1) * m := by
      rcases hd with e | e
      · omega
      · exact e
    have hge : h + 1 ≤ w / m := (Nat.le_div_iff_mul_le (by omega)).mpr (by omega)
    have hq : w / m < 2 ^ 31 := Nat.lt_of_le_of_lt (Nat.div_le_self _ _) hb
    rw [g_X1_draw_52, bI_of (hH w hb), if_neg (nI_ge (show h < w / m by omega) hq), if_pos (vpb_nI hj), if_pos (vpb_nI hj)]
    dsimp only
    rw [cl_nI (show j < 2 ^ 31 by omega), pk_us, upd_upd, nI_s1 _ (by omega), nI_1]
    have h9 := ih f (w - 1) (c + 1) (by omega) (by omega) (by omega) (Or.inr hT2)
    rw [show c + 1 + d = c + (d + 1) by omega] at h9
    exact h9
theorem P_draw {n : Nat} {X : cS} {Y : rS} (hn : n ≤ 600) (h : Cp n X Y) (a1 a2 : Int32) : opR [(xA, 1), (xI, 2), (xN, 3)] (g_X0_draw X a1 a2) (g_X1_draw Y a1 a2) (Cp (n + 1)) := by
  have hK := mK_gt
  rw [g_X0_draw, g_X1_draw]
  rcases ck_pool a1 with ⟨j, hj, rfl, x1, y1⟩ | ⟨x1, y1⟩
  · rw [cV_of x1, cI_of y1, if_neg e10]
    by_cases c0 : a2 < 0
    · rw [if_neg (fun c => nle_iff.mpr c0 c), if_neg (fun c => nle_iff.mpr c0 c), if_neg n20]
      refine opR_ex rfl rfl (c := 2) rfl (by decide) (by simp) ?_; exact Cp_s h
    · obtain ⟨hg, hhg, rfl⟩ := nI_of c0
      rw [if_pos (nI_pos' hhg), if_pos (nI_pos' hhg), if_pos l00, g_X0_drawDown]
      have h0 : Coup 0 (9999 * n) X (Y.1, Y.2.1, Y.2.2.1, Y.2.2.2.1, Y.2.2.2.2.1, Y.2.2.2.2.2.1, Y.2.2.2.2.2.2.1, Y.2.2.2.2.2.2.2.1, 0, Y.2.2.2.2.2.2.2.2.2.1, Y.2.2.2.2.2.2.2.2.2.2.1, Y.2.2.2.2.2.2.2.2.2.2.2.1, Y.2.2.2.2.2.2.2.2.2.2.2.2.1, Y.2.2.2.2.2.2.2.2.2.2.2.2.2.1, Y.2.2.2.2.2.2.2.2.2.2.2.2.2.2) := h
      rcases s_hold (j := j) (by omega) hj h0 with ⟨_, x3, X1, Y1, x4, y3, h1, hF, k1⟩ | ⟨d1, X1, Y1, x3, y3, h1, k1, w1⟩
      · rw [bI_of x3, if_pos rfl, bI_of x4, bI_of rfl, cI_ex an_1, bI_of y3, if_pos rfl, bI_of (told1 hF)]
        exact opR_ex rfl rfl (c := 3) rfl (by decide) (by simp) (Cp_of h1 (by omega))
      · have d1' : ¬ xa X1 j = 0 := by rw [k1.2.2.2]; exact d1
        obtain ⟨gw, hgw, hs, hle, hy⟩ := s_water h1 hj d1'
        obtain ⟨m, _, ea, hm, _⟩ := s_nums (by omega) h1 hj d1'
        have wx : X1.2.1 (nI j).toNatClampNeg = nI (gw j) := by rw [cl_nI (show j < 2 ^ 31 by omega)]; exact hgw j hj
        have ax : X1.1 (nI j).toNatClampNeg = nI m := by rw [cl_nI (show j < 2 ^ 31 by omega)]; exact ea
        have hA : yA Y1 j = nI m := by
          rcases h1.1 j hj with ⟨b1, _⟩ | ⟨_, _, b3, _⟩
          · exact absurd b1 d1'
          · exact b3.trans ea
        have hm9 : (hg + 1) * m ≤ (hg + 1) * 9 := Nat.mul_le_mul_left _ hm.2
        have hm1 : 1 ≤ (hg + 1) * m := Nat.mul_pos (by omega) (by omega)
        obtain ⟨T, hTw, hT1, hT2, hTe⟩ : ∃ T, T ≤ gw j ∧ T / m ≤ hg ∧ (gw j - T = 0 ∨ T + 1 = (hg + 1) * m) ∧ (if lN ((hg + 1) * m - 1) < lN (gw j) then lN ((hg + 1) * m - 1) else lN (gw j)) = lN T := by
          by_cases c : (hg + 1) * m - 1 < gw j
          · refine ⟨(hg + 1) * m - 1, by omega, ?_, Or.inr (by omega), if_pos ((pk_lLT (by omega) (by omega)).mpr c)⟩
            have : ((hg + 1) * m - 1) / m < hg + 1 := (Nat.div_lt_iff_lt_mul (by omega)).mpr (by omega)
            omega
          · refine ⟨gw j, Nat.le_refl _, ?_, Or.inl (by omega), if_neg (fun e => c ((pk_lLT (by omega) (by omega)).mp e))⟩
            have : gw j / m < hg + 1 := (Nat.div_lt_iff_lt_mul (by omega)).mpr (by omega)
            omega
        have eL : ((nI hg).toInt64 + 1) * (nI m).toInt64 - 1 = lN ((hg + 1) * m - 1) := by
          rw [nI_l hhg, nI_l (by omega), lN_1, lN_mul]
          exact lN_sub hm1
        rw [bI_of x3, if_neg e10, bI_of y3, if_neg e10]
        simp only [if_pos (vpb_nI hj)]
        rw [wx, ax, eL, nI_l (show gw j < 2 ^ 31 by omega), hTe, lN_i, pk_sub hTw, cl_nI (show j < 2 ^ 31 by omega)]
        have e9 := l_draw Y1 (Y1.2.2.1) hj hm hA hhg hT1 (gw j - T) mK (gw j) 0 (by omega) (by omega) (by omega) hT2
        have e8 : upd (Y1.2.2.1) j (nI (gw j)) = Y1.2.2.1 := by
          funext k
          unfold upd
          split
          · rename_i e; subst e; exact hy.symm
          · rfl
        rw [e8] at e9
        have eY : g_X1_draw_52 mK Y1 (nI j) (nI hg) 0 = _ := e9
        have hC : Coup 1 (9999 * n) (X1.1, upd (X1.2.1) j (nI T), X1.2.2.1, X1.2.2.2.1, X1.2.2.2.2.1, X1.2.2.2.2.2.1, X1.2.2.2.2.2.2.1, X1.2.2.2.2.2.2.2.1, X1.2.2.2.2.2.2.2.2.1, X1.2.2.2.2.2.2.2.2.2) (Y1.1, Y1.2.1, upd (Y1.2.2.1) j (nI T), Y1.2.2.2.1, Y1.2.2.2.2.1, Y1.2.2.2.2.2.1, Y1.2.2.2.2.2.2.1, Y1.2.2.2.2.2.2.2.1, Y1.2.2.2.2.2.2.2.2.1, Y1.2.2.2.2.2.2.2.2.2.1, Y1.2.2.2.2.2.2.2.2.2.2.1, Y1.2.2.2.2.2.2.2.2.2.2.2.1, Y1.2.2.2.2.2.2.2.2.2.2.2.2.1, Y1.2.2.2.2.2.2.2.2.2.2.2.2.2.1, Y1.2.2.2.2.2.2.2.2.2.2.2.2.2.2) := Coup_set (x := T) (Y1.2.2.2.2.2.2.2.2.2.2.2.2.2.1) h1 hgw hj d1' (by omega) (fun k _ => rfl) (fun k _ => rfl)
        rw [eY, bV_of (e_leaveX (dn := 0) (m := 1) (x := 1) rfl (by omega) hC.2.2.2.2.2.2.2.2.1), bV_of (e_leaveY (dn := 0) (m := 1) (x := 1) rfl (by omega) hC.2.2.2.2.2.2.2.2.2.1), bI_of rfl, cI_of (an_ok (by omega)), Nat.zero_add]
        have hC2 : Cp (n + 1) _ _ := Cp_of (Coup_leave (dn := 0) (m := 1) hC) (by omega)
        exact opR_ok' hC2 rfl rfl k1.1
  · rw [cV_ex x1, cI_of y1, if_pos rfl, if_neg n10]
    refine opR_ex rfl rfl (c := 1) rfl (by decide) (by simp) ?_; exact Cp_s h
theorem l_first {B : Nat} (hB : B < 2 ^ 30) (a1 : Int32) : ∀ (m f f' i : Nat) (X : cS) (Y : rS), i + m = 8 → m < f → m < f' → Coup 0 B X Y → ∃ b X' Y', g_X0_first_2 f X a1 (nI i) = some (.inl (some (.int b)), X') ∧ g_X1_first_7 f' Y a1 (nI i) = some (.inl (some (.int b)), Y') ∧ Coup 0 B X' Y' := by
  intro m
  induction m with
  | zero =>
    intro f f' i X Y hi hf hf' h
    obtain ⟨f, rfl⟩ : ∃ g, f = g + 1 := ⟨f - 1, by omega⟩
    obtain ⟨f', rfl⟩ : ∃ g, f' = g + 1 := ⟨f' - 1, by omega⟩
    obtain rfl : i = 8 := by omega
    rw [g_X0_first_2, g_X1_first_7, if_pos (show (8 : Int32) ≤ nI 8 from q_le 8 8 (by omega)), if_pos (show (8 : Int32) ≤ nI 8 from q_le 8 8 (by omega))]
    exact ⟨-1, X, Y, rfl, rfl, h⟩
  | succ m ih =>
    intro f f' i X Y hi hf hf' h
    obtain ⟨f, rfl⟩ : ∃ g, f = g + 1 := ⟨f - 1, by omega⟩
    obtain ⟨f', rfl⟩ : ∃ g, f' = g + 1 := ⟨f' - 1, by omega⟩
    have hi8 : i < 8 := by omega
    rw [g_X0_first_2, g_X1_first_7, if_neg (show ¬ (8 : Int32) ≤ nI i from q_nle 8 i hi8), if_neg (show ¬ (8 : Int32) ≤ nI i from q_nle 8 i hi8), if_pos (vpb_nI hi8), nI_1]
    rcases s_hold (j := i) (by omega) hi8 h with ⟨c, x1, _⟩ | ⟨c, X1, Y1, x1, y1, h1, k1, w1⟩
    · have c1 : Y.1 (nI i).toNatClampNeg = 0 := by rw [cl_nI (show i < 2 ^ 31 by omega)]; exact (dg_iff h.1 hi8).mpr c
      rw [bI_of x1, if_pos rfl, if_pos c1]
      exact ih f f' (i + 1) X Y (by omega) (by omega) (by omega) h
    · have c1 : ¬ Y.1 (nI i).toNatClampNeg = 0 := by rw [cl_nI (show i < 2 ^ 31 by omega)]; exact fun e => c ((dg_iff h.1 hi8).mp e)
      have d1' : ¬ xa X1 i = 0 := by rw [k1.2.2.2]; exact c
      obtain ⟨m9, w9, ea, hm, ew, _, hb9⟩ := s_nums (by omega) h1 hi8 d1'
      obtain ⟨x5, y5⟩ := s_height h1.1 hi8 ea hm ew hb9
      obtain ⟨X2, Y2, l1, l2, l3, _⟩ := s_leave (dn := 0) (m := 1) (x := 1) rfl (by omega) h1
      rw [bI_of x1, if_neg e10, if_neg c1, bI_of y1, if_neg e10, bI_of x5, bI_of y5]
      by_cases ch : nI (w9 / m9) < a1
      · rw [if_pos ch, if_pos ch, bV_of l1, bV_of l2, if_pos rfl, if_pos rfl]
        exact ih f f' (i + 1) X2 Y2 (by omega) (by omega) (by omega) l3
      · rw [if_neg ch, if_neg ch, bV_of l1, bV_of l2, if_neg e10, if_neg e10]
        exact ⟨nI i, X2, Y2, rfl, rfl, l3⟩
theorem P_first {n : Nat} {X : cS} {Y : rS} (hn : n ≤ 600) (h : Cp n X Y) (a1 : Int32) : opS (g_X0_first X a1) (g_X1_first Y a1) (Cp (n + 1)) := by
  have hK := mK_gt
  obtain ⟨b, X', Y', e1, e2, e3⟩ := l_first (B := 9999 * n) (by omega) a1 8 mK mK 0 X (Y.1, Y.2.1, Y.2.2.1, Y.2.2.2.1, Y.2.2.2.2.1, Y.2.2.2.2.2.1, Y.2.2.2.2.2.2.1, Y.2.2.2.2.2.2.2.1, 0, Y.2.2.2.2.2.2.2.2.2.1, Y.2.2.2.2.2.2.2.2.2.2.1, Y.2.2.2.2.2.2.2.2.2.2.2.1, Y.2.2.2.2.2.2.2.2.2.2.2.2.1, Y.2.2.2.2.2.2.2.2.2.2.2.2.2.1, Y.2.2.2.2.2.2.2.2.2.2.2.2.2.2) (by omega) (by omega) (by omega) h
  exact ⟨b, X', Y', e2, Cp_of e3 (by omega), e1⟩
/-- sums and counts as the loops make them -/
def rs (f : Nat → Int32) : Nat → Nat → Int32 → Int32
  | 0, _, a => a
  | m + 1, i, a => rs f m (i + 1) (a + f i)
def rd (f : Nat → Int32) : Nat → Nat → Int32 → Int32
  | 0, _, a => a
  | m + 1, i, a => rd f m (i + 1) (if f i = 0 then a else a + 1)
theorem l_sumX (F : Nat → Int32) {hi : Nat} (hh : hi < 8) : ∀ (m f i : Nat) (a : Int32), i + m = hi + 1 → m < f → g_X0_sum_9 f F 8 (nI hi) a (nI i) = some (.inl (some (.int (rs F m i a)))) := by
  intro m
  induction m with
  | zero =>
    intro f i a hi' hf
    obtain ⟨f, rfl⟩ : ∃ g, f = g + 1 := ⟨f - 1, by omega⟩
    rw [g_X0_sum_9, if_pos (nI_lt (show hi < i by omega) (by omega))]
    rfl
  | succ m ih =>
    intro f i a hi' hf
    obtain ⟨f, rfl⟩ : ∃ g, f = g + 1 := ⟨f - 1, by omega⟩
    rw [g_X0_sum_9, if_neg (nI_nlt (show i ≤ hi by omega) (by omega)), if_neg (show ¬ Int32.ofNat 8 ≤ nI i from q_nle 8 i (by omega)), if_pos (vpb_nI (show i < 8 by omega)), cl_nI (show i < 2 ^ 31 by omega), nI_1]
    exact ih f (i + 1) _ (by omega) (by omega)
theorem l_countX (X : cS) : ∀ (m f i : Nat) (a : Int32), i + m = 8 → m < f → g_X0_countDug_4 f X a (nI i) = some (.inl (some (.int (rd (xa X) m i a))), X) := by
  intro m
  induction m with
  | zero =>
    intro f i a hi hf
    obtain ⟨f, rfl⟩ : ∃ g, f = g + 1 := ⟨f - 1, by omega⟩
    obtain rfl : i = 8 := by omega
    rw [g_X0_countDug_4, if_pos (show (8 : Int32) ≤ nI 8 from q_le 8 8 (by omega))]
    rfl
  | succ m ih =>
    intro f i a hi hf
    obtain ⟨f, rfl⟩ : ∃ g, f = g + 1 := ⟨f - 1, by omega⟩
    rw [g_X0_countDug_4, if_neg (show ¬ (8 : Int32) ≤ nI i from q_nle 8 i (by omega)), bI_of (s_isDug (show i < 8 by omega)), nI_1, rd]
    by_cases c : xa X i = 0
    · rw [if_pos c, if_pos rfl, if_pos c]; exact ih f (i + 1) _ (by omega) (by omega)
    · rw [if_neg c, if_neg e10, if_neg c]; exact ih f (i + 1) _ (by omega) (by omega)
theorem l_countY {X : cS} (Y : rS) (hp : pools X Y) : ∀ (m f i : Nat) (a : Int32), i + m = 8 → m < f → g_X1_dug_4 f Y a (nI i) = some (.inl (some (.int (rd (xa X) m i a))), Y) := by
  intro m
  induction m with
  | zero =>
    intro f i a hi hf
    obtain ⟨f, rfl⟩ : ∃ g, f = g + 1 := ⟨f - 1, by omega⟩
    obtain rfl : i = 8 := by omega
    rw [g_X1_dug_4, if_pos (show (8 : Int32) ≤ nI 8 from q_le 8 8 (by omega))]
    rfl
  | succ m ih =>
    intro f i a hi hf
    obtain ⟨f, rfl⟩ : ∃ g, f = g + 1 := ⟨f - 1, by omega⟩
    have e := dg_iff hp (show i < 8 by omega)
    rw [g_X1_dug_4, if_neg (show ¬ (8 : Int32) ≤ nI i from q_nle 8 i (by omega)), if_pos (vpb_nI (show i < 8 by omega)), cl_nI (show i < 2 ^ 31 by omega), nI_1, rd]
    by_cases c : xa X i = 0
    · have c1 : Y.1 i = 0 := e.mpr c
      rw [if_pos c1, if_pos c, Int32.add_zero]; exact ih f (i + 1) _ (by omega) (by omega)
    · have c1 : ¬ Y.1 i = 0 := fun z => c (e.mp z)
      rw [if_neg c1, if_neg c]; exact ih f (i + 1) _ (by omega) (by omega)
theorem l_told {X : cS} (Y : rS) (hp : pools X Y) (a1 : Int32) : ∀ (m f i : Nat) (a : Int32), i + m = 8 → m < f → g_X1_told__9 f Y a1 a (nI i) = if a1 = 0 then (some (.inl (some (.int (Y.2.2.2.2.2.2.2.2.2.2.1))), Y)) else (if a1 = 1 then (some (.inl (some (.int (Y.2.2.2.2.2.2.2.2.2.2.2.1))), Y)) else (if a1 = 2 then (bI (g_X1_dug Y) (fun v72 Y72 => some (.inl (some (.int v72)), Y72))) else (if a1 = 3 then (some (.inl (some (.int (rs (xW X) m i a))), Y)) else (some (.inl (some (.int (-1))), Y))))) := by
  intro m
  induction m with
  | zero =>
    intro f i a hi hf
    obtain ⟨f, rfl⟩ : ∃ g, f = g + 1 := ⟨f - 1, by omega⟩
    obtain rfl : i = 8 := by omega
    rw [g_X1_told__9, if_pos (show (8 : Int32) ≤ nI 8 from q_le 8 8 (by omega))]
    rfl
  | succ m ih =>
    intro f i a hi hf
    obtain ⟨f, rfl⟩ : ∃ g, f = g + 1 := ⟨f - 1, by omega⟩
    have hi8 : i < 8 := by omega
    rw [g_X1_told__9, if_neg (show ¬ (8 : Int32) ≤ nI i from q_nle 8 i (by omega)), if_pos (vpb_nI hi8), if_pos (vpb_nI hi8), cl_nI (show i < 2 ^ 31 by omega), nI_1, rs]
    rcases hp i hi8 with ⟨_, b2, _, b4⟩ | ⟨_, b2, _, b4, _⟩
    · have c1 : Y.1 i = 0 := b4
      have c2 : xW X i = 0 := b2
      rw [if_pos c1, c2]; exact ih f (i + 1) _ (by omega) (by omega)
    · have c1 : ¬ Y.1 i = 0 := by rw [show Y.1 i = 1 from b2]; exact e10
      have c2 : Y.2.2.1 i = xW X i := b4
      rw [if_neg c1, c2]; exact ih f (i + 1) _ (by omega) (by omega)
theorem P_told {n : Nat} {X : cS} {Y : rS} (hn : n ≤ 600) (h : Cp n X Y) (a1 : Int32) : opS (g_X0_told X a1) (g_X1_told_ Y a1) (Cp (n + 1)) := by
  have hK := mK_gt
  have h0 : Cp (n + 1) X (Y.1, Y.2.1, Y.2.2.1, Y.2.2.2.1, Y.2.2.2.2.1, Y.2.2.2.2.2.1, Y.2.2.2.2.2.2.1, Y.2.2.2.2.2.2.2.1, 0, Y.2.2.2.2.2.2.2.2.2.1, Y.2.2.2.2.2.2.2.2.2.2.1, Y.2.2.2.2.2.2.2.2.2.2.2.1, Y.2.2.2.2.2.2.2.2.2.2.2.2.1, Y.2.2.2.2.2.2.2.2.2.2.2.2.2.1, Y.2.2.2.2.2.2.2.2.2.2.2.2.2.2) := Cp_s h
  have eY : g_X1_told_ Y a1 = _ := l_told (X := X) (Y.1, Y.2.1, Y.2.2.1, Y.2.2.2.1, Y.2.2.2.2.1, Y.2.2.2.2.2.1, Y.2.2.2.2.2.2.1, Y.2.2.2.2.2.2.2.1, 0, Y.2.2.2.2.2.2.2.2.2.1, Y.2.2.2.2.2.2.2.2.2.2.1, Y.2.2.2.2.2.2.2.2.2.2.2.1, Y.2.2.2.2.2.2.2.2.2.2.2.2.1, Y.2.2.2.2.2.2.2.2.2.2.2.2.2.1, Y.2.2.2.2.2.2.2.2.2.2.2.2.2.2) h.1 a1 8 mK 0 0 (by omega) (by omega)
  have eD : g_X1_dug (Y.1, Y.2.1, Y.2.2.1, Y.2.2.2.1, Y.2.2.2.2.1, Y.2.2.2.2.2.1, Y.2.2.2.2.2.2.1, Y.2.2.2.2.2.2.2.1, 0, Y.2.2.2.2.2.2.2.2.2.1, Y.2.2.2.2.2.2.2.2.2.2.1, Y.2.2.2.2.2.2.2.2.2.2.2.1, Y.2.2.2.2.2.2.2.2.2.2.2.2.1, Y.2.2.2.2.2.2.2.2.2.2.2.2.2.1, Y.2.2.2.2.2.2.2.2.2.2.2.2.2.2) = _ := l_countY (X := X) (Y.1, Y.2.1, Y.2.2.1, Y.2.2.2.1, Y.2.2.2.2.1, Y.2.2.2.2.2.1, Y.2.2.2.2.2.2.1, Y.2.2.2.2.2.2.2.1, 0, Y.2.2.2.2.2.2.2.2.2.1, Y.2.2.2.2.2.2.2.2.2.2.1, Y.2.2.2.2.2.2.2.2.2.2.2.1, Y.2.2.2.2.2.2.2.2.2.2.2.2.1, Y.2.2.2.2.2.2.2.2.2.2.2.2.2.1, Y.2.2.2.2.2.2.2.2.2.2.2.2.2.2) h.1 8 mK 0 0 (by omega) (by omega)
  have eC : g_X0_countDug X = _ := l_countX X 8 mK 0 0 (by omega) (by omega)
  have eS : g_X0_sum (X.2.1) 8 0 7 = _ := l_sumX (X.2.1) (hi := 7) (by omega) 8 mK 0 0 (by omega) (by omega)
  have hz : Y.2.2.2.2.2.2.2.2.2.2.1 = X.2.2.2.2.2.2.2.2.2 := h.2.2.2.2.2.2.1
  have hm : Y.2.2.2.2.2.2.2.2.2.2.2.1 = X.2.2.2.2.2.2.2.2.1 := h.2.2.2.2.2.2.2.1
  rw [g_X0_told, eY]
  by_cases z0 : a1 = 0
  · rw [if_pos z0, if_pos z0]
    exact ⟨X.2.2.2.2.2.2.2.2.2, X, _, by dsimp only; rw [hz], h0, rfl⟩
  · rw [if_neg z0, if_neg z0]
    by_cases z1 : a1 = 1
    · rw [if_pos z1, if_pos z1]
      exact ⟨X.2.2.2.2.2.2.2.2.1, X, _, by dsimp only; rw [hm], h0, rfl⟩
    · rw [if_neg z1, if_neg z1]
      by_cases z2 : a1 = 2
      · rw [if_pos z2, if_pos z2, bI_of eC, bI_of eD]
        exact ⟨_, X, _, rfl, h0, rfl⟩
      · rw [if_neg z2, if_neg z2]
        by_cases z3 : a1 = 3
        · rw [if_pos z3, if_pos z3, cI_of eS]
          exact ⟨_, X, _, rfl, h0, rfl⟩
        · rw [if_neg z3, if_neg z3]
          exact ⟨_, X, _, rfl, h0, rfl⟩
