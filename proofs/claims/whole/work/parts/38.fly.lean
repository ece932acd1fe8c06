/-! THE CALLS: flight, trip -/
theorem e_holdAllU {X : cS} {o t : Nat} (h : o ≤ t) (ht : t < 8) : g_X0_holdAll X (nI o) (nI t) = g_X0_holdAll_24 mK X (nI o) (nI t) 1 (nI (t - o + 1)) 0 := by
  rw [g_X0_holdAll, if_neg (nI_nlt h (by omega)), pk_sub h, if_pos (nI_pos' (by omega)), nI_1]
theorem nI_back {o t : Nat} (h : t < o) (ho : o < 2 ^ 30) : (if 0 ≤ nI t - nI o then nI t - nI o else 0 - (nI t - nI o)) = nI (o - t) := by
  rw [if_neg (fun c => nle_iff.mpr (pk_sneg ho h) c)]
  have e : 0 - (nI t - nI o) = nI o - nI t := by rw [Int32.zero_sub, Int32.neg_sub]
  rw [e, pk_sub (by omega)]
theorem e_holdAllD {X : cS} {o t : Nat} (h : t < o) (ho : o < 8) : g_X0_holdAll X (nI o) (nI t) = g_X0_holdAll_24 mK X (nI o) (nI t) (-1) (nI (o - t + 1)) 0 := by
  rw [g_X0_holdAll, if_pos (nI_lt h (by omega)), nI_back h (by omega), nI_1]
theorem l_holdN {B N o : Nat} {pos : Nat → Nat} {sx sy a1 a2 : Int32} (hN : N < 8) (hx : ∀ i, i ≤ N → nI o + nI i * sx = nI (pos i)) (hy : ∀ i, i ≤ N → nI o + nI i * sy = nI (pos i)) (hpos : ∀ i, i ≤ N → pos i < 8) :
    ∀ (m f f' i : Nat) (X : cS) (Y : rS), i + m = N + 1 → m < f → m < f' → Coup i B X Y →
    (∃ X' Y', g_X0_holdAll_24 f X (nI o) a2 sx (nI (N + 1)) (nI i) = some (.inl (some (.int 1)), X') ∧ g_X1_flies_43 f' Y a1 a2 (nI o) sy (nI N) (nI i) = g_X1_flies_72 mK Y' a1 a2 (nI o) sy (nI N) (nI (N + 1)) ∧ Coup (N + 1) B X' Y' ∧ kp X X' Y Y') ∨
    (∃ X1 X' Y', g_X0_holdAll_24 f X (nI o) a2 sx (nI (N + 1)) (nI i) = some (.inl (some (.int 0)), X1) ∧ g_X0_failing X1 1 = some (.inl (some (.int (-1))), X') ∧ g_X1_flies_43 f' Y a1 a2 (nI o) sy (nI N) (nI i) = some (.inl (some (.int 0)), Y') ∧ Coup 0 B X' Y' ∧ yF Y' = 1 ∧ kp X X' Y Y') := by
  intro m
  induction m with
  | zero =>
    intro f f' i X Y hi hf hf' h
    obtain ⟨f, rfl⟩ : ∃ g, f = g + 1 := ⟨f - 1, by omega⟩
    obtain ⟨f', rfl⟩ : ∃ g, f' = g + 1 := ⟨f' - 1, by omega⟩
    obtain rfl : i = N + 1 := by omega
    rw [g_X0_holdAll_24, g_X1_flies_43, if_pos (nI_le (Nat.le_refl _) (by omega)), if_pos (nI_lt (by omega) (by omega))]
    exact Or.inl ⟨X, Y, rfl, rfl, h, rfl, rfl, rfl, rfl⟩
  | succ m ih =>
    intro f f' i X Y hi hf hf' h
    obtain ⟨f, rfl⟩ : ∃ g, f = g + 1 := ⟨f - 1, by omega⟩
    obtain ⟨f', rfl⟩ : ∃ g, f' = g + 1 := ⟨f' - 1, by omega⟩
    rw [g_X0_holdAll_24, g_X1_flies_43, if_neg (nI_ge (by omega) (by omega)), if_neg (nI_nlt (by omega) (by omega)), hx i (by omega), hy i (by omega), nI_1]
    rcases s_hold (j := pos i) (by omega) (hpos i (by omega)) h with ⟨_, x1, X1, Y1, x2, y1, h1, hF, k1⟩ | ⟨d1, X1, Y1, x1, y1, h1, k1, w1⟩
    · rw [bI_of x1, if_pos rfl, bI_of y1, if_pos rfl]
      exact Or.inr ⟨X, X1, Y1, rfl, x2, rfl, h1, hF, k1⟩
    · rw [bI_of x1, if_neg e10, bI_of y1, if_neg e10]
      rcases ih f f' (i + 1) X1 Y1 (by omega) (by omega) (by omega) h1 with ⟨X', Y', q1, q2, q3, q4⟩ | ⟨X9, X', Y', q1, q2, q3, q4, q5, q6⟩
      · exact Or.inl ⟨X', Y', q1, q2, q3, kp_tr k1 q4⟩
      · exact Or.inr ⟨X9, X', Y', q1, q2, q3, q4, q5, kp_tr k1 q6⟩
theorem l_fly {B N o t b : Nat} {pos : Nat → Nat} {sy b6 up : Int32} (hB : B < 2 ^ 30) (hb : b < 10) (hN : N < 8) (hup : (up = 0 ∧ t ≤ o) ∨ (up = 1 ∧ o < t)) (ho : o < 8) (ht : t < 8) (hw : ∀ k, k < N → pos k < 8 ∧ ((up = 0 ∧ 0 < pos k ∧ pos (k + 1) = pos k - 1) ∨ (up = 1 ∧ pos k < 7 ∧ pos (k + 1) = pos k + 1))) :
    ∀ (m f f' k : Nat) (X : cS) (Y : rS), k + m = N → m < f → m < f' → Coup (N + 1) B X Y → xq X b = nI (pos k) → yp Y = nI k →
    (∃ X' Y', g_X0_fly_44 f X (nI b) (nI t) (nI o) (nI N) (nI k) = some (.inl (some (.int (nI N))), X') ∧ g_X1_flies_72 f' Y (nI b) (nI t) (nI o) sy (nI N) b6 = some (.inl (some (.int 1)), Y') ∧ yp Y' = nI N ∧ Coup 0 B X' Y' ∧ yT Y' = yT Y) ∨
    (∃ X' Y' r k', g_X0_fly_44 f X (nI b) (nI t) (nI o) (nI N) (nI k) = some (.inl (some (.int (10 * -r - nI k'))), X') ∧ g_X1_flies_72 f' Y (nI b) (nI t) (nI o) sy (nI N) b6 = some (.inl (some (.int 0)), Y') ∧ (r = 1 ∨ r = 2 ∨ r = 3 ∨ r = 4) ∧ k' < 8 ∧ yF Y' = r ∧ yp Y' = nI k' ∧ Coup 0 B X' Y' ∧ yT Y' = yT Y) := by
  intro m
  induction m with
  | zero =>
    intro f f' k X Y hk hf hf' h hq hyp
    obtain ⟨f, rfl⟩ : ∃ g, f = g + 1 := ⟨f - 1, by omega⟩
    obtain ⟨f', rfl⟩ : ∃ g, f' = g + 1 := ⟨f' - 1, by omega⟩
    obtain rfl : k = N := by omega
    have hyp1 : Y.2.2.2.2.2.2.2.2.2.2.2.2.2.2 = nI k := hyp
    obtain ⟨X', Y', l1, l2, l3, l4, l5, _⟩ := s_leave (dn := 0) (m := k + 1) (x := nI (k + 1)) rfl (by omega) (show Coup (0 + (k + 1)) B X Y by rw [Nat.zero_add]; exact h)
    rw [g_X0_fly_44, g_X1_flies_72, hyp1, if_pos (nI_le (Nat.le_refl _) (by omega)), if_pos (nI_le (Nat.le_refl _) (by omega)), nI_1, bV_of l1, bV_of l2]
    exact Or.inl ⟨X', Y', rfl, rfl, l4.2.1.trans hyp, l3, l4.1⟩
  | succ m ih =>
    intro f f' k X Y hk hf hf' h hq hyp
    obtain ⟨f, rfl⟩ : ∃ g, f = g + 1 := ⟨f - 1, by omega⟩
    obtain ⟨f', rfl⟩ : ∃ g, f' = g + 1 := ⟨f' - 1, by omega⟩
    have hyp1 : Y.2.2.2.2.2.2.2.2.2.2.2.2.2.2 = nI k := hyp
    have hkN : k < N := by omega
    obtain ⟨hp8, hwy⟩ := hw k hkN
    rw [g_X0_fly_44, g_X1_flies_72, hyp1, if_neg (nI_ge hkN (by omega)), if_neg (nI_ge hkN (by omega)), nI_1]
    have key : (∃ X' Y', (bI (g_X0_passBoat X (nI b) up) (fun v63 X63 => if 0 ≤ v63 then (g_X0_fly_44 f X63 (nI b) (nI t) (nI o) (nI N) (nI (k + 1))) else (some (.inl (some (.int ((10 * v63) - nI k))), X63)))) = some (.inl (some (.int (nI N))), X') ∧ (bI (g_X1_passes Y (nI b) up) (fun v93 Y93 => if v93 = 0 then (some (.inl (some (.int 0)), Y93)) else (g_X1_flies_72 f' (Y93.1, Y93.2.1, Y93.2.2.1, Y93.2.2.2.1, Y93.2.2.2.2.1, Y93.2.2.2.2.2.1, Y93.2.2.2.2.2.2.1, Y93.2.2.2.2.2.2.2.1, Y93.2.2.2.2.2.2.2.2.1, Y93.2.2.2.2.2.2.2.2.2.1, Y93.2.2.2.2.2.2.2.2.2.2.1, Y93.2.2.2.2.2.2.2.2.2.2.2.1, Y93.2.2.2.2.2.2.2.2.2.2.2.2.1, Y93.2.2.2.2.2.2.2.2.2.2.2.2.2.1, Y93.2.2.2.2.2.2.2.2.2.2.2.2.2.2 + 1) (nI b) (nI t) (nI o) sy (nI N) b6))) = some (.inl (some (.int 1)), Y') ∧ yp Y' = nI N ∧ Coup 0 B X' Y' ∧ yT Y' = yT Y) ∨
        (∃ X' Y' r k', (bI (g_X0_passBoat X (nI b) up) (fun v63 X63 => if 0 ≤ v63 then (g_X0_fly_44 f X63 (nI b) (nI t) (nI o) (nI N) (nI (k + 1))) else (some (.inl (some (.int ((10 * v63) - nI k))), X63)))) = some (.inl (some (.int (10 * -r - nI k'))), X') ∧ (bI (g_X1_passes Y (nI b) up) (fun v93 Y93 => if v93 = 0 then (some (.inl (some (.int 0)), Y93)) else (g_X1_flies_72 f' (Y93.1, Y93.2.1, Y93.2.2.1, Y93.2.2.2.1, Y93.2.2.2.2.1, Y93.2.2.2.2.2.1, Y93.2.2.2.2.2.2.1, Y93.2.2.2.2.2.2.2.1, Y93.2.2.2.2.2.2.2.2.1, Y93.2.2.2.2.2.2.2.2.2.1, Y93.2.2.2.2.2.2.2.2.2.2.1, Y93.2.2.2.2.2.2.2.2.2.2.2.1, Y93.2.2.2.2.2.2.2.2.2.2.2.2.1, Y93.2.2.2.2.2.2.2.2.2.2.2.2.2.1, Y93.2.2.2.2.2.2.2.2.2.2.2.2.2.2 + 1) (nI b) (nI t) (nI o) sy (nI N) b6))) = some (.inl (some (.int 0)), Y') ∧ (r = 1 ∨ r = 2 ∨ r = 3 ∨ r = 4) ∧ k' < 8 ∧ yF Y' = r ∧ yp Y' = nI k' ∧ Coup 0 B X' Y' ∧ yT Y' = yT Y) := by
      rcases s_pass (p := pos (k + 1)) hB (show N + 1 < 9 by omega) hb hp8 hq hwy h with ⟨X1, Y1, x1, y1, h1, k1, k2, k3, _⟩ | ⟨X1, Y1, r, x1, y1, hr, hF, h1, k1⟩
      · have hp9 : pos (k + 1) < 8 := by rcases hwy with ⟨_, _, _⟩ | ⟨_, _, _⟩ <;> omega
        rw [bI_of x1, if_pos (nI_pos' (by omega)), bI_of y1, if_neg e10]
        have k2' : Y1.2.2.2.2.2.2.2.2.2.2.2.2.2.2 = nI k := k2.trans hyp
        rcases ih f f' (k + 1) X1 (Y1.1, Y1.2.1, Y1.2.2.1, Y1.2.2.2.1, Y1.2.2.2.2.1, Y1.2.2.2.2.2.1, Y1.2.2.2.2.2.2.1, Y1.2.2.2.2.2.2.2.1, Y1.2.2.2.2.2.2.2.2.1, Y1.2.2.2.2.2.2.2.2.2.1, Y1.2.2.2.2.2.2.2.2.2.2.1, Y1.2.2.2.2.2.2.2.2.2.2.2.1, Y1.2.2.2.2.2.2.2.2.2.2.2.2.1, Y1.2.2.2.2.2.2.2.2.2.2.2.2.2.1, Y1.2.2.2.2.2.2.2.2.2.2.2.2.2.2 + 1) (by omega) (by omega) (by omega) h1 k3 (by show Y1.2.2.2.2.2.2.2.2.2.2.2.2.2.2 + 1 = nI (k + 1); rw [k2', nI_1]) with ⟨X', Y', q1, q2, q3, q4, q5⟩ | ⟨X', Y', r, k', q1, q2, q3, q4, q5, q6, q7, q8⟩
        · exact Or.inl ⟨X', Y', q1, q2, q3, q4, q5.trans k1⟩
        · exact Or.inr ⟨X', Y', r, k', q1, q2, q3, q4, q5, q6, q7, q8.trans k1⟩
      · have hn : ¬ (0 : Int32) ≤ -r := by rcases hr with rfl | rfl | rfl | rfl <;> decide
        rw [bI_of x1, if_neg hn, bI_of y1, if_pos rfl]
        exact Or.inr ⟨X1, Y1, r, k, rfl, rfl, hr, by omega, hF, k1.2.1.trans hyp, h1, k1.1⟩
    rcases hup with ⟨rfl, hc⟩ | ⟨rfl, hc⟩
    · rw [if_pos (nI_le hc (by omega)), if_pos (nI_le hc (by omega))]
      exact key
    · rw [if_neg (nI_ge hc (by omega)), if_neg (nI_ge hc (by omega))]
      exact key
theorem s_fly {B b o t : Nat} {X : cS} {Y : rS} (hB : B < 2 ^ 30) (hb : b < 10) (ho : o < 8) (ht : t < 8) (hq : xq X b = nI o) (h : Coup 0 B X Y) :
    (∃ X' Y' N, g_X0_fly X (nI b) (nI t) = some (.inl (some (.int (nI N))), X') ∧ g_X1_flies Y (nI b) (nI t) = some (.inl (some (.int 1)), Y') ∧ N < 8 ∧ yp Y' = nI N ∧ Coup 0 B X' Y' ∧ yT Y' = yT Y) ∨
    (∃ X' Y' r k', g_X0_fly X (nI b) (nI t) = some (.inl (some (.int (10 * -r - nI k'))), X') ∧ g_X1_flies Y (nI b) (nI t) = some (.inl (some (.int 0)), Y') ∧ (r = 1 ∨ r = 2 ∨ r = 3 ∨ r = 4) ∧ k' < 8 ∧ yF Y' = r ∧ yp Y' = nI k' ∧ Coup 0 B X' Y' ∧ yT Y' = yT Y) := by
  have hK := mK_gt
  have q1 : X.2.2.2.2.2.1 (nI b).toNatClampNeg = nI o := by rw [cl_nI (show b < 2 ^ 31 by omega)]; exact hq
  have q2 : Y.2.2.2.2.1 (nI b).toNatClampNeg = nI o := by rw [cl_nI (show b < 2 ^ 31 by omega)]; exact (h.2.2.2.2.1 b hb).trans hq
  have h0 : Coup 0 B X (Y.1, Y.2.1, Y.2.2.1, Y.2.2.2.1, Y.2.2.2.2.1, Y.2.2.2.2.2.1, Y.2.2.2.2.2.2.1, Y.2.2.2.2.2.2.2.1, Y.2.2.2.2.2.2.2.2.1, Y.2.2.2.2.2.2.2.2.2.1, Y.2.2.2.2.2.2.2.2.2.2.1, Y.2.2.2.2.2.2.2.2.2.2.2.1, Y.2.2.2.2.2.2.2.2.2.2.2.2.1, Y.2.2.2.2.2.2.2.2.2.2.2.2.2.1, 0) := h
  have main : ∀ (N : Nat) (pos : Nat → Nat) (sx sy up : Int32), N < 8 → pos 0 = o → ((up = 0 ∧ t ≤ o) ∨ (up = 1 ∧ o < t)) → (∀ i, i ≤ N → nI o + nI i * sx = nI (pos i)) → (∀ i, i ≤ N → nI o + nI i * sy = nI (pos i)) → (∀ i, i ≤ N → pos i < 8) →
      (∀ k, k < N → pos k < 8 ∧ ((up = 0 ∧ 0 < pos k ∧ pos (k + 1) = pos k - 1) ∨ (up = 1 ∧ pos k < 7 ∧ pos (k + 1) = pos k + 1))) →
      g_X0_fly X (nI b) (nI t) = bI (g_X0_holdAll_24 mK X (nI o) (nI t) sx (nI (N + 1)) 0) (fun v18 X18 => if v18 = 0 then (bI (g_X0_failing X18 1) (fun v28 X28 => some (.inl (some (.int (10 * v28))), X28))) else (g_X0_fly_44 mK X18 (nI b) (nI t) (nI o) (nI N) 0)) →
      g_X1_flies Y (nI b) (nI t) = g_X1_flies_43 mK (Y.1, Y.2.1, Y.2.2.1, Y.2.2.2.1, Y.2.2.2.2.1, Y.2.2.2.2.2.1, Y.2.2.2.2.2.2.1, Y.2.2.2.2.2.2.2.1, Y.2.2.2.2.2.2.2.2.1, Y.2.2.2.2.2.2.2.2.2.1, Y.2.2.2.2.2.2.2.2.2.2.1, Y.2.2.2.2.2.2.2.2.2.2.2.1, Y.2.2.2.2.2.2.2.2.2.2.2.2.1, Y.2.2.2.2.2.2.2.2.2.2.2.2.2.1, 0) (nI b) (nI t) (nI o) sy (nI N) 0 →
      (∃ X' Y' N, g_X0_fly X (nI b) (nI t) = some (.inl (some (.int (nI N))), X') ∧ g_X1_flies Y (nI b) (nI t) = some (.inl (some (.int 1)), Y') ∧ N < 8 ∧ yp Y' = nI N ∧ Coup 0 B X' Y' ∧ yT Y' = yT Y) ∨
      (∃ X' Y' r k', g_X0_fly X (nI b) (nI t) = some (.inl (some (.int (10 * -r - nI k'))), X') ∧ g_X1_flies Y (nI b) (nI t) = some (.inl (some (.int 0)), Y') ∧ (r = 1 ∨ r = 2 ∨ r = 3 ∨ r = 4) ∧ k' < 8 ∧ yF Y' = r ∧ yp Y' = nI k' ∧ Coup 0 B X' Y' ∧ yT Y' = yT Y) := by
    intro N pos sx sy up hN hp0 hup hx hy hpos hw eX eY
    rcases l_holdN (a1 := nI b) (a2 := nI t) hN hx hy hpos (N + 1) mK mK 0 X (Y.1, Y.2.1, Y.2.2.1, Y.2.2.2.1, Y.2.2.2.2.1, Y.2.2.2.2.2.1, Y.2.2.2.2.2.2.1, Y.2.2.2.2.2.2.2.1, Y.2.2.2.2.2.2.2.2.1, Y.2.2.2.2.2.2.2.2.2.1, Y.2.2.2.2.2.2.2.2.2.2.1, Y.2.2.2.2.2.2.2.2.2.2.2.1, Y.2.2.2.2.2.2.2.2.2.2.2.2.1, Y.2.2.2.2.2.2.2.2.2.2.2.2.2.1, 0) (by omega) (by omega) (by omega) h0 with ⟨X1, Y1, p1, p2, p3, p4⟩ | ⟨X9, X1, Y1, p1, p2, p3, p4, p5, p6⟩
    · have p1' : g_X0_holdAll_24 mK X (nI o) (nI t) sx (nI (N + 1)) 0 = some (.inl (some (.int 1)), X1) := p1
      have p2' : g_X1_flies_43 mK (Y.1, Y.2.1, Y.2.2.1, Y.2.2.2.1, Y.2.2.2.2.1, Y.2.2.2.2.2.1, Y.2.2.2.2.2.2.1, Y.2.2.2.2.2.2.2.1, Y.2.2.2.2.2.2.2.2.1, Y.2.2.2.2.2.2.2.2.2.1, Y.2.2.2.2.2.2.2.2.2.2.1, Y.2.2.2.2.2.2.2.2.2.2.2.1, Y.2.2.2.2.2.2.2.2.2.2.2.2.1, Y.2.2.2.2.2.2.2.2.2.2.2.2.2.1, 0) (nI b) (nI t) (nI o) sy (nI N) 0 = g_X1_flies_72 mK Y1 (nI b) (nI t) (nI o) sy (nI N) (nI (N + 1)) := p2
      rw [eX, eY, bI_of p1', if_neg e10, p2']
      have hq1 : xq X1 b = nI (pos 0) := by rw [p4.2.2.1, hp0]; exact hq
      rcases l_fly (pos := pos) (sy := sy) (b6 := nI (N + 1)) hB hb hN hup ho ht hw N mK mK 0 X1 Y1 (by omega) (by omega) (by omega) p3 hq1 p4.2.1 with ⟨X', Y', r1, r2, r3, r4, r5⟩ | ⟨X', Y', r, k', r1, r2, r3, r4, r5, r6, r7, r8⟩
      · exact Or.inl ⟨X', Y', N, r1, r2, hN, r3, r4, r5.trans p4.1⟩
      · exact Or.inr ⟨X', Y', r, k', r1, r2, r3, r4, r5, r6, r7, r8.trans p4.1⟩
    · have p1' : g_X0_holdAll_24 mK X (nI o) (nI t) sx (nI (N + 1)) 0 = some (.inl (some (.int 0)), X9) := p1
      have p3' : g_X1_flies_43 mK (Y.1, Y.2.1, Y.2.2.1, Y.2.2.2.1, Y.2.2.2.2.1, Y.2.2.2.2.2.1, Y.2.2.2.2.2.2.1, Y.2.2.2.2.2.2.2.1, Y.2.2.2.2.2.2.2.2.1, Y.2.2.2.2.2.2.2.2.2.1, Y.2.2.2.2.2.2.2.2.2.2.1, Y.2.2.2.2.2.2.2.2.2.2.2.1, Y.2.2.2.2.2.2.2.2.2.2.2.2.1, Y.2.2.2.2.2.2.2.2.2.2.2.2.2.1, 0) (nI b) (nI t) (nI o) sy (nI N) 0 = some (.inl (some (.int 0)), Y1) := p3
      rw [eX, eY, bI_of p1', if_pos rfl, bI_of p2, p3']
      exact Or.inr ⟨X1, Y1, 1, 0, rfl, rfl, Or.inl rfl, by omega, p5, p6.2.1, p4, p6.1⟩
  have hne : ¬ nI o = -1 := nI_neg1 o (by omega)
  by_cases c : o ≤ t
  · by_cases c2 : o = t
    · subst c2
      refine main 0 (fun i => o) 1 (-1) 0 (by omega) rfl (Or.inl ⟨rfl, Nat.le_refl _⟩) ?_ ?_ (fun _ _ => ho) (fun k hk => absurd hk (Nat.not_lt_zero _)) ?_ ?_
      · intro i hi
        obtain rfl : i = 0 := by omega
        rw [show nI 0 * 1 = (0 : Int32) from by decide, Int32.add_zero]
      · intro i hi
        obtain rfl : i = 0 := by omega
        rw [show nI 0 * (-1) = (0 : Int32) from by decide, Int32.add_zero]
      · rw [g_X0_fly, if_pos (vpb_nI hb), q1, if_neg hne, e_holdAllU (Nat.le_refl _) ho, Nat.sub_self, pk_sub (Nat.le_refl _), Nat.sub_self, if_pos (nI_pos' (by omega))]
      · rw [g_X1_flies, if_pos (vpb_nI hb), q2, if_pos (nI_le (Nat.le_refl _) (by omega)), if_pos (nI_le (Nat.le_refl _) (by omega)), pk_sub (Nat.le_refl _), Nat.sub_self]
    · refine main (t - o) (fun i => o + i) 1 1 1 (by omega) rfl (Or.inr ⟨rfl, by omega⟩) ?_ ?_ (fun i hi => by show o + i < 8; omega) (fun k hk => ⟨by show o + k < 8; omega, Or.inr ⟨rfl, by show o + k < 7; omega, rfl⟩⟩) ?_ ?_
      · intro i hi
        rw [Int32.mul_one, nI_add]
      · intro i hi
        rw [Int32.mul_one, nI_add]
      · rw [g_X0_fly, if_pos (vpb_nI hb), q1, if_neg hne, e_holdAllU c ht, pk_sub c, if_pos (nI_pos' (by omega))]
      · rw [g_X1_flies, if_pos (vpb_nI hb), q2, if_neg (nI_ge (show o < t by omega) (by omega)), if_neg (nI_ge (show o < t by omega) (by omega)), pk_sub c]
  · have c' : t < o := by omega
    have hm : ∀ i, i ≤ o - t → nI o + nI i * (-1) = nI (o - i) := by
      intro i hi
      have e : nI i * (-1) = -nI i := by rw [Int32.mul_neg, Int32.mul_one]
      rw [e, ← Int32.sub_eq_add_neg, pk_sub (by omega)]
    refine main (o - t) (fun i => o - i) (-1) (-1) 0 (by omega) rfl (Or.inl ⟨rfl, by omega⟩) hm hm (fun i hi => by show o - i < 8; omega) (fun k hk => ⟨by show o - k < 8; omega, Or.inl ⟨rfl, by show 0 < o - k; omega, by show o - (k + 1) = o - k - 1; omega⟩⟩) ?_ ?_
    · rw [g_X0_fly, if_pos (vpb_nI hb), q1, if_neg hne, e_holdAllD c' ho, nI_back c' (by omega)]
    · rw [g_X1_flies, if_pos (vpb_nI hb), q2, if_pos (nI_le (by omega) (by omega)), if_pos (nI_le (by omega) (by omega)), pk_sub (by omega)]
theorem fl_neg : ∀ k : Fin 8, (¬ (0 : Int32) ≤ 10 * -1 - nI k ∧ (10 * -1 - nI k) / 10 = -1) ∧ (¬ (0 : Int32) ≤ 10 * -2 - nI k ∧ (10 * -2 - nI k) / 10 = -2) ∧ (¬ (0 : Int32) ≤ 10 * -3 - nI k ∧ (10 * -3 - nI k) / 10 = -3) ∧ (¬ (0 : Int32) ≤ 10 * -4 - nI k ∧ (10 * -4 - nI k) / 10 = -4) := by decide +kernel
theorem P_flight {n : Nat} {X : cS} {Y : rS} (hn : n ≤ 600) (h : Cp n X Y) (a1 a2 : Int32) : opR [(xA, 1), (xN, 2), (xS, 3), (xU, 4), (xD, 5)] (g_X0_flight X a1 a2) (g_X1_flight Y a1 a2) (Cp (n + 1)) := by
  rw [g_X0_flight, g_X1_flight]
  rcases ck_boat a1 with ⟨b, hb, rfl, x1, y1⟩ | ⟨x1, y1⟩
  · rw [cV_of x1, cI_of y1, if_neg e10]
    rcases ck_pool a2 with ⟨t, ht, rfl, x2, y2⟩ | ⟨x2, y2⟩
    · rw [cV_of x2, cI_of y2, if_neg e10, if_pos (vpb_nI hb)]
      have hq : Y.2.2.2.2.1 b = X.2.2.2.2.2.1 b := h.2.2.2.2.1 b hb
      have q1 : X.2.2.2.2.2.1 (nI b).toNatClampNeg = X.2.2.2.2.2.1 b := by rw [cl_nI (show b < 2 ^ 31 by omega)]
      have q2 : Y.2.2.2.2.1 (nI b).toNatClampNeg = X.2.2.2.2.2.1 b := by rw [cl_nI (show b < 2 ^ 31 by omega)]; exact hq
      rcases h.2.2.2.2.2.1.1 b hb with c | ⟨o, ho, c⟩
      · have c1 : X.2.2.2.2.2.1 b = -1 := c
        have eF : g_X0_fly X (nI b) (nI t) = some (.inl (some (.int (-20))), X) := by
          rw [g_X0_fly, if_pos (vpb_nI hb), q1, c1, if_pos rfl]
        rw [q2, c1, if_pos rfl, if_neg n30, bI_of eF, if_neg (by decide), if_pos (by decide), show (-20 : Int32) / 10 = -2 from by decide, cI_ex an_2]
        refine opR_ex rfl rfl (c := 3) rfl (by decide) (by simp) ?_; exact Cp_s h
      · have c1 : X.2.2.2.2.2.1 b = nI o := c
        rw [q2, c1, if_neg (nI_neg1 o (by omega)), if_pos l00]
        have h0 : Coup 0 (9999 * n) X (Y.1, Y.2.1, Y.2.2.1, Y.2.2.2.1, Y.2.2.2.2.1, Y.2.2.2.2.2.1, Y.2.2.2.2.2.2.1, Y.2.2.2.2.2.2.2.1, 0, Y.2.2.2.2.2.2.2.2.2.1, Y.2.2.2.2.2.2.2.2.2.2.1, Y.2.2.2.2.2.2.2.2.2.2.2.1, Y.2.2.2.2.2.2.2.2.2.2.2.2.1, Y.2.2.2.2.2.2.2.2.2.2.2.2.2.1, Y.2.2.2.2.2.2.2.2.2.2.2.2.2.2) := h
        rcases s_fly (by omega) hb ho ht c h0 with ⟨X', Y', N, p1, p2, p3, p4, p5, p6⟩ | ⟨X', Y', r, k', p1, p2, p3, p4, p5, p6, p7, p8⟩
        · have p4' : Y'.2.2.2.2.2.2.2.2.2.2.2.2.2.2 = nI N := p4
          rw [bI_of p1, if_pos (nI_pos' (by omega)), cI_of (an_ok (by omega)), bI_of p2, if_neg e10, p4']
          exact opR_ok rfl rfl p6 (Cp_of p5 (by omega))
        · obtain ⟨f1, f2, f3, f4⟩ := fl_neg ⟨k', p4⟩
          rw [bI_of p1, bI_of p2, if_pos rfl]
          rcases p3 with rfl | rfl | rfl | rfl
          · rw [if_neg f1.1, if_pos (by decide), f1.2, cI_ex an_1, bI_of (told1 p5)]
            exact opR_ex rfl rfl (c := 2) rfl (by decide) (by simp) (Cp_of p7 (by omega))
          · rw [if_neg f2.1, if_pos (by decide), f2.2, cI_ex an_2, bI_of (told2 p5)]
            exact opR_ex rfl rfl (c := 3) rfl (by decide) (by simp) (Cp_of p7 (by omega))
          · rw [if_neg f3.1, if_pos (by decide), f3.2, cI_ex an_3, bI_of (told3 p5)]
            exact opR_ex rfl rfl (c := 4) rfl (by decide) (by simp) (Cp_of p7 (by omega))
          · rw [if_neg f4.1, if_pos (by decide), f4.2, cI_ex an_4, bI_of (told4 p5)]
            exact opR_ex rfl rfl (c := 5) rfl (by decide) (by simp) (Cp_of p7 (by omega))
    · rw [cV_ex x2, cI_of y2, if_pos rfl, if_neg n10]
      refine opR_ex rfl rfl (c := 1) rfl (by decide) (by simp) ?_; exact Cp_s h
  · rw [cV_ex x1, cI_of y1, if_pos rfl, if_neg n10]
    refine opR_ex rfl rfl (c := 1) rfl (by decide) (by simp) ?_; exact Cp_s h
theorem P_trip {n : Nat} {X : cS} {Y : rS} (hn : n ≤ 600) (h : Cp n X Y) (a1 a2 : Int32) : opR [(xA, 1)] (g_X0_trip X a1 a2) (g_X1_trip Y a1 a2) (Cp (n + 1)) := by
  rw [g_X0_trip, g_X1_trip]
  rcases ck_boat a1 with ⟨b, hb, rfl, x1, y1⟩ | ⟨x1, y1⟩
  · rw [cV_of x1, cI_of y1, if_neg e10]
    rcases ck_pool a2 with ⟨t, ht, rfl, x2, y2⟩ | ⟨x2, y2⟩
    · rw [cV_of x2, cI_of y2, if_neg e10, if_pos l00, if_pos (vpb_nI hb)]
      have hq : Y.2.2.2.2.1 b = X.2.2.2.2.2.1 b := h.2.2.2.2.1 b hb
      have q1 : X.2.2.2.2.2.1 (nI b).toNatClampNeg = X.2.2.2.2.2.1 b := by rw [cl_nI (show b < 2 ^ 31 by omega)]
      have q2 : Y.2.2.2.2.1 (nI b).toNatClampNeg = X.2.2.2.2.2.1 b := by rw [cl_nI (show b < 2 ^ 31 by omega)]; exact hq
      rcases h.2.2.2.2.2.1.1 b hb with c | ⟨o, ho, c⟩
      · have c1 : X.2.2.2.2.2.1 b = -1 := c
        have eF : g_X0_fly X (nI b) (nI t) = some (.inl (some (.int (-20))), X) := by
          rw [g_X0_fly, if_pos (vpb_nI hb), q1, c1, if_pos rfl]
        rw [q2, c1, if_pos rfl, bI_of eF]
        refine opR_ok rfl rfl rfl ?_; exact Cp_s h
      · have c1 : X.2.2.2.2.2.1 b = nI o := c
        rw [q2, c1, if_neg (nI_neg1 o (by omega))]
        have h0 : Coup 0 (9999 * n) X (Y.1, Y.2.1, Y.2.2.1, Y.2.2.2.1, Y.2.2.2.2.1, Y.2.2.2.2.2.1, Y.2.2.2.2.2.2.1, Y.2.2.2.2.2.2.2.1, 0, Y.2.2.2.2.2.2.2.2.2.1, Y.2.2.2.2.2.2.2.2.2.2.1, Y.2.2.2.2.2.2.2.2.2.2.2.1, Y.2.2.2.2.2.2.2.2.2.2.2.2.1, Y.2.2.2.2.2.2.2.2.2.2.2.2.2.1, Y.2.2.2.2.2.2.2.2.2.2.2.2.2.2) := h
        rcases s_fly (by omega) hb ho ht c h0 with ⟨X', Y', N, p1, p2, p3, p4, p5, p6⟩ | ⟨X', Y', r, k', p1, p2, p3, p4, p5, p6, p7, p8⟩
        · have p4' : Y'.2.2.2.2.2.2.2.2.2.2.2.2.2.2 = nI N := p4
          rw [bI_of p1, bI_of p2, if_neg e10, p4']
          exact opR_ok rfl rfl p6 (Cp_of p5 (by omega))
        · have p5' : Y'.2.2.2.2.2.2.2.2.2.2.2.2.1 = r := p5
          have p6' : Y'.2.2.2.2.2.2.2.2.2.2.2.2.2.2 = nI k' := p6
          have e9 : (-10 : Int32) * r = 10 * -r := by rcases p3 with rfl | rfl | rfl | rfl <;> decide
          rw [bI_of p1, bI_of p2, if_pos rfl, p5', p6', e9]
          exact opR_ok rfl rfl p8 (Cp_of p7 (by omega))
    · rw [cV_ex x2, cI_of y2, if_pos rfl, if_neg n10]
      refine opR_ex rfl rfl (c := 1) rfl (by decide) (by simp) ?_; exact Cp_s h
  · rw [cV_ex x1, cI_of y1, if_pos rfl, if_neg n10]
    refine opR_ex rfl rfl (c := 1) rfl (by decide) (by simp) ?_; exact Cp_s h
