/-! THE CALLS: share -/
theorem nsum_mono (g : Nat → Nat) {k k' : Nat} (h : k ≤ k') : nsum g k ≤ nsum g k' := by
  induction k' with
  | zero => obtain rfl : k = 0 := by omega
            exact Nat.le_refl _
  | succ k' ih =>
    rw [nsum]
    by_cases e : k = k' + 1
    · subst e; rw [nsum]; exact Nat.le_refl _
    · have := ih (by omega); omega
theorem nsum_shift (g : Nat → Nat) (a : Nat) : ∀ m, nsum (fun k => g (a + k)) m ≤ nsum g (a + m) := by
  intro m
  induction m with
  | zero => exact Nat.zero_le _
  | succ m ih => rw [nsum, ← Nat.add_assoc, nsum]; omega
theorem rs_nI {f : Nat → Int32} {g : Nat → Nat} (a : Nat) : ∀ (m i : Nat), (∀ k, k < i + m → f (a + k) = nI (g (a + k))) → rs f m (a + i) (nI (nsum (fun k => g (a + k)) i)) = nI (nsum (fun k => g (a + k)) (i + m)) := by
  intro m
  induction m with
  | zero => intro i _; rfl
  | succ m ih =>
    intro i h
    rw [rs, h i (by omega), nI_add]
    have h9 := ih (i + 1) (fun k hk => h k (by omega))
    rw [nsum] at h9
    rw [show a + i + 1 = a + (i + 1) by omega, h9, show i + (m + 1) = i + 1 + m by omega]
/-- the reference's holding loop, beside the class's -/
theorem l_holdS {B a N : Nat} (haN : a + N < 8) : ∀ (m f f' i : Nat) (aw aa : Int32) (X : cS) (Y : rS), i + m = N + 1 → m < f → m < f' → Coup i B X Y →
    (∃ X' Y', g_X0_holdAll_24 f X (nI a) (nI (a + N)) 1 (nI (N + 1)) (nI i) = some (.inl (some (.int 1)), X') ∧ g_X1_share_49 f' Y (nI a) (nI (a + N)) aw aa (nI (a + i)) = g_X1_share_107 mK Y' (nI a) (nI (a + N)) (rs (xW X) m (a + i) aw) (rs (xa X) m (a + i) aa) (rs (xW X) m (a + i) aw) (nI a) ∧ Coup (N + 1) B X' Y' ∧ kp X X' Y Y' ∧ xW X' = xW X ∧ (∀ k, i ≤ k → k ≤ N → ¬ xa X (a + k) = 0)) ∨
    (∃ X1 X' Y', g_X0_holdAll_24 f X (nI a) (nI (a + N)) 1 (nI (N + 1)) (nI i) = some (.inl (some (.int 0)), X1) ∧ g_X0_failing X1 1 = some (.inl (some (.int (-1))), X') ∧ g_X1_share_49 f' Y (nI a) (nI (a + N)) aw aa (nI (a + i)) = some (.inl (some (.int 0)), Y') ∧ Coup 0 B X' Y' ∧ yT Y' = 3) := by
  intro m
  induction m with
  | zero =>
    intro f f' i aw aa X Y hi hf hf' h
    obtain ⟨f, rfl⟩ : ∃ g, f = g + 1 := ⟨f - 1, by omega⟩
    obtain ⟨f', rfl⟩ : ∃ g, f' = g + 1 := ⟨f' - 1, by omega⟩
    obtain rfl : i = N + 1 := by omega
    rw [g_X0_holdAll_24, g_X1_share_49, if_pos (nI_le (Nat.le_refl _) (by omega)), if_pos (nI_lt (show a + N < a + (N + 1) by omega) (by omega))]
    exact Or.inl ⟨X, Y, rfl, rfl, h, ⟨rfl, rfl, rfl, rfl⟩, rfl, fun k h1 h2 => absurd h1 (by omega)⟩
  | succ m ih =>
    intro f f' i aw aa X Y hi hf hf' h
    obtain ⟨f, rfl⟩ : ∃ g, f = g + 1 := ⟨f - 1, by omega⟩
    obtain ⟨f', rfl⟩ : ∃ g, f' = g + 1 := ⟨f' - 1, by omega⟩
    have hp8 : a + i < 8 := by omega
    rw [g_X0_holdAll_24, g_X1_share_49, if_neg (nI_ge (show i < N + 1 by omega) (by omega)), if_neg (nI_nlt (show a + i ≤ a + N by omega) (by omega)), Int32.mul_one, nI_add, nI_1, nI_1]
    rcases s_hold (j := a + i) (by omega) hp8 h with ⟨_, x1, X1, Y1, x2, y1, h1, hF, k1⟩ | ⟨d1, X1, Y1, x1, y1, h1, k1, w1⟩
    · rw [bI_of x1, if_pos rfl, bI_of y1, if_pos rfl, bI_of (told1 hF)]
      exact Or.inr ⟨X, X1, _, rfl, x2, rfl, h1, rfl⟩
    · rw [bI_of x1, if_neg e10, bI_of y1, if_neg e10, if_pos (vpb_nI hp8), if_pos (vpb_nI hp8), cl_nI (show a + i < 2 ^ 31 by omega)]
      have d1' : ¬ xa X1 (a + i) = 0 := by rw [k1.2.2.2]; exact d1
      obtain ⟨eA, eW⟩ : Y1.2.1 (a + i) = xa X (a + i) ∧ Y1.2.2.1 (a + i) = xW X (a + i) := by
        rcases h1.1 (a + i) hp8 with ⟨b1, _⟩ | ⟨_, _, b3, b4, _⟩
        · exact absurd b1 d1'
        · exact ⟨b3.trans (congrFun k1.2.2.2 _), b4.trans (congrFun w1 _)⟩
      rw [eA, eW]
      rcases ih f f' (i + 1) (aw + xW X (a + i)) (aa + xa X (a + i)) X1 Y1 (by omega) (by omega) (by omega) h1 with ⟨X', Y', q1, q2, q3, q4, q5, q6⟩ | ⟨X9, X', Y', q1, q2, q3, q4, q5⟩
      · rw [w1, k1.2.2.2] at q2
        refine Or.inl ⟨X', Y', q1, q2, q3, kp_tr k1 q4, q5.trans w1, fun k hk1 hk2 => ?_⟩
        by_cases e : k = i
        · subst e; exact d1
        · have := q6 k (by omega) hk2
          rw [k1.2.2.2] at this
          exact this
      · exact Or.inr ⟨X9, X', Y', q1, q2, q3, q4, q5⟩
theorem s_portion {r A W : Nat} (hr : r ≤ 9) (hA : 1 ≤ A ∧ A < 1000) (hW : W < 2 ^ 26) : g_X0_portion (nI r) (nI W) (nI A) = some (.inl (some (.int (nI (r * W / A))))) ∧ nI r * nI W / nI A = nI (r * W / A) := by
  have hm : r * W < 2 ^ 31 := by
    have : r * W ≤ 9 * W := Nat.mul_le_mul_right _ hr
    omega
  constructor
  · rw [g_X0_portion, if_neg (show ¬ nI A ≤ 0 from q_nle A 0 (by omega)), nI_l (show A < 2 ^ 31 by omega), nI_l (show r < 2 ^ 31 by omega), nI_l (show W < 2 ^ 31 by omega), if_pos, lN_mul, pk_lDiv (by omega) (by omega) (by omega), lN_i]
    intro e
    have := (pk_lEQ (a := A) (b := 0) (by omega) (by omega)).mp e
    omega
  · rw [pk_mul, pk_div hm (by omega) (by omega)]
theorem l_share {B a N W A : Nat} {ar gw0 : Nat → Nat} (hB : B < 2 ^ 24) (haN : a + N < 8) (hWB : W ≤ B) (hA : A = nsum (fun k => ar (a + k)) (N + 1)) (hA1 : 1 ≤ A ∧ A < 1000) (hW : W = nsum (fun k => gw0 (a + k)) (N + 1)) (hs0 : nsum gw0 8 ≤ B) :
    ∀ (m f f' i : Nat) (gw : Nat → Nat) (S : Nat) (X : cS) (Y : rS), i + m = N + 1 → m < f → m < f' → Coup (N + 1) (B + W) X Y → (∀ k, k < 8 → xW X k = nI (gw k)) → (∀ k, k ≤ N → ¬ xa X (a + k) = 0 ∧ xa X (a + k) = nI (ar (a + k)) ∧ ar (a + k) ≤ 9) → (∀ k, a + i ≤ k → gw k = gw0 k) →
      nsum gw 8 + nsum (fun k => gw0 (a + k)) i = nsum gw0 8 + S → S * A ≤ nsum (fun k => ar (a + k)) i * W → S ≤ W →
    ∃ X' Y' v, g_X0_shareOut_42 f X (nI a) (nI (a + N)) (nI W) (nI A) (nI (W - S)) (nI (a + i)) = some (.inl (some (.int (nI v))), X') ∧ g_X1_share_107 f' Y (nI a) (nI (a + N)) (nI W) (nI A) (nI (W - S)) (nI (a + i)) = some (.inl (some (.int (nI v))), Y') ∧ v ≤ B ∧ Coup 0 B X' Y' ∧ yT Y' = yT Y := by
  intro m
  induction m with
  | zero =>
    intro f f' i gw S X Y hi hf hf' h hgw har hg0 hsum hSA hSW
    obtain ⟨f, rfl⟩ : ∃ g, f = g + 1 := ⟨f - 1, by omega⟩
    obtain ⟨f', rfl⟩ : ∃ g, f' = g + 1 := ⟨f' - 1, by omega⟩
    obtain rfl : i = N + 1 := by omega
    have ha8 : a < 8 := by omega
    have hd := (har 0 (Nat.zero_le _)).1
    rw [Nat.add_zero] at hd
    have ew : X.2.1 a = nI (gw a) := hgw a ha8
    have ev : Y.2.2.1 a = nI (gw a) := by
      rcases h.1 a ha8 with ⟨b1, _⟩ | ⟨_, _, _, b4, _⟩
      · exact absurd b1 hd
      · exact b4.trans ew
    have hC : Coup (0 + (N + 1)) B (X.1, upd (X.2.1) a (nI (gw a + (W - S))), X.2.2.1, X.2.2.2.1, X.2.2.2.2.1, X.2.2.2.2.2.1, X.2.2.2.2.2.2.1, X.2.2.2.2.2.2.2.1, X.2.2.2.2.2.2.2.2.1, X.2.2.2.2.2.2.2.2.2) (Y.1, Y.2.1, upd (Y.2.2.1) a (nI (gw a + (W - S))), Y.2.2.2.1, Y.2.2.2.2.1, Y.2.2.2.2.2.1, Y.2.2.2.2.2.2.1, Y.2.2.2.2.2.2.2.1, Y.2.2.2.2.2.2.2.2.1, Y.2.2.2.2.2.2.2.2.2.1, Y.2.2.2.2.2.2.2.2.2.2.1, Y.2.2.2.2.2.2.2.2.2.2.2.1, Y.2.2.2.2.2.2.2.2.2.2.2.2.1, Y.2.2.2.2.2.2.2.2.2.2.2.2.2.1, Y.2.2.2.2.2.2.2.2.2.2.2.2.2.2) := by
      rw [Nat.zero_add]
      exact Coup_set (x := gw a + (W - S)) (Y.2.2.2.2.2.2.2.2.2.2.2.2.2.1) h hgw ha8 hd (by omega) (fun k _ => rfl) (fun k _ => rfl)
    have hv : gw a + (W - S) ≤ B := by
      have := nsum_le (f := gw) 8 a ha8
      omega
    have em : nI (a + N) - nI a + 1 = nI (N + 1) := by rw [pk_sub (by omega), nI_1]; exact congrArg nI (by omega)
    rw [g_X0_shareOut_42, g_X1_share_107, if_pos (nI_lt (show a + N < a + (N + 1) by omega) (by omega)), if_pos (nI_lt (show a + N < a + (N + 1) by omega) (by omega)), em]
    simp only [if_pos (vpb_nI ha8), cl_nI (show a < 2 ^ 31 by omega)]
    rw [ew, ev, nI_add, bV_of (e_leaveX (dn := 0) (m := N + 1) (x := nI (N + 1)) rfl (by omega) hC.2.2.2.2.2.2.2.2.1), bV_of (e_leaveY (dn := 0) (m := N + 1) (x := nI (N + 1)) rfl (by omega) hC.2.2.2.2.2.2.2.2.2.1)]
    have e1 : upd (X.2.1) a (nI (gw a + (W - S))) a = nI (gw a + (W - S)) := pk_us
    have e2 : upd (Y.2.2.1) a (nI (gw a + (W - S))) a = nI (gw a + (W - S)) := pk_us
    have hC2 := Coup_leave (dn := 0) (m := N + 1) hC
    refine ⟨_, _, gw a + (W - S), ?_, ?_, hv, hC2, rfl⟩
    · dsimp only; rw [e1]
    · dsimp only; rw [e2]
  | succ m ih =>
    intro f f' i gw S X Y hi hf hf' h hgw har hg0 hsum hSA hSW
    obtain ⟨f, rfl⟩ : ∃ g, f = g + 1 := ⟨f - 1, by omega⟩
    obtain ⟨f', rfl⟩ : ∃ g, f' = g + 1 := ⟨f' - 1, by omega⟩
    have hp8 : a + i < 8 := by omega
    obtain ⟨hd, ha9, hr9⟩ := har i (by omega)
    obtain ⟨p1, p2⟩ := s_portion hr9 hA1 (show W < 2 ^ 26 by omega)
    have eax : X.1 (nI (a + i)).toNatClampNeg = nI (ar (a + i)) := by rw [cl_nI (show a + i < 2 ^ 31 by omega)]; exact ha9
    have eay : Y.2.1 (nI (a + i)).toNatClampNeg = nI (ar (a + i)) := by
      rw [cl_nI (show a + i < 2 ^ 31 by omega)]
      rcases h.1 (a + i) hp8 with ⟨b1, _⟩ | ⟨_, _, b3, _⟩
      · exact absurd b1 hd
      · exact b3.trans ha9
    have hAn : ¬ nI A = 0 := nI_ne0 hA1.1 (by omega)
    rw [g_X0_shareOut_42, g_X1_share_107, if_neg (nI_nlt (show a + i ≤ a + N by omega) (by omega)), if_neg (nI_nlt (show a + i ≤ a + N by omega) (by omega))]
    simp only [if_pos (vpb_nI hp8)]
    rw [eax, eay, cI_of p1, p2, if_pos hAn, cl_nI (show a + i < 2 ^ 31 by omega), pk_us, pk_us, nI_1]
    have hnext : (S + ar (a + i) * W / A) * A ≤ nsum (fun k => ar (a + k)) (i + 1) * W := by
      rw [nsum, Nat.add_mul, Nat.add_mul]
      exact Nat.add_le_add hSA (Nat.div_mul_le_self _ _)
    have hSW' : S + ar (a + i) * W / A ≤ W := by
      have h1 : nsum (fun k => ar (a + k)) (i + 1) ≤ A := by rw [hA]; exact nsum_mono _ (by omega)
      have h2 : (S + ar (a + i) * W / A) * A ≤ A * W := Nat.le_trans hnext (Nat.mul_le_mul_right _ h1)
      rw [Nat.mul_comm A W] at h2
      exact Nat.le_of_mul_le_mul_right h2 (by omega)
    rw [pk_sub (show ar (a + i) * W / A ≤ W - S by omega), show W - S - ar (a + i) * W / A = W - (S + ar (a + i) * W / A) by omega]
    have hupd := nsum_upd gw (a + i) (ar (a + i) * W / A) 8
    rw [if_pos hp8, if_pos hp8, hg0 (a + i) (Nat.le_refl _)] at hupd
    have hsum' : nsum (updN gw (a + i) (ar (a + i) * W / A)) 8 + nsum (fun k => gw0 (a + k)) (i + 1) = nsum gw0 8 + (S + ar (a + i) * W / A) := by
      rw [show nsum (fun k => gw0 (a + k)) (i + 1) = nsum (fun k => gw0 (a + k)) i + gw0 (a + i) from rfl]; omega
    have hO : nsum (fun k => gw0 (a + k)) (i + 1) ≤ W := by rw [hW]; exact nsum_mono _ (by omega)
    have hC : Coup (N + 1) (B + W) (X.1, upd (X.2.1) (a + i) (nI (ar (a + i) * W / A)), X.2.2.1, X.2.2.2.1, X.2.2.2.2.1, X.2.2.2.2.2.1, X.2.2.2.2.2.2.1, X.2.2.2.2.2.2.2.1, X.2.2.2.2.2.2.2.2.1, X.2.2.2.2.2.2.2.2.2) (Y.1, Y.2.1, upd (Y.2.2.1) (a + i) (nI (ar (a + i) * W / A)), Y.2.2.2.1, Y.2.2.2.2.1, Y.2.2.2.2.2.1, Y.2.2.2.2.2.2.1, Y.2.2.2.2.2.2.2.1, Y.2.2.2.2.2.2.2.2.1, Y.2.2.2.2.2.2.2.2.2.1, Y.2.2.2.2.2.2.2.2.2.2.1, Y.2.2.2.2.2.2.2.2.2.2.2.1, Y.2.2.2.2.2.2.2.2.2.2.2.2.1, Y.2.2.2.2.2.2.2.2.2.2.2.2.2.1, Y.2.2.2.2.2.2.2.2.2.2.2.2.2.2) :=
      Coup_set (x := ar (a + i) * W / A) (Y.2.2.2.2.2.2.2.2.2.2.2.2.2.1) h hgw hp8 hd (by rw [hg0 (a + i) (Nat.le_refl _)]; omega) (fun k _ => rfl) (fun k _ => rfl)
    have := ih f f' (i + 1) (updN gw (a + i) (ar (a + i) * W / A)) (S + ar (a + i) * W / A) _ _ (by omega) (by omega) (by omega) hC (wat_upd hgw) har (fun k hk => by
      have e : updN gw (a + i) (ar (a + i) * W / A) k = gw k := if_neg (by omega)
      rw [e]; exact hg0 k (by omega)) hsum' hnext hSW'
    exact this
theorem P_share {n : Nat} {X : cS} {Y : rS} (hn : n ≤ 600) (h : Cp n X Y) (a1 a2 : Int32) : opR [(xA, 1), (xI, 2), (xN, 3)] (g_X0_share X a1 a2) (g_X1_share Y a1 a2) (Cp (n + 1)) := by
  have hK := mK_gt
  rw [g_X0_share, g_X1_share]
  rcases ck_pool a1 with ⟨a, ha, rfl, x1, y1⟩ | ⟨x1, y1⟩
  · rw [cV_of x1, cI_of y1, if_neg e10]
    rcases ck_pool a2 with ⟨t, ht, rfl, x2, y2⟩ | ⟨x2, y2⟩
    · rw [cV_of x2, cI_of y2, if_neg e10]
      by_cases c : a ≤ t
      · obtain ⟨N, rfl⟩ : ∃ N, t = a + N := ⟨t - a, by omega⟩
        rw [if_pos (nI_le c (by omega)), if_pos (nI_le c (by omega)), if_pos l00, g_X0_shareOut, e_holdAllU c ht, show a + N - a + 1 = N + 1 by omega]
        have h0 : Coup 0 (9999 * n) X (Y.1, Y.2.1, Y.2.2.1, Y.2.2.2.1, Y.2.2.2.2.1, Y.2.2.2.2.2.1, Y.2.2.2.2.2.2.1, Y.2.2.2.2.2.2.2.1, 0, Y.2.2.2.2.2.2.2.2.2.1, Y.2.2.2.2.2.2.2.2.2.2.1, Y.2.2.2.2.2.2.2.2.2.2.2.1, Y.2.2.2.2.2.2.2.2.2.2.2.2.1, Y.2.2.2.2.2.2.2.2.2.2.2.2.2.1, Y.2.2.2.2.2.2.2.2.2.2.2.2.2.2) := h
        rcases l_holdS ht (N + 1) mK mK 0 0 0 X (Y.1, Y.2.1, Y.2.2.1, Y.2.2.2.1, Y.2.2.2.2.1, Y.2.2.2.2.2.1, Y.2.2.2.2.2.2.1, Y.2.2.2.2.2.2.2.1, 0, Y.2.2.2.2.2.2.2.2.2.1, Y.2.2.2.2.2.2.2.2.2.2.1, Y.2.2.2.2.2.2.2.2.2.2.2.1, Y.2.2.2.2.2.2.2.2.2.2.2.2.1, Y.2.2.2.2.2.2.2.2.2.2.2.2.2.1, Y.2.2.2.2.2.2.2.2.2.2.2.2.2.2) (by omega) (by omega) (by omega) h0 with ⟨X1, Y1, p1, p2, p3, p4, p5, p6⟩ | ⟨X9, X1, Y1, p1, p2, p3, p4, p5⟩
        · have p1' : g_X0_holdAll_24 mK X (nI a) (nI (a + N)) 1 (nI (N + 1)) 0 = some (.inl (some (.int 1)), X1) := p1
          rw [bI_of p1', if_neg e10]
          obtain ⟨gw, hgw, hs⟩ := p3.2.1
          have hxa : xa X1 = xa X := p4.2.2.2
          -- areas as numbers
          have har : ∀ k, k ≤ N → ¬ xa X1 (a + k) = 0 ∧ xa X1 (a + k) = nI ((xa X1 (a + k)).toNatClampNeg) ∧ (1 ≤ (xa X1 (a + k)).toNatClampNeg ∧ (xa X1 (a + k)).toNatClampNeg ≤ 9) := by
            intro k hk
            have hd : ¬ xa X1 (a + k) = 0 := by rw [hxa]; exact p6 k (by omega) hk
            rcases p3.1 (a + k) (by omega) with ⟨b1, _⟩ | ⟨⟨m, m1, m2, b1⟩, _⟩
            · exact absurd b1 hd
            · refine ⟨hd, ?_⟩
              rw [b1, cl_nI (show m < 2 ^ 31 by omega)]
              exact ⟨rfl, m1, m2⟩
          have eS := l_sumX (X1.2.1) ht (N + 1) mK a 0 (by omega) (by omega)
          have eA := l_sumX (X1.1) ht (N + 1) mK a 0 (by omega) (by omega)
          have em : (if (0 : Int32) < nI a then nI a else 0) = nI a := by
            by_cases z : a = 0
            · subst z; rw [if_neg (by decide)]; rfl
            · exact if_pos (q_lt 0 a (by omega))
          have eS' : g_X0_sum (X1.2.1) 8 (nI a) (nI (a + N)) = some (.inl (some (.int (rs (X1.2.1) (N + 1) a 0)))) := by
            rw [g_X0_sum, em]; exact eS
          have eA' : g_X0_sum (X1.1) 8 (nI a) (nI (a + N)) = some (.inl (some (.int (rs (X1.1) (N + 1) a 0)))) := by
            rw [g_X0_sum, em]; exact eA
          have r1 : rs (X1.2.1) (N + 1) a 0 = nI (nsum (fun k => gw (a + k)) (N + 1)) := by
            have := rs_nI (f := X1.2.1) (g := gw) a (N + 1) 0 (fun k hk => hgw (a + k) (by omega))
            rw [Nat.zero_add] at this
            exact this
          have r2 : rs (X1.1) (N + 1) a 0 = nI (nsum (fun k => (xa X1 (a + k)).toNatClampNeg) (N + 1)) := by
            have := rs_nI (f := X1.1) (g := fun k => (xa X1 k).toNatClampNeg) a (N + 1) 0 (fun k hk => (har k (by omega)).2.1)
            rw [Nat.zero_add] at this
            exact this
          rw [cI_of eS', cI_of eA', r1, r2]
          have p2' : g_X1_share_49 mK (Y.1, Y.2.1, Y.2.2.1, Y.2.2.2.1, Y.2.2.2.2.1, Y.2.2.2.2.2.1, Y.2.2.2.2.2.2.1, Y.2.2.2.2.2.2.2.1, 0, Y.2.2.2.2.2.2.2.2.2.1, Y.2.2.2.2.2.2.2.2.2.2.1, Y.2.2.2.2.2.2.2.2.2.2.2.1, Y.2.2.2.2.2.2.2.2.2.2.2.2.1, Y.2.2.2.2.2.2.2.2.2.2.2.2.2.1, Y.2.2.2.2.2.2.2.2.2.2.2.2.2.2) (nI a) (nI (a + N)) 0 0 (nI a) = _ := p2
          rw [p2', ← p5, ← hxa, show rs (xW X1) (N + 1) (a + 0) 0 = _ from r1, show rs (xa X1) (N + 1) (a + 0) 0 = _ from r2]
          have hW9 : nsum (fun k => gw (a + k)) (N + 1) ≤ 9999 * n := Nat.le_trans (nsum_shift gw a (N + 1)) (Nat.le_trans (nsum_mono gw (by omega)) hs)
          have hA9 : ∀ m, m ≤ N + 1 → m ≤ nsum (fun k => (xa X1 (a + k)).toNatClampNeg) m ∧ nsum (fun k => (xa X1 (a + k)).toNatClampNeg) m ≤ 9 * m := by
            intro m
            induction m with
            | zero => intro _; exact ⟨Nat.le_refl _, Nat.le_refl _⟩
            | succ m ih =>
              intro hm
              have h1 := ih (by omega)
              have h2 := (har m (by omega)).2.2
              rw [nsum]
              omega
          have hA1 := hA9 (N + 1) (Nat.le_refl _)
          obtain ⟨X', Y', v, z1, z2, z3, z4, z5⟩ := l_share (B := 9999 * n) (a := a) (N := N) (W := nsum (fun k => gw (a + k)) (N + 1)) (A := nsum (fun k => (xa X1 (a + k)).toNatClampNeg) (N + 1)) (ar := fun k => (xa X1 k).toNatClampNeg) (gw0 := gw) (by omega) ht hW9 rfl (by omega) rfl hs (N + 1) mK mK 0 gw 0 X1 Y1 (by omega) (by omega) (by omega) (Coup_mono p3 (by omega)) hgw (fun k hk => ⟨(har k hk).1, (har k hk).2.1, (har k hk).2.2.2⟩) (fun _ _ => rfl) rfl (by rw [Nat.zero_mul]; exact Nat.zero_le _) (Nat.zero_le _)
          simp only [Nat.sub_zero, Nat.add_zero] at z1 z2
          rw [bI_of z1, z2, cI_of (an_ok (by omega))]
          exact opR_ok rfl rfl (z5.trans p4.1) (Cp_of z4 (by omega))
        · have p1' : g_X0_holdAll_24 mK X (nI a) (nI (a + N)) 1 (nI (N + 1)) 0 = some (.inl (some (.int 0)), X9) := p1
          have p3' : g_X1_share_49 mK (Y.1, Y.2.1, Y.2.2.1, Y.2.2.2.1, Y.2.2.2.2.1, Y.2.2.2.2.2.1, Y.2.2.2.2.2.2.1, Y.2.2.2.2.2.2.2.1, 0, Y.2.2.2.2.2.2.2.2.2.1, Y.2.2.2.2.2.2.2.2.2.2.1, Y.2.2.2.2.2.2.2.2.2.2.2.1, Y.2.2.2.2.2.2.2.2.2.2.2.2.1, Y.2.2.2.2.2.2.2.2.2.2.2.2.2.1, Y.2.2.2.2.2.2.2.2.2.2.2.2.2.2) (nI a) (nI (a + N)) 0 0 (nI a) = _ := p3
          rw [bI_of p1', if_pos rfl, bI_of p2, bI_of rfl, cI_ex an_1, p3']
          exact opR_ex rfl rfl (c := 3) p5 (by decide) (by simp) (Cp_of p4 (by omega))
      · rw [if_neg (nI_ge (show t < a by omega) (by omega)), if_neg (nI_ge (show t < a by omega) (by omega)), if_neg n20]
        refine opR_ex rfl rfl (c := 2) rfl (by decide) (by simp) ?_; exact Cp_s h
    · rw [cV_ex x2, cI_of y2, if_pos rfl, if_neg n10]
      refine opR_ex rfl rfl (c := 1) rfl (by decide) (by simp) ?_; exact Cp_s h
  · rw [cV_ex x1, cI_of y1, if_pos rfl, if_neg n10]
    refine opR_ex rfl rfl (c := 1) rfl (by decide) (by simp) ?_; exact Cp_s h
