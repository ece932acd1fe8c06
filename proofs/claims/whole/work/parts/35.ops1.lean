/-! THE CALLS: dig, pour, boat, gate, level, pass, pool, where -/
theorem n10 : ¬ (1 : Int32) ≤ 0 := by decide
theorem n20 : ¬ (2 : Int32) ≤ 0 := by decide
theorem n30 : ¬ (3 : Int32) ≤ 0 := by decide
theorem l00 : (0 : Int32) ≤ 0 := by decide
theorem opR_ok {exs : List (String × Int32)} {rx : Option (mO × cS)} {ry : Option (mO × rS)} {Q : cS → rS → Prop} {b : Int32} {X' : cS} {Y' : rS} (hx : rx = some (.inl (some (.int b)), X')) (hy : ry = some (.inl (some (.int b)), Y')) (ht : yT Y' = 0) (hQ : Q X' Y') : opR exs rx ry Q := ⟨0, b, X', Y', hy, ht, hQ, Or.inl ⟨rfl, hx⟩⟩
theorem opR_ex {exs : List (String × Int32)} {rx : Option (mO × cS)} {ry : Option (mO × rS)} {Q : cS → rS → Prop} {b c : Int32} {E : String} {X' : cS} {Y' : rS} (hx : rx = some (.inr E, X')) (hy : ry = some (.inl (some (.int b)), Y')) (ht : yT Y' = c) (hc : ¬ c = 0) (hm : (E, c) ∈ exs) (hQ : Q X' Y') : opR exs rx ry Q := ⟨c, b, X', Y', hy, ht, hQ, Or.inr ⟨E, c, hm, rfl, hc, hx⟩⟩
theorem Cp_s {n : Nat} {X : cS} {Y : rS} (h : Cp n X Y) : Cp (n + 1) X Y := Coup_mono h (by omega)
theorem Cp_of {n B : Nat} {X : cS} {Y : rS} (h : Coup 0 B X Y) (hB : B ≤ 9999 * (n + 1)) : Cp (n + 1) X Y := Coup_mono h hB
theorem an_ok {k : Nat} (h : k < 2 ^ 31) : g_X0_answered (nI k) = some (.inl (some (.int (nI k)))) := by
  have h9 : ∀ (z : Int32), z.toInt < 0 → ¬ nI k = z := by
    intro z hz e
    have := congrArg Int32.toInt e
    rw [nI_toInt h] at this
    omega
  rw [g_X0_answered, if_neg (h9 _ (by decide)), if_neg (h9 _ (by decide)), if_neg (h9 _ (by decide)), if_neg (h9 _ (by decide))]
theorem an_1 : g_X0_answered (-1) = some (.inr xN) := by decide
theorem an_2 : g_X0_answered (-2) = some (.inr xS) := by decide
theorem an_3 : g_X0_answered (-3) = some (.inr xU) := by decide
theorem an_4 : g_X0_answered (-4) = some (.inr xD) := by decide
section TO
variable {Y : rS} {a1 a2 a3 a4 : Int32}
theorem told1 (h : yF Y = 1) : g_X1_told Y a1 a2 a3 a4 = some (.inl (some (.int 0)), (Y.1, Y.2.1, Y.2.2.1, Y.2.2.2.1, Y.2.2.2.2.1, Y.2.2.2.2.2.1, Y.2.2.2.2.2.2.1, Y.2.2.2.2.2.2.2.1, a1, Y.2.2.2.2.2.2.2.2.2.1, Y.2.2.2.2.2.2.2.2.2.2.1, Y.2.2.2.2.2.2.2.2.2.2.2.1, Y.2.2.2.2.2.2.2.2.2.2.2.2.1, Y.2.2.2.2.2.2.2.2.2.2.2.2.2.1, Y.2.2.2.2.2.2.2.2.2.2.2.2.2.2)) := by
  have h1 : Y.2.2.2.2.2.2.2.2.2.2.2.2.1 = 1 := h
  rw [g_X1_told, h1, if_pos rfl]
theorem told2 (h : yF Y = 2) : g_X1_told Y a1 a2 a3 a4 = some (.inl (some (.int 0)), (Y.1, Y.2.1, Y.2.2.1, Y.2.2.2.1, Y.2.2.2.2.1, Y.2.2.2.2.2.1, Y.2.2.2.2.2.2.1, Y.2.2.2.2.2.2.2.1, a2, Y.2.2.2.2.2.2.2.2.2.1, Y.2.2.2.2.2.2.2.2.2.2.1, Y.2.2.2.2.2.2.2.2.2.2.2.1, Y.2.2.2.2.2.2.2.2.2.2.2.2.1, Y.2.2.2.2.2.2.2.2.2.2.2.2.2.1, Y.2.2.2.2.2.2.2.2.2.2.2.2.2.2)) := by
  have h1 : Y.2.2.2.2.2.2.2.2.2.2.2.2.1 = 2 := h
  rw [g_X1_told, h1, if_neg (by decide), if_pos rfl]
theorem told3 (h : yF Y = 3) : g_X1_told Y a1 a2 a3 a4 = some (.inl (some (.int 0)), (Y.1, Y.2.1, Y.2.2.1, Y.2.2.2.1, Y.2.2.2.2.1, Y.2.2.2.2.2.1, Y.2.2.2.2.2.2.1, Y.2.2.2.2.2.2.2.1, a3, Y.2.2.2.2.2.2.2.2.2.1, Y.2.2.2.2.2.2.2.2.2.2.1, Y.2.2.2.2.2.2.2.2.2.2.2.1, Y.2.2.2.2.2.2.2.2.2.2.2.2.1, Y.2.2.2.2.2.2.2.2.2.2.2.2.2.1, Y.2.2.2.2.2.2.2.2.2.2.2.2.2.2)) := by
  have h1 : Y.2.2.2.2.2.2.2.2.2.2.2.2.1 = 3 := h
  rw [g_X1_told, h1, if_neg (by decide), if_neg (by decide), if_pos rfl]
theorem told4 (h : yF Y = 4) : g_X1_told Y a1 a2 a3 a4 = some (.inl (some (.int 0)), (Y.1, Y.2.1, Y.2.2.1, Y.2.2.2.1, Y.2.2.2.2.1, Y.2.2.2.2.2.1, Y.2.2.2.2.2.2.1, Y.2.2.2.2.2.2.2.1, a4, Y.2.2.2.2.2.2.2.2.2.1, Y.2.2.2.2.2.2.2.2.2.2.1, Y.2.2.2.2.2.2.2.2.2.2.2.1, Y.2.2.2.2.2.2.2.2.2.2.2.2.1, Y.2.2.2.2.2.2.2.2.2.2.2.2.2.1, Y.2.2.2.2.2.2.2.2.2.2.2.2.2.2)) := by
  have h1 : Y.2.2.2.2.2.2.2.2.2.2.2.2.1 = 4 := h
  rw [g_X1_told, h1, if_neg (by decide), if_neg (by decide), if_neg (by decide)]
end TO
theorem nb0 : vp_nar .boolean 0 = 0 := by decide
theorem nb1 : vp_nar .boolean 1 = 1 := by decide
theorem dg_iff {X : cS} {Y : rS} (hp : pools X Y) {j : Nat} (hj : j < 8) : yD Y j = 0 ↔ xa X j = 0 := by
  rcases hp j hj with ⟨a1, _, _, a4⟩ | ⟨⟨m, m1, m2, a1⟩, a2, _⟩
  · exact ⟨fun _ => a1, fun _ => a4⟩
  · constructor
    · intro e; exact absurd (a2.symm.trans e) e10
    · intro e; exact absurd (a1.symm.trans e) (nI_ne0 m1 (by omega))
theorem P_dig {n : Nat} {X : cS} {Y : rS} (hn : n ≤ 600) (h : Cp n X Y) (a1 a2 : Int32) : opR [(xA, 1), (xI, 2)] (g_X0_dig X a1 a2) (g_X1_dig Y a1 a2) (Cp (n + 1)) := by
  rw [g_X0_dig, g_X1_dig]
  rcases ck_pool a1 with ⟨j, hj, rfl, x1, y1⟩ | ⟨x1, y1⟩
  · rw [cV_of x1, cI_of y1, if_neg e10]
    rcases ck_in a2 1 9 with ⟨r1, r2, x2, y2⟩ | ⟨x2, y2⟩
    · rw [cV_of x2, cI_of y2, if_neg e10, if_neg (show ¬ (0 : Int32) < 0 by decide), bI_of (s_isDug hj)]
      simp only [if_pos (vpb_nI hj)]
      by_cases c : xa X j = 0
      · have c1 : Y.1 (nI j).toNatClampNeg = 0 := by rw [cl_nI (show j < 2 ^ 31 by omega)]; exact (dg_iff h.1 hj).mpr c
        rw [if_pos c, if_pos rfl, if_pos c1, nb1, cl_nI (show j < 2 ^ 31 by omega)]
        refine opR_ok rfl rfl rfl ?_
        obtain ⟨m, hm, rfl⟩ : ∃ m : Nat, m ≤ 9 ∧ a2 = nI m := nI_of2 (M := 9) (n := 9) (by decide) (by
          intro c9
          apply r1
          rw [Int32.lt_iff_toInt_lt] at c9 ⊢
          have z0 : (0 : Int32).toInt = 0 := by decide
          have z1 : (1 : Int32).toInt = 1 := by decide
          omega) r2
        have hm1 : 1 ≤ m := by
          refine Nat.pos_of_ne_zero fun e => r1 ?_
          subst e; decide
        obtain ⟨hp, ⟨gw, hgw, hs⟩, hu, hdr, hq, hpl, hz, hmx, he, ho, hst⟩ := h
        refine ⟨?_, ⟨gw, hgw, by omega⟩, hu, hdr, hq, hpl, hz, hmx, he, ho, fun i hi => absurd hi (Nat.not_lt_zero _)⟩
        intro k hk
        show (upd (X.1) j (nI m) k = 0 ∧ X.2.1 k = 0 ∧ X.2.2.1 k = 0 ∧ upd (Y.1) j 1 k = 0) ∨ ((∃ m', 1 ≤ m' ∧ m' ≤ 9 ∧ upd (X.1) j (nI m) k = nI m') ∧ upd (Y.1) j 1 k = 1 ∧ upd (Y.2.1) j (nI m) k = upd (X.1) j (nI m) k ∧ upd (Y.2.2.1) j 0 k = X.2.1 k ∧ upd (Y.2.2.2.1) j 0 k = X.2.2.1 k)
        by_cases e : k = j
        · subst e
          rw [pk_us, pk_us, pk_us, pk_us, pk_us]
          rcases hp k hk with ⟨b1, b2, b3, _⟩ | ⟨⟨m', q1, q2, b1⟩, _⟩
          · exact Or.inr ⟨⟨m, hm1, hm, rfl⟩, rfl, rfl, b2.symm, b3.symm⟩
          · exact absurd (b1.symm.trans c) (nI_ne0 q1 (by omega))
        · rw [pk_un e, pk_un e, pk_un e, pk_un e, pk_un e]
          exact hp k hk
      · have c1 : ¬ Y.1 (nI j).toNatClampNeg = 0 := by rw [cl_nI (show j < 2 ^ 31 by omega)]; exact fun e => c ((dg_iff h.1 hj).mp e)
        rw [if_neg c, if_neg e10, if_neg c1]
        refine opR_ok rfl rfl rfl ?_; exact Cp_s h
    · rw [cV_ex x2, cI_of y2, if_pos rfl, if_pos (show (0 : Int32) < 2 by decide)]
      refine opR_ex rfl rfl (c := 2) rfl (by decide) (by simp) ?_; exact Cp_s h
  · rw [cV_ex x1, cI_of y1, if_pos rfl, if_pos (show (0 : Int32) < 1 by decide)]
    refine opR_ex rfl rfl (c := 1) rfl (by decide) (by simp) ?_; exact Cp_s h
theorem P_gate {n : Nat} {X : cS} {Y : rS} (hn : n ≤ 600) (h : Cp n X Y) (a1 a2 : Int32) : opR [(xA, 1), (xI, 2)] (g_X0_gate X a1 a2) (g_X1_gate Y a1 a2) (Cp (n + 1)) := by
  rw [g_X0_gate, g_X1_gate]
  rcases ck_gate a1 with ⟨j, hj, rfl, x1, y1⟩ | ⟨x1, y1⟩
  · rw [cV_of x1, cI_of y1, if_neg e10]
    rcases ck_in a2 0 99 with ⟨r1, r2, x2, y2⟩ | ⟨x2, y2⟩
    · rw [cV_of x2, cI_of y2, if_neg e10, if_pos l00]
      simp only [if_pos (vpb_nI hj), cl_nI (show j < 2 ^ 31 by omega)]
      have hu : Y.2.2.2.2.2.2.1 j = X.2.2.2.1 j := h.2.2.1 j hj
      rw [hu]
      refine opR_ok rfl rfl rfl ?_
      obtain ⟨hp, hw, hu9, hr⟩ := Cp_s h
      refine ⟨hp, hw, fun k hk => ?_, hr⟩
      show upd (Y.2.2.2.2.2.2.1) j a2 k = upd (X.2.2.2.1) j a2 k
      unfold upd
      split
      · rfl
      · exact hu9 k hk
    · rw [cV_ex x2, cI_of y2, if_pos rfl, if_neg n20]
      refine opR_ex rfl rfl (c := 2) rfl (by decide) (by simp) ?_; exact Cp_s h
  · rw [cV_ex x1, cI_of y1, if_pos rfl, if_neg n10]
    refine opR_ex rfl rfl (c := 1) rfl (by decide) (by simp) ?_; exact Cp_s h
theorem P_where {n : Nat} {X : cS} {Y : rS} (hn : n ≤ 600) (h : Cp n X Y) (a1 : Int32) : opR [(xA, 1)] (g_X0_where X a1) (g_X1_where Y a1) (Cp (n + 1)) := by
  rw [g_X0_where, g_X1_where]
  rcases ck_boat a1 with ⟨j, hj, rfl, x1, y1⟩ | ⟨x1, y1⟩
  · rw [cV_of x1, cI_of y1, if_neg e10, if_pos l00]
    simp only [if_pos (vpb_nI hj), cl_nI (show j < 2 ^ 31 by omega)]
    have hq : Y.2.2.2.2.1 j = X.2.2.2.2.2.1 j := h.2.2.2.2.1 j hj
    rw [hq]
    refine opR_ok rfl rfl rfl ?_; exact Cp_s h
  · rw [cV_ex x1, cI_of y1, if_pos rfl, if_neg n10]
    refine opR_ex rfl rfl (c := 1) rfl (by decide) (by simp) ?_; exact Cp_s h
theorem P_level {n : Nat} {X : cS} {Y : rS} (hn : n ≤ 600) (h : Cp n X Y) (a1 : Int32) : opR [(xA, 1), (xN, 2), (xS, 3), (xD, 4)] (g_X0_level X a1) (g_X1_level Y a1) (Cp (n + 1)) := by
  rw [g_X0_level, g_X1_level]
  rcases ck_gate a1 with ⟨j, hj, rfl, x1, y1⟩ | ⟨x1, y1⟩
  · rw [cV_of x1, cI_of y1, if_neg e10, if_pos l00]
    have h0 : Coup 0 (9999 * n) X (Y.1, Y.2.1, Y.2.2.1, Y.2.2.2.1, Y.2.2.2.2.1, Y.2.2.2.2.2.1, Y.2.2.2.2.2.2.1, Y.2.2.2.2.2.2.2.1, 0, Y.2.2.2.2.2.2.2.2.2.1, Y.2.2.2.2.2.2.2.2.2.2.1, Y.2.2.2.2.2.2.2.2.2.2.2.1, Y.2.2.2.2.2.2.2.2.2.2.2.2.1, Y.2.2.2.2.2.2.2.2.2.2.2.2.2.1, Y.2.2.2.2.2.2.2.2.2.2.2.2.2.2) := h
    rcases s_levels (by omega) hj (by omega) h0 with ⟨X', Y', w, x2, y2, hw, hwn, h2, k2⟩ | ⟨X', Y', r, x2, y2, hr, hF, h2, k2⟩
    · have hwn1 : Y'.2.2.2.2.2.2.2.2.2.2.2.2.2.1 = nI w := hwn
      rw [bI_of x2, bI_of y2, if_neg e10, cI_of (an_ok (by omega)), hwn1]
      exact opR_ok rfl rfl k2.1 (Cp_of h2 (by omega))
    · rw [bI_of x2, bI_of y2, if_pos rfl]
      rcases hr with rfl | rfl | rfl
      · rw [cI_ex an_1, bI_of (told1 hF)]
        exact opR_ex rfl rfl (c := 2) rfl (by decide) (by simp) (Cp_of h2 (by omega))
      · rw [cI_ex an_2, bI_of (told2 hF)]
        exact opR_ex rfl rfl (c := 3) rfl (by decide) (by simp) (Cp_of h2 (by omega))
      · rw [cI_ex an_4, bI_of (told4 hF)]
        exact opR_ex rfl rfl (c := 4) rfl (by decide) (by simp) (Cp_of h2 (by omega))
  · rw [cV_ex x1, cI_of y1, if_pos rfl, if_neg n10]
    refine opR_ex rfl rfl (c := 1) rfl (by decide) (by simp) ?_; exact Cp_s h
/-- the gate that way, on both sides -/
theorem s_way {o : Nat} {up : Int32} (ho : o < 8) (hu : up = 0 ∨ up = 1) :
    (∃ p, ((up = 0 ∧ 0 < o ∧ p = o - 1) ∨ (up = 1 ∧ o < 7 ∧ p = o + 1)) ∧ g_X0_hasGate (nI o) up = some (.inl (some (.int 1))) ∧ g_X1_isPool (if up = 0 then nI o - 1 else nI o + 1) = some (.inl (some (.int 1)))) ∨
    (g_X0_hasGate (nI o) up = some (.inl (some (.int 0))) ∧ g_X1_isPool (if up = 0 then nI o - 1 else nI o + 1) = some (.inl (some (.int 0)))) := by
  have hin : ∀ p, p < 8 → g_X1_isPool (nI p) = some (.inl (some (.int 1))) := by
    intro p hp
    rcases ck_pool (nI p) with ⟨_, _, _, _, y⟩ | ⟨x, _⟩
    · exact y
    · rw [g_X0_checkPool, if_neg (nI_pos (by omega)), if_pos (show nI p < 8 from q_lt p 8 hp)] at x
      cases x
  rcases hu with rfl | rfl
  · rw [g_X0_hasGate, if_pos rfl, if_pos rfl]
    by_cases c : o = 0
    · subst c
      refine Or.inr ⟨if_pos (by decide), by decide⟩
    · rw [if_neg (show ¬ nI o ≤ 0 from q_nle o 0 (by omega)), nI_s1 _ (by omega)]
      exact Or.inl ⟨o - 1, Or.inl ⟨rfl, by omega, rfl⟩, rfl, hin _ (by omega)⟩
  · rw [g_X0_hasGate, if_neg e10, if_neg e10]
    by_cases c : o = 7
    · subst c
      refine Or.inr ⟨if_pos (by decide), by decide⟩
    · rw [if_neg (show ¬ (7 : Int32) ≤ nI o from q_nle 7 o (by omega)), nI_1]
      exact Or.inl ⟨o + 1, Or.inr ⟨rfl, by omega, rfl⟩, rfl, hin _ (by omega)⟩
theorem P_pass {n : Nat} {X : cS} {Y : rS} (hn : n ≤ 600) (h : Cp n X Y) (a1 a2 : Int32) (ha2 : a2 = 0 ∨ a2 = 1) : opR [(xA, 1), (xN, 2), (xS, 3), (xU, 4), (xD, 5)] (g_X0_pass X a1 a2) (g_X1_pass Y a1 a2) (Cp (n + 1)) := by
  rw [g_X0_pass, g_X1_pass]
  rcases ck_boat a1 with ⟨b, hb, rfl, x1, y1⟩ | ⟨x1, y1⟩
  · rw [cV_of x1, cI_of y1, if_neg e10]
    simp only [if_pos (vpb_nI hb)]
    have hq : Y.2.2.2.2.1 b = X.2.2.2.2.2.1 b := h.2.2.2.2.1 b hb
    have q1 : X.2.2.2.2.2.1 (nI b).toNatClampNeg = X.2.2.2.2.2.1 b := by rw [cl_nI (show b < 2 ^ 31 by omega)]
    have q2 : Y.2.2.2.2.1 (nI b).toNatClampNeg = X.2.2.2.2.2.1 b := by rw [cl_nI (show b < 2 ^ 31 by omega)]; exact hq
    rw [q1, q2]
    rcases h.2.2.2.2.2.1.1 b hb with c | ⟨o, ho, c⟩
    · have c1 : X.2.2.2.2.2.1 b = -1 := c
      rw [c1, if_pos rfl, if_pos rfl, if_neg n30]
      refine opR_ex rfl rfl (c := 3) rfl (by decide) (by simp) ?_; exact Cp_s h
    · have c1 : X.2.2.2.2.2.1 b = nI o := c
      have cn : ¬ nI o = -1 := nI_neg1 o (by omega)
      rw [c1, if_neg cn, if_neg cn]
      have hC : ∀ v : Int32, Coup 0 (9999 * n) X (Y.1, Y.2.1, Y.2.2.1, Y.2.2.2.1, Y.2.2.2.2.1, Y.2.2.2.2.2.1, Y.2.2.2.2.2.2.1, Y.2.2.2.2.2.2.2.1, v, Y.2.2.2.2.2.2.2.2.2.1, Y.2.2.2.2.2.2.2.2.2.2.1, Y.2.2.2.2.2.2.2.2.2.2.2.1, Y.2.2.2.2.2.2.2.2.2.2.2.2.1, Y.2.2.2.2.2.2.2.2.2.2.2.2.2.1, Y.2.2.2.2.2.2.2.2.2.2.2.2.2.2) := fun _ => h
      have key : opR [(xA, 1), (xN, 2), (xS, 3), (xU, 4), (xD, 5)]
          (cI (g_X0_hasGate (nI o) a2) X (fun v31 => if v31 = 0 then (some (.inr xA, X)) else (bI (g_X0_passBoat X (nI b) a2) (fun v50 X50 => cI (g_X0_answered v50) X50 (fun v53 => some (.inl (some (.int v53)), X50))))))
          (cI (g_X1_isPool (if a2 = 0 then nI o - 1 else nI o + 1)) Y (fun v49 => if v49 = 0 then (if (1 : Int32) ≤ 0 then (bI (g_X1_passes (Y.1, Y.2.1, Y.2.2.1, Y.2.2.2.1, Y.2.2.2.2.1, Y.2.2.2.2.2.1, Y.2.2.2.2.2.2.1, Y.2.2.2.2.2.2.2.1, 1, Y.2.2.2.2.2.2.2.2.2.1, Y.2.2.2.2.2.2.2.2.2.2.1, Y.2.2.2.2.2.2.2.2.2.2.2.1, Y.2.2.2.2.2.2.2.2.2.2.2.2.1, Y.2.2.2.2.2.2.2.2.2.2.2.2.2.1, Y.2.2.2.2.2.2.2.2.2.2.2.2.2.2) (nI b) a2) (fun v75 Y75 => if v75 = 0 then (bI (g_X1_told Y75 2 3 4 5) (fun v95 Y95 => some (.inl (some (.int v95)), Y95))) else (some (.inl (some (.int (Y75.2.2.2.2.1 (nI b).toNatClampNeg))), Y75)))) else (some (.inl (some (.int 0)), (Y.1, Y.2.1, Y.2.2.1, Y.2.2.2.1, Y.2.2.2.2.1, Y.2.2.2.2.2.1, Y.2.2.2.2.2.2.1, Y.2.2.2.2.2.2.2.1, 1, Y.2.2.2.2.2.2.2.2.2.1, Y.2.2.2.2.2.2.2.2.2.2.1, Y.2.2.2.2.2.2.2.2.2.2.2.1, Y.2.2.2.2.2.2.2.2.2.2.2.2.1, Y.2.2.2.2.2.2.2.2.2.2.2.2.2.1, Y.2.2.2.2.2.2.2.2.2.2.2.2.2.2)))) else (if (0 : Int32) ≤ 0 then (bI (g_X1_passes (Y.1, Y.2.1, Y.2.2.1, Y.2.2.2.1, Y.2.2.2.2.1, Y.2.2.2.2.2.1, Y.2.2.2.2.2.2.1, Y.2.2.2.2.2.2.2.1, 0, Y.2.2.2.2.2.2.2.2.2.1, Y.2.2.2.2.2.2.2.2.2.2.1, Y.2.2.2.2.2.2.2.2.2.2.2.1, Y.2.2.2.2.2.2.2.2.2.2.2.2.1, Y.2.2.2.2.2.2.2.2.2.2.2.2.2.1, Y.2.2.2.2.2.2.2.2.2.2.2.2.2.2) (nI b) a2) (fun v75 Y75 => if v75 = 0 then (bI (g_X1_told Y75 2 3 4 5) (fun v95 Y95 => some (.inl (some (.int v95)), Y95))) else (some (.inl (some (.int (Y75.2.2.2.2.1 (nI b).toNatClampNeg))), Y75)))) else (some (.inl (some (.int 0)), (Y.1, Y.2.1, Y.2.2.1, Y.2.2.2.1, Y.2.2.2.2.1, Y.2.2.2.2.2.1, Y.2.2.2.2.2.2.1, Y.2.2.2.2.2.2.2.1, 0, Y.2.2.2.2.2.2.2.2.2.1, Y.2.2.2.2.2.2.2.2.2.2.1, Y.2.2.2.2.2.2.2.2.2.2.2.1, Y.2.2.2.2.2.2.2.2.2.2.2.2.1, Y.2.2.2.2.2.2.2.2.2.2.2.2.2.1, Y.2.2.2.2.2.2.2.2.2.2.2.2.2.2))))))
          (Cp (n + 1)) := by
        rcases s_way ho ha2 with ⟨p, hw, x2, y2⟩ | ⟨x2, y2⟩
        · rw [cI_of x2, if_neg e10, cI_of y2, if_neg e10, if_pos l00]
          rcases s_pass (p := p) (by omega) (by omega) hb ho c hw (hC 0) with ⟨X', Y', x3, y3, h3, k1, k2, k3, _⟩ | ⟨X', Y', r, x3, y3, hr, hF, h3, k3⟩
          · have hp8 : p < 8 := by omega
            have e9 : Y'.2.2.2.2.1 (nI b).toNatClampNeg = nI p := by rw [cl_nI (show b < 2 ^ 31 by omega)]; exact (h3.2.2.2.2.1 b hb).trans k3
            rw [bI_of x3, cI_of (an_ok (by omega)), bI_of y3, if_neg e10, e9]
            exact opR_ok rfl rfl k1 (Cp_of h3 (by omega))
          · rw [bI_of x3, bI_of y3, if_pos rfl]
            rcases hr with rfl | rfl | rfl | rfl
            · rw [cI_ex an_1, bI_of (told1 hF)]
              exact opR_ex rfl rfl (c := 2) rfl (by decide) (by simp) (Cp_of h3 (by omega))
            · rw [cI_ex an_2, bI_of (told2 hF)]
              exact opR_ex rfl rfl (c := 3) rfl (by decide) (by simp) (Cp_of h3 (by omega))
            · rw [cI_ex an_3, bI_of (told3 hF)]
              exact opR_ex rfl rfl (c := 4) rfl (by decide) (by simp) (Cp_of h3 (by omega))
            · rw [cI_ex an_4, bI_of (told4 hF)]
              exact opR_ex rfl rfl (c := 5) rfl (by decide) (by simp) (Cp_of h3 (by omega))
        · rw [cI_of x2, if_pos rfl, cI_of y2, if_pos rfl, if_neg n10]
          refine opR_ex rfl rfl (c := 1) rfl (by decide) (by simp) ?_; exact Cp_s h
      rcases ha2 with rfl | rfl
      · rw [if_pos rfl]
        rw [if_pos rfl] at key
        exact key
      · rw [if_neg e10]
        rw [if_neg e10] at key
        exact key
  · rw [cV_ex x1, cI_of y1, if_pos rfl, if_neg n10]
    refine opR_ex rfl rfl (c := 1) rfl (by decide) (by simp) ?_; exact Cp_s h
