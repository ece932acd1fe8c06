/-! HOLDS, FAILURES, HEIGHTS on both sides -/
theorem Coup_mono {dn B B' : Nat} {X : cS} {Y : rS} (h : Coup dn B X Y) (hB : B ≤ B') : Coup dn B' X Y := by
  obtain ⟨h1, ⟨g, hg, hs⟩, h3⟩ := h
  exact ⟨h1, ⟨g, hg, Nat.le_trans hs hB⟩, h3⟩
/-- what calls leave as it was -/
def kp (X X' : cS) (Y Y' : rS) : Prop := yT Y' = yT Y ∧ yp Y' = yp Y ∧ xq X' = xq X ∧ xa X' = xa X
theorem kp_tr {X X' X'' : cS} {Y Y' Y'' : rS} (h : kp X X' Y Y') (h2 : kp X' X'' Y' Y'') : kp X X'' Y Y'' := ⟨h2.1.trans h.1, h2.2.1.trans h.2.1, h2.2.2.1.trans h.2.2.1, h2.2.2.2.trans h.2.2.2⟩
/-- the failure of both sides, from any depth -/
theorem l_fail {B : Nat} (r : Int32) : ∀ (dn f f' : Nat) (X : cS) (Y : rS), dn < 12 → dn < f → dn < f' → Coup dn B X Y → ∃ X' Y', g_X0_failing_0 f X r = some (.inl (some (.int (-r))), X') ∧ g_X1_fail_5 f' Y r = some (.inl (some (.int 0)), Y') ∧ Coup 0 B X' Y' ∧ yF Y' = yF Y ∧ kp X X' Y Y' := by
  intro dn
  induction dn with
  | zero =>
    intro f f' X Y _ hf hf' h
    obtain ⟨f, rfl⟩ : ∃ g, f = g + 1 := ⟨f - 1, by omega⟩
    obtain ⟨f', rfl⟩ : ∃ g, f' = g + 1 := ⟨f' - 1, by omega⟩
    have he : X.2.2.2.2.2.2.2.1 = 0 := h.2.2.2.2.2.2.2.2.1
    have ho : Y.2.2.2.2.2.2.2.2.2.1 = 0 := h.2.2.2.2.2.2.2.2.2.1
    rw [g_X0_failing_0, g_X1_fail_5, he, ho, if_pos (show (0 : Int32) ≤ 0 by decide), if_pos (show (0 : Int32) ≤ 0 by decide)]
    exact ⟨X, Y, rfl, rfl, h, rfl, rfl, rfl, rfl, rfl⟩
  | succ dn ih =>
    intro f f' X Y hd hf hf' h
    obtain ⟨f, rfl⟩ : ∃ g, f = g + 1 := ⟨f - 1, by omega⟩
    obtain ⟨f', rfl⟩ : ∃ g, f' = g + 1 := ⟨f' - 1, by omega⟩
    obtain ⟨hp, hw, hu, hdr, hq, hpl, hz, hm, he, ho, hs⟩ := h
    have he1 : X.2.2.2.2.2.2.2.1 = nI (dn + 1) := he
    have ho1 : Y.2.2.2.2.2.2.2.2.2.1 = nI (dn + 1) := ho
    obtain ⟨e1, j, hj, e2, hdg⟩ := hs dn (by omega)
    have e3 : X.2.2.2.2.2.2.1 (nI dn).toNatClampNeg = nI j := by rw [cl_nI (show dn < 2 ^ 31 by omega)]; exact e2
    have e4 : Y.2.2.2.2.2.2.2.1 (nI dn).toNatClampNeg = nI j := by rw [cl_nI (show dn < 2 ^ 31 by omega)]; exact e1.trans e2
    rw [g_X0_failing_0, g_X1_fail_5, he1, ho1, if_neg (show ¬ nI (dn + 1) ≤ 0 from q_nle (dn + 1) 0 (by omega)), if_neg (show ¬ nI (dn + 1) ≤ 0 from q_nle (dn + 1) 0 (by omega)), nI_pred, if_pos (vpb_nI (show dn < 11 by omega)), if_pos (vpb_nI (show dn < 32 by omega)), e3, e4, if_pos (vpb_nI (show j < 8 by omega)), if_pos (vpb_nI (show j < 8 by omega)), if_pos (vpb_nI (show j < 8 by omega)), if_pos (vpb_nI (show j < 8 by omega)), cl_nI (show j < 2 ^ 31 by omega)]
    refine ih f f' _ _ (by omega) (by omega) (by omega) ⟨?_, hw, hu, hdr, hq, hpl, hz, hm, rfl, rfl, fun i hi => hs i (by omega)⟩
    intro i hi
    rcases hp i hi with ⟨a1, a2, a3, a4⟩ | ⟨a1, a2, a3, a4, a5⟩
    · have hne : i ≠ j := fun c => hdg (c ▸ a1)
      exact Or.inl ⟨a1, a2, (pk_un hne).trans a3, a4⟩
    · refine Or.inr ⟨a1, a2, a3, a4, ?_⟩
      by_cases c : i = j
      · subst c
        show upd (Y.2.2.2.1) i (Y.2.2.2.1 i + 1) i = upd (X.2.2.1) i (X.2.2.1 i + 1) i
        rw [pk_us, pk_us]
        exact congrArg (· + 1) a5
      · show upd (Y.2.2.2.1) j (Y.2.2.2.1 j + 1) i = upd (X.2.2.1) j (X.2.2.1 j + 1) i
        rw [pk_un c, pk_un c]
        exact a5
theorem s_fail {dn B : Nat} {X : cS} {Y : rS} (r : Int32) (hd : dn < 12) (h : Coup dn B X Y) : ∃ X' Y', g_X0_failing X r = some (.inl (some (.int (-r))), X') ∧ g_X1_fail Y r = some (.inl (some (.int 0)), Y') ∧ Coup 0 B X' Y' ∧ yF Y' = r ∧ kp X X' Y Y' := by
  have := mK_gt
  obtain ⟨X', Y', e1, e2, e3, e4, e5⟩ := l_fail r dn mK mK X (Y.1, Y.2.1, Y.2.2.1, Y.2.2.2.1, Y.2.2.2.2.1, Y.2.2.2.2.2.1, Y.2.2.2.2.2.2.1, Y.2.2.2.2.2.2.2.1, Y.2.2.2.2.2.2.2.2.1, Y.2.2.2.2.2.2.2.2.2.1, Y.2.2.2.2.2.2.2.2.2.2.1, Y.2.2.2.2.2.2.2.2.2.2.2.1, r, Y.2.2.2.2.2.2.2.2.2.2.2.2.2.1, Y.2.2.2.2.2.2.2.2.2.2.2.2.2.2) hd (by omega) (by omega) h
  exact ⟨X', Y', e1, e2, e3, e4, e5⟩
/-- the reference's failure, as a boolean answer -/
theorem s_failB {m : Option (mO × rS)} {Y' : rS} (h : m = some (.inl (some (.int 0)), Y')) : bI m (fun v11 Y11 => if ((v11) : Int32) = 0 ∨ ((v11) : Int32) = 1 then (some (.inl (some (.int (v11))), Y11)) else none) = some (.inl (some (.int 0)), Y') := by
  rw [bI_of h]; exact if_pos (Or.inl rfl)
theorem s_failC {m : Option (mO × cS)} {X' : cS} {v : Int32} (h : m = some (.inl (some (.int v)), X')) : bI m (fun v10 X10 => some (.inl (some (.int (v10))), X10)) = some (.inl (some (.int v)), X') := by
  rw [bI_of h]
theorem s_isDug {X : cS} {j : Nat} (hj : j < 8) : g_X0_isDug X (nI j) = some (.inl (some (.int (if xa X j = 0 then 0 else 1))), X) := by
  rw [g_X0_isDug, if_pos (vpb_nI (show j < 8 by omega)), cl_nI (show j < 2 ^ 31 by omega)]
  by_cases c : xa X j = 0
  · rw [if_pos c, if_pos (show X.1 j = 0 from c)]
  · rw [if_neg c, if_neg (show ¬ X.1 j = 0 from c)]
theorem s_hold {dn B : Nat} {X : cS} {Y : rS} {j : Nat} (hd : dn < 11) (hj : j < 8) (h : Coup dn B X Y) :
    (xa X j = 0 ∧ g_X0_hold X (nI j) = some (.inl (some (.int 0)), X) ∧ ∃ X' Y', g_X0_failing X 1 = some (.inl (some (.int (-1))), X') ∧ g_X1_hold Y (nI j) = some (.inl (some (.int 0)), Y') ∧ Coup 0 B X' Y' ∧ yF Y' = 1 ∧ kp X X' Y Y') ∨
    (¬ xa X j = 0 ∧ ∃ X' Y', g_X0_hold X (nI j) = some (.inl (some (.int 1)), X') ∧ g_X1_hold Y (nI j) = some (.inl (some (.int 1)), Y') ∧ Coup (dn + 1) B X' Y' ∧ kp X X' Y Y' ∧ xW X' = xW X) := by
  by_cases c : xa X j = 0
  · refine Or.inl ⟨c, ?_, ?_⟩
    · rw [g_X0_hold, bI_of (s_isDug hj), if_pos c]; exact if_pos rfl
    · obtain ⟨X', Y', e1, e2, e3, e4, e5⟩ := s_fail 1 (by omega) h
      refine ⟨X', Y', e1, ?_, e3, e4, e5⟩
      have hD : Y.1 j = 0 := by
        rcases h.1 j hj with ⟨_, _, _, a4⟩ | ⟨⟨m, m1, m2, a1⟩, _⟩
        · exact a4
        · exact absurd (a1.symm.trans c) (nI_ne0 m1 (by omega))
      rw [g_X1_hold, if_pos (vpb_nI (show j < 8 by omega)), cl_nI (show j < 2 ^ 31 by omega), if_pos hD]
      exact s_failB e2
  · obtain ⟨hp, hw, hu, hdr, hq, hpl, hz, hm, he, ho, hs⟩ := h
    have he1 : X.2.2.2.2.2.2.2.1 = nI dn := he
    have ho1 : Y.2.2.2.2.2.2.2.2.2.1 = nI dn := ho
    have hm1 : Y.2.2.2.2.2.2.2.2.2.2.2.1 = X.2.2.2.2.2.2.2.2.1 := hm
    have hz1 : Y.2.2.2.2.2.2.2.2.2.2.1 = X.2.2.2.2.2.2.2.2.2 := hz
    have hD : ¬ Y.1 j = 0 := by
      rcases hp j hj with ⟨a1, _⟩ | ⟨_, a2, _⟩
      · exact absurd a1 c
      · rw [show Y.1 j = 1 from a2]; exact e10
    have hst : ∀ i, i < dn + 1 → upd (Y.2.2.2.2.2.2.2.1) dn (nI j) i = upd (X.2.2.2.2.2.2.1) dn (nI j) i ∧ ∃ j', j' < 8 ∧ upd (X.2.2.2.2.2.2.1) dn (nI j) i = nI j' ∧ ¬ xa X j' = 0 := by
      intro i hi
      by_cases e : i = dn
      · subst e; rw [pk_us, pk_us]; exact ⟨rfl, j, hj, rfl, c⟩
      · rw [pk_un e, pk_un e]; exact hs i (by omega)
    have hX : g_X0_hold X (nI j) = some (.inl (some (.int 1)), (X.1, X.2.1, X.2.2.1, X.2.2.2.1, X.2.2.2.2.1, X.2.2.2.2.2.1, upd (X.2.2.2.2.2.2.1) dn (nI j), nI (dn + 1), if X.2.2.2.2.2.2.2.2.1 < nI (dn + 1) then nI (dn + 1) else X.2.2.2.2.2.2.2.2.1, X.2.2.2.2.2.2.2.2.2 + 1)) := by
      rw [g_X0_hold, bI_of (s_isDug hj), if_neg c, if_neg e10, he1, if_pos (show nI dn < 11 from q_lt dn 11 (by omega)), if_pos (vpb_nI (show dn < 11 by omega)), cl_nI (show dn < 2 ^ 31 by omega), nI_1]
    refine Or.inr ⟨c, ?_⟩
    by_cases cm : nI (dn + 1) ≤ X.2.2.2.2.2.2.2.2.1
    · have hY : g_X1_hold Y (nI j) = some (.inl (some (.int 1)), (Y.1, Y.2.1, Y.2.2.1, Y.2.2.2.1, Y.2.2.2.2.1, Y.2.2.2.2.2.1, Y.2.2.2.2.2.2.1, upd (Y.2.2.2.2.2.2.2.1) dn (nI j), Y.2.2.2.2.2.2.2.2.1, nI (dn + 1), Y.2.2.2.2.2.2.2.2.2.2.1 + 1, Y.2.2.2.2.2.2.2.2.2.2.2.1, Y.2.2.2.2.2.2.2.2.2.2.2.2.1, Y.2.2.2.2.2.2.2.2.2.2.2.2.2.1, Y.2.2.2.2.2.2.2.2.2.2.2.2.2.2)) := by
        rw [g_X1_hold, if_pos (vpb_nI (show j < 8 by omega)), cl_nI (show j < 2 ^ 31 by omega), if_neg hD, ho1, if_pos (vpb_nI (show dn < 32 by omega)), cl_nI (show dn < 2 ^ 31 by omega), nI_1, hm1, if_pos cm]
      refine ⟨_, _, hX, hY, ⟨hp, hw, hu, hdr, hq, hpl, congrArg (· + 1) hz1, ?_, rfl, rfl, hst⟩, ⟨rfl, rfl, rfl, rfl⟩, rfl⟩
      show Y.2.2.2.2.2.2.2.2.2.2.2.1 = if X.2.2.2.2.2.2.2.2.1 < nI (dn + 1) then nI (dn + 1) else X.2.2.2.2.2.2.2.2.1
      rw [if_neg (fun c9 => nle_iff.mpr c9 cm)]; exact hm1
    · have hY : g_X1_hold Y (nI j) = some (.inl (some (.int 1)), (Y.1, Y.2.1, Y.2.2.1, Y.2.2.2.1, Y.2.2.2.2.1, Y.2.2.2.2.2.1, Y.2.2.2.2.2.2.1, upd (Y.2.2.2.2.2.2.2.1) dn (nI j), Y.2.2.2.2.2.2.2.2.1, nI (dn + 1), Y.2.2.2.2.2.2.2.2.2.2.1 + 1, nI (dn + 1), Y.2.2.2.2.2.2.2.2.2.2.2.2.1, Y.2.2.2.2.2.2.2.2.2.2.2.2.2.1, Y.2.2.2.2.2.2.2.2.2.2.2.2.2.2)) := by
        rw [g_X1_hold, if_pos (vpb_nI (show j < 8 by omega)), cl_nI (show j < 2 ^ 31 by omega), if_neg hD, ho1, if_pos (vpb_nI (show dn < 32 by omega)), cl_nI (show dn < 2 ^ 31 by omega), nI_1, hm1, if_neg cm]
      refine ⟨_, _, hX, hY, ⟨hp, hw, hu, hdr, hq, hpl, congrArg (· + 1) hz1, ?_, rfl, rfl, hst⟩, ⟨rfl, rfl, rfl, rfl⟩, rfl⟩
      show nI (dn + 1) = if X.2.2.2.2.2.2.2.2.1 < nI (dn + 1) then nI (dn + 1) else X.2.2.2.2.2.2.2.2.1
      rw [if_pos (nle_iff.mp cm)]
theorem s_leave {dn B m : Nat} {X : cS} {Y : rS} {x : Int32} (hx : x = nI m) (hd : dn + m < 1000) (h : Coup (dn + m) B X Y) :
    ∃ X' Y', g_X0_leave X x = some (.inl none, X') ∧ g_X1_leave Y x = some (.inl none, Y') ∧ Coup dn B X' Y' ∧ kp X X' Y Y' ∧ ywn Y' = ywn Y ∧ xW X' = xW X := by
  subst hx
  obtain ⟨hp, hw, hu, hdr, hq, hpl, hz, hm, he, ho, hs⟩ := h
  refine ⟨_, _, rfl, rfl, ⟨hp, hw, hu, hdr, hq, hpl, hz, hm, ?_, ?_, fun i hi => hs i (by omega)⟩, ⟨rfl, rfl, rfl, rfl⟩, rfl, rfl⟩
  · have he1 : X.2.2.2.2.2.2.2.1 = nI (dn + m) := he
    show (if (0 : Int32) < X.2.2.2.2.2.2.2.1 - nI m then X.2.2.2.2.2.2.2.1 - nI m else 0) = nI dn
    rw [he1, pk_sub (by omega), Nat.add_sub_cancel]
    by_cases c : dn = 0
    · subst c; rw [if_neg (by decide)]; rfl
    · rw [if_pos (show (0 : Int32) < nI dn from q_lt 0 dn (by omega))]
  · have ho1 : Y.2.2.2.2.2.2.2.2.2.1 = nI (dn + m) := ho
    show Y.2.2.2.2.2.2.2.2.2.1 - nI m = nI dn
    rw [ho1, pk_sub (by omega), Nat.add_sub_cancel]
/-- the height of a dug pool -/
theorem s_height {X : cS} {Y : rS} {j m w : Nat} (hp : pools X Y) (hj : j < 8) (ha : xa X j = nI m) (hm : 1 ≤ m ∧ m ≤ 9) (hw : xW X j = nI w) (hb : w < 2 ^ 31) : g_X0_heightOf X (nI j) = some (.inl (some (.int (nI (w / m)))), X) ∧ g_X1_heightOf Y (nI j) = some (.inl (some (.int (nI (w / m)))), Y) := by
  have ha1 : X.1 (nI j).toNatClampNeg = nI m := by rw [cl_nI (show j < 2 ^ 31 by omega)]; exact ha
  have hw1 : X.2.1 (nI j).toNatClampNeg = nI w := by rw [cl_nI (show j < 2 ^ 31 by omega)]; exact hw
  have hn : ¬ nI m = 0 := nI_ne0 hm.1 (by omega)
  rcases hp j hj with ⟨a1, _⟩ | ⟨_, a2, a3, a4, _⟩
  · exact absurd (ha.symm.trans a1) hn
  · have ha2 : Y.2.1 (nI j).toNatClampNeg = nI m := by rw [cl_nI (show j < 2 ^ 31 by omega)]; exact a3.trans ha
    have hw2 : Y.2.2.1 (nI j).toNatClampNeg = nI w := by rw [cl_nI (show j < 2 ^ 31 by omega)]; exact a4.trans hw
    constructor
    · rw [g_X0_heightOf, if_pos (vpb_nI (show j < 8 by omega)), ha1, hw1, if_neg (show ¬ nI m ≤ 0 from q_nle m 0 (by omega)), if_pos (vpb_nI (show j < 8 by omega)), if_pos (vpb_nI (show j < 8 by omega)), if_pos hn, pk_div hb (by omega) (by omega)]
    · rw [g_X1_heightOf, if_pos (vpb_nI (show j < 8 by omega)), if_pos (vpb_nI (show j < 8 by omega)), ha2, hw2, if_pos hn, pk_div hb (by omega) (by omega)]
/-- area and water of a dug pool, as numbers -/
theorem s_nums {dn B : Nat} {X : cS} {Y : rS} {j : Nat} (hB : B < 2 ^ 31) (h : Coup dn B X Y) (hj : j < 8) (hd : ¬ xa X j = 0) : ∃ m w, xa X j = nI m ∧ (1 ≤ m ∧ m ≤ 9) ∧ xW X j = nI w ∧ w ≤ B ∧ w < 2 ^ 31 := by
  obtain ⟨g, hg, hs⟩ := h.2.1
  rcases h.1 j hj with ⟨a1, _⟩ | ⟨⟨m, m1, m2, a1⟩, _⟩
  · exact absurd a1 hd
  · have := nsum_le (f := g) 8 j hj
    exact ⟨m, g j, a1, ⟨m1, m2⟩, hg j hj, by omega, by omega⟩
