/-! WHAT IS TO BE SHOWN OF EACH CALL -/
theorem P_share {n : Nat} {X : cS} {Y : rS} (hn : n ≤ 600) (h : Cp n X Y) (a1 a2 : Int32) : opR [(xA, 1), (xI, 2), (xN, 3)] (g_X0_share X a1 a2) (g_X1_share Y a1 a2) (Cp (n + 1)) := by
  sorry
