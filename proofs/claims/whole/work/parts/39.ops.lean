/-! WHAT IS TO BE SHOWN OF EACH CALL -/
theorem P_flight {n : Nat} {X : cS} {Y : rS} (hn : n ≤ 600) (h : Cp n X Y) (a1 a2 : Int32) : opR [(xA, 1), (xN, 2), (xS, 3), (xU, 4), (xD, 5)] (g_X0_flight X a1 a2) (g_X1_flight Y a1 a2) (Cp (n + 1)) := by
  sorry
theorem P_trip {n : Nat} {X : cS} {Y : rS} (hn : n ≤ 600) (h : Cp n X Y) (a1 a2 : Int32) : opR [(xA, 1)] (g_X0_trip X a1 a2) (g_X1_trip Y a1 a2) (Cp (n + 1)) := by
  sorry
theorem P_convoy {n : Nat} {X : cS} {Y : rS} (hn : n ≤ 600) (h : Cp n X Y) (a1 a2 : Int32) (ha2 : a2 = 0 ∨ a2 = 1) : opR [(xI, 1)] (g_X0_convoy X a1 a2) (g_X1_convoy Y a1 a2) (Cp (n + 1)) := by
  sorry
theorem P_share {n : Nat} {X : cS} {Y : rS} (hn : n ≤ 600) (h : Cp n X Y) (a1 a2 : Int32) : opR [(xA, 1), (xI, 2), (xN, 3)] (g_X0_share X a1 a2) (g_X1_share Y a1 a2) (Cp (n + 1)) := by
  sorry
