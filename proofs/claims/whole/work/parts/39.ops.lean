/-! WHAT IS TO BE SHOWN OF EACH CALL -/
theorem P_fill {n : Nat} {X : cS} {Y : rS} (hn : n ≤ 600) (h : Cp n X Y) (a1 : Int32) : opR [(xA, 1), (xN, 2)] (g_X0_fill X a1) (g_X1_fill Y a1) (Cp (n + 1)) := by
  sorry
theorem P_draw {n : Nat} {X : cS} {Y : rS} (hn : n ≤ 600) (h : Cp n X Y) (a1 a2 : Int32) : opR [(xA, 1), (xI, 2), (xN, 3)] (g_X0_draw X a1 a2) (g_X1_draw Y a1 a2) (Cp (n + 1)) := by
  sorry
theorem P_flight {n : Nat} {X : cS} {Y : rS} (hn : n ≤ 600) (h : Cp n X Y) (a1 a2 : Int32) : opR [(xA, 1), (xN, 2), (xS, 3), (xU, 4), (xD, 5)] (g_X0_flight X a1 a2) (g_X1_flight Y a1 a2) (Cp (n + 1)) := by
  sorry
theorem P_trip {n : Nat} {X : cS} {Y : rS} (hn : n ≤ 600) (h : Cp n X Y) (a1 a2 : Int32) : opR [(xA, 1)] (g_X0_trip X a1 a2) (g_X1_trip Y a1 a2) (Cp (n + 1)) := by
  sorry
theorem P_convoy {n : Nat} {X : cS} {Y : rS} (hn : n ≤ 600) (h : Cp n X Y) (a1 a2 : Int32) (ha2 : a2 = 0 ∨ a2 = 1) : opR [(xI, 1)] (g_X0_convoy X a1 a2) (g_X1_convoy Y a1 a2) (Cp (n + 1)) := by
  sorry
theorem P_share {n : Nat} {X : cS} {Y : rS} (hn : n ≤ 600) (h : Cp n X Y) (a1 a2 : Int32) : opR [(xA, 1), (xI, 2), (xN, 3)] (g_X0_share X a1 a2) (g_X1_share Y a1 a2) (Cp (n + 1)) := by
  sorry
theorem P_first {n : Nat} {X : cS} {Y : rS} (hn : n ≤ 600) (h : Cp n X Y) (a1 : Int32) : opS (g_X0_first X a1) (g_X1_first Y a1) (Cp (n + 1)) := by
  sorry
theorem P_told {n : Nat} {X : cS} {Y : rS} (hn : n ≤ 600) (h : Cp n X Y) (a1 : Int32) : opS (g_X0_told X a1) (g_X1_told_ Y a1) (Cp (n + 1)) := by
  sorry
theorem P_clear {n : Nat} {X : cS} {Y : rS} (hn : n ≤ 600) (h : Cp n X Y) : opS (g_X0_clear X ) (g_X1_clear Y ) (Cp (n + 1)) := by
  sorry
theorem P_begin : ∃ Y, g_X1_begin rs0 = some (.inl none, Y) ∧ Cp 0 cs1 Y := by
  sorry
