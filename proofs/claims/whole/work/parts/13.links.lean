/-! THE METHODS' WORDS, by program (wip/whole/gentabs.py) -/
theorem m_in (i : Nat) {w : Cond} (h : lw_tbl[i]? = some w) (hg : goodWord w = true) : w ∈ mTW := List.mem_filter.mpr ⟨List.mem_of_getElem? h, hg⟩
set_option maxRecDepth 100000 in
theorem lkMX0_init : mLkM MX0_init 0 := ⟨by rw [if_pos (show MX0_init.2.2.2.2.1 = [] from rfl)]; exact m_in 53 (by decide +kernel) rfl, m_in 34 (by decide +kernel) rfl, by decide +kernel, ⟨by decide +kernel, by decide +kernel⟩, by decide +kernel, okX0_init⟩
set_option maxRecDepth 100000 in
theorem lkMX0_dig : mLkM MX0_dig 2 := ⟨by rw [if_pos (show MX0_dig.2.2.2.2.1 = [] from rfl)]; exact m_in 230 (by decide +kernel) rfl, m_in 34 (by decide +kernel) rfl, by decide +kernel, ⟨by decide +kernel, by decide +kernel⟩, by decide +kernel, okX0_dig⟩
set_option maxRecDepth 100000 in
theorem lkMX0_fill : mLkM MX0_fill 1 := ⟨by rw [if_pos (show MX0_fill.2.2.2.2.1 = [] from rfl)]; exact m_in 288 (by decide +kernel) rfl, m_in 34 (by decide +kernel) rfl, by decide +kernel, ⟨by decide +kernel, by decide +kernel⟩, by decide +kernel, okX0_fill⟩
set_option maxRecDepth 100000 in
theorem lkMX0_pour : mLkM MX0_pour 2 := ⟨by rw [if_pos (show MX0_pour.2.2.2.2.1 = [] from rfl)]; exact m_in 364 (by decide +kernel) rfl, m_in 34 (by decide +kernel) rfl, by decide +kernel, ⟨by decide +kernel, by decide +kernel⟩, by decide +kernel, okX0_pour⟩
set_option maxRecDepth 100000 in
theorem lkMX0_draw : mLkM MX0_draw 2 := ⟨by rw [if_pos (show MX0_draw.2.2.2.2.1 = [] from rfl)]; exact m_in 378 (by decide +kernel) rfl, m_in 34 (by decide +kernel) rfl, by decide +kernel, ⟨by decide +kernel, by decide +kernel⟩, by decide +kernel, okX0_draw⟩
set_option maxRecDepth 100000 in
theorem lkMX0_boat : mLkM MX0_boat 3 := ⟨by rw [if_pos (show MX0_boat.2.2.2.2.1 = [] from rfl)]; exact m_in 394 (by decide +kernel) rfl, m_in 34 (by decide +kernel) rfl, by decide +kernel, ⟨by decide +kernel, by decide +kernel⟩, by decide +kernel, okX0_boat⟩
set_option maxRecDepth 100000 in
theorem lkMX0_gate : mLkM MX0_gate 2 := ⟨by rw [if_pos (show MX0_gate.2.2.2.2.1 = [] from rfl)]; exact m_in 409 (by decide +kernel) rfl, m_in 34 (by decide +kernel) rfl, by decide +kernel, ⟨by decide +kernel, by decide +kernel⟩, by decide +kernel, okX0_gate⟩
set_option maxRecDepth 100000 in
theorem lkMX0_level : mLkM MX0_level 1 := ⟨by rw [if_pos (show MX0_level.2.2.2.2.1 = [] from rfl)]; exact m_in 422 (by decide +kernel) rfl, m_in 34 (by decide +kernel) rfl, by decide +kernel, ⟨by decide +kernel, by decide +kernel⟩, by decide +kernel, okX0_level⟩
set_option maxRecDepth 100000 in
theorem lkMX0_pass : mLkM MX0_pass 2 := ⟨by rw [if_pos (show MX0_pass.2.2.2.2.1 = [] from rfl)]; exact m_in 444 (by decide +kernel) rfl, m_in 34 (by decide +kernel) rfl, by decide +kernel, ⟨by decide +kernel, by decide +kernel⟩, by decide +kernel, okX0_pass⟩
set_option maxRecDepth 100000 in
theorem lkMX0_flight : mLkM MX0_flight 2 := ⟨by rw [if_pos (show MX0_flight.2.2.2.2.1 = [] from rfl)]; exact m_in 460 (by decide +kernel) rfl, m_in 34 (by decide +kernel) rfl, by decide +kernel, ⟨by decide +kernel, by decide +kernel⟩, by decide +kernel, okX0_flight⟩
set_option maxRecDepth 100000 in
theorem lkMX0_trip : mLkM MX0_trip 2 := ⟨by rw [if_pos (show MX0_trip.2.2.2.2.1 = [] from rfl)]; exact m_in 471 (by decide +kernel) rfl, m_in 34 (by decide +kernel) rfl, by decide +kernel, ⟨by decide +kernel, by decide +kernel⟩, by decide +kernel, okX0_trip⟩
set_option maxRecDepth 100000 in
theorem lkMX0_convoy : mLkM MX0_convoy 2 := ⟨by rw [if_pos (show MX0_convoy.2.2.2.2.1 = [] from rfl)]; exact m_in 478 (by decide +kernel) rfl, m_in 34 (by decide +kernel) rfl, by decide +kernel, ⟨by decide +kernel, by decide +kernel⟩, by decide +kernel, okX0_convoy⟩
set_option maxRecDepth 100000 in
theorem lkMX0_share : mLkM MX0_share 2 := ⟨by rw [if_pos (show MX0_share.2.2.2.2.1 = [] from rfl)]; exact m_in 493 (by decide +kernel) rfl, m_in 34 (by decide +kernel) rfl, by decide +kernel, ⟨by decide +kernel, by decide +kernel⟩, by decide +kernel, okX0_share⟩
set_option maxRecDepth 100000 in
theorem lkMX0_first : mLkM MX0_first 1 := ⟨by rw [if_pos (show MX0_first.2.2.2.2.1 = [] from rfl)]; exact m_in 99 (by decide +kernel) rfl, m_in 34 (by decide +kernel) rfl, by decide +kernel, ⟨by decide +kernel, by decide +kernel⟩, by decide +kernel, okX0_first⟩
set_option maxRecDepth 100000 in
theorem lkMX0_pool : mLkM MX0_pool 2 := ⟨by rw [if_pos (show MX0_pool.2.2.2.2.1 = [] from rfl)]; exact m_in 508 (by decide +kernel) rfl, m_in 34 (by decide +kernel) rfl, by decide +kernel, ⟨by decide +kernel, by decide +kernel⟩, by decide +kernel, okX0_pool⟩
set_option maxRecDepth 100000 in
theorem lkMX0_where : mLkM MX0_where 1 := ⟨by rw [if_pos (show MX0_where.2.2.2.2.1 = [] from rfl)]; exact m_in 516 (by decide +kernel) rfl, m_in 34 (by decide +kernel) rfl, by decide +kernel, ⟨by decide +kernel, by decide +kernel⟩, by decide +kernel, okX0_where⟩
set_option maxRecDepth 100000 in
theorem lkMX0_told : mLkM MX0_told 1 := ⟨by rw [if_pos (show MX0_told.2.2.2.2.1 = [] from rfl)]; exact m_in 122 (by decide +kernel) rfl, m_in 34 (by decide +kernel) rfl, by decide +kernel, ⟨by decide +kernel, by decide +kernel⟩, by decide +kernel, okX0_told⟩
set_option maxRecDepth 100000 in
theorem lkMX0_clear : mLkM MX0_clear 0 := ⟨by rw [if_pos (show MX0_clear.2.2.2.2.1 = [] from rfl)]; exact m_in 133 (by decide +kernel) rfl, m_in 34 (by decide +kernel) rfl, by decide +kernel, ⟨by decide +kernel, by decide +kernel⟩, by decide +kernel, okX0_clear⟩
set_option maxRecDepth 100000 in
theorem lkMX0_reset : mLkM MX0_reset 0 := ⟨by rw [if_pos (show MX0_reset.2.2.2.2.1 = [] from rfl)]; exact m_in 60 (by decide +kernel) rfl, m_in 34 (by decide +kernel) rfl, by decide +kernel, ⟨by decide +kernel, by decide +kernel⟩, by decide +kernel, okX0_reset⟩
set_option maxRecDepth 100000 in
theorem lkMX0_checkBoat : mLkM MX0_checkBoat 1 := ⟨by rw [if_pos (show MX0_checkBoat.2.2.2.2.1 = [] from rfl)]; exact m_in 397 (by decide +kernel) rfl, m_in 34 (by decide +kernel) rfl, by decide +kernel, ⟨by decide +kernel, by decide +kernel⟩, by decide +kernel, okX0_checkBoat⟩
set_option maxRecDepth 100000 in
theorem lkMX0_checkPool : mLkM MX0_checkPool 1 := ⟨by rw [if_pos (show MX0_checkPool.2.2.2.2.1 = [] from rfl)]; exact m_in 233 (by decide +kernel) rfl, m_in 34 (by decide +kernel) rfl, by decide +kernel, ⟨by decide +kernel, by decide +kernel⟩, by decide +kernel, okX0_checkPool⟩
set_option maxRecDepth 100000 in
theorem lkMX0_checkGate : mLkM MX0_checkGate 1 := ⟨by rw [if_pos (show MX0_checkGate.2.2.2.2.1 = [] from rfl)]; exact m_in 412 (by decide +kernel) rfl, m_in 34 (by decide +kernel) rfl, by decide +kernel, ⟨by decide +kernel, by decide +kernel⟩, by decide +kernel, okX0_checkGate⟩
set_option maxRecDepth 100000 in
theorem lkMX0_checkRange : mLkM MX0_checkRange 3 := ⟨by rw [if_pos (show MX0_checkRange.2.2.2.2.1 = [] from rfl)]; exact m_in 239 (by decide +kernel) rfl, m_in 34 (by decide +kernel) rfl, by decide +kernel, ⟨by decide +kernel, by decide +kernel⟩, by decide +kernel, okX0_checkRange⟩
set_option maxRecDepth 100000 in
theorem lkMX0_answered : mLkM MX0_answered 1 := ⟨by rw [if_pos (show MX0_answered.2.2.2.2.1 = [] from rfl)]; exact m_in 303 (by decide +kernel) rfl, m_in 34 (by decide +kernel) rfl, by decide +kernel, ⟨by decide +kernel, by decide +kernel⟩, by decide +kernel, okX0_answered⟩
set_option maxRecDepth 100000 in
theorem lkMX0_hold : mLkM MX0_hold 1 := ⟨by rw [if_pos (show MX0_hold.2.2.2.2.1 = [] from rfl)]; exact m_in 103 (by decide +kernel) rfl, m_in 34 (by decide +kernel) rfl, by decide +kernel, ⟨by decide +kernel, by decide +kernel⟩, by decide +kernel, okX0_hold⟩
set_option maxRecDepth 100000 in
theorem lkMX0_holdAll : mLkM MX0_holdAll 2 := ⟨by rw [if_pos (show MX0_holdAll.2.2.2.2.1 = [] from rfl)]; exact m_in 430 (by decide +kernel) rfl, m_in 34 (by decide +kernel) rfl, by decide +kernel, ⟨by decide +kernel, by decide +kernel⟩, by decide +kernel, okX0_holdAll⟩
set_option maxRecDepth 100000 in
theorem lkMX0_leave : mLkM MX0_leave 1 := ⟨by rw [if_pos (show MX0_leave.2.2.2.2.1 = [] from rfl)]; exact m_in 118 (by decide +kernel) rfl, m_in 34 (by decide +kernel) rfl, by decide +kernel, ⟨by decide +kernel, by decide +kernel⟩, by decide +kernel, okX0_leave⟩
set_option maxRecDepth 100000 in
theorem lkMX0_failing : mLkM MX0_failing 1 := ⟨by rw [if_pos (show MX0_failing.2.2.2.2.1 = [] from rfl)]; exact m_in 296 (by decide +kernel) rfl, m_in 34 (by decide +kernel) rfl, by decide +kernel, ⟨by decide +kernel, by decide +kernel⟩, by decide +kernel, okX0_failing⟩
set_option maxRecDepth 100000 in
theorem lkMX0_fillIn : mLkM MX0_fillIn 1 := ⟨by rw [if_pos (show MX0_fillIn.2.2.2.2.1 = [] from rfl)]; exact m_in 292 (by decide +kernel) rfl, m_in 34 (by decide +kernel) rfl, by decide +kernel, ⟨by decide +kernel, by decide +kernel⟩, by decide +kernel, okX0_fillIn⟩
set_option maxRecDepth 100000 in
theorem lkMX0_pourInto : mLkM MX0_pourInto 2 := ⟨by rw [if_pos (show MX0_pourInto.2.2.2.2.1 = [] from rfl)]; exact m_in 368 (by decide +kernel) rfl, m_in 34 (by decide +kernel) rfl, by decide +kernel, ⟨by decide +kernel, by decide +kernel⟩, by decide +kernel, okX0_pourInto⟩
set_option maxRecDepth 100000 in
theorem lkMX0_drawDown : mLkM MX0_drawDown 2 := ⟨by rw [if_pos (show MX0_drawDown.2.2.2.2.1 = [] from rfl)]; exact m_in 383 (by decide +kernel) rfl, m_in 34 (by decide +kernel) rfl, by decide +kernel, ⟨by decide +kernel, by decide +kernel⟩, by decide +kernel, okX0_drawDown⟩
set_option maxRecDepth 100000 in
theorem lkMX0_berth : mLkM MX0_berth 3 := ⟨by rw [if_pos (show MX0_berth.2.2.2.2.1 = [] from rfl)]; exact m_in 402 (by decide +kernel) rfl, m_in 34 (by decide +kernel) rfl, by decide +kernel, ⟨by decide +kernel, by decide +kernel⟩, by decide +kernel, okX0_berth⟩
set_option maxRecDepth 100000 in
theorem lkMX0_levelGate : mLkM MX0_levelGate 1 := ⟨by rw [if_pos (show MX0_levelGate.2.2.2.2.1 = [] from rfl)]; exact m_in 426 (by decide +kernel) rfl, m_in 34 (by decide +kernel) rfl, by decide +kernel, ⟨by decide +kernel, by decide +kernel⟩, by decide +kernel, okX0_levelGate⟩
set_option maxRecDepth 100000 in
theorem lkMX0_moveUnit : mLkM MX0_moveUnit 2 := ⟨by rw [if_pos (show MX0_moveUnit.2.2.2.2.1 = [] from rfl)]; exact m_in 437 (by decide +kernel) rfl, m_in 34 (by decide +kernel) rfl, by decide +kernel, ⟨by decide +kernel, by decide +kernel⟩, by decide +kernel, okX0_moveUnit⟩
set_option maxRecDepth 100000 in
theorem lkMX0_passBoat : mLkM MX0_passBoat 2 := ⟨by rw [if_pos (show MX0_passBoat.2.2.2.2.1 = [] from rfl)]; exact m_in 453 (by decide +kernel) rfl, m_in 34 (by decide +kernel) rfl, by decide +kernel, ⟨by decide +kernel, by decide +kernel⟩, by decide +kernel, okX0_passBoat⟩
set_option maxRecDepth 100000 in
theorem lkMX0_passInConvoy : mLkM MX0_passInConvoy 2 := ⟨by rw [if_pos (show MX0_passInConvoy.2.2.2.2.1 = [] from rfl)]; exact m_in 486 (by decide +kernel) rfl, m_in 34 (by decide +kernel) rfl, by decide +kernel, ⟨by decide +kernel, by decide +kernel⟩, by decide +kernel, okX0_passInConvoy⟩
set_option maxRecDepth 100000 in
theorem lkMX0_fly : mLkM MX0_fly 2 := ⟨by rw [if_pos (show MX0_fly.2.2.2.2.1 = [] from rfl)]; exact m_in 464 (by decide +kernel) rfl, m_in 34 (by decide +kernel) rfl, by decide +kernel, ⟨by decide +kernel, by decide +kernel⟩, by decide +kernel, okX0_fly⟩
set_option maxRecDepth 100000 in
theorem lkMX0_shareOut : mLkM MX0_shareOut 2 := ⟨by rw [if_pos (show MX0_shareOut.2.2.2.2.1 = [] from rfl)]; exact m_in 498 (by decide +kernel) rfl, m_in 34 (by decide +kernel) rfl, by decide +kernel, ⟨by decide +kernel, by decide +kernel⟩, by decide +kernel, okX0_shareOut⟩
set_option maxRecDepth 100000 in
theorem lkMX0_portion : mLkM MX0_portion 3 := ⟨by rw [if_pos (show MX0_portion.2.2.2.2.1 = [] from rfl)]; exact m_in 501 (by decide +kernel) rfl, m_in 34 (by decide +kernel) rfl, by decide +kernel, ⟨by decide +kernel, by decide +kernel⟩, by decide +kernel, okX0_portion⟩
set_option maxRecDepth 100000 in
theorem lkMX0_sum : mLkM MX0_sum 3 := ⟨by rw [if_pos (show MX0_sum.2.2.2.2.1 = [] from rfl)]; exact m_in 129 (by decide +kernel) rfl, m_in 34 (by decide +kernel) rfl, by decide +kernel, ⟨by decide +kernel, by decide +kernel⟩, by decide +kernel, okX0_sum⟩
set_option maxRecDepth 100000 in
theorem lkMX0_isDug : mLkM MX0_isDug 1 := ⟨by rw [if_pos (show MX0_isDug.2.2.2.2.1 = [] from rfl)]; exact m_in 107 (by decide +kernel) rfl, m_in 34 (by decide +kernel) rfl, by decide +kernel, ⟨by decide +kernel, by decide +kernel⟩, by decide +kernel, okX0_isDug⟩
set_option maxRecDepth 100000 in
theorem lkMX0_heightOf : mLkM MX0_heightOf 1 := ⟨by rw [if_pos (show MX0_heightOf.2.2.2.2.1 = [] from rfl)]; exact m_in 114 (by decide +kernel) rfl, m_in 34 (by decide +kernel) rfl, by decide +kernel, ⟨by decide +kernel, by decide +kernel⟩, by decide +kernel, okX0_heightOf⟩
set_option maxRecDepth 100000 in
theorem lkMX0_boatsIn : mLkM MX0_boatsIn 1 := ⟨by rw [if_pos (show MX0_boatsIn.2.2.2.2.1 = [] from rfl)]; exact m_in 300 (by decide +kernel) rfl, m_in 34 (by decide +kernel) rfl, by decide +kernel, ⟨by decide +kernel, by decide +kernel⟩, by decide +kernel, okX0_boatsIn⟩
set_option maxRecDepth 100000 in
theorem lkMX0_countDug : mLkM MX0_countDug 0 := ⟨by rw [if_pos (show MX0_countDug.2.2.2.2.1 = [] from rfl)]; exact m_in 126 (by decide +kernel) rfl, m_in 34 (by decide +kernel) rfl, by decide +kernel, ⟨by decide +kernel, by decide +kernel⟩, by decide +kernel, okX0_countDug⟩
set_option maxRecDepth 100000 in
theorem lkMX0_canSetOut : mLkM MX0_canSetOut 2 := ⟨by rw [if_pos (show MX0_canSetOut.2.2.2.2.1 = [] from rfl)]; exact m_in 482 (by decide +kernel) rfl, m_in 34 (by decide +kernel) rfl, by decide +kernel, ⟨by decide +kernel, by decide +kernel⟩, by decide +kernel, okX0_canSetOut⟩
set_option maxRecDepth 100000 in
theorem lkMX0_hasGate : mLkM MX0_hasGate 2 := ⟨by rw [if_pos (show MX0_hasGate.2.2.2.2.1 = [] from rfl)]; exact m_in 448 (by decide +kernel) rfl, m_in 34 (by decide +kernel) rfl, by decide +kernel, ⟨by decide +kernel, by decide +kernel⟩, by decide +kernel, okX0_hasGate⟩
set_option maxRecDepth 100000 in
theorem lkMX1_init : mLkM MX1_init 0 := ⟨by rw [if_pos (show MX1_init.2.2.2.2.1 = [] from rfl)]; exact m_in 521 (by decide +kernel) rfl, m_in 36 (by decide +kernel) rfl, by decide +kernel, ⟨by decide +kernel, by decide +kernel⟩, by decide +kernel, okX1_init⟩
set_option maxRecDepth 100000 in
theorem lkMX1_thrown : mLkM MX1_thrown 0 := ⟨by rw [if_pos (show MX1_thrown.2.2.2.2.1 = [] from rfl)]; exact m_in 577 (by decide +kernel) rfl, m_in 36 (by decide +kernel) rfl, by decide +kernel, ⟨by decide +kernel, by decide +kernel⟩, by decide +kernel, okX1_thrown⟩
set_option maxRecDepth 100000 in
theorem lkMX1_begin : mLkM MX1_begin 0 := ⟨by rw [if_pos (show MX1_begin.2.2.2.2.1 = [] from rfl)]; exact m_in 526 (by decide +kernel) rfl, m_in 36 (by decide +kernel) rfl, by decide +kernel, ⟨by decide +kernel, by decide +kernel⟩, by decide +kernel, okX1_begin⟩
set_option maxRecDepth 100000 in
theorem lkMX1_in : mLkM MX1_in 3 := ⟨by rw [if_pos (show MX1_in.2.2.2.2.1 = [] from rfl)]; exact m_in 587 (by decide +kernel) rfl, m_in 36 (by decide +kernel) rfl, by decide +kernel, ⟨by decide +kernel, by decide +kernel⟩, by decide +kernel, okX1_in⟩
set_option maxRecDepth 100000 in
theorem lkMX1_isPool : mLkM MX1_isPool 1 := ⟨by rw [if_pos (show MX1_isPool.2.2.2.2.1 = [] from rfl)]; exact m_in 584 (by decide +kernel) rfl, m_in 36 (by decide +kernel) rfl, by decide +kernel, ⟨by decide +kernel, by decide +kernel⟩, by decide +kernel, okX1_isPool⟩
set_option maxRecDepth 100000 in
theorem lkMX1_isBoat : mLkM MX1_isBoat 1 := ⟨by rw [if_pos (show MX1_isBoat.2.2.2.2.1 = [] from rfl)]; exact m_in 626 (by decide +kernel) rfl, m_in 36 (by decide +kernel) rfl, by decide +kernel, ⟨by decide +kernel, by decide +kernel⟩, by decide +kernel, okX1_isBoat⟩
set_option maxRecDepth 100000 in
theorem lkMX1_heightOf : mLkM MX1_heightOf 1 := ⟨by rw [if_pos (show MX1_heightOf.2.2.2.2.1 = [] from rfl)]; exact m_in 619 (by decide +kernel) rfl, m_in 36 (by decide +kernel) rfl, by decide +kernel, ⟨by decide +kernel, by decide +kernel⟩, by decide +kernel, okX1_heightOf⟩
set_option maxRecDepth 100000 in
theorem lkMX1_lieIn : mLkM MX1_lieIn 1 := ⟨by rw [if_pos (show MX1_lieIn.2.2.2.2.1 = [] from rfl)]; exact m_in 630 (by decide +kernel) rfl, m_in 36 (by decide +kernel) rfl, by decide +kernel, ⟨by decide +kernel, by decide +kernel⟩, by decide +kernel, okX1_lieIn⟩
set_option maxRecDepth 100000 in
theorem lkMX1_fail : mLkM MX1_fail 1 := ⟨by rw [if_pos (show MX1_fail.2.2.2.2.1 = [] from rfl)]; exact m_in 599 (by decide +kernel) rfl, m_in 36 (by decide +kernel) rfl, by decide +kernel, ⟨by decide +kernel, by decide +kernel⟩, by decide +kernel, okX1_fail⟩
set_option maxRecDepth 100000 in
theorem lkMX1_hold : mLkM MX1_hold 1 := ⟨by rw [if_pos (show MX1_hold.2.2.2.2.1 = [] from rfl)]; exact m_in 595 (by decide +kernel) rfl, m_in 36 (by decide +kernel) rfl, by decide +kernel, ⟨by decide +kernel, by decide +kernel⟩, by decide +kernel, okX1_hold⟩
set_option maxRecDepth 100000 in
theorem lkMX1_leave : mLkM MX1_leave 1 := ⟨by rw [if_pos (show MX1_leave.2.2.2.2.1 = [] from rfl)]; exact m_in 607 (by decide +kernel) rfl, m_in 36 (by decide +kernel) rfl, by decide +kernel, ⟨by decide +kernel, by decide +kernel⟩, by decide +kernel, okX1_leave⟩
set_option maxRecDepth 100000 in
theorem lkMX1_told : mLkM MX1_told 4 := ⟨by rw [if_pos (show MX1_told.2.2.2.2.1 = [] from rfl)]; exact m_in 603 (by decide +kernel) rfl, m_in 36 (by decide +kernel) rfl, by decide +kernel, ⟨by decide +kernel, by decide +kernel⟩, by decide +kernel, okX1_told⟩
set_option maxRecDepth 100000 in
theorem lkMX1_dig : mLkM MX1_dig 2 := ⟨by rw [if_pos (show MX1_dig.2.2.2.2.1 = [] from rfl)]; exact m_in 581 (by decide +kernel) rfl, m_in 36 (by decide +kernel) rfl, by decide +kernel, ⟨by decide +kernel, by decide +kernel⟩, by decide +kernel, okX1_dig⟩
set_option maxRecDepth 100000 in
theorem lkMX1_fill : mLkM MX1_fill 1 := ⟨by rw [if_pos (show MX1_fill.2.2.2.2.1 = [] from rfl)]; exact m_in 591 (by decide +kernel) rfl, m_in 36 (by decide +kernel) rfl, by decide +kernel, ⟨by decide +kernel, by decide +kernel⟩, by decide +kernel, okX1_fill⟩
set_option maxRecDepth 100000 in
theorem lkMX1_pour : mLkM MX1_pour 2 := ⟨by rw [if_pos (show MX1_pour.2.2.2.2.1 = [] from rfl)]; exact m_in 611 (by decide +kernel) rfl, m_in 36 (by decide +kernel) rfl, by decide +kernel, ⟨by decide +kernel, by decide +kernel⟩, by decide +kernel, okX1_pour⟩
set_option maxRecDepth 100000 in
theorem lkMX1_draw : mLkM MX1_draw 2 := ⟨by rw [if_pos (show MX1_draw.2.2.2.2.1 = [] from rfl)]; exact m_in 615 (by decide +kernel) rfl, m_in 36 (by decide +kernel) rfl, by decide +kernel, ⟨by decide +kernel, by decide +kernel⟩, by decide +kernel, okX1_draw⟩
set_option maxRecDepth 100000 in
theorem lkMX1_boat : mLkM MX1_boat 3 := ⟨by rw [if_pos (show MX1_boat.2.2.2.2.1 = [] from rfl)]; exact m_in 623 (by decide +kernel) rfl, m_in 36 (by decide +kernel) rfl, by decide +kernel, ⟨by decide +kernel, by decide +kernel⟩, by decide +kernel, okX1_boat⟩
set_option maxRecDepth 100000 in
theorem lkMX1_gate : mLkM MX1_gate 2 := ⟨by rw [if_pos (show MX1_gate.2.2.2.2.1 = [] from rfl)]; exact m_in 634 (by decide +kernel) rfl, m_in 36 (by decide +kernel) rfl, by decide +kernel, ⟨by decide +kernel, by decide +kernel⟩, by decide +kernel, okX1_gate⟩
set_option maxRecDepth 100000 in
theorem lkMX1_levels : mLkM MX1_levels 1 := ⟨by rw [if_pos (show MX1_levels.2.2.2.2.1 = [] from rfl)]; exact m_in 642 (by decide +kernel) rfl, m_in 36 (by decide +kernel) rfl, by decide +kernel, ⟨by decide +kernel, by decide +kernel⟩, by decide +kernel, okX1_levels⟩
set_option maxRecDepth 100000 in
theorem lkMX1_passes : mLkM MX1_passes 2 := ⟨by rw [if_pos (show MX1_passes.2.2.2.2.1 = [] from rfl)]; exact m_in 650 (by decide +kernel) rfl, m_in 36 (by decide +kernel) rfl, by decide +kernel, ⟨by decide +kernel, by decide +kernel⟩, by decide +kernel, okX1_passes⟩
set_option maxRecDepth 100000 in
theorem lkMX1_level : mLkM MX1_level 1 := ⟨by rw [if_pos (show MX1_level.2.2.2.2.1 = [] from rfl)]; exact m_in 638 (by decide +kernel) rfl, m_in 36 (by decide +kernel) rfl, by decide +kernel, ⟨by decide +kernel, by decide +kernel⟩, by decide +kernel, okX1_level⟩
set_option maxRecDepth 100000 in
theorem lkMX1_pass : mLkM MX1_pass 2 := ⟨by rw [if_pos (show MX1_pass.2.2.2.2.1 = [] from rfl)]; exact m_in 646 (by decide +kernel) rfl, m_in 36 (by decide +kernel) rfl, by decide +kernel, ⟨by decide +kernel, by decide +kernel⟩, by decide +kernel, okX1_pass⟩
set_option maxRecDepth 100000 in
theorem lkMX1_flies : mLkM MX1_flies 2 := ⟨by rw [if_pos (show MX1_flies.2.2.2.2.1 = [] from rfl)]; exact m_in 658 (by decide +kernel) rfl, m_in 36 (by decide +kernel) rfl, by decide +kernel, ⟨by decide +kernel, by decide +kernel⟩, by decide +kernel, okX1_flies⟩
set_option maxRecDepth 100000 in
theorem lkMX1_flight : mLkM MX1_flight 2 := ⟨by rw [if_pos (show MX1_flight.2.2.2.2.1 = [] from rfl)]; exact m_in 654 (by decide +kernel) rfl, m_in 36 (by decide +kernel) rfl, by decide +kernel, ⟨by decide +kernel, by decide +kernel⟩, by decide +kernel, okX1_flight⟩
set_option maxRecDepth 100000 in
theorem lkMX1_trip : mLkM MX1_trip 2 := ⟨by rw [if_pos (show MX1_trip.2.2.2.2.1 = [] from rfl)]; exact m_in 662 (by decide +kernel) rfl, m_in 36 (by decide +kernel) rfl, by decide +kernel, ⟨by decide +kernel, by decide +kernel⟩, by decide +kernel, okX1_trip⟩
set_option maxRecDepth 100000 in
theorem lkMX1_convoy : mLkM MX1_convoy 2 := ⟨by rw [if_pos (show MX1_convoy.2.2.2.2.1 = [] from rfl)]; exact m_in 666 (by decide +kernel) rfl, m_in 36 (by decide +kernel) rfl, by decide +kernel, ⟨by decide +kernel, by decide +kernel⟩, by decide +kernel, okX1_convoy⟩
set_option maxRecDepth 100000 in
theorem lkMX1_share : mLkM MX1_share 2 := ⟨by rw [if_pos (show MX1_share.2.2.2.2.1 = [] from rfl)]; exact m_in 670 (by decide +kernel) rfl, m_in 36 (by decide +kernel) rfl, by decide +kernel, ⟨by decide +kernel, by decide +kernel⟩, by decide +kernel, okX1_share⟩
set_option maxRecDepth 100000 in
theorem lkMX1_first : mLkM MX1_first 1 := ⟨by rw [if_pos (show MX1_first.2.2.2.2.1 = [] from rfl)]; exact m_in 674 (by decide +kernel) rfl, m_in 36 (by decide +kernel) rfl, by decide +kernel, ⟨by decide +kernel, by decide +kernel⟩, by decide +kernel, okX1_first⟩
set_option maxRecDepth 100000 in
theorem lkMX1_pool : mLkM MX1_pool 2 := ⟨by rw [if_pos (show MX1_pool.2.2.2.2.1 = [] from rfl)]; exact m_in 678 (by decide +kernel) rfl, m_in 36 (by decide +kernel) rfl, by decide +kernel, ⟨by decide +kernel, by decide +kernel⟩, by decide +kernel, okX1_pool⟩
set_option maxRecDepth 100000 in
theorem lkMX1_where : mLkM MX1_where 1 := ⟨by rw [if_pos (show MX1_where.2.2.2.2.1 = [] from rfl)]; exact m_in 682 (by decide +kernel) rfl, m_in 36 (by decide +kernel) rfl, by decide +kernel, ⟨by decide +kernel, by decide +kernel⟩, by decide +kernel, okX1_where⟩
set_option maxRecDepth 100000 in
theorem lkMX1_dug : mLkM MX1_dug 0 := ⟨by rw [if_pos (show MX1_dug.2.2.2.2.1 = [] from rfl)]; exact m_in 690 (by decide +kernel) rfl, m_in 36 (by decide +kernel) rfl, by decide +kernel, ⟨by decide +kernel, by decide +kernel⟩, by decide +kernel, okX1_dug⟩
set_option maxRecDepth 100000 in
theorem lkMX1_told_ : mLkM MX1_told_ 1 := ⟨by rw [if_pos (show MX1_told_.2.2.2.2.1 = [] from rfl)]; exact m_in 686 (by decide +kernel) rfl, m_in 36 (by decide +kernel) rfl, by decide +kernel, ⟨by decide +kernel, by decide +kernel⟩, by decide +kernel, okX1_told_⟩
set_option maxRecDepth 100000 in
theorem lkMX1_clear : mLkM MX1_clear 0 := ⟨by rw [if_pos (show MX1_clear.2.2.2.2.1 = [] from rfl)]; exact m_in 694 (by decide +kernel) rfl, m_in 36 (by decide +kernel) rfl, by decide +kernel, ⟨by decide +kernel, by decide +kernel⟩, by decide +kernel, okX1_clear⟩
set_option maxRecDepth 100000 in
theorem lkMJ7_fill_53178 : mLkM MJ7_fill_53178 2 := ⟨by rw [if_pos (show MJ7_fill_53178.2.2.2.2.1 = [] from rfl)]; exact m_in 63 (by decide +kernel) rfl, m_in 35 (by decide +kernel) rfl, by decide +kernel, ⟨by decide +kernel, by decide +kernel⟩, by decide +kernel, okJ7_fill_53178⟩
set_option maxRecDepth 100000 in
theorem lkML_dig : mLkM ML_dig 4 := ⟨by rw [if_neg (show ¬ ML_dig.2.2.2.2.1 = [] from List.cons_ne_nil _ _)]; exact m_in 136 (by decide +kernel) rfl, m_in 33 (by decide +kernel) rfl, by decide +kernel, ⟨by decide +kernel, by decide +kernel⟩, by decide +kernel, okL_dig⟩
set_option maxRecDepth 100000 in
theorem lkML_fill : mLkM ML_fill 3 := ⟨by rw [if_neg (show ¬ ML_fill.2.2.2.2.1 = [] from List.cons_ne_nil _ _)]; exact m_in 258 (by decide +kernel) rfl, m_in 33 (by decide +kernel) rfl, by decide +kernel, ⟨by decide +kernel, by decide +kernel⟩, by decide +kernel, okL_fill⟩
set_option maxRecDepth 100000 in
theorem lkML_pour : mLkM ML_pour 4 := ⟨by rw [if_neg (show ¬ ML_pour.2.2.2.2.1 = [] from List.cons_ne_nil _ _)]; exact m_in 360 (by decide +kernel) rfl, m_in 33 (by decide +kernel) rfl, by decide +kernel, ⟨by decide +kernel, by decide +kernel⟩, by decide +kernel, okL_pour⟩
set_option maxRecDepth 100000 in
theorem lkML_draw : mLkM ML_draw 4 := ⟨by rw [if_neg (show ¬ ML_draw.2.2.2.2.1 = [] from List.cons_ne_nil _ _)]; exact m_in 374 (by decide +kernel) rfl, m_in 33 (by decide +kernel) rfl, by decide +kernel, ⟨by decide +kernel, by decide +kernel⟩, by decide +kernel, okL_draw⟩
set_option maxRecDepth 100000 in
theorem lkML_boat : mLkM ML_boat 5 := ⟨by rw [if_neg (show ¬ ML_boat.2.2.2.2.1 = [] from List.cons_ne_nil _ _)]; exact m_in 389 (by decide +kernel) rfl, m_in 33 (by decide +kernel) rfl, by decide +kernel, ⟨by decide +kernel, by decide +kernel⟩, by decide +kernel, okL_boat⟩
set_option maxRecDepth 100000 in
theorem lkML_gate : mLkM ML_gate 4 := ⟨by rw [if_neg (show ¬ ML_gate.2.2.2.2.1 = [] from List.cons_ne_nil _ _)]; exact m_in 405 (by decide +kernel) rfl, m_in 33 (by decide +kernel) rfl, by decide +kernel, ⟨by decide +kernel, by decide +kernel⟩, by decide +kernel, okL_gate⟩
set_option maxRecDepth 100000 in
theorem lkML_level : mLkM ML_level 3 := ⟨by rw [if_neg (show ¬ ML_level.2.2.2.2.1 = [] from List.cons_ne_nil _ _)]; exact m_in 416 (by decide +kernel) rfl, m_in 33 (by decide +kernel) rfl, by decide +kernel, ⟨by decide +kernel, by decide +kernel⟩, by decide +kernel, okL_level⟩
set_option maxRecDepth 100000 in
theorem lkML_pass : mLkM ML_pass 4 := ⟨by rw [if_neg (show ¬ ML_pass.2.2.2.2.1 = [] from List.cons_ne_nil _ _)]; exact m_in 440 (by decide +kernel) rfl, m_in 33 (by decide +kernel) rfl, by decide +kernel, ⟨by decide +kernel, by decide +kernel⟩, by decide +kernel, okL_pass⟩
set_option maxRecDepth 100000 in
theorem lkML_flight : mLkM ML_flight 4 := ⟨by rw [if_neg (show ¬ ML_flight.2.2.2.2.1 = [] from List.cons_ne_nil _ _)]; exact m_in 456 (by decide +kernel) rfl, m_in 33 (by decide +kernel) rfl, by decide +kernel, ⟨by decide +kernel, by decide +kernel⟩, by decide +kernel, okL_flight⟩
set_option maxRecDepth 100000 in
theorem lkML_trip : mLkM ML_trip 4 := ⟨by rw [if_neg (show ¬ ML_trip.2.2.2.2.1 = [] from List.cons_ne_nil _ _)]; exact m_in 467 (by decide +kernel) rfl, m_in 33 (by decide +kernel) rfl, by decide +kernel, ⟨by decide +kernel, by decide +kernel⟩, by decide +kernel, okL_trip⟩
set_option maxRecDepth 100000 in
theorem lkML_convoy : mLkM ML_convoy 4 := ⟨by rw [if_neg (show ¬ ML_convoy.2.2.2.2.1 = [] from List.cons_ne_nil _ _)]; exact m_in 474 (by decide +kernel) rfl, m_in 33 (by decide +kernel) rfl, by decide +kernel, ⟨by decide +kernel, by decide +kernel⟩, by decide +kernel, okL_convoy⟩
set_option maxRecDepth 100000 in
theorem lkML_share : mLkM ML_share 4 := ⟨by rw [if_neg (show ¬ ML_share.2.2.2.2.1 = [] from List.cons_ne_nil _ _)]; exact m_in 489 (by decide +kernel) rfl, m_in 33 (by decide +kernel) rfl, by decide +kernel, ⟨by decide +kernel, by decide +kernel⟩, by decide +kernel, okL_share⟩
set_option maxRecDepth 100000 in
theorem lkML_pool : mLkM ML_pool 4 := ⟨by rw [if_neg (show ¬ ML_pool.2.2.2.2.1 = [] from List.cons_ne_nil _ _)]; exact m_in 504 (by decide +kernel) rfl, m_in 33 (by decide +kernel) rfl, by decide +kernel, ⟨by decide +kernel, by decide +kernel⟩, by decide +kernel, okL_pool⟩
set_option maxRecDepth 100000 in
theorem lkML_where : mLkM ML_where 3 := ⟨by rw [if_neg (show ¬ ML_where.2.2.2.2.1 = [] from List.cons_ne_nil _ _)]; exact m_in 512 (by decide +kernel) rfl, m_in 33 (by decide +kernel) rfl, by decide +kernel, ⟨by decide +kernel, by decide +kernel⟩, by decide +kernel, okL_where⟩
set_option maxRecDepth 100000 in
theorem lkRX0_31 : mLkV RX0 31 MX0_reset 0 := ⟨m_in 57 (by decide +kernel) rfl, m_in 59 (by decide +kernel) rfl, m_in 0 (by decide +kernel) rfl, rfl, lkMX0_reset⟩
set_option maxRecDepth 100000 in
theorem lkRX0_34 : mLkS RX0 34 MX0_checkPool 1 := ⟨m_in 231 (by decide +kernel) rfl, m_in 232 (by decide +kernel) rfl, lkMX0_checkPool⟩
set_option maxRecDepth 100000 in
theorem lkRX0_38 : mLkS RX0 38 MX0_checkRange 3 := ⟨m_in 237 (by decide +kernel) rfl, m_in 238 (by decide +kernel) rfl, lkMX0_checkRange⟩
set_option maxRecDepth 100000 in
theorem lkRX0_42 : mLkV RX0 42 MX0_isDug 1 := ⟨m_in 104 (by decide +kernel) rfl, m_in 106 (by decide +kernel) rfl, m_in 2 (by decide +kernel) rfl, rfl, lkMX0_isDug⟩
set_option maxRecDepth 100000 in
theorem lkRX0_46 : mLkV RX0 46 MX0_fillIn 1 := ⟨m_in 289 (by decide +kernel) rfl, m_in 291 (by decide +kernel) rfl, m_in 8 (by decide +kernel) rfl, rfl, lkMX0_fillIn⟩
set_option maxRecDepth 100000 in
theorem lkRX0_50 : mLkS RX0 50 MX0_answered 1 := ⟨m_in 301 (by decide +kernel) rfl, m_in 302 (by decide +kernel) rfl, lkMX0_answered⟩
set_option maxRecDepth 100000 in
theorem lkRX0_53 : mLkV RX0 53 MX0_pourInto 2 := ⟨m_in 365 (by decide +kernel) rfl, m_in 367 (by decide +kernel) rfl, m_in 11 (by decide +kernel) rfl, rfl, lkMX0_pourInto⟩
set_option maxRecDepth 100000 in
theorem lkRX0_64 : mLkV RX0 64 MX0_drawDown 2 := ⟨m_in 380 (by decide +kernel) rfl, m_in 382 (by decide +kernel) rfl, m_in 12 (by decide +kernel) rfl, rfl, lkMX0_drawDown⟩
set_option maxRecDepth 100000 in
theorem lkRX0_67 : mLkS RX0 67 MX0_checkBoat 1 := ⟨m_in 395 (by decide +kernel) rfl, m_in 396 (by decide +kernel) rfl, lkMX0_checkBoat⟩
set_option maxRecDepth 100000 in
theorem lkRX0_70 : mLkV RX0 70 MX0_berth 3 := ⟨m_in 399 (by decide +kernel) rfl, m_in 401 (by decide +kernel) rfl, m_in 13 (by decide +kernel) rfl, rfl, lkMX0_berth⟩
set_option maxRecDepth 100000 in
theorem lkRX0_74 : mLkS RX0 74 MX0_checkGate 1 := ⟨m_in 410 (by decide +kernel) rfl, m_in 411 (by decide +kernel) rfl, lkMX0_checkGate⟩
set_option maxRecDepth 100000 in
theorem lkRX0_77 : mLkV RX0 77 MX0_levelGate 1 := ⟨m_in 423 (by decide +kernel) rfl, m_in 425 (by decide +kernel) rfl, m_in 14 (by decide +kernel) rfl, rfl, lkMX0_levelGate⟩
set_option maxRecDepth 100000 in
theorem lkRX0_85 : mLkS RX0 85 MX0_hasGate 2 := ⟨m_in 446 (by decide +kernel) rfl, m_in 447 (by decide +kernel) rfl, lkMX0_hasGate⟩
set_option maxRecDepth 100000 in
theorem lkRX0_94 : mLkV RX0 94 MX0_passBoat 2 := ⟨m_in 450 (by decide +kernel) rfl, m_in 452 (by decide +kernel) rfl, m_in 17 (by decide +kernel) rfl, rfl, lkMX0_passBoat⟩
set_option maxRecDepth 100000 in
theorem lkRX0_98 : mLkV RX0 98 MX0_fly 2 := ⟨m_in 461 (by decide +kernel) rfl, m_in 463 (by decide +kernel) rfl, m_in 18 (by decide +kernel) rfl, rfl, lkMX0_fly⟩
set_option maxRecDepth 100000 in
theorem lkRX0_101 : mLkV RX0 101 MX0_canSetOut 2 := ⟨m_in 479 (by decide +kernel) rfl, m_in 481 (by decide +kernel) rfl, m_in 19 (by decide +kernel) rfl, rfl, lkMX0_canSetOut⟩
set_option maxRecDepth 100000 in
theorem lkRX0_104 : mLkV RX0 104 MX0_passInConvoy 2 := ⟨m_in 483 (by decide +kernel) rfl, m_in 485 (by decide +kernel) rfl, m_in 20 (by decide +kernel) rfl, rfl, lkMX0_passInConvoy⟩
set_option maxRecDepth 100000 in
theorem lkRX0_109 : mLkV RX0 109 MX0_shareOut 2 := ⟨m_in 495 (by decide +kernel) rfl, m_in 497 (by decide +kernel) rfl, m_in 21 (by decide +kernel) rfl, rfl, lkMX0_shareOut⟩
set_option maxRecDepth 100000 in
theorem lkRX0_112 : mLkV RX0 112 MX0_hold 1 := ⟨m_in 100 (by decide +kernel) rfl, m_in 102 (by decide +kernel) rfl, m_in 1 (by decide +kernel) rfl, rfl, lkMX0_hold⟩
set_option maxRecDepth 100000 in
theorem lkRX0_115 : mLkV RX0 115 MX0_heightOf 1 := ⟨m_in 111 (by decide +kernel) rfl, m_in 113 (by decide +kernel) rfl, m_in 3 (by decide +kernel) rfl, rfl, lkMX0_heightOf⟩
set_option maxRecDepth 100000 in
theorem lkRX0_118 : mLkV RX0 118 MX0_leave 1 := ⟨m_in 115 (by decide +kernel) rfl, m_in 117 (by decide +kernel) rfl, m_in 4 (by decide +kernel) rfl, rfl, lkMX0_leave⟩
set_option maxRecDepth 100000 in
theorem lkRX0_126 : mLkV RX0 126 MX0_boatsIn 1 := ⟨m_in 297 (by decide +kernel) rfl, m_in 299 (by decide +kernel) rfl, m_in 10 (by decide +kernel) rfl, rfl, lkMX0_boatsIn⟩
set_option maxRecDepth 100000 in
theorem lkRX0_136 : mLkV RX0 136 MX0_countDug 0 := ⟨m_in 123 (by decide +kernel) rfl, m_in 125 (by decide +kernel) rfl, m_in 5 (by decide +kernel) rfl, rfl, lkMX0_countDug⟩
set_option maxRecDepth 100000 in
theorem lkRX0_140 : mLkS RX0 140 MX0_sum 3 := ⟨m_in 127 (by decide +kernel) rfl, m_in 128 (by decide +kernel) rfl, lkMX0_sum⟩
set_option maxRecDepth 100000 in
theorem lkRX0_144 : mLkS RX0 144 MJ7_fill_53178 2 := ⟨m_in 61 (by decide +kernel) rfl, m_in 62 (by decide +kernel) rfl, lkMJ7_fill_53178⟩
set_option maxRecDepth 100000 in
theorem lkRX0_183 : mLkV RX0 183 MX0_failing 1 := ⟨m_in 293 (by decide +kernel) rfl, m_in 295 (by decide +kernel) rfl, m_in 9 (by decide +kernel) rfl, rfl, lkMX0_failing⟩
set_option maxRecDepth 100000 in
theorem lkRX0_192 : mLkV RX0 192 MX0_holdAll 2 := ⟨m_in 427 (by decide +kernel) rfl, m_in 429 (by decide +kernel) rfl, m_in 15 (by decide +kernel) rfl, rfl, lkMX0_holdAll⟩
set_option maxRecDepth 100000 in
theorem lkRX0_196 : mLkV RX0 196 MX0_moveUnit 2 := ⟨m_in 434 (by decide +kernel) rfl, m_in 436 (by decide +kernel) rfl, m_in 16 (by decide +kernel) rfl, rfl, lkMX0_moveUnit⟩
set_option maxRecDepth 100000 in
theorem lkRX0_200 : mLkS RX0 200 MX0_portion 3 := ⟨m_in 499 (by decide +kernel) rfl, m_in 500 (by decide +kernel) rfl, lkMX0_portion⟩
set_option maxRecDepth 100000 in
theorem lkRX1_35 : mLkV RX1 35 MX1_begin 0 := ⟨m_in 523 (by decide +kernel) rfl, m_in 525 (by decide +kernel) rfl, m_in 22 (by decide +kernel) rfl, rfl, lkMX1_begin⟩
set_option maxRecDepth 100000 in
theorem lkRX1_54 : mLkS RX1 54 MX1_in 3 := ⟨m_in 585 (by decide +kernel) rfl, m_in 586 (by decide +kernel) rfl, lkMX1_in⟩
set_option maxRecDepth 100000 in
theorem lkRX1_58 : mLkV RX1 58 MX1_fail 1 := ⟨m_in 596 (by decide +kernel) rfl, m_in 598 (by decide +kernel) rfl, m_in 24 (by decide +kernel) rfl, rfl, lkMX1_fail⟩
set_option maxRecDepth 100000 in
theorem lkRX1_62 : mLkS RX1 62 MX1_isPool 1 := ⟨m_in 582 (by decide +kernel) rfl, m_in 583 (by decide +kernel) rfl, lkMX1_isPool⟩
set_option maxRecDepth 100000 in
theorem lkRX1_65 : mLkV RX1 65 MX1_hold 1 := ⟨m_in 592 (by decide +kernel) rfl, m_in 594 (by decide +kernel) rfl, m_in 23 (by decide +kernel) rfl, rfl, lkMX1_hold⟩
set_option maxRecDepth 100000 in
theorem lkRX1_68 : mLkV RX1 68 MX1_told 4 := ⟨m_in 600 (by decide +kernel) rfl, m_in 602 (by decide +kernel) rfl, m_in 25 (by decide +kernel) rfl, rfl, lkMX1_told⟩
set_option maxRecDepth 100000 in
theorem lkRX1_72 : mLkV RX1 72 MX1_leave 1 := ⟨m_in 604 (by decide +kernel) rfl, m_in 606 (by decide +kernel) rfl, m_in 26 (by decide +kernel) rfl, rfl, lkMX1_leave⟩
set_option maxRecDepth 100000 in
theorem lkRX1_76 : mLkV RX1 76 MX1_heightOf 1 := ⟨m_in 616 (by decide +kernel) rfl, m_in 618 (by decide +kernel) rfl, m_in 27 (by decide +kernel) rfl, rfl, lkMX1_heightOf⟩
set_option maxRecDepth 100000 in
theorem lkRX1_80 : mLkS RX1 80 MX1_isBoat 1 := ⟨m_in 624 (by decide +kernel) rfl, m_in 625 (by decide +kernel) rfl, lkMX1_isBoat⟩
set_option maxRecDepth 100000 in
theorem lkRX1_83 : mLkV RX1 83 MX1_lieIn 1 := ⟨m_in 627 (by decide +kernel) rfl, m_in 629 (by decide +kernel) rfl, m_in 28 (by decide +kernel) rfl, rfl, lkMX1_lieIn⟩
set_option maxRecDepth 100000 in
theorem lkRX1_89 : mLkV RX1 89 MX1_levels 1 := ⟨m_in 639 (by decide +kernel) rfl, m_in 641 (by decide +kernel) rfl, m_in 29 (by decide +kernel) rfl, rfl, lkMX1_levels⟩
set_option maxRecDepth 100000 in
theorem lkRX1_92 : mLkV RX1 92 MX1_passes 2 := ⟨m_in 647 (by decide +kernel) rfl, m_in 649 (by decide +kernel) rfl, m_in 30 (by decide +kernel) rfl, rfl, lkMX1_passes⟩
set_option maxRecDepth 100000 in
theorem lkRX1_99 : mLkV RX1 99 MX1_flies 2 := ⟨m_in 655 (by decide +kernel) rfl, m_in 657 (by decide +kernel) rfl, m_in 31 (by decide +kernel) rfl, rfl, lkMX1_flies⟩
set_option maxRecDepth 100000 in
theorem lkRX1_103 : mLkV RX1 103 MX1_dug 0 := ⟨m_in 687 (by decide +kernel) rfl, m_in 689 (by decide +kernel) rfl, m_in 32 (by decide +kernel) rfl, rfl, lkMX1_dug⟩
set_option maxRecDepth 100000 in
theorem lkRL_7 : mLkV RL 7 MX0_dig 2 := ⟨m_in 227 (by decide +kernel) rfl, m_in 228 (by decide +kernel) rfl, m_in 229 (by decide +kernel) rfl, rfl, lkMX0_dig⟩
set_option maxRecDepth 100000 in
theorem lkRL_17 : mLkV RL 17 MX0_fill 1 := ⟨m_in 285 (by decide +kernel) rfl, m_in 286 (by decide +kernel) rfl, m_in 287 (by decide +kernel) rfl, rfl, lkMX0_fill⟩
set_option maxRecDepth 100000 in
theorem lkRL_23 : mLkV RL 23 MX0_pour 2 := ⟨m_in 361 (by decide +kernel) rfl, m_in 362 (by decide +kernel) rfl, m_in 363 (by decide +kernel) rfl, rfl, lkMX0_pour⟩
set_option maxRecDepth 100000 in
theorem lkRL_26 : mLkV RL 26 MX0_draw 2 := ⟨m_in 375 (by decide +kernel) rfl, m_in 376 (by decide +kernel) rfl, m_in 377 (by decide +kernel) rfl, rfl, lkMX0_draw⟩
set_option maxRecDepth 100000 in
theorem lkRL_29 : mLkV RL 29 MX0_boat 3 := ⟨m_in 391 (by decide +kernel) rfl, m_in 392 (by decide +kernel) rfl, m_in 393 (by decide +kernel) rfl, rfl, lkMX0_boat⟩
set_option maxRecDepth 100000 in
theorem lkRL_35 : mLkV RL 35 MX0_gate 2 := ⟨m_in 406 (by decide +kernel) rfl, m_in 407 (by decide +kernel) rfl, m_in 408 (by decide +kernel) rfl, rfl, lkMX0_gate⟩
set_option maxRecDepth 100000 in
theorem lkRL_38 : mLkV RL 38 MX0_level 1 := ⟨m_in 419 (by decide +kernel) rfl, m_in 420 (by decide +kernel) rfl, m_in 421 (by decide +kernel) rfl, rfl, lkMX0_level⟩
set_option maxRecDepth 100000 in
theorem lkRL_45 : mLkV RL 45 MX0_pass 2 := ⟨m_in 441 (by decide +kernel) rfl, m_in 442 (by decide +kernel) rfl, m_in 443 (by decide +kernel) rfl, rfl, lkMX0_pass⟩
set_option maxRecDepth 100000 in
theorem lkRL_49 : mLkV RL 49 MX0_flight 2 := ⟨m_in 457 (by decide +kernel) rfl, m_in 458 (by decide +kernel) rfl, m_in 459 (by decide +kernel) rfl, rfl, lkMX0_flight⟩
set_option maxRecDepth 100000 in
theorem lkRL_52 : mLkV RL 52 MX0_trip 2 := ⟨m_in 468 (by decide +kernel) rfl, m_in 469 (by decide +kernel) rfl, m_in 470 (by decide +kernel) rfl, rfl, lkMX0_trip⟩
set_option maxRecDepth 100000 in
theorem lkRL_55 : mLkV RL 55 MX0_convoy 2 := ⟨m_in 475 (by decide +kernel) rfl, m_in 476 (by decide +kernel) rfl, m_in 477 (by decide +kernel) rfl, rfl, lkMX0_convoy⟩
set_option maxRecDepth 100000 in
theorem lkRL_58 : mLkV RL 58 MX0_share 2 := ⟨m_in 490 (by decide +kernel) rfl, m_in 491 (by decide +kernel) rfl, m_in 492 (by decide +kernel) rfl, rfl, lkMX0_share⟩
set_option maxRecDepth 100000 in
theorem lkRL_61 : mLkV RL 61 MX0_pool 2 := ⟨m_in 505 (by decide +kernel) rfl, m_in 506 (by decide +kernel) rfl, m_in 507 (by decide +kernel) rfl, rfl, lkMX0_pool⟩
set_option maxRecDepth 100000 in
theorem lkRL_64 : mLkV RL 64 MX0_where 1 := ⟨m_in 513 (by decide +kernel) rfl, m_in 514 (by decide +kernel) rfl, m_in 515 (by decide +kernel) rfl, rfl, lkMX0_where⟩
set_option maxRecDepth 100000 in
theorem lkRL_67 : mLkI RL 67 MX0_init 0 := ⟨m_in 51 (by decide +kernel) rfl, m_in 52 (by decide +kernel) rfl, rfl, rfl, rfl, lkMX0_init⟩
set_option maxRecDepth 100000 in
theorem lkRL_70 : mLkI RL 70 MX1_init 0 := ⟨m_in 519 (by decide +kernel) rfl, m_in 520 (by decide +kernel) rfl, rfl, rfl, rfl, lkMX1_init⟩
set_option maxRecDepth 100000 in
theorem lkRL_71 : mLkS RL 71 ML_dig 4 := ⟨m_in 134 (by decide +kernel) rfl, m_in 135 (by decide +kernel) rfl, lkML_dig⟩
set_option maxRecDepth 100000 in
theorem lkRL_76 : mLkV RL 76 MX1_dig 2 := ⟨m_in 578 (by decide +kernel) rfl, m_in 579 (by decide +kernel) rfl, m_in 580 (by decide +kernel) rfl, rfl, lkMX1_dig⟩
set_option maxRecDepth 100000 in
theorem lkRL_77 : mLkV RL 77 MX1_thrown 0 := ⟨m_in 574 (by decide +kernel) rfl, m_in 575 (by decide +kernel) rfl, m_in 576 (by decide +kernel) rfl, rfl, lkMX1_thrown⟩
set_option maxRecDepth 100000 in
theorem lkRL_81 : mLkS RL 81 ML_fill 3 := ⟨m_in 256 (by decide +kernel) rfl, m_in 257 (by decide +kernel) rfl, lkML_fill⟩
set_option maxRecDepth 100000 in
theorem lkRL_84 : mLkV RL 84 MX1_fill 1 := ⟨m_in 588 (by decide +kernel) rfl, m_in 589 (by decide +kernel) rfl, m_in 590 (by decide +kernel) rfl, rfl, lkMX1_fill⟩
set_option maxRecDepth 100000 in
theorem lkRL_85 : mLkS RL 85 ML_pour 4 := ⟨m_in 358 (by decide +kernel) rfl, m_in 359 (by decide +kernel) rfl, lkML_pour⟩
set_option maxRecDepth 100000 in
theorem lkRL_87 : mLkV RL 87 MX1_pour 2 := ⟨m_in 608 (by decide +kernel) rfl, m_in 609 (by decide +kernel) rfl, m_in 610 (by decide +kernel) rfl, rfl, lkMX1_pour⟩
set_option maxRecDepth 100000 in
theorem lkRL_88 : mLkS RL 88 ML_draw 4 := ⟨m_in 372 (by decide +kernel) rfl, m_in 373 (by decide +kernel) rfl, lkML_draw⟩
set_option maxRecDepth 100000 in
theorem lkRL_90 : mLkV RL 90 MX1_draw 2 := ⟨m_in 612 (by decide +kernel) rfl, m_in 613 (by decide +kernel) rfl, m_in 614 (by decide +kernel) rfl, rfl, lkMX1_draw⟩
set_option maxRecDepth 100000 in
theorem lkRL_91 : mLkS RL 91 ML_boat 5 := ⟨m_in 387 (by decide +kernel) rfl, m_in 388 (by decide +kernel) rfl, lkML_boat⟩
set_option maxRecDepth 100000 in
theorem lkRL_94 : mLkV RL 94 MX1_boat 3 := ⟨m_in 620 (by decide +kernel) rfl, m_in 621 (by decide +kernel) rfl, m_in 622 (by decide +kernel) rfl, rfl, lkMX1_boat⟩
set_option maxRecDepth 100000 in
theorem lkRL_95 : mLkS RL 95 ML_gate 4 := ⟨m_in 403 (by decide +kernel) rfl, m_in 404 (by decide +kernel) rfl, lkML_gate⟩
set_option maxRecDepth 100000 in
theorem lkRL_97 : mLkV RL 97 MX1_gate 2 := ⟨m_in 631 (by decide +kernel) rfl, m_in 632 (by decide +kernel) rfl, m_in 633 (by decide +kernel) rfl, rfl, lkMX1_gate⟩
set_option maxRecDepth 100000 in
theorem lkRL_98 : mLkS RL 98 ML_level 3 := ⟨m_in 414 (by decide +kernel) rfl, m_in 415 (by decide +kernel) rfl, lkML_level⟩
set_option maxRecDepth 100000 in
theorem lkRL_100 : mLkV RL 100 MX1_level 1 := ⟨m_in 635 (by decide +kernel) rfl, m_in 636 (by decide +kernel) rfl, m_in 637 (by decide +kernel) rfl, rfl, lkMX1_level⟩
set_option maxRecDepth 100000 in
theorem lkRL_101 : mLkS RL 101 ML_pass 4 := ⟨m_in 438 (by decide +kernel) rfl, m_in 439 (by decide +kernel) rfl, lkML_pass⟩
set_option maxRecDepth 100000 in
theorem lkRL_104 : mLkV RL 104 MX1_pass 2 := ⟨m_in 643 (by decide +kernel) rfl, m_in 644 (by decide +kernel) rfl, m_in 645 (by decide +kernel) rfl, rfl, lkMX1_pass⟩
set_option maxRecDepth 100000 in
theorem lkRL_105 : mLkS RL 105 ML_flight 4 := ⟨m_in 454 (by decide +kernel) rfl, m_in 455 (by decide +kernel) rfl, lkML_flight⟩
set_option maxRecDepth 100000 in
theorem lkRL_107 : mLkV RL 107 MX1_flight 2 := ⟨m_in 651 (by decide +kernel) rfl, m_in 652 (by decide +kernel) rfl, m_in 653 (by decide +kernel) rfl, rfl, lkMX1_flight⟩
set_option maxRecDepth 100000 in
theorem lkRL_108 : mLkS RL 108 ML_trip 4 := ⟨m_in 465 (by decide +kernel) rfl, m_in 466 (by decide +kernel) rfl, lkML_trip⟩
set_option maxRecDepth 100000 in
theorem lkRL_110 : mLkV RL 110 MX1_trip 2 := ⟨m_in 659 (by decide +kernel) rfl, m_in 660 (by decide +kernel) rfl, m_in 661 (by decide +kernel) rfl, rfl, lkMX1_trip⟩
set_option maxRecDepth 100000 in
theorem lkRL_111 : mLkS RL 111 ML_convoy 4 := ⟨m_in 472 (by decide +kernel) rfl, m_in 473 (by decide +kernel) rfl, lkML_convoy⟩
set_option maxRecDepth 100000 in
theorem lkRL_113 : mLkV RL 113 MX1_convoy 2 := ⟨m_in 663 (by decide +kernel) rfl, m_in 664 (by decide +kernel) rfl, m_in 665 (by decide +kernel) rfl, rfl, lkMX1_convoy⟩
set_option maxRecDepth 100000 in
theorem lkRL_114 : mLkS RL 114 ML_share 4 := ⟨m_in 487 (by decide +kernel) rfl, m_in 488 (by decide +kernel) rfl, lkML_share⟩
set_option maxRecDepth 100000 in
theorem lkRL_116 : mLkV RL 116 MX1_share 2 := ⟨m_in 667 (by decide +kernel) rfl, m_in 668 (by decide +kernel) rfl, m_in 669 (by decide +kernel) rfl, rfl, lkMX1_share⟩
set_option maxRecDepth 100000 in
theorem lkRL_117 : mLkV RL 117 MX0_first 1 := ⟨m_in 96 (by decide +kernel) rfl, m_in 97 (by decide +kernel) rfl, m_in 98 (by decide +kernel) rfl, rfl, lkMX0_first⟩
set_option maxRecDepth 100000 in
theorem lkRL_120 : mLkV RL 120 MX1_first 1 := ⟨m_in 671 (by decide +kernel) rfl, m_in 672 (by decide +kernel) rfl, m_in 673 (by decide +kernel) rfl, rfl, lkMX1_first⟩
set_option maxRecDepth 100000 in
theorem lkRL_121 : mLkS RL 121 ML_pool 4 := ⟨m_in 502 (by decide +kernel) rfl, m_in 503 (by decide +kernel) rfl, lkML_pool⟩
set_option maxRecDepth 100000 in
theorem lkRL_123 : mLkV RL 123 MX1_pool 2 := ⟨m_in 675 (by decide +kernel) rfl, m_in 676 (by decide +kernel) rfl, m_in 677 (by decide +kernel) rfl, rfl, lkMX1_pool⟩
set_option maxRecDepth 100000 in
theorem lkRL_124 : mLkS RL 124 ML_where 3 := ⟨m_in 510 (by decide +kernel) rfl, m_in 511 (by decide +kernel) rfl, lkML_where⟩
set_option maxRecDepth 100000 in
theorem lkRL_126 : mLkV RL 126 MX1_where 1 := ⟨m_in 679 (by decide +kernel) rfl, m_in 680 (by decide +kernel) rfl, m_in 681 (by decide +kernel) rfl, rfl, lkMX1_where⟩
set_option maxRecDepth 100000 in
theorem lkRL_127 : mLkV RL 127 MX0_told 1 := ⟨m_in 119 (by decide +kernel) rfl, m_in 120 (by decide +kernel) rfl, m_in 121 (by decide +kernel) rfl, rfl, lkMX0_told⟩
set_option maxRecDepth 100000 in
theorem lkRL_130 : mLkV RL 130 MX1_told_ 1 := ⟨m_in 683 (by decide +kernel) rfl, m_in 684 (by decide +kernel) rfl, m_in 685 (by decide +kernel) rfl, rfl, lkMX1_told_⟩
set_option maxRecDepth 100000 in
theorem lkRL_131 : mLkV RL 131 MX0_clear 0 := ⟨m_in 130 (by decide +kernel) rfl, m_in 131 (by decide +kernel) rfl, m_in 132 (by decide +kernel) rfl, rfl, lkMX0_clear⟩
set_option maxRecDepth 100000 in
theorem lkRL_134 : mLkV RL 134 MX1_clear 0 := ⟨m_in 691 (by decide +kernel) rfl, m_in 692 (by decide +kernel) rfl, m_in 693 (by decide +kernel) rfl, rfl, lkMX1_clear⟩
set_option maxRecDepth 100000 in
theorem inRX0 : ∀ w ∈ u_ws RX0 TX0 10, w ∈ mTW := by
  have h : u_ws RX0 TX0 10 = [74, 76, 78, 80, 82, 84, 86, 88, 90, 92].filterMap (fun i => lw_tbl[i]?) := by decide +kernel
  have hg : (u_ws RX0 TX0 10).all goodWord = true := by decide +kernel
  intro w hw
  have hg9 := List.all_eq_true.mp hg w hw
  rw [h] at hw
  obtain ⟨i, -, hi⟩ := List.mem_filterMap.mp hw
  exact List.mem_filter.mpr ⟨List.mem_of_getElem? hi, hg9⟩
set_option maxRecDepth 100000 in
theorem inRX1 : ∀ w ∈ u_ws RX1 TX1 15, w ∈ mTW := by
  have h : u_ws RX1 TX1 15 = [542, 544, 546, 548, 550, 552, 554, 556, 558, 560, 562, 564, 566, 568, 570].filterMap (fun i => lw_tbl[i]?) := by decide +kernel
  have hg : (u_ws RX1 TX1 15).all goodWord = true := by decide +kernel
  intro w hw
  have hg9 := List.all_eq_true.mp hg w hw
  rw [h] at hw
  obtain ⟨i, -, hi⟩ := List.mem_filterMap.mp hw
  exact List.mem_filter.mpr ⟨List.mem_of_getElem? hi, hg9⟩
theorem lfRX0_9 : mLkF RX0 9 0 0 := ⟨RX0, TX0, 10, tyX0, rfl, by decide, m_in 64 (by decide +kernel) rfl, inRX0, tyX0_ok, nmX0, rfl⟩
theorem lfRX0_13 : mLkF RX0 13 0 1 := ⟨RX0, TX0, 10, tyX0, rfl, by decide, m_in 65 (by decide +kernel) rfl, inRX0, tyX0_ok, nmX0, rfl⟩
theorem lfRX0_16 : mLkF RX0 16 0 2 := ⟨RX0, TX0, 10, tyX0, rfl, by decide, m_in 66 (by decide +kernel) rfl, inRX0, tyX0_ok, nmX0, rfl⟩
theorem lfRX0_19 : mLkF RX0 19 0 3 := ⟨RX0, TX0, 10, tyX0, rfl, by decide, m_in 67 (by decide +kernel) rfl, inRX0, tyX0_ok, nmX0, rfl⟩
theorem lfRX0_22 : mLkF RX0 22 0 4 := ⟨RX0, TX0, 10, tyX0, rfl, by decide, m_in 68 (by decide +kernel) rfl, inRX0, tyX0_ok, nmX0, rfl⟩
theorem lfRX0_25 : mLkF RX0 25 0 5 := ⟨RX0, TX0, 10, tyX0, rfl, by decide, m_in 69 (by decide +kernel) rfl, inRX0, tyX0_ok, nmX0, rfl⟩
theorem lfRX0_28 : mLkF RX0 28 0 6 := ⟨RX0, TX0, 10, tyX0, rfl, by decide, m_in 70 (by decide +kernel) rfl, inRX0, tyX0_ok, nmX0, rfl⟩
theorem lfRX0_129 : mLkF RX0 129 0 9 := ⟨RX0, TX0, 10, tyX0, rfl, by decide, m_in 73 (by decide +kernel) rfl, inRX0, tyX0_ok, nmX0, rfl⟩
theorem lfRX0_133 : mLkF RX0 133 0 8 := ⟨RX0, TX0, 10, tyX0, rfl, by decide, m_in 72 (by decide +kernel) rfl, inRX0, tyX0_ok, nmX0, rfl⟩
theorem lfRX0_172 : mLkF RX0 172 0 7 := ⟨RX0, TX0, 10, tyX0, rfl, by decide, m_in 71 (by decide +kernel) rfl, inRX0, tyX0_ok, nmX0, rfl⟩
theorem lfRX1_7 : mLkF RX1 7 1 1 := ⟨RX1, TX1, 15, tyX1, rfl, by decide, m_in 528 (by decide +kernel) rfl, inRX1, tyX1_ok, nmX1, rfl⟩
theorem lfRX1_13 : mLkF RX1 13 1 2 := ⟨RX1, TX1, 15, tyX1, rfl, by decide, m_in 529 (by decide +kernel) rfl, inRX1, tyX1_ok, nmX1, rfl⟩
theorem lfRX1_17 : mLkF RX1 17 1 3 := ⟨RX1, TX1, 15, tyX1, rfl, by decide, m_in 530 (by decide +kernel) rfl, inRX1, tyX1_ok, nmX1, rfl⟩
theorem lfRX1_20 : mLkF RX1 20 1 4 := ⟨RX1, TX1, 15, tyX1, rfl, by decide, m_in 531 (by decide +kernel) rfl, inRX1, tyX1_ok, nmX1, rfl⟩
theorem lfRX1_23 : mLkF RX1 23 1 5 := ⟨RX1, TX1, 15, tyX1, rfl, by decide, m_in 532 (by decide +kernel) rfl, inRX1, tyX1_ok, nmX1, rfl⟩
theorem lfRX1_26 : mLkF RX1 26 1 6 := ⟨RX1, TX1, 15, tyX1, rfl, by decide, m_in 533 (by decide +kernel) rfl, inRX1, tyX1_ok, nmX1, rfl⟩
theorem lfRX1_29 : mLkF RX1 29 1 7 := ⟨RX1, TX1, 15, tyX1, rfl, by decide, m_in 534 (by decide +kernel) rfl, inRX1, tyX1_ok, nmX1, rfl⟩
theorem lfRX1_32 : mLkF RX1 32 1 8 := ⟨RX1, TX1, 15, tyX1, rfl, by decide, m_in 535 (by decide +kernel) rfl, inRX1, tyX1_ok, nmX1, rfl⟩
theorem lfRX1_38 : mLkF RX1 38 1 0 := ⟨RX1, TX1, 15, tyX1, rfl, by decide, m_in 527 (by decide +kernel) rfl, inRX1, tyX1_ok, nmX1, rfl⟩
theorem lfRX1_42 : mLkF RX1 42 1 9 := ⟨RX1, TX1, 15, tyX1, rfl, by decide, m_in 536 (by decide +kernel) rfl, inRX1, tyX1_ok, nmX1, rfl⟩
theorem lfRX1_45 : mLkF RX1 45 1 10 := ⟨RX1, TX1, 15, tyX1, rfl, by decide, m_in 537 (by decide +kernel) rfl, inRX1, tyX1_ok, nmX1, rfl⟩
theorem lfRX1_48 : mLkF RX1 48 1 11 := ⟨RX1, TX1, 15, tyX1, rfl, by decide, m_in 538 (by decide +kernel) rfl, inRX1, tyX1_ok, nmX1, rfl⟩
theorem lfRX1_51 : mLkF RX1 51 1 12 := ⟨RX1, TX1, 15, tyX1, rfl, by decide, m_in 539 (by decide +kernel) rfl, inRX1, tyX1_ok, nmX1, rfl⟩
theorem lfRX1_86 : mLkF RX1 86 1 13 := ⟨RX1, TX1, 15, tyX1, rfl, by decide, m_in 540 (by decide +kernel) rfl, inRX1, tyX1_ok, nmX1, rfl⟩
theorem lfRX1_96 : mLkF RX1 96 1 14 := ⟨RX1, TX1, 15, tyX1, rfl, by decide, m_in 541 (by decide +kernel) rfl, inRX1, tyX1_ok, nmX1, rfl⟩
theorem lnRX0 : mLkN RL 8 0 [.null, .null, .null, .null, .null, .null, .null, .int 0, .int 0, .int 0] 10 := ⟨RX0, TX0, tyX0, rfl, inRX0, tyX0_ok, m_in 49 (by decide +kernel) rfl, m_in 50 (by decide +kernel) rfl, m_in 34 (by decide +kernel) rfl, by decide +kernel, fun _ => rfl⟩
theorem lnRX1 : mLkN RL 68 1 [.int 0, .null, .null, .null, .null, .null, .null, .null, .null, .int 0, .int 0, .int 0, .int 0, .int 0, .int 0] 15 := ⟨RX1, TX1, tyX1, rfl, inRX1, tyX1_ok, m_in 517 (by decide +kernel) rfl, m_in 518 (by decide +kernel) rfl, m_in 36 (by decide +kernel) rfl, by decide +kernel, fun _ => rfl⟩
theorem loRX0 : Cond.methodLink RX0 3 objectInit ∈ mTW := m_in 54 (by decide +kernel) rfl
theorem loRX1 : Cond.methodLink RX1 1 objectInit ∈ mTW := m_in 522 (by decide +kernel) rfl
theorem loI : Cond.instanceMethod objectInit ∈ mTW := m_in 55 (by decide +kernel) rfl
theorem loC : Cond.code objectInit ⟨#[0xb1]⟩ 1 none ∈ mTW := m_in 56 (by decide +kernel) rfl
theorem la_int : Cond.arrayClass .int ∈ mTW := m_in 95 (by decide +kernel) rfl
theorem la_byte : Cond.arrayClass .byte ∈ mTW := m_in 221 (by decide +kernel) rfl
theorem la_boolean : Cond.arrayClass .boolean ∈ mTW := m_in 573 (by decide +kernel) rfl
theorem la_long : Cond.arrayClass .long ∈ mTW := m_in 695 (by decide +kernel) rfl
theorem lm175 : Cond.methodLink RX0 175 Lib.Math.max.name ∈ mTW ∧ Cond.static Lib.Math.max.name ∈ mTW ∧ Cond.initialized "java/lang/Math" ∈ mTW ∧ Cond.code Lib.Math.max.name Lib.Math.max.code 2 (some .int) ∈ mTW := ⟨m_in 108 (by decide +kernel) rfl, m_in 109 (by decide +kernel) rfl, m_in 45 (by decide +kernel) rfl, m_in 110 (by decide +kernel) rfl⟩
theorem lm186 : Cond.methodLink RX0 186 Lib.Math.min.name ∈ mTW ∧ Cond.static Lib.Math.min.name ∈ mTW ∧ Cond.initialized "java/lang/Math" ∈ mTW ∧ Cond.code Lib.Math.min.name Lib.Math.min.code 2 (some .int) ∈ mTW := ⟨m_in 369 (by decide +kernel) rfl, m_in 370 (by decide +kernel) rfl, m_in 45 (by decide +kernel) rfl, m_in 371 (by decide +kernel) rfl⟩
theorem lm180 : Cond.methodLink RX0 180 Lib.Math.abs.name ∈ mTW ∧ Cond.static Lib.Math.abs.name ∈ mTW ∧ Cond.initialized "java/lang/Math" ∈ mTW ∧ Cond.code Lib.Math.abs.name Lib.Math.abs.code 1 (some .int) ∈ mTW := ⟨m_in 431 (by decide +kernel) rfl, m_in 432 (by decide +kernel) rfl, m_in 45 (by decide +kernel) rfl, m_in 433 (by decide +kernel) rfl⟩
theorem lm189 : Cond.methodLink RX0 189 Lib.MathLoose.min_long.x ∈ mTW ∧ Cond.static Lib.MathLoose.min_long.x ∈ mTW ∧ Cond.initialized "java/lang/Math" ∈ mTW ∧ Cond.code Lib.MathLoose.min_long.x Lib.MathLoose.min_long.code 4 (some .long) ∈ mTW := ⟨m_in 384 (by decide +kernel) rfl, m_in 385 (by decide +kernel) rfl, m_in 45 (by decide +kernel) rfl, m_in 386 (by decide +kernel) rfl⟩
