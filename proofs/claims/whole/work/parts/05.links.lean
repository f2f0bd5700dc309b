theorem mcl_X0 : mCl 0 RX0 TX0 8 tyX0 := ⟨rfl, inlX0, tyX0_ok, nmX0, by decide, rfl⟩
theorem mcl_X1 : mCl 1 RX1 TX1 7 tyX1 := ⟨rfl, inlX1, tyX1_ok, nmX1, by decide, rfl⟩
theorem mcl_X2 : mCl 2 RX2 TX2 2 tyX2 := ⟨rfl, inlX2, tyX2_ok, nmX2, by decide, rfl⟩
theorem mcl_X3 : mCl 3 RX3 TX3 4 tyX3 := ⟨rfl, inlX3, tyX3_ok, nmX3, by decide, rfl⟩
theorem mcl_X4 : mCl 4 RX4 TX4 9 tyX4 := ⟨rfl, inlX4, tyX4_ok, nmX4, by decide, rfl⟩
theorem mcl_X5 : mCl 5 RX5 TX5 6 tyX5 := ⟨rfl, inlX5, tyX5_ok, nmX5, by decide, rfl⟩
theorem mcl_X6 : mCl 6 RX6 TX6 17 tyX6 := ⟨rfl, inlX6, tyX6_ok, nmX6, by decide, rfl⟩
theorem mcl_X7 : mCl 7 RX7 TX7 30 tyX7 := ⟨rfl, inlX7, tyX7_ok, nmX7, by decide, rfl⟩
theorem fd_X0_9 : mFd RX0 9 0 0 2 (tyX0 0) true RX0 TX0 8 tyX0 := ⟨mcl_X0, by decide, q_4 (List.mem_of_getElem? (i := 12) rfl), rfl, rfl, rfl, rfl⟩
theorem fd_X1_24 : mFd RX1 24 1 4 0 .int false RX1 TX1 7 tyX1 := ⟨mcl_X1, by decide, q_7 (List.mem_of_getElem? (i := 5) rfl), rfl, rfl, rfl, rfl⟩
theorem fd_X1_28 : mFd RX1 28 1 5 0 .int false RX1 TX1 7 tyX1 := ⟨mcl_X1, by decide, q_7 (List.mem_of_getElem? (i := 6) rfl), rfl, rfl, rfl, rfl⟩
theorem cd_X0_98 : mCdN RX0 98 yX6_hasBit cX6_hasBit 2 (some .boolean) 2 := ⟨List.mem_of_getElem? (i := 15) rfl, mGoodC (q_30 (List.mem_of_getElem? (i := 9) rfl)) mGoodT, q_30 (List.mem_of_getElem? (i := 8) rfl), q_1 (List.mem_of_getElem? (i := 2) rfl), by decide, by decide, by decide +kernel⟩
theorem cd_X1_40 : mCdN RX1 40 yX6_isWithin cX6_isWithin 3 (some .boolean) 3 := ⟨List.mem_of_getElem? (i := 8) rfl, mGoodC (q_6 (List.mem_of_getElem? (i := 12) rfl)) mGoodT, q_6 (List.mem_of_getElem? (i := 11) rfl), q_1 (List.mem_of_getElem? (i := 2) rfl), by decide, by decide, by decide +kernel⟩
theorem cd_X6_176 : mCdS RX6 176 yX6_farBetween cX6_farBetween 2 (some .int) 2 := ⟨mGoodC (q_17 (List.mem_of_getElem? (i := 12) rfl)) (mGoodC (q_17 (List.mem_of_getElem? (i := 13) rfl)) (mGoodC (q_1 (List.mem_of_getElem? (i := 2) rfl)) (mGoodC (q_17 (List.mem_of_getElem? (i := 14) rfl)) mGoodT))), by decide, by decide, by decide +kernel⟩
theorem cd_X6_315 : mCdS RX6 315 yX6_sheepReach cX6_sheepReach 5 (some .int) 2 := ⟨mGoodC (q_17 (List.mem_of_getElem? (i := 18) rfl)) (mGoodC (q_17 (List.mem_of_getElem? (i := 19) rfl)) (mGoodC (q_1 (List.mem_of_getElem? (i := 2) rfl)) (mGoodC (q_17 (List.mem_of_getElem? (i := 20) rfl)) mGoodT))), by decide, by decide, by decide +kernel⟩
theorem cd_X6_324 : mCdS RX6 324 yX6_wayFrom cX6_wayFrom 4 (some .int) 2 := ⟨mGoodC (q_17 (List.mem_of_getElem? (i := 21) rfl)) (mGoodC (q_17 (List.mem_of_getElem? (i := 22) rfl)) (mGoodC (q_1 (List.mem_of_getElem? (i := 2) rfl)) (mGoodC (q_17 (List.mem_of_getElem? (i := 23) rfl)) mGoodT))), by decide, by decide, by decide +kernel⟩
theorem cd_X6_327 : mCdS RX6 327 yX6_moved cX6_moved 5 (some .int) 3 := ⟨mGoodC (q_18 (List.mem_of_getElem? (i := 0) rfl)) (mGoodC (q_17 (List.mem_of_getElem? (i := 4) rfl)) (mGoodC (q_1 (List.mem_of_getElem? (i := 2) rfl)) (mGoodC (q_17 (List.mem_of_getElem? (i := 5) rfl)) mGoodT))), by decide, by decide, by decide +kernel⟩
theorem mw_X6_150 : mMathW RX6 150 Lib.Math.min.name Lib.Math.min.code 2 := ⟨q_17 (List.mem_of_getElem? (i := 9) rfl), q_3 (List.mem_of_getElem? (i := 19) rfl), q_3 (List.mem_of_getElem? (i := 20) rfl), q_3 (List.mem_of_getElem? (i := 21) rfl)⟩
theorem mw_X6_312 : mMathW RX6 312 Lib.Math.max.name Lib.Math.max.code 2 := ⟨q_17 (List.mem_of_getElem? (i := 6) rfl), q_17 (List.mem_of_getElem? (i := 7) rfl), q_3 (List.mem_of_getElem? (i := 20) rfl), q_17 (List.mem_of_getElem? (i := 8) rfl)⟩
theorem mw_X6_321 : mMathW RX6 321 Lib.Math.abs.name Lib.Math.abs.code 1 := ⟨q_17 (List.mem_of_getElem? (i := 15) rfl), q_17 (List.mem_of_getElem? (i := 16) rfl), q_3 (List.mem_of_getElem? (i := 20) rfl), q_17 (List.mem_of_getElem? (i := 17) rfl)⟩
