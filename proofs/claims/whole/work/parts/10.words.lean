/-! ===== the words that the walks use: by their places in the tables ===== -/
theorem w_309 : Cond.methodLink RX3 24 yJ9_min_7cf53 ∈ gw := gw_t 309 (by decide +kernel) (by decide +kernel)
theorem w_312 : Cond.methodLink RX3 30 yX8_digits ∈ gw := gw_t 312 (by decide +kernel) (by decide +kernel)
theorem w_316 : Cond.methodLink RX8 19 yX8_at ∈ gw := gw_t 316 (by decide +kernel) (by decide +kernel)
theorem w_323 : Cond.methodLink RX3 34 yX8_number ∈ gw := gw_t 323 (by decide +kernel) (by decide +kernel)
theorem w_327 : Cond.methodLink RX3 37 yX8_at ∈ gw := gw_t 327 (by decide +kernel) (by decide +kernel)
theorem w_352 : Cond.methodLink RX1 27 yJ9_min_7cf53 ∈ gw := gw_t 352 (by decide +kernel) (by decide +kernel)
theorem w_353 : Cond.methodLink RX1 33 yX8_at ∈ gw := gw_t 353 (by decide +kernel) (by decide +kernel)
theorem w_354 : Cond.methodLink RX1 36 yX8_digits ∈ gw := gw_t 354 (by decide +kernel) (by decide +kernel)
theorem w_355 : Cond.methodLink RX1 40 yX8_number ∈ gw := gw_t 355 (by decide +kernel) (by decide +kernel)
theorem w_514 : Cond.methodLink RX0 36 arraycopyName ∈ gw := gw_t 514 (by decide +kernel) (by decide +kernel)
theorem w_519 : Cond.methodLink RX0 42 yX0_land ∈ gw := gw_t 519 (by decide +kernel) (by decide +kernel)
theorem w_523 : Cond.methodLink RX0 50 yX1_atMonth ∈ gw := gw_t 523 (by decide +kernel) (by decide +kernel)
theorem w_527 : Cond.methodLink RX1 43 yJ9_floorMod_7cf53 ∈ gw := gw_t 527 (by decide +kernel) (by decide +kernel)
theorem w_530 : Cond.methodLink RX0 63 yX0_add ∈ gw := gw_t 530 (by decide +kernel) (by decide +kernel)
theorem w_534 : Cond.methodLink RX0 67 yX0_has ∈ gw := gw_t 534 (by decide +kernel) (by decide +kernel)
theorem w_541 : Cond.constant RX0 74 (99999) ∈ gw := gw_t 541 (by decide +kernel) (by decide +kernel)
theorem w_542 : Cond.methodLink RX0 75 yJ9_min_7cf53 ∈ gw := gw_t 542 (by decide +kernel) (by decide +kernel)
theorem w_543 : Cond.methodLink RX0 46 yX0_drift ∈ gw := gw_t 543 (by decide +kernel) (by decide +kernel)
theorem w_551 : Cond.methodLink RX5 25 yX0_become ∈ gw := gw_t 551 (by decide +kernel) (by decide +kernel)
theorem w_552 : Cond.methodLink RX5 29 yJ9_min_7cf53 ∈ gw := gw_t 552 (by decide +kernel) (by decide +kernel)
theorem w_575 : Cond.methodLink RX6 19 yX6_add ∈ gw := gw_t 575 (by decide +kernel) (by decide +kernel)
theorem w_587 : Cond.methodLink RX0 85 yX0_mayMove ∈ gw := gw_t 587 (by decide +kernel) (by decide +kernel)
theorem w_620 : Cond.constant RX0 88 (999999) ∈ gw := gw_t 620 (by decide +kernel) (by decide +kernel)
theorem w_869 : Cond.methodLink RX2 26 yX2_isFitting ∈ gw := gw_t 869 (by decide +kernel) (by decide +kernel)
theorem w_881 : Cond.methodLink RX2 30 yJ9_max_7cf53 ∈ gw := gw_t 881 (by decide +kernel) (by decide +kernel)
theorem w_932 : Cond.constant RX4 13 (1103515245) ∈ gw := gw_t 932 (by decide +kernel) (by decide +kernel)
theorem my_J9_floorMod_7cf53 : MyS yJ9_floorMod_7cf53 cJ9_floorMod_7cf53 3 (some (.int)) := ⟨gw_t 528 (by decide +kernel) (by decide +kernel), gw_t 13 (by decide +kernel) (by decide +kernel), gw_t 529 (by decide +kernel) (by decide +kernel), by decide +kernel, by decide +kernel⟩
theorem pd_J9_floorMod_7cf53 : (parseMethodDescriptor yJ9_floorMod_7cf53.desc).map (fun d => d.parameters.length) = some 2 := by decide +kernel
theorem my_J9_max_7cf53 : MyS yJ9_max_7cf53 cJ9_max_7cf53 2 (some (.int)) := ⟨gw_t 408 (by decide +kernel) (by decide +kernel), gw_t 13 (by decide +kernel) (by decide +kernel), gw_t 409 (by decide +kernel) (by decide +kernel), by decide +kernel, by decide +kernel⟩
theorem pd_J9_max_7cf53 : (parseMethodDescriptor yJ9_max_7cf53.desc).map (fun d => d.parameters.length) = some 2 := by decide +kernel
theorem my_J9_min_7cf53 : MyS yJ9_min_7cf53 cJ9_min_7cf53 2 (some (.int)) := ⟨gw_t 310 (by decide +kernel) (by decide +kernel), gw_t 13 (by decide +kernel) (by decide +kernel), gw_t 311 (by decide +kernel) (by decide +kernel), by decide +kernel, by decide +kernel⟩
theorem pd_J9_min_7cf53 : (parseMethodDescriptor yJ9_min_7cf53.desc).map (fun d => d.parameters.length) = some 2 := by decide +kernel
theorem my_X0_add : MyV yX0_add cX0_add 4 none := ⟨gw_t 531 (by decide +kernel) (by decide +kernel), gw_t 532 (by decide +kernel) (by decide +kernel), gw_t 4 (by decide +kernel) (by decide +kernel), gw_t 533 (by decide +kernel) (by decide +kernel), by decide +kernel, by decide +kernel⟩
theorem pd_X0_add : (parseMethodDescriptor yX0_add.desc).map (fun d => d.parameters.length) = some 3 := by decide +kernel
theorem my_X0_become : MyV yX0_become cX0_become 3 none := ⟨gw_t 511 (by decide +kernel) (by decide +kernel), gw_t 512 (by decide +kernel) (by decide +kernel), gw_t 4 (by decide +kernel) (by decide +kernel), gw_t 513 (by decide +kernel) (by decide +kernel), by decide +kernel, by decide +kernel⟩
theorem pd_X0_become : (parseMethodDescriptor yX0_become.desc).map (fun d => d.parameters.length) = some 1 := by decide +kernel
theorem my_X0_drift : MyV yX0_drift cX0_drift 4 none := ⟨gw_t 545 (by decide +kernel) (by decide +kernel), gw_p 11 (by decide +kernel) (by decide +kernel), gw_t 4 (by decide +kernel) (by decide +kernel), gw_t 546 (by decide +kernel) (by decide +kernel), by decide +kernel, by decide +kernel⟩
theorem pd_X0_drift : (parseMethodDescriptor yX0_drift.desc).map (fun d => d.parameters.length) = some 1 := by decide +kernel
theorem my_X0_has : MyV yX0_has cX0_has 2 (some (.boolean)) := ⟨gw_t 535 (by decide +kernel) (by decide +kernel), gw_t 536 (by decide +kernel) (by decide +kernel), gw_t 4 (by decide +kernel) (by decide +kernel), gw_t 537 (by decide +kernel) (by decide +kernel), by decide +kernel, by decide +kernel⟩
theorem pd_X0_has : (parseMethodDescriptor yX0_has.desc).map (fun d => d.parameters.length) = some 1 := by decide +kernel
theorem my_X0_land : MyV yX0_land cX0_land 3 (some (.int)) := ⟨gw_t 521 (by decide +kernel) (by decide +kernel), gw_p 10 (by decide +kernel) (by decide +kernel), gw_t 4 (by decide +kernel) (by decide +kernel), gw_t 522 (by decide +kernel) (by decide +kernel), by decide +kernel, by decide +kernel⟩
theorem pd_X0_land : (parseMethodDescriptor yX0_land.desc).map (fun d => d.parameters.length) = some 1 := by decide +kernel
theorem my_X0_mayMove : MyV yX0_mayMove cX0_mayMove 4 (some (.boolean)) := ⟨gw_t 589 (by decide +kernel) (by decide +kernel), gw_p 14 (by decide +kernel) (by decide +kernel), gw_t 4 (by decide +kernel) (by decide +kernel), gw_t 590 (by decide +kernel) (by decide +kernel), by decide +kernel, by decide +kernel⟩
theorem pd_X0_mayMove : (parseMethodDescriptor yX0_mayMove.desc).map (fun d => d.parameters.length) = some 3 := by decide +kernel
theorem my_X1_atMonth : MyV yX1_atMonth cX1_atMonth 2 (some (.int)) := ⟨gw_t 524 (by decide +kernel) (by decide +kernel), gw_t 525 (by decide +kernel) (by decide +kernel), gw_t 9 (by decide +kernel) (by decide +kernel), gw_t 526 (by decide +kernel) (by decide +kernel), by decide +kernel, by decide +kernel⟩
theorem pd_X1_atMonth : (parseMethodDescriptor yX1_atMonth.desc).map (fun d => d.parameters.length) = some 1 := by decide +kernel
theorem my_X2_isFitting : MyV yX2_isFitting cX2_isFitting 3 (some (.boolean)) := ⟨gw_t 871 (by decide +kernel) (by decide +kernel), gw_p 28 (by decide +kernel) (by decide +kernel), gw_t 7 (by decide +kernel) (by decide +kernel), gw_t 872 (by decide +kernel) (by decide +kernel), by decide +kernel, by decide +kernel⟩
theorem pd_X2_isFitting : (parseMethodDescriptor yX2_isFitting.desc).map (fun d => d.parameters.length) = some 1 := by decide +kernel
theorem my_X6_add : MyV yX6_add cX6_add 3 none := ⟨gw_t 576 (by decide +kernel) (by decide +kernel), gw_t 577 (by decide +kernel) (by decide +kernel), gw_t 3 (by decide +kernel) (by decide +kernel), gw_t 578 (by decide +kernel) (by decide +kernel), by decide +kernel, by decide +kernel⟩
theorem pd_X6_add : (parseMethodDescriptor yX6_add.desc).map (fun d => d.parameters.length) = some 1 := by decide +kernel
theorem my_X8_at : MyV yX8_at cX8_at 3 (some (.int)) := ⟨gw_t 317 (by decide +kernel) (by decide +kernel), gw_t 318 (by decide +kernel) (by decide +kernel), gw_t 2 (by decide +kernel) (by decide +kernel), gw_t 319 (by decide +kernel) (by decide +kernel), by decide +kernel, by decide +kernel⟩
theorem pd_X8_at : (parseMethodDescriptor yX8_at.desc).map (fun d => d.parameters.length) = some 2 := by decide +kernel
theorem my_X8_digits : MyV yX8_digits cX8_digits 5 (some (.int)) := ⟨gw_t 313 (by decide +kernel) (by decide +kernel), gw_t 314 (by decide +kernel) (by decide +kernel), gw_t 2 (by decide +kernel) (by decide +kernel), gw_t 315 (by decide +kernel) (by decide +kernel), by decide +kernel, by decide +kernel⟩
theorem pd_X8_digits : (parseMethodDescriptor yX8_digits.desc).map (fun d => d.parameters.length) = some 3 := by decide +kernel
theorem my_X8_number : MyV yX8_number cX8_number 5 (some (.int)) := ⟨gw_t 324 (by decide +kernel) (by decide +kernel), gw_t 325 (by decide +kernel) (by decide +kernel), gw_t 2 (by decide +kernel) (by decide +kernel), gw_t 326 (by decide +kernel) (by decide +kernel), by decide +kernel, by decide +kernel⟩
theorem pd_X8_number : (parseMethodDescriptor yX8_number.desc).map (fun d => d.parameters.length) = some 2 := by decide +kernel
theorem my_X9_isDigit : MyS yX9_isDigit cX9_isDigit 1 (some (.boolean)) := ⟨gw_t 321 (by decide +kernel) (by decide +kernel), gw_t 1 (by decide +kernel) (by decide +kernel), gw_t 322 (by decide +kernel) (by decide +kernel), by decide +kernel, by decide +kernel⟩
theorem pd_X9_isDigit : (parseMethodDescriptor yX9_isDigit.desc).map (fun d => d.parameters.length) = some 1 := by decide +kernel
theorem my_X9_isKind : MyS yX9_isKind cX9_isKind 1 (some (.boolean)) := ⟨gw_t 539 (by decide +kernel) (by decide +kernel), gw_t 1 (by decide +kernel) (by decide +kernel), gw_t 540 (by decide +kernel) (by decide +kernel), by decide +kernel, by decide +kernel⟩
theorem pd_X9_isKind : (parseMethodDescriptor yX9_isKind.desc).map (fun d => d.parameters.length) = some 1 := by decide +kernel
theorem my_X9_within : MyS yX9_within cX9_within 3 (some (.boolean)) := ⟨gw_t 492 (by decide +kernel) (by decide +kernel), gw_t 1 (by decide +kernel) (by decide +kernel), gw_t 493 (by decide +kernel) (by decide +kernel), by decide +kernel, by decide +kernel⟩
theorem pd_X9_within : (parseMethodDescriptor yX9_within.desc).map (fun d => d.parameters.length) = some 3 := by decide +kernel
theorem hw_0 : ∀ w ∈ u_ws RX0 TX0 7, w ∈ gw := by decide +kernel
theorem hw_1 : ∀ w ∈ u_ws RX1 TX1 3, w ∈ gw := by decide +kernel
theorem hw_2 : ∀ w ∈ u_ws RX2 TX2 4, w ∈ gw := by decide +kernel
theorem hw_3 : ∀ w ∈ u_ws RX3 TX3 2, w ∈ gw := by decide +kernel
theorem hw_4 : ∀ w ∈ u_ws RX4 TX4 1, w ∈ gw := by decide +kernel
theorem hw_5 : ∀ w ∈ u_ws RX5 TX5 3, w ∈ gw := by decide +kernel
theorem hw_6 : ∀ w ∈ u_ws RX6 TX6 2, w ∈ gw := by decide +kernel
theorem hw_8 : ∀ w ∈ u_ws RX8 TX8 2, w ∈ gw := by decide +kernel
theorem fl_RX0_11 : FL RX0 11 0 0 2 := ⟨RX0, TX0, 7, tyX0, tyX0 0, by decide, rfl, hw_0, by decide, rfl, gw_t 74 (by decide +kernel) (by decide +kernel), rfl, tyX0_ok, nmX0, tyX0_ok 0 (by decide), ⟨fun q => absurd q (by decide), fun _ _ => ⟨rfl, rfl⟩⟩⟩
theorem fl_RX0_16 : FL RX0 16 0 1 2 := ⟨RX0, TX0, 7, tyX0, tyX0 1, by decide, rfl, hw_0, by decide, rfl, gw_t 76 (by decide +kernel) (by decide +kernel), rfl, tyX0_ok, nmX0, tyX0_ok 1 (by decide), ⟨fun q => absurd q (by decide), fun _ _ => ⟨rfl, rfl⟩⟩⟩
theorem fl_RX0_19 : FL RX0 19 0 2 0 := ⟨RX0, TX0, 7, tyX0, tyX0 2, by decide, rfl, hw_0, by decide, rfl, gw_t 78 (by decide +kernel) (by decide +kernel), rfl, tyX0_ok, nmX0, tyX0_ok 2 (by decide), ⟨fun q => absurd q (by decide), fun q => absurd q (by decide)⟩⟩
theorem fl_RX0_23 : FL RX0 23 0 3 0 := ⟨RX0, TX0, 7, tyX0, tyX0 3, by decide, rfl, hw_0, by decide, rfl, gw_t 80 (by decide +kernel) (by decide +kernel), rfl, tyX0_ok, nmX0, tyX0_ok 3 (by decide), ⟨fun q => absurd q (by decide), fun q => absurd q (by decide)⟩⟩
theorem fl_RX0_26 : FL RX0 26 0 4 0 := ⟨RX0, TX0, 7, tyX0, tyX0 4, by decide, rfl, hw_0, by decide, rfl, gw_t 82 (by decide +kernel) (by decide +kernel), rfl, tyX0_ok, nmX0, tyX0_ok 4 (by decide), ⟨fun q => absurd q (by decide), fun q => absurd q (by decide)⟩⟩
theorem fl_RX0_29 : FL RX0 29 0 5 0 := ⟨RX0, TX0, 7, tyX0, tyX0 5, by decide, rfl, hw_0, by decide, rfl, gw_t 84 (by decide +kernel) (by decide +kernel), rfl, tyX0_ok, nmX0, tyX0_ok 5 (by decide), ⟨fun q => absurd q (by decide), fun q => absurd q (by decide)⟩⟩
theorem fl_RX0_32 : FL RX0 32 0 6 0 := ⟨RX0, TX0, 7, tyX0, tyX0 6, by decide, rfl, hw_0, by decide, rfl, gw_t 86 (by decide +kernel) (by decide +kernel), rfl, tyX0_ok, nmX0, tyX0_ok 6 (by decide), ⟨fun q => absurd q (by decide), fun q => absurd q (by decide)⟩⟩
theorem fl_RX0_56 : FL RX0 56 1 0 2 := ⟨RX1, TX1, 3, tyX1, tyX1 0, by decide, rfl, hw_1, by decide, rfl, gw_t 179 (by decide +kernel) (by decide +kernel), rfl, tyX1_ok, nmX1, tyX1_ok 0 (by decide), ⟨fun q => absurd q (by decide), fun _ _ => ⟨rfl, rfl⟩⟩⟩
theorem fl_RX0_60 : FL RX0 60 1 1 2 := ⟨RX1, TX1, 3, tyX1, tyX1 1, by decide, rfl, hw_1, by decide, rfl, gw_t 182 (by decide +kernel) (by decide +kernel), rfl, tyX1_ok, nmX1, tyX1_ok 1 (by decide), ⟨fun q => absurd q (by decide), fun _ _ => ⟨rfl, rfl⟩⟩⟩
theorem fl_RX1_15 : FL RX1 15 1 1 2 := ⟨RX1, TX1, 3, tyX1, tyX1 1, by decide, rfl, hw_1, by decide, rfl, gw_t 181 (by decide +kernel) (by decide +kernel), rfl, tyX1_ok, nmX1, tyX1_ok 1 (by decide), ⟨fun q => absurd q (by decide), fun _ _ => ⟨rfl, rfl⟩⟩⟩
theorem fl_RX1_18 : FL RX1 18 1 2 0 := ⟨RX1, TX1, 3, tyX1, tyX1 2, by decide, rfl, hw_1, by decide, rfl, gw_t 184 (by decide +kernel) (by decide +kernel), rfl, tyX1_ok, nmX1, tyX1_ok 2 (by decide), ⟨fun q => absurd q (by decide), fun q => absurd q (by decide)⟩⟩
theorem fl_RX1_22 : FL RX1 22 8 1 0 := ⟨RX8, TX8, 2, tyX8, tyX8 1, by decide, rfl, hw_8, by decide, rfl, gw_t 40 (by decide +kernel) (by decide +kernel), rfl, tyX8_ok, nmX8, tyX8_ok 1 (by decide), ⟨fun q => absurd q (by decide), fun q => absurd q (by decide)⟩⟩
theorem fl_RX1_9 : FL RX1 9 1 0 2 := ⟨RX1, TX1, 3, tyX1, tyX1 0, by decide, rfl, hw_1, by decide, rfl, gw_t 178 (by decide +kernel) (by decide +kernel), rfl, tyX1_ok, nmX1, tyX1_ok 0 (by decide), ⟨fun q => absurd q (by decide), fun _ _ => ⟨rfl, rfl⟩⟩⟩
theorem fl_RX2_15 : FL RX2 15 2 1 2 := ⟨RX2, TX2, 4, tyX2, tyX2 1, by decide, rfl, hw_2, by decide, rfl, gw_t 147 (by decide +kernel) (by decide +kernel), rfl, tyX2_ok, nmX2, tyX2_ok 1 (by decide), ⟨fun q => absurd q (by decide), fun _ _ => ⟨rfl, rfl⟩⟩⟩
theorem fl_RX2_18 : FL RX2 18 2 2 2 := ⟨RX2, TX2, 4, tyX2, tyX2 2, by decide, rfl, hw_2, by decide, rfl, gw_t 148 (by decide +kernel) (by decide +kernel), rfl, tyX2_ok, nmX2, tyX2_ok 2 (by decide), ⟨fun q => absurd q (by decide), fun _ _ => ⟨rfl, rfl⟩⟩⟩
theorem fl_RX2_22 : FL RX2 22 2 3 0 := ⟨RX2, TX2, 4, tyX2, tyX2 3, by decide, rfl, hw_2, by decide, rfl, gw_t 150 (by decide +kernel) (by decide +kernel), rfl, tyX2_ok, nmX2, tyX2_ok 3 (by decide), ⟨fun q => absurd q (by decide), fun q => absurd q (by decide)⟩⟩
theorem fl_RX2_9 : FL RX2 9 2 0 2 := ⟨RX2, TX2, 4, tyX2, tyX2 0, by decide, rfl, hw_2, by decide, rfl, gw_t 146 (by decide +kernel) (by decide +kernel), rfl, tyX2_ok, nmX2, tyX2_ok 0 (by decide), ⟨fun q => absurd q (by decide), fun _ _ => ⟨rfl, rfl⟩⟩⟩
theorem fl_RX3_15 : FL RX3 15 3 1 0 := ⟨RX3, TX3, 2, tyX3, tyX3 1, by decide, rfl, hw_3, by decide, rfl, gw_t 133 (by decide +kernel) (by decide +kernel), rfl, tyX3_ok, nmX3, tyX3_ok 1 (by decide), ⟨fun q => absurd q (by decide), fun q => absurd q (by decide)⟩⟩
theorem fl_RX3_19 : FL RX3 19 8 1 0 := ⟨RX8, TX8, 2, tyX8, tyX8 1, by decide, rfl, hw_8, by decide, rfl, gw_t 41 (by decide +kernel) (by decide +kernel), rfl, tyX8_ok, nmX8, tyX8_ok 1 (by decide), ⟨fun q => absurd q (by decide), fun q => absurd q (by decide)⟩⟩
theorem fl_RX3_9 : FL RX3 9 3 0 2 := ⟨RX3, TX3, 2, tyX3, tyX3 0, by decide, rfl, hw_3, by decide, rfl, gw_t 131 (by decide +kernel) (by decide +kernel), rfl, tyX3_ok, nmX3, tyX3_ok 0 (by decide), ⟨fun q => absurd q (by decide), fun _ _ => ⟨rfl, rfl⟩⟩⟩
theorem fl_RX4_7 : FL RX4 7 4 0 0 := ⟨RX4, TX4, 1, tyX4, tyX4 0, by decide, rfl, hw_4, by decide, rfl, gw_t 168 (by decide +kernel) (by decide +kernel), rfl, tyX4_ok, nmX4, tyX4_ok 0 (by decide), ⟨fun q => absurd q (by decide), fun q => absurd q (by decide)⟩⟩
theorem fl_RX5_11 : FL RX5 11 5 0 2 := ⟨RX5, TX5, 3, tyX5, tyX5 0, by decide, rfl, hw_5, by decide, rfl, gw_t 113 (by decide +kernel) (by decide +kernel), rfl, tyX5_ok, nmX5, tyX5_ok 0 (by decide), ⟨fun q => absurd q (by decide), fun _ _ => ⟨rfl, rfl⟩⟩⟩
theorem fl_RX5_17 : FL RX5 17 5 1 0 := ⟨RX5, TX5, 3, tyX5, tyX5 1, by decide, rfl, hw_5, by decide, rfl, gw_t 114 (by decide +kernel) (by decide +kernel), rfl, tyX5_ok, nmX5, tyX5_ok 1 (by decide), ⟨fun q => absurd q (by decide), fun q => absurd q (by decide)⟩⟩
theorem fl_RX5_21 : FL RX5 21 5 2 0 := ⟨RX5, TX5, 3, tyX5, tyX5 2, by decide, rfl, hw_5, by decide, rfl, gw_t 115 (by decide +kernel) (by decide +kernel), rfl, tyX5_ok, nmX5, tyX5_ok 2 (by decide), ⟨fun q => absurd q (by decide), fun q => absurd q (by decide)⟩⟩
theorem fl_RX6_15 : FL RX6 15 6 1 0 := ⟨RX6, TX6, 2, tyX6, tyX6 1, by decide, rfl, hw_6, by decide, rfl, gw_t 58 (by decide +kernel) (by decide +kernel), rfl, tyX6_ok, nmX6, tyX6_ok 1 (by decide), ⟨fun q => absurd q (by decide), fun q => absurd q (by decide)⟩⟩
theorem fl_RX6_9 : FL RX6 9 6 0 2 := ⟨RX6, TX6, 2, tyX6, tyX6 0, by decide, rfl, hw_6, by decide, rfl, gw_t 56 (by decide +kernel) (by decide +kernel), rfl, tyX6_ok, nmX6, tyX6_ok 0 (by decide), ⟨fun q => absurd q (by decide), fun _ _ => ⟨rfl, rfl⟩⟩⟩
theorem fl_RX8_15 : FL RX8 15 8 1 0 := ⟨RX8, TX8, 2, tyX8, tyX8 1, by decide, rfl, hw_8, by decide, rfl, gw_t 39 (by decide +kernel) (by decide +kernel), rfl, tyX8_ok, nmX8, tyX8_ok 1 (by decide), ⟨fun q => absurd q (by decide), fun q => absurd q (by decide)⟩⟩
theorem fl_RX8_9 : FL RX8 9 8 0 2 := ⟨RX8, TX8, 2, tyX8, tyX8 0, by decide, rfl, hw_8, by decide, rfl, gw_t 38 (by decide +kernel) (by decide +kernel), rfl, tyX8_ok, nmX8, tyX8_ok 0 (by decide), ⟨fun q => absurd q (by decide), fun _ _ => ⟨rfl, rfl⟩⟩⟩
theorem flw_RX0_19 : FLw RX0 19 0 2 0 := ⟨⟨RX0, TX0, 7, tyX0, tyX0 2, by decide, rfl, hw_0, by decide, rfl, gw_t 78 (by decide +kernel) (by decide +kernel), rfl, tyX0_ok, nmX0, tyX0_ok 2 (by decide), ⟨fun q => absurd q (by decide), fun q => absurd q (by decide)⟩⟩, RX0, TX0, 7, rfl, rfl⟩
theorem flw_RX0_23 : FLw RX0 23 0 3 0 := ⟨⟨RX0, TX0, 7, tyX0, tyX0 3, by decide, rfl, hw_0, by decide, rfl, gw_t 80 (by decide +kernel) (by decide +kernel), rfl, tyX0_ok, nmX0, tyX0_ok 3 (by decide), ⟨fun q => absurd q (by decide), fun q => absurd q (by decide)⟩⟩, RX0, TX0, 7, rfl, rfl⟩
theorem flw_RX0_26 : FLw RX0 26 0 4 0 := ⟨⟨RX0, TX0, 7, tyX0, tyX0 4, by decide, rfl, hw_0, by decide, rfl, gw_t 82 (by decide +kernel) (by decide +kernel), rfl, tyX0_ok, nmX0, tyX0_ok 4 (by decide), ⟨fun q => absurd q (by decide), fun q => absurd q (by decide)⟩⟩, RX0, TX0, 7, rfl, rfl⟩
theorem flw_RX0_29 : FLw RX0 29 0 5 0 := ⟨⟨RX0, TX0, 7, tyX0, tyX0 5, by decide, rfl, hw_0, by decide, rfl, gw_t 84 (by decide +kernel) (by decide +kernel), rfl, tyX0_ok, nmX0, tyX0_ok 5 (by decide), ⟨fun q => absurd q (by decide), fun q => absurd q (by decide)⟩⟩, RX0, TX0, 7, rfl, rfl⟩
theorem flw_RX0_32 : FLw RX0 32 0 6 0 := ⟨⟨RX0, TX0, 7, tyX0, tyX0 6, by decide, rfl, hw_0, by decide, rfl, gw_t 86 (by decide +kernel) (by decide +kernel), rfl, tyX0_ok, nmX0, tyX0_ok 6 (by decide), ⟨fun q => absurd q (by decide), fun q => absurd q (by decide)⟩⟩, RX0, TX0, 7, rfl, rfl⟩
theorem flw_RX1_18 : FLw RX1 18 1 2 0 := ⟨⟨RX1, TX1, 3, tyX1, tyX1 2, by decide, rfl, hw_1, by decide, rfl, gw_t 184 (by decide +kernel) (by decide +kernel), rfl, tyX1_ok, nmX1, tyX1_ok 2 (by decide), ⟨fun q => absurd q (by decide), fun q => absurd q (by decide)⟩⟩, RX1, TX1, 3, rfl, rfl⟩
theorem flw_RX2_22 : FLw RX2 22 2 3 0 := ⟨⟨RX2, TX2, 4, tyX2, tyX2 3, by decide, rfl, hw_2, by decide, rfl, gw_t 150 (by decide +kernel) (by decide +kernel), rfl, tyX2_ok, nmX2, tyX2_ok 3 (by decide), ⟨fun q => absurd q (by decide), fun q => absurd q (by decide)⟩⟩, RX2, TX2, 4, rfl, rfl⟩
theorem flw_RX3_15 : FLw RX3 15 3 1 0 := ⟨⟨RX3, TX3, 2, tyX3, tyX3 1, by decide, rfl, hw_3, by decide, rfl, gw_t 133 (by decide +kernel) (by decide +kernel), rfl, tyX3_ok, nmX3, tyX3_ok 1 (by decide), ⟨fun q => absurd q (by decide), fun q => absurd q (by decide)⟩⟩, RX3, TX3, 2, rfl, rfl⟩
theorem flw_RX4_7 : FLw RX4 7 4 0 0 := ⟨⟨RX4, TX4, 1, tyX4, tyX4 0, by decide, rfl, hw_4, by decide, rfl, gw_t 168 (by decide +kernel) (by decide +kernel), rfl, tyX4_ok, nmX4, tyX4_ok 0 (by decide), ⟨fun q => absurd q (by decide), fun q => absurd q (by decide)⟩⟩, RX4, TX4, 1, rfl, rfl⟩
theorem flw_RX5_17 : FLw RX5 17 5 1 0 := ⟨⟨RX5, TX5, 3, tyX5, tyX5 1, by decide, rfl, hw_5, by decide, rfl, gw_t 114 (by decide +kernel) (by decide +kernel), rfl, tyX5_ok, nmX5, tyX5_ok 1 (by decide), ⟨fun q => absurd q (by decide), fun q => absurd q (by decide)⟩⟩, RX5, TX5, 3, rfl, rfl⟩
theorem flw_RX5_21 : FLw RX5 21 5 2 0 := ⟨⟨RX5, TX5, 3, tyX5, tyX5 2, by decide, rfl, hw_5, by decide, rfl, gw_t 115 (by decide +kernel) (by decide +kernel), rfl, tyX5_ok, nmX5, tyX5_ok 2 (by decide), ⟨fun q => absurd q (by decide), fun q => absurd q (by decide)⟩⟩, RX5, TX5, 3, rfl, rfl⟩
theorem flw_RX6_15 : FLw RX6 15 6 1 0 := ⟨⟨RX6, TX6, 2, tyX6, tyX6 1, by decide, rfl, hw_6, by decide, rfl, gw_t 58 (by decide +kernel) (by decide +kernel), rfl, tyX6_ok, nmX6, tyX6_ok 1 (by decide), ⟨fun q => absurd q (by decide), fun q => absurd q (by decide)⟩⟩, RX6, TX6, 2, rfl, rfl⟩
theorem flw_RX8_15 : FLw RX8 15 8 1 0 := ⟨⟨RX8, TX8, 2, tyX8, tyX8 1, by decide, rfl, hw_8, by decide, rfl, gw_t 39 (by decide +kernel) (by decide +kernel), rfl, tyX8_ok, nmX8, tyX8_ok 1 (by decide), ⟨fun q => absurd q (by decide), fun q => absurd q (by decide)⟩⟩, RX8, TX8, 2, rfl, rfl⟩
theorem nr_0_2 (v : Int32) : ∀ ty : FieldType, ∀ (C : String) (T : u_T) (N : Nat), vwCl[0]? = some (C, T, N) → parseFieldDescriptor (T 2).2.2.1 = some ty → narrow ty (.int v) = .int v ∧ fits ty (.int v) = true := by
  intro ty C T N hc hp
  have e1 : T = TX0 := (congrArg (fun q => q.2.1) (Option.some.inj hc)).symm
  subst e1
  have e2 : ty = tyX0 2 := Option.some.inj (hp.symm.trans (tyX0_ok 2 (by decide)))
  subst e2
  exact ⟨rfl, rfl⟩
theorem nr_0_3 (v : Int32) : ∀ ty : FieldType, ∀ (C : String) (T : u_T) (N : Nat), vwCl[0]? = some (C, T, N) → parseFieldDescriptor (T 3).2.2.1 = some ty → narrow ty (.int v) = .int v ∧ fits ty (.int v) = true := by
  intro ty C T N hc hp
  have e1 : T = TX0 := (congrArg (fun q => q.2.1) (Option.some.inj hc)).symm
  subst e1
  have e2 : ty = tyX0 3 := Option.some.inj (hp.symm.trans (tyX0_ok 3 (by decide)))
  subst e2
  exact ⟨rfl, rfl⟩
theorem nr_0_4 (v : Int32) : ∀ ty : FieldType, ∀ (C : String) (T : u_T) (N : Nat), vwCl[0]? = some (C, T, N) → parseFieldDescriptor (T 4).2.2.1 = some ty → narrow ty (.int v) = .int v ∧ fits ty (.int v) = true := by
  intro ty C T N hc hp
  have e1 : T = TX0 := (congrArg (fun q => q.2.1) (Option.some.inj hc)).symm
  subst e1
  have e2 : ty = tyX0 4 := Option.some.inj (hp.symm.trans (tyX0_ok 4 (by decide)))
  subst e2
  exact ⟨rfl, rfl⟩
theorem nr_0_5 (v : Int32) : ∀ ty : FieldType, ∀ (C : String) (T : u_T) (N : Nat), vwCl[0]? = some (C, T, N) → parseFieldDescriptor (T 5).2.2.1 = some ty → narrow ty (.int v) = .int v ∧ fits ty (.int v) = true := by
  intro ty C T N hc hp
  have e1 : T = TX0 := (congrArg (fun q => q.2.1) (Option.some.inj hc)).symm
  subst e1
  have e2 : ty = tyX0 5 := Option.some.inj (hp.symm.trans (tyX0_ok 5 (by decide)))
  subst e2
  exact ⟨rfl, rfl⟩
theorem nr_0_6 {v : Int32} (hv : v = 0 ∨ v = 1) : ∀ ty : FieldType, ∀ (C : String) (T : u_T) (N : Nat), vwCl[0]? = some (C, T, N) → parseFieldDescriptor (T 6).2.2.1 = some ty → narrow ty (.int v) = .int v ∧ fits ty (.int v) = true := by
  intro ty C T N hc hp
  have e1 : T = TX0 := (congrArg (fun q => q.2.1) (Option.some.inj hc)).symm
  subst e1
  have e2 : ty = tyX0 6 := Option.some.inj (hp.symm.trans (tyX0_ok 6 (by decide)))
  subst e2
  rcases hv with rfl | rfl <;> exact ⟨rfl, rfl⟩
theorem nr_1_2 (v : Int32) : ∀ ty : FieldType, ∀ (C : String) (T : u_T) (N : Nat), vwCl[1]? = some (C, T, N) → parseFieldDescriptor (T 2).2.2.1 = some ty → narrow ty (.int v) = .int v ∧ fits ty (.int v) = true := by
  intro ty C T N hc hp
  have e1 : T = TX1 := (congrArg (fun q => q.2.1) (Option.some.inj hc)).symm
  subst e1
  have e2 : ty = tyX1 2 := Option.some.inj (hp.symm.trans (tyX1_ok 2 (by decide)))
  subst e2
  exact ⟨rfl, rfl⟩
theorem nr_2_3 (v : Int32) : ∀ ty : FieldType, ∀ (C : String) (T : u_T) (N : Nat), vwCl[2]? = some (C, T, N) → parseFieldDescriptor (T 3).2.2.1 = some ty → narrow ty (.int v) = .int v ∧ fits ty (.int v) = true := by
  intro ty C T N hc hp
  have e1 : T = TX2 := (congrArg (fun q => q.2.1) (Option.some.inj hc)).symm
  subst e1
  have e2 : ty = tyX2 3 := Option.some.inj (hp.symm.trans (tyX2_ok 3 (by decide)))
  subst e2
  exact ⟨rfl, rfl⟩
theorem nr_3_1 (v : Int32) : ∀ ty : FieldType, ∀ (C : String) (T : u_T) (N : Nat), vwCl[3]? = some (C, T, N) → parseFieldDescriptor (T 1).2.2.1 = some ty → narrow ty (.int v) = .int v ∧ fits ty (.int v) = true := by
  intro ty C T N hc hp
  have e1 : T = TX3 := (congrArg (fun q => q.2.1) (Option.some.inj hc)).symm
  subst e1
  have e2 : ty = tyX3 1 := Option.some.inj (hp.symm.trans (tyX3_ok 1 (by decide)))
  subst e2
  exact ⟨rfl, rfl⟩
theorem nr_4_0 (v : Int32) : ∀ ty : FieldType, ∀ (C : String) (T : u_T) (N : Nat), vwCl[4]? = some (C, T, N) → parseFieldDescriptor (T 0).2.2.1 = some ty → narrow ty (.int v) = .int v ∧ fits ty (.int v) = true := by
  intro ty C T N hc hp
  have e1 : T = TX4 := (congrArg (fun q => q.2.1) (Option.some.inj hc)).symm
  subst e1
  have e2 : ty = tyX4 0 := Option.some.inj (hp.symm.trans (tyX4_ok 0 (by decide)))
  subst e2
  exact ⟨rfl, rfl⟩
theorem nr_5_1 (v : Int32) : ∀ ty : FieldType, ∀ (C : String) (T : u_T) (N : Nat), vwCl[5]? = some (C, T, N) → parseFieldDescriptor (T 1).2.2.1 = some ty → narrow ty (.int v) = .int v ∧ fits ty (.int v) = true := by
  intro ty C T N hc hp
  have e1 : T = TX5 := (congrArg (fun q => q.2.1) (Option.some.inj hc)).symm
  subst e1
  have e2 : ty = tyX5 1 := Option.some.inj (hp.symm.trans (tyX5_ok 1 (by decide)))
  subst e2
  exact ⟨rfl, rfl⟩
theorem nr_5_2 (v : Int32) : ∀ ty : FieldType, ∀ (C : String) (T : u_T) (N : Nat), vwCl[5]? = some (C, T, N) → parseFieldDescriptor (T 2).2.2.1 = some ty → narrow ty (.int v) = .int v ∧ fits ty (.int v) = true := by
  intro ty C T N hc hp
  have e1 : T = TX5 := (congrArg (fun q => q.2.1) (Option.some.inj hc)).symm
  subst e1
  have e2 : ty = tyX5 2 := Option.some.inj (hp.symm.trans (tyX5_ok 2 (by decide)))
  subst e2
  exact ⟨rfl, rfl⟩
theorem nr_6_1 (v : Int32) : ∀ ty : FieldType, ∀ (C : String) (T : u_T) (N : Nat), vwCl[6]? = some (C, T, N) → parseFieldDescriptor (T 1).2.2.1 = some ty → narrow ty (.int v) = .int v ∧ fits ty (.int v) = true := by
  intro ty C T N hc hp
  have e1 : T = TX6 := (congrArg (fun q => q.2.1) (Option.some.inj hc)).symm
  subst e1
  have e2 : ty = tyX6 1 := Option.some.inj (hp.symm.trans (tyX6_ok 1 (by decide)))
  subst e2
  exact ⟨rfl, rfl⟩
theorem nr_8_1 (v : Int32) : ∀ ty : FieldType, ∀ (C : String) (T : u_T) (N : Nat), vwCl[8]? = some (C, T, N) → parseFieldDescriptor (T 1).2.2.1 = some ty → narrow ty (.int v) = .int v ∧ fits ty (.int v) = true := by
  intro ty C T N hc hp
  have e1 : T = TX8 := (congrArg (fun q => q.2.1) (Option.some.inj hc)).symm
  subst e1
  have e2 : ty = tyX8 1 := Option.some.inj (hp.symm.trans (tyX8_ok 1 (by decide)))
  subst e2
  exact ⟨rfl, rfl⟩
theorem nestM_at {q : String × Nat × MethodName × String} (i : Nat) (h : nestM[i]? = some q) : q ∈ nestM := List.mem_of_getElem? h
theorem nestF_at {q : String × Nat × String × String × String × String} (i : Nat) (h : nestF[i]? = some q) : q ∈ nestF := List.mem_of_getElem? h
