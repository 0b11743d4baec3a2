/-! ===== the words that the walks use: by their places in the tables ===== -/
theorem w_199 : Cond.methodLink RX7 28 yX7_beFirstRule ∈ gw := gw_t 199 (by decide +kernel) (by decide +kernel)
theorem w_205 : Cond.methodLink RX7 38 arraycopyName ∈ gw := gw_t 205 (by decide +kernel) (by decide +kernel)
theorem w_289 : Cond.methodLink RX9 101 yX8_add ∈ gw := gw_t 289 (by decide +kernel) (by decide +kernel)
theorem w_297 : Cond.methodLink RX9 108 yX8_cut ∈ gw := gw_t 297 (by decide +kernel) (by decide +kernel)
theorem w_305 : Cond.methodLink RX9 111 yX3_read ∈ gw := gw_t 305 (by decide +kernel) (by decide +kernel)
theorem w_309 : Cond.methodLink RX3 24 yJ9_min_7cf53 ∈ gw := gw_t 309 (by decide +kernel) (by decide +kernel)
theorem w_312 : Cond.methodLink RX3 30 yX8_digits ∈ gw := gw_t 312 (by decide +kernel) (by decide +kernel)
theorem w_316 : Cond.methodLink RX8 19 yX8_at ∈ gw := gw_t 316 (by decide +kernel) (by decide +kernel)
theorem w_323 : Cond.methodLink RX3 34 yX8_number ∈ gw := gw_t 323 (by decide +kernel) (by decide +kernel)
theorem w_327 : Cond.methodLink RX3 37 yX8_at ∈ gw := gw_t 327 (by decide +kernel) (by decide +kernel)
theorem w_328 : Cond.methodLink RX9 115 yX8_empty ∈ gw := gw_t 328 (by decide +kernel) (by decide +kernel)
theorem w_332 : Cond.methodLink RX9 122 yX9_addMarket ∈ gw := gw_t 332 (by decide +kernel) (by decide +kernel)
theorem w_336 : Cond.methodLink RX9 129 yX0_grow ∈ gw := gw_t 336 (by decide +kernel) (by decide +kernel)
theorem w_340 : Cond.methodLink RX9 126 yX5_clear ∈ gw := gw_t 340 (by decide +kernel) (by decide +kernel)
theorem w_348 : Cond.methodLink RX9 132 yX1_read ∈ gw := gw_t 348 (by decide +kernel) (by decide +kernel)
theorem w_352 : Cond.methodLink RX1 27 yJ9_min_7cf53 ∈ gw := gw_t 352 (by decide +kernel) (by decide +kernel)
theorem w_353 : Cond.methodLink RX1 33 yX8_at ∈ gw := gw_t 353 (by decide +kernel) (by decide +kernel)
theorem w_354 : Cond.methodLink RX1 36 yX8_digits ∈ gw := gw_t 354 (by decide +kernel) (by decide +kernel)
theorem w_355 : Cond.methodLink RX1 40 yX8_number ∈ gw := gw_t 355 (by decide +kernel) (by decide +kernel)
theorem w_360 : Cond.methodLink RX9 136 yX7_read ∈ gw := gw_t 360 (by decide +kernel) (by decide +kernel)
theorem w_364 : Cond.methodLink RX7 49 yJ9_min_7cf53 ∈ gw := gw_t 364 (by decide +kernel) (by decide +kernel)
theorem w_365 : Cond.methodLink RX7 65 yX7_readThing ∈ gw := gw_t 365 (by decide +kernel) (by decide +kernel)
theorem w_369 : Cond.methodLink RX7 69 yX8_at ∈ gw := gw_t 369 (by decide +kernel) (by decide +kernel)
theorem w_370 : Cond.methodLink RX7 80 yX7_await ∈ gw := gw_t 370 (by decide +kernel) (by decide +kernel)
theorem w_374 : Cond.methodLink RX7 83 yX7_open ∈ gw := gw_t 374 (by decide +kernel) (by decide +kernel)
theorem w_379 : Cond.methodLink RX7 89 yJ0_indexOf_0f7a4 ∈ gw := gw_t 379 (by decide +kernel) (by decide +kernel)
theorem w_463 : Cond.methodLink RX7 94 yX8_digits ∈ gw := gw_t 463 (by decide +kernel) (by decide +kernel)
theorem w_464 : Cond.methodLink RX7 98 yX7_step ∈ gw := gw_t 464 (by decide +kernel) (by decide +kernel)
theorem w_468 : Cond.methodLink RX7 101 yX8_number ∈ gw := gw_t 468 (by decide +kernel) (by decide +kernel)
theorem w_469 : Cond.methodLink RX7 72 yX7_readOperator ∈ gw := gw_t 469 (by decide +kernel) (by decide +kernel)
theorem w_473 : Cond.methodLink RX7 104 yX7_shut ∈ gw := gw_t 473 (by decide +kernel) (by decide +kernel)
theorem w_477 : Cond.methodLink RX7 76 yX7_release ∈ gw := gw_t 477 (by decide +kernel) (by decide +kernel)
theorem w_481 : Cond.methodLink RX7 109 yX7_rank ∈ gw := gw_t 481 (by decide +kernel) (by decide +kernel)
theorem w_484 : Cond.methodLink RX7 112 yJ9_max_7cf53 ∈ gw := gw_t 484 (by decide +kernel) (by decide +kernel)
theorem w_491 : Cond.methodLink RX9 140 yX9_within ∈ gw := gw_t 491 (by decide +kernel) (by decide +kernel)
theorem w_494 : Cond.methodLink RX9 163 yX9_fillGoods ∈ gw := gw_t 494 (by decide +kernel) (by decide +kernel)
theorem w_498 : Cond.methodLink RX9 167 yX9_asKind ∈ gw := gw_t 498 (by decide +kernel) (by decide +kernel)
theorem w_501 : Cond.methodLink RX9 171 yX9_put ∈ gw := gw_t 501 (by decide +kernel) (by decide +kernel)
theorem w_504 : Cond.methodLink RX9 240 yJ9_min_7cf53 ∈ gw := gw_t 504 (by decide +kernel) (by decide +kernel)
theorem w_505 : Cond.methodLink RX9 232 yJ9_max_7cf53 ∈ gw := gw_t 505 (by decide +kernel) (by decide +kernel)
theorem w_510 : Cond.methodLink RX9 175 yX0_become ∈ gw := gw_t 510 (by decide +kernel) (by decide +kernel)
theorem w_514 : Cond.methodLink RX0 36 arraycopyName ∈ gw := gw_t 514 (by decide +kernel) (by decide +kernel)
theorem w_515 : Cond.methodLink RX9 179 yX0_pass ∈ gw := gw_t 515 (by decide +kernel) (by decide +kernel)
theorem w_519 : Cond.methodLink RX0 42 yX0_land ∈ gw := gw_t 519 (by decide +kernel) (by decide +kernel)
theorem w_523 : Cond.methodLink RX0 50 yX1_atMonth ∈ gw := gw_t 523 (by decide +kernel) (by decide +kernel)
theorem w_527 : Cond.methodLink RX1 43 yJ9_floorMod_7cf53 ∈ gw := gw_t 527 (by decide +kernel) (by decide +kernel)
theorem w_530 : Cond.methodLink RX0 63 yX0_add ∈ gw := gw_t 530 (by decide +kernel) (by decide +kernel)
theorem w_534 : Cond.methodLink RX0 67 yX0_has ∈ gw := gw_t 534 (by decide +kernel) (by decide +kernel)
theorem w_541 : Cond.constant RX0 74 (99999) ∈ gw := gw_t 541 (by decide +kernel) (by decide +kernel)
theorem w_542 : Cond.methodLink RX0 75 yJ9_min_7cf53 ∈ gw := gw_t 542 (by decide +kernel) (by decide +kernel)
theorem w_543 : Cond.methodLink RX0 46 yX0_drift ∈ gw := gw_t 543 (by decide +kernel) (by decide +kernel)
theorem w_547 : Cond.methodLink RX9 183 yX5_put ∈ gw := gw_t 547 (by decide +kernel) (by decide +kernel)
theorem w_551 : Cond.methodLink RX5 25 yX0_become ∈ gw := gw_t 551 (by decide +kernel) (by decide +kernel)
theorem w_552 : Cond.methodLink RX5 29 yJ9_min_7cf53 ∈ gw := gw_t 552 (by decide +kernel) (by decide +kernel)
theorem w_553 : Cond.methodLink RX9 153 yX9_priceOf ∈ gw := gw_t 553 (by decide +kernel) (by decide +kernel)
theorem w_557 : Cond.methodLink RX9 348 yX9_priceBy ∈ gw := gw_t 557 (by decide +kernel) (by decide +kernel)
theorem w_561 : Cond.methodLink RX9 137 yX0_has ∈ gw := gw_t 561 (by decide +kernel) (by decide +kernel)
theorem w_562 : Cond.methodLink RX9 301 yX7_price ∈ gw := gw_t 562 (by decide +kernel) (by decide +kernel)
theorem w_566 : Cond.methodLink RX7 115 yX7_joined ∈ gw := gw_t 566 (by decide +kernel) (by decide +kernel)
theorem w_569 : Cond.constant RX7 118 (99999) ∈ gw := gw_t 569 (by decide +kernel) (by decide +kernel)
theorem w_571 : Cond.methodLink RX9 185 yX6_tell_ ∈ gw := gw_t 571 (by decide +kernel) (by decide +kernel)
theorem w_575 : Cond.methodLink RX6 19 yX6_add ∈ gw := gw_t 575 (by decide +kernel) (by decide +kernel)
theorem w_583 : Cond.methodLink RX9 189 yX0_bring ∈ gw := gw_t 583 (by decide +kernel) (by decide +kernel)
theorem w_587 : Cond.methodLink RX0 85 yX0_mayMove ∈ gw := gw_t 587 (by decide +kernel) (by decide +kernel)
theorem w_592 : Cond.methodLink RX9 192 yX9_remembered ∈ gw := gw_t 592 (by decide +kernel) (by decide +kernel)
theorem w_600 : Cond.methodLink RX9 196 yX0_layBy ∈ gw := gw_t 600 (by decide +kernel) (by decide +kernel)
theorem w_608 : Cond.methodLink RX9 199 yX0_spend ∈ gw := gw_t 608 (by decide +kernel) (by decide +kernel)
theorem w_616 : Cond.methodLink RX9 202 yX0_tax ∈ gw := gw_t 616 (by decide +kernel) (by decide +kernel)
theorem w_620 : Cond.constant RX0 88 (999999) ∈ gw := gw_t 620 (by decide +kernel) (by decide +kernel)
theorem w_625 : Cond.methodLink RX9 205 yX0_burn ∈ gw := gw_t 625 (by decide +kernel) (by decide +kernel)
theorem w_633 : Cond.methodLink RX9 208 yX0_turnPort ∈ gw := gw_t 633 (by decide +kernel) (by decide +kernel)
theorem w_641 : Cond.methodLink RX9 212 yX0_setFlow ∈ gw := gw_t 641 (by decide +kernel) (by decide +kernel)
theorem w_649 : Cond.methodLink RX9 215 yX9_badSignOfYear ∈ gw := gw_t 649 (by decide +kernel) (by decide +kernel)
theorem w_653 : Cond.methodLink RX9 221 yX8_at ∈ gw := gw_t 653 (by decide +kernel) (by decide +kernel)
theorem w_654 : Cond.methodLink RX9 224 yX9_shapeOfAct ∈ gw := gw_t 654 (by decide +kernel) (by decide +kernel)
theorem w_665 : Cond.methodLink RX9 243 yJ0_isEmpty_aae02 ∈ gw := gw_t 665 (by decide +kernel) (by decide +kernel)
theorem w_669 : Cond.methodLink RX9 228 yJ0_length_8abf5 ∈ gw := gw_t 669 (by decide +kernel) (by decide +kernel)
theorem w_670 : Cond.methodLink RX9 247 yJ0_charAt_5068e ∈ gw := gw_t 670 (by decide +kernel) (by decide +kernel)
theorem w_690 : Cond.methodLink RX9 251 yX9_suits ∈ gw := gw_t 690 (by decide +kernel) (by decide +kernel)
theorem w_693 : Cond.methodLink RX9 271 yX9_isDigit ∈ gw := gw_t 693 (by decide +kernel) (by decide +kernel)
theorem w_694 : Cond.methodLink RX9 218 yX9_act ∈ gw := gw_t 694 (by decide +kernel) (by decide +kernel)
theorem w_702 : Cond.methodLink RX9 274 yX5_giveBack ∈ gw := gw_t 702 (by decide +kernel) (by decide +kernel)
theorem w_710 : Cond.methodLink RX9 279 yX9_tryMonths ∈ gw := gw_t 710 (by decide +kernel) (by decide +kernel)
theorem w_718 : Cond.methodLink RX9 282 yX6_tell ∈ gw := gw_t 718 (by decide +kernel) (by decide +kernel)
theorem w_726 : Cond.methodLink RX9 285 yX6_clear ∈ gw := gw_t 726 (by decide +kernel) (by decide +kernel)
theorem w_730 : Cond.methodLink RX9 286 yX9_foresee ∈ gw := gw_t 730 (by decide +kernel) (by decide +kernel)
theorem w_734 : Cond.methodLink RX9 289 yX9_traded ∈ gw := gw_t 734 (by decide +kernel) (by decide +kernel)
theorem w_742 : Cond.methodLink RX9 292 yX9_maySpend ∈ gw := gw_t 742 (by decide +kernel) (by decide +kernel)
theorem w_746 : Cond.methodLink RX9 295 yX9_goodsByKind ∈ gw := gw_t 746 (by decide +kernel) (by decide +kernel)
theorem w_750 : Cond.methodLink RX9 298 yX9_goodsFor ∈ gw := gw_t 750 (by decide +kernel) (by decide +kernel)
theorem w_761 : Cond.methodLink RX9 305 yJ6_bitCount_0f7a4 ∈ gw := gw_t 761 (by decide +kernel) (by decide +kernel)
theorem w_764 : Cond.constant RJ6 265 (1431655765) ∈ gw := gw_t 764 (by decide +kernel) (by decide +kernel)
theorem w_765 : Cond.constant RJ6 266 (858993459) ∈ gw := gw_t 765 (by decide +kernel) (by decide +kernel)
theorem w_766 : Cond.constant RJ6 267 (252645135) ∈ gw := gw_t 766 (by decide +kernel) (by decide +kernel)
theorem w_767 : Cond.methodLink RX9 310 yX9_priceBehindClosing ∈ gw := gw_t 767 (by decide +kernel) (by decide +kernel)
theorem w_771 : Cond.methodLink RX9 313 yX9_hasFewer ∈ gw := gw_t 771 (by decide +kernel) (by decide +kernel)
theorem w_778 : Cond.methodLink RX9 321 yX9_growth ∈ gw := gw_t 778 (by decide +kernel) (by decide +kernel)
theorem w_786 : Cond.constant RX9 324 (99999) ∈ gw := gw_t 786 (by decide +kernel) (by decide +kernel)
theorem w_787 : Cond.methodLink RX9 325 yX9_tryTaxes ∈ gw := gw_t 787 (by decide +kernel) (by decide +kernel)
theorem w_807 : Cond.constantLong RX9 329 (-1) ∈ gw := gw_t 807 (by decide +kernel) (by decide +kernel)
theorem w_808 : Cond.fieldLink RX9 331 RX9 "PLANS" "[I" ∈ gw := gw_t 808 (by decide +kernel) (by decide +kernel)
theorem w_810 : Cond.methodLink RX9 334 yX9_shellsByPlan ∈ gw := gw_t 810 (by decide +kernel) (by decide +kernel)
theorem w_814 : Cond.methodLink RX9 338 yX9_deedOf ∈ gw := gw_t 814 (by decide +kernel) (by decide +kernel)
theorem w_818 : Cond.constantLong RX9 343 (999999999) ∈ gw := gw_t 818 (by decide +kernel) (by decide +kernel)
theorem w_819 : Cond.methodLink RX9 345 yJ9_min_f86c9 ∈ gw := gw_t 819 (by decide +kernel) (by decide +kernel)
theorem w_822 : Cond.methodLink RX9 341 yX6_add ∈ gw := gw_t 822 (by decide +kernel) (by decide +kernel)
theorem w_827 : Cond.methodLink RX9 355 yX9_roundedUp ∈ gw := gw_t 827 (by decide +kernel) (by decide +kernel)
theorem w_834 : Cond.methodLink RX9 358 yX9_counted ∈ gw := gw_t 834 (by decide +kernel) (by decide +kernel)
theorem w_841 : Cond.methodLink RX9 361 yX3_sum ∈ gw := gw_t 841 (by decide +kernel) (by decide +kernel)
theorem w_853 : Cond.methodLink RX9 364 yX2_hear ∈ gw := gw_t 853 (by decide +kernel) (by decide +kernel)
theorem w_865 : Cond.methodLink RX9 368 yX2_sift ∈ gw := gw_t 865 (by decide +kernel) (by decide +kernel)
theorem w_869 : Cond.methodLink RX2 26 yX2_isFitting ∈ gw := gw_t 869 (by decide +kernel) (by decide +kernel)
theorem w_877 : Cond.methodLink RX9 375 yX2_mostLeft ∈ gw := gw_t 877 (by decide +kernel) (by decide +kernel)
theorem w_881 : Cond.methodLink RX2 30 yJ9_max_7cf53 ∈ gw := gw_t 881 (by decide +kernel) (by decide +kernel)
theorem w_886 : Cond.constantLong RX9 378 (10) ∈ gw := gw_t 886 (by decide +kernel) (by decide +kernel)
theorem w_887 : Cond.methodLink RX9 380 yX9_tellFraction ∈ gw := gw_t 887 (by decide +kernel) (by decide +kernel)
theorem w_891 : Cond.methodLink RX9 386 yX9_commonDivisor ∈ gw := gw_t 891 (by decide +kernel) (by decide +kernel)
theorem w_898 : Cond.methodLink RX9 383 yX9_choices ∈ gw := gw_t 898 (by decide +kernel) (by decide +kernel)
theorem w_905 : Cond.constant RX9 389 (-1000000) ∈ gw := gw_t 905 (by decide +kernel) (by decide +kernel)
theorem w_910 : Cond.methodLink RX9 390 yX9_isBestAgainst ∈ gw := gw_t 910 (by decide +kernel) (by decide +kernel)
theorem w_913 : Cond.methodLink RX9 393 yX9_baskets ∈ gw := gw_t 913 (by decide +kernel) (by decide +kernel)
theorem w_920 : Cond.methodLink RX9 396 yX4_begin ∈ gw := gw_t 920 (by decide +kernel) (by decide +kernel)
theorem w_924 : Cond.methodLink RX9 399 yX9_drawAct ∈ gw := gw_t 924 (by decide +kernel) (by decide +kernel)
theorem w_928 : Cond.methodLink RX9 405 yX4_draw ∈ gw := gw_t 928 (by decide +kernel) (by decide +kernel)
theorem w_932 : Cond.constant RX4 13 (1103515245) ∈ gw := gw_t 932 (by decide +kernel) (by decide +kernel)
theorem w_933 : Cond.methodLink RX9 408 yX0_add ∈ gw := gw_t 933 (by decide +kernel) (by decide +kernel)
theorem w_934 : Cond.methodLink RX9 402 yX0_sumThere ∈ gw := gw_t 934 (by decide +kernel) (by decide +kernel)
theorem w_950 : Cond.methodLink RX9 413 yX0_sumLaidBy ∈ gw := gw_t 950 (by decide +kernel) (by decide +kernel)
theorem w_1200 : Cond.methodLink RX10 123 yX10_in ∈ gw := gw_t 1200 (by decide +kernel) (by decide +kernel)
theorem w_1207 : Cond.methodLink RX10 177 yX10_begins ∈ gw := gw_t 1207 (by decide +kernel) (by decide +kernel)
theorem w_1211 : Cond.methodLink RX10 136 yJ9_min_7cf53 ∈ gw := gw_t 1211 (by decide +kernel) (by decide +kernel)
theorem w_1212 : Cond.methodLink RX10 180 yX10_readsMarket ∈ gw := gw_t 1212 (by decide +kernel) (by decide +kernel)
theorem w_1216 : Cond.methodLink RX10 174 yX10_numberAbove ∈ gw := gw_t 1216 (by decide +kernel) (by decide +kernel)
theorem w_1220 : Cond.methodLink RX10 167 yX10_number ∈ gw := gw_t 1220 (by decide +kernel) (by decide +kernel)
theorem w_1224 : Cond.methodLink RX10 163 yX10_isDigit ∈ gw := gw_t 1224 (by decide +kernel) (by decide +kernel)
theorem w_1228 : Cond.constantLong RX10 149 (48) ∈ gw := gw_t 1228 (by decide +kernel) (by decide +kernel)
theorem w_1229 : Cond.constantLong RX10 151 (57) ∈ gw := gw_t 1229 (by decide +kernel) (by decide +kernel)
theorem w_1230 : Cond.methodLink RX10 145 yX10_flag ∈ gw := gw_t 1230 (by decide +kernel) (by decide +kernel)
theorem w_1233 : Cond.methodLink RX10 183 yX10_takes ∈ gw := gw_t 1233 (by decide +kernel) (by decide +kernel)
theorem w_1237 : Cond.methodLink RX10 187 yX10_faultOf ∈ gw := gw_t 1237 (by decide +kernel) (by decide +kernel)
theorem w_1245 : Cond.methodLink RX10 203 yX10_readsLoad ∈ gw := gw_t 1245 (by decide +kernel) (by decide +kernel)
theorem w_1250 : Cond.methodLink RX10 199 yX10_takesOf ∈ gw := gw_t 1250 (by decide +kernel) (by decide +kernel)
theorem w_1254 : Cond.methodLink RX10 153 yJ0_length_8abf5 ∈ gw := gw_t 1254 (by decide +kernel) (by decide +kernel)
theorem w_1255 : Cond.methodLink RX10 159 yJ0_charAt_5068e ∈ gw := gw_t 1255 (by decide +kernel) (by decide +kernel)
theorem w_1260 : Cond.methodLink RX10 230 yX10_readsRule ∈ gw := gw_t 1260 (by decide +kernel) (by decide +kernel)
theorem w_1264 : Cond.methodLink RX10 218 yX10_readsRank ∈ gw := gw_t 1264 (by decide +kernel) (by decide +kernel)
theorem w_1268 : Cond.methodLink RX10 209 yX10_readsThing ∈ gw := gw_t 1268 (by decide +kernel) (by decide +kernel)
theorem w_1272 : Cond.methodLink RX10 212 yX10_codes ∈ gw := gw_t 1272 (by decide +kernel) (by decide +kernel)
theorem w_1280 : Cond.methodLink RX10 233 yX10_laysCode ∈ gw := gw_t 1280 (by decide +kernel) (by decide +kernel)
theorem w_1288 : Cond.methodLink RX10 254 yX10_isMarket ∈ gw := gw_t 1288 (by decide +kernel) (by decide +kernel)
theorem w_1292 : Cond.constantLong RX10 257 (5) ∈ gw := gw_t 1292 (by decide +kernel) (by decide +kernel)
theorem w_1293 : Cond.methodLink RX10 259 yX10_refuse ∈ gw := gw_t 1293 (by decide +kernel) (by decide +kernel)
theorem w_1297 : Cond.methodLink RX10 262 yX10_priceOf ∈ gw := gw_t 1297 (by decide +kernel) (by decide +kernel)
theorem w_1301 : Cond.methodLink RX10 248 yX10_at ∈ gw := gw_t 1301 (by decide +kernel) (by decide +kernel)
theorem w_1304 : Cond.methodLink RX10 250 yX10_priceBy ∈ gw := gw_t 1304 (by decide +kernel) (by decide +kernel)
theorem w_1308 : Cond.constant RX10 241 (99999) ∈ gw := gw_t 1308 (by decide +kernel) (by decide +kernel)
theorem w_1309 : Cond.methodLink RX10 242 yX10_ruled ∈ gw := gw_t 1309 (by decide +kernel) (by decide +kernel)
theorem w_1313 : Cond.methodLink RX10 237 yX10_worked ∈ gw := gw_t 1313 (by decide +kernel) (by decide +kernel)
theorem w_1316 : Cond.methodLink RX10 245 yJ9_max_7cf53 ∈ gw := gw_t 1316 (by decide +kernel) (by decide +kernel)
theorem w_1325 : Cond.constantLong RX10 266 (3) ∈ gw := gw_t 1325 (by decide +kernel) (by decide +kernel)
theorem w_1334 : Cond.constantLong RX10 289 (60) ∈ gw := gw_t 1334 (by decide +kernel) (by decide +kernel)
theorem w_1335 : Cond.methodLink RX10 291 yX10_putsBy ∈ gw := gw_t 1335 (by decide +kernel) (by decide +kernel)
theorem w_1339 : Cond.methodLink RX10 294 yX10_goesOn ∈ gw := gw_t 1339 (by decide +kernel) (by decide +kernel)
theorem w_1343 : Cond.methodLink RX10 274 yX10_monthGoes ∈ gw := gw_t 1343 (by decide +kernel) (by decide +kernel)
theorem w_1347 : Cond.methodLink RX10 18 yX10_enters ∈ gw := gw_t 1347 (by decide +kernel) (by decide +kernel)
theorem w_1351 : Cond.methodLink RX10 268 yX10_adds ∈ gw := gw_t 1351 (by decide +kernel) (by decide +kernel)
theorem w_1359 : Cond.methodLink RX10 280 yX10_isKind ∈ gw := gw_t 1359 (by decide +kernel) (by decide +kernel)
theorem w_1362 : Cond.methodLink RX10 283 yX10_isSome ∈ gw := gw_t 1362 (by decide +kernel) (by decide +kernel)
theorem w_1365 : Cond.constantLong RX10 278 (9999) ∈ gw := gw_t 1365 (by decide +kernel) (by decide +kernel)
theorem w_1370 : Cond.methodLink RX10 297 yX10_laysBy ∈ gw := gw_t 1370 (by decide +kernel) (by decide +kernel)
theorem w_1374 : Cond.methodLink RX10 300 yX10_counted ∈ gw := gw_t 1374 (by decide +kernel) (by decide +kernel)
theorem w_1382 : Cond.methodLink RX10 303 yX10_spendsOf ∈ gw := gw_t 1382 (by decide +kernel) (by decide +kernel)
theorem w_1390 : Cond.methodLink RX10 306 yX10_taxesOf ∈ gw := gw_t 1390 (by decide +kernel) (by decide +kernel)
theorem w_1394 : Cond.constantLong RX10 286 (9) ∈ gw := gw_t 1394 (by decide +kernel) (by decide +kernel)
theorem w_1395 : Cond.constant RX10 288 (999999) ∈ gw := gw_t 1395 (by decide +kernel) (by decide +kernel)
theorem w_1400 : Cond.methodLink RX10 310 yX10_burnsAt ∈ gw := gw_t 1400 (by decide +kernel) (by decide +kernel)
theorem w_1412 : Cond.methodLink RX10 313 yX10_flowsBy ∈ gw := gw_t 1412 (by decide +kernel) (by decide +kernel)
theorem w_1420 : Cond.methodLink RX10 324 yX10_readsAct ∈ gw := gw_t 1420 (by decide +kernel) (by decide +kernel)
theorem w_1425 : Cond.methodLink RX10 321 yX10_digitIn ∈ gw := gw_t 1425 (by decide +kernel) (by decide +kernel)
theorem w_1429 : Cond.methodLink RX10 327 yX10_does ∈ gw := gw_t 1429 (by decide +kernel) (by decide +kernel)
theorem w_1437 : Cond.constantLong RX10 330 (99) ∈ gw := gw_t 1437 (by decide +kernel) (by decide +kernel)
theorem w_1438 : Cond.methodLink RX10 332 yX10_copies ∈ gw := gw_t 1438 (by decide +kernel) (by decide +kernel)
theorem w_1450 : Cond.methodLink RX10 335 yJ9_abs_0f7a4 ∈ gw := gw_t 1450 (by decide +kernel) (by decide +kernel)
theorem w_1457 : Cond.constantLong RX10 341 (4) ∈ gw := gw_t 1457 (by decide +kernel) (by decide +kernel)
theorem w_1458 : Cond.methodLink RX10 343 yX10_canBuy ∈ gw := gw_t 1458 (by decide +kernel) (by decide +kernel)
theorem w_1462 : Cond.methodLink RX10 347 yX10_boughtBy ∈ gw := gw_t 1462 (by decide +kernel) (by decide +kernel)
theorem w_1466 : Cond.methodLink RX10 338 yX10_buysBy ∈ gw := gw_t 1466 (by decide +kernel) (by decide +kernel)
theorem w_1477 : Cond.constantLong RX10 351 (8) ∈ gw := gw_t 1477 (by decide +kernel) (by decide +kernel)
theorem w_1478 : Cond.constant RX10 353 (2000000000) ∈ gw := gw_t 1478 (by decide +kernel) (by decide +kernel)
theorem w_1479 : Cond.methodLink RX10 354 yJ6_bitCount_0f7a4 ∈ gw := gw_t 1479 (by decide +kernel) (by decide +kernel)
theorem w_1480 : Cond.methodLink RX10 359 yX10_has ∈ gw := gw_t 1480 (by decide +kernel) (by decide +kernel)
theorem w_1487 : Cond.constant RX10 363 (-2000000000) ∈ gw := gw_t 1487 (by decide +kernel) (by decide +kernel)
theorem w_1492 : Cond.constantLong RX10 364 (99999) ∈ gw := gw_t 1492 (by decide +kernel) (by decide +kernel)
theorem w_1509 : Cond.constantLong RX10 378 (-1) ∈ gw := gw_t 1509 (by decide +kernel) (by decide +kernel)
theorem w_1510 : Cond.methodLink RX10 370 yX10_travels ∈ gw := gw_t 1510 (by decide +kernel) (by decide +kernel)
theorem w_1514 : Cond.constantLong RX10 374 (999999999) ∈ gw := gw_t 1514 (by decide +kernel) (by decide +kernel)
theorem w_1515 : Cond.methodLink RX10 376 yJ9_min_f86c9 ∈ gw := gw_t 1515 (by decide +kernel) (by decide +kernel)
theorem w_1536 : Cond.constantLong RX10 380 (2) ∈ gw := gw_t 1536 (by decide +kernel) (by decide +kernel)
theorem w_1537 : Cond.constantLong RX10 382 (40) ∈ gw := gw_t 1537 (by decide +kernel) (by decide +kernel)
theorem w_1546 : Cond.methodLink RX10 387 yX10_isSo ∈ gw := gw_t 1546 (by decide +kernel) (by decide +kernel)
theorem w_1558 : Cond.constantLong RX10 390 (10) ∈ gw := gw_t 1558 (by decide +kernel) (by decide +kernel)
theorem w_1559 : Cond.methodLink RX10 392 yX10_tellsFraction ∈ gw := gw_t 1559 (by decide +kernel) (by decide +kernel)
theorem w_1563 : Cond.methodLink RX10 7 yX10_common ∈ gw := gw_t 1563 (by decide +kernel) (by decide +kernel)
theorem w_1570 : Cond.constantLong RX10 396 (30) ∈ gw := gw_t 1570 (by decide +kernel) (by decide +kernel)
theorem w_1575 : Cond.constant RX10 398 (1000000) ∈ gw := gw_t 1575 (by decide +kernel) (by decide +kernel)
theorem w_1576 : Cond.methodLink RX10 399 yX10_priceAll ∈ gw := gw_t 1576 (by decide +kernel) (by decide +kernel)
theorem w_1584 : Cond.methodLink RX10 405 yX10_isRest ∈ gw := gw_t 1584 (by decide +kernel) (by decide +kernel)
theorem w_1587 : Cond.methodLink RX10 402 yX10_gets ∈ gw := gw_t 1587 (by decide +kernel) (by decide +kernel)
theorem w_1594 : Cond.methodLink RX10 412 yX10_draws ∈ gw := gw_t 1594 (by decide +kernel) (by decide +kernel)
theorem w_1598 : Cond.constant RX10 411 (1103515245) ∈ gw := gw_t 1598 (by decide +kernel) (by decide +kernel)
theorem w_1599 : Cond.methodLink RX10 415 yX10_sumOf ∈ gw := gw_t 1599 (by decide +kernel) (by decide +kernel)
theorem my_J6_bitCount_0f7a4 : MyS yJ6_bitCount_0f7a4 cJ6_bitCount_0f7a4 1 (some (.int)) := ⟨gw_t 762 (by decide +kernel) (by decide +kernel), gw_t 23 (by decide +kernel) (by decide +kernel), gw_t 763 (by decide +kernel) (by decide +kernel), by decide +kernel, by decide +kernel⟩
theorem pd_J6_bitCount_0f7a4 : (parseMethodDescriptor yJ6_bitCount_0f7a4.desc).map (fun d => d.parameters.length) = some 1 := by decide +kernel
theorem my_J9_abs_0f7a4 : MyS yJ9_abs_0f7a4 cJ9_abs_0f7a4 1 (some (.int)) := ⟨gw_t 1451 (by decide +kernel) (by decide +kernel), gw_t 13 (by decide +kernel) (by decide +kernel), gw_t 1452 (by decide +kernel) (by decide +kernel), by decide +kernel, by decide +kernel⟩
theorem pd_J9_abs_0f7a4 : (parseMethodDescriptor yJ9_abs_0f7a4.desc).map (fun d => d.parameters.length) = some 1 := by decide +kernel
theorem my_J9_floorMod_7cf53 : MyS yJ9_floorMod_7cf53 cJ9_floorMod_7cf53 3 (some (.int)) := ⟨gw_t 528 (by decide +kernel) (by decide +kernel), gw_t 13 (by decide +kernel) (by decide +kernel), gw_t 529 (by decide +kernel) (by decide +kernel), by decide +kernel, by decide +kernel⟩
theorem pd_J9_floorMod_7cf53 : (parseMethodDescriptor yJ9_floorMod_7cf53.desc).map (fun d => d.parameters.length) = some 2 := by decide +kernel
theorem my_J9_min_f86c9 : MyS yJ9_min_f86c9 cJ9_min_f86c9 4 (some (.long)) := ⟨gw_t 820 (by decide +kernel) (by decide +kernel), gw_t 13 (by decide +kernel) (by decide +kernel), gw_t 821 (by decide +kernel) (by decide +kernel), by decide +kernel, by decide +kernel⟩
theorem pd_J9_min_f86c9 : (parseMethodDescriptor yJ9_min_f86c9.desc).map (fun d => d.parameters.length) = some 2 := by decide +kernel
theorem my_X0_add : MyV yX0_add cX0_add 5 (some (.int)) := ⟨gw_t 531 (by decide +kernel) (by decide +kernel), gw_t 532 (by decide +kernel) (by decide +kernel), gw_t 4 (by decide +kernel) (by decide +kernel), gw_t 533 (by decide +kernel) (by decide +kernel), by decide +kernel, by decide +kernel⟩
theorem pd_X0_add : (parseMethodDescriptor yX0_add.desc).map (fun d => d.parameters.length) = some 3 := by decide +kernel
theorem my_X0_become : MyV yX0_become cX0_become 3 none := ⟨gw_t 511 (by decide +kernel) (by decide +kernel), gw_t 512 (by decide +kernel) (by decide +kernel), gw_t 4 (by decide +kernel) (by decide +kernel), gw_t 513 (by decide +kernel) (by decide +kernel), by decide +kernel, by decide +kernel⟩
theorem pd_X0_become : (parseMethodDescriptor yX0_become.desc).map (fun d => d.parameters.length) = some 1 := by decide +kernel
theorem my_X0_bring : MyV yX0_bring cX0_bring 4 (some (.int)) := ⟨gw_t 584 (by decide +kernel) (by decide +kernel), gw_t 585 (by decide +kernel) (by decide +kernel), gw_t 4 (by decide +kernel) (by decide +kernel), gw_t 586 (by decide +kernel) (by decide +kernel), by decide +kernel, by decide +kernel⟩
theorem pd_X0_bring : (parseMethodDescriptor yX0_bring.desc).map (fun d => d.parameters.length) = some 3 := by decide +kernel
theorem my_X0_burn : MyV yX0_burn cX0_burn 3 (some (.int)) := ⟨gw_t 626 (by decide +kernel) (by decide +kernel), gw_t 627 (by decide +kernel) (by decide +kernel), gw_t 4 (by decide +kernel) (by decide +kernel), gw_t 628 (by decide +kernel) (by decide +kernel), by decide +kernel, by decide +kernel⟩
theorem pd_X0_burn : (parseMethodDescriptor yX0_burn.desc).map (fun d => d.parameters.length) = some 1 := by decide +kernel
theorem my_X0_drift : MyV yX0_drift cX0_drift 4 none := ⟨gw_t 545 (by decide +kernel) (by decide +kernel), gw_p 11 (by decide +kernel) (by decide +kernel), gw_t 4 (by decide +kernel) (by decide +kernel), gw_t 546 (by decide +kernel) (by decide +kernel), by decide +kernel, by decide +kernel⟩
theorem pd_X0_drift : (parseMethodDescriptor yX0_drift.desc).map (fun d => d.parameters.length) = some 1 := by decide +kernel
theorem my_X0_grow : MyV yX0_grow cX0_grow 1 none := ⟨gw_t 337 (by decide +kernel) (by decide +kernel), gw_t 338 (by decide +kernel) (by decide +kernel), gw_t 4 (by decide +kernel) (by decide +kernel), gw_t 339 (by decide +kernel) (by decide +kernel), by decide +kernel, by decide +kernel⟩
theorem pd_X0_grow : (parseMethodDescriptor yX0_grow.desc).map (fun d => d.parameters.length) = some 0 := by decide +kernel
theorem my_X0_has : MyV yX0_has cX0_has 2 (some (.boolean)) := ⟨gw_t 535 (by decide +kernel) (by decide +kernel), gw_t 536 (by decide +kernel) (by decide +kernel), gw_t 4 (by decide +kernel) (by decide +kernel), gw_t 537 (by decide +kernel) (by decide +kernel), by decide +kernel, by decide +kernel⟩
theorem pd_X0_has : (parseMethodDescriptor yX0_has.desc).map (fun d => d.parameters.length) = some 1 := by decide +kernel
theorem my_X0_land : MyV yX0_land cX0_land 3 (some (.int)) := ⟨gw_t 521 (by decide +kernel) (by decide +kernel), gw_p 10 (by decide +kernel) (by decide +kernel), gw_t 4 (by decide +kernel) (by decide +kernel), gw_t 522 (by decide +kernel) (by decide +kernel), by decide +kernel, by decide +kernel⟩
theorem pd_X0_land : (parseMethodDescriptor yX0_land.desc).map (fun d => d.parameters.length) = some 1 := by decide +kernel
theorem my_X0_layBy : MyV yX0_layBy cX0_layBy 4 (some (.int)) := ⟨gw_t 601 (by decide +kernel) (by decide +kernel), gw_t 602 (by decide +kernel) (by decide +kernel), gw_t 4 (by decide +kernel) (by decide +kernel), gw_t 603 (by decide +kernel) (by decide +kernel), by decide +kernel, by decide +kernel⟩
theorem pd_X0_layBy : (parseMethodDescriptor yX0_layBy.desc).map (fun d => d.parameters.length) = some 3 := by decide +kernel
theorem my_X0_mayMove : MyV yX0_mayMove cX0_mayMove 4 (some (.boolean)) := ⟨gw_t 589 (by decide +kernel) (by decide +kernel), gw_p 14 (by decide +kernel) (by decide +kernel), gw_t 4 (by decide +kernel) (by decide +kernel), gw_t 590 (by decide +kernel) (by decide +kernel), by decide +kernel, by decide +kernel⟩
theorem pd_X0_mayMove : (parseMethodDescriptor yX0_mayMove.desc).map (fun d => d.parameters.length) = some 3 := by decide +kernel
theorem my_X0_pass : MyV yX0_pass cX0_pass 5 (some (.int)) := ⟨gw_t 516 (by decide +kernel) (by decide +kernel), gw_t 517 (by decide +kernel) (by decide +kernel), gw_t 4 (by decide +kernel) (by decide +kernel), gw_t 518 (by decide +kernel) (by decide +kernel), by decide +kernel, by decide +kernel⟩
theorem pd_X0_pass : (parseMethodDescriptor yX0_pass.desc).map (fun d => d.parameters.length) = some 2 := by decide +kernel
theorem my_X0_setFlow : MyV yX0_setFlow cX0_setFlow 3 (some (.int)) := ⟨gw_t 642 (by decide +kernel) (by decide +kernel), gw_t 643 (by decide +kernel) (by decide +kernel), gw_t 4 (by decide +kernel) (by decide +kernel), gw_t 644 (by decide +kernel) (by decide +kernel), by decide +kernel, by decide +kernel⟩
theorem pd_X0_setFlow : (parseMethodDescriptor yX0_setFlow.desc).map (fun d => d.parameters.length) = some 1 := by decide +kernel
theorem my_X0_spend : MyV yX0_spend cX0_spend 4 (some (.int)) := ⟨gw_t 609 (by decide +kernel) (by decide +kernel), gw_t 610 (by decide +kernel) (by decide +kernel), gw_t 4 (by decide +kernel) (by decide +kernel), gw_t 611 (by decide +kernel) (by decide +kernel), by decide +kernel, by decide +kernel⟩
theorem pd_X0_spend : (parseMethodDescriptor yX0_spend.desc).map (fun d => d.parameters.length) = some 3 := by decide +kernel
theorem my_X0_sumLaidBy : MyV yX0_sumLaidBy cX0_sumLaidBy 3 (some (.int)) := ⟨gw_t 951 (by decide +kernel) (by decide +kernel), gw_t 952 (by decide +kernel) (by decide +kernel), gw_t 4 (by decide +kernel) (by decide +kernel), gw_t 953 (by decide +kernel) (by decide +kernel), by decide +kernel, by decide +kernel⟩
theorem pd_X0_sumLaidBy : (parseMethodDescriptor yX0_sumLaidBy.desc).map (fun d => d.parameters.length) = some 0 := by decide +kernel
theorem my_X0_sumThere : MyV yX0_sumThere cX0_sumThere 4 (some (.int)) := ⟨gw_t 935 (by decide +kernel) (by decide +kernel), gw_t 936 (by decide +kernel) (by decide +kernel), gw_t 4 (by decide +kernel) (by decide +kernel), gw_t 937 (by decide +kernel) (by decide +kernel), by decide +kernel, by decide +kernel⟩
theorem pd_X0_sumThere : (parseMethodDescriptor yX0_sumThere.desc).map (fun d => d.parameters.length) = some 1 := by decide +kernel
theorem my_X0_tax : MyV yX0_tax cX0_tax 5 (some (.int)) := ⟨gw_t 617 (by decide +kernel) (by decide +kernel), gw_t 618 (by decide +kernel) (by decide +kernel), gw_t 4 (by decide +kernel) (by decide +kernel), gw_t 619 (by decide +kernel) (by decide +kernel), by decide +kernel, by decide +kernel⟩
theorem pd_X0_tax : (parseMethodDescriptor yX0_tax.desc).map (fun d => d.parameters.length) = some 2 := by decide +kernel
theorem my_X0_turnPort : MyV yX0_turnPort cX0_turnPort 1 (some (.int)) := ⟨gw_t 634 (by decide +kernel) (by decide +kernel), gw_t 635 (by decide +kernel) (by decide +kernel), gw_t 4 (by decide +kernel) (by decide +kernel), gw_t 636 (by decide +kernel) (by decide +kernel), by decide +kernel, by decide +kernel⟩
theorem pd_X0_turnPort : (parseMethodDescriptor yX0_turnPort.desc).map (fun d => d.parameters.length) = some 0 := by decide +kernel
theorem my_X10_adds : MyV yX10_adds cX10_adds 3 (some (.int)) := ⟨gw_t 1353 (by decide +kernel) (by decide +kernel), gw_p 55 (by decide +kernel) (by decide +kernel), gw_t 12 (by decide +kernel) (by decide +kernel), gw_t 1354 (by decide +kernel) (by decide +kernel), by decide +kernel, by decide +kernel⟩
theorem pd_X10_adds : (parseMethodDescriptor yX10_adds.desc).map (fun d => d.parameters.length) = some 1 := by decide +kernel
theorem my_X10_at : MyS yX10_at cX10_at 2 (some (.int)) := ⟨gw_t 1302 (by decide +kernel) (by decide +kernel), gw_t 12 (by decide +kernel) (by decide +kernel), gw_t 1303 (by decide +kernel) (by decide +kernel), by decide +kernel, by decide +kernel⟩
theorem pd_X10_at : (parseMethodDescriptor yX10_at.desc).map (fun d => d.parameters.length) = some 2 := by decide +kernel
theorem my_X10_begins : MyV yX10_begins cX10_begins 3 (some (.int)) := ⟨gw_t 1209 (by decide +kernel) (by decide +kernel), gw_p 32 (by decide +kernel) (by decide +kernel), gw_t 12 (by decide +kernel) (by decide +kernel), gw_t 1210 (by decide +kernel) (by decide +kernel), by decide +kernel, by decide +kernel⟩
theorem pd_X10_begins : (parseMethodDescriptor yX10_begins.desc).map (fun d => d.parameters.length) = some 1 := by decide +kernel
theorem my_X10_boughtBy : MyV yX10_boughtBy cX10_boughtBy 5 (some (.int)) := ⟨gw_t 1464 (by decide +kernel) (by decide +kernel), gw_p 67 (by decide +kernel) (by decide +kernel), gw_t 12 (by decide +kernel) (by decide +kernel), gw_t 1465 (by decide +kernel) (by decide +kernel), by decide +kernel, by decide +kernel⟩
theorem pd_X10_boughtBy : (parseMethodDescriptor yX10_boughtBy.desc).map (fun d => d.parameters.length) = some 4 := by decide +kernel
theorem my_X10_burnsAt : MyV yX10_burnsAt cX10_burnsAt 3 (some (.int)) := ⟨gw_t 1402 (by decide +kernel) (by decide +kernel), gw_p 60 (by decide +kernel) (by decide +kernel), gw_t 12 (by decide +kernel) (by decide +kernel), gw_t 1403 (by decide +kernel) (by decide +kernel), by decide +kernel, by decide +kernel⟩
theorem pd_X10_burnsAt : (parseMethodDescriptor yX10_burnsAt.desc).map (fun d => d.parameters.length) = some 1 := by decide +kernel
theorem my_X10_buysBy : MyS yX10_buysBy cX10_buysBy 2 (some (.int)) := ⟨gw_t 1467 (by decide +kernel) (by decide +kernel), gw_t 12 (by decide +kernel) (by decide +kernel), gw_t 1468 (by decide +kernel) (by decide +kernel), by decide +kernel, by decide +kernel⟩
theorem pd_X10_buysBy : (parseMethodDescriptor yX10_buysBy.desc).map (fun d => d.parameters.length) = some 2 := by decide +kernel
theorem my_X10_canBuy : MyV yX10_canBuy cX10_canBuy 4 (some (.boolean)) := ⟨gw_t 1460 (by decide +kernel) (by decide +kernel), gw_p 66 (by decide +kernel) (by decide +kernel), gw_t 12 (by decide +kernel) (by decide +kernel), gw_t 1461 (by decide +kernel) (by decide +kernel), by decide +kernel, by decide +kernel⟩
theorem pd_X10_canBuy : (parseMethodDescriptor yX10_canBuy.desc).map (fun d => d.parameters.length) = some 3 := by decide +kernel
theorem my_X10_codes : MyV yX10_codes cX10_codes 2 none := ⟨gw_t 1274 (by decide +kernel) (by decide +kernel), gw_p 44 (by decide +kernel) (by decide +kernel), gw_t 12 (by decide +kernel) (by decide +kernel), gw_t 1275 (by decide +kernel) (by decide +kernel), by decide +kernel, by decide +kernel⟩
theorem pd_X10_codes : (parseMethodDescriptor yX10_codes.desc).map (fun d => d.parameters.length) = some 1 := by decide +kernel
theorem my_X10_common : MyS yX10_common cX10_common 4 (some (.long)) := ⟨gw_t 1564 (by decide +kernel) (by decide +kernel), gw_t 12 (by decide +kernel) (by decide +kernel), gw_t 1565 (by decide +kernel) (by decide +kernel), by decide +kernel, by decide +kernel⟩
theorem pd_X10_common : (parseMethodDescriptor yX10_common.desc).map (fun d => d.parameters.length) = some 2 := by decide +kernel
theorem my_X10_copies : MyV yX10_copies cX10_copies 2 none := ⟨gw_t 1440 (by decide +kernel) (by decide +kernel), gw_p 65 (by decide +kernel) (by decide +kernel), gw_t 12 (by decide +kernel) (by decide +kernel), gw_t 1441 (by decide +kernel) (by decide +kernel), by decide +kernel, by decide +kernel⟩
theorem pd_X10_copies : (parseMethodDescriptor yX10_copies.desc).map (fun d => d.parameters.length) = some 0 := by decide +kernel
theorem my_X10_counted : MyV yX10_counted cX10_counted 2 (some (.int)) := ⟨gw_t 1376 (by decide +kernel) (by decide +kernel), gw_p 57 (by decide +kernel) (by decide +kernel), gw_t 12 (by decide +kernel) (by decide +kernel), gw_t 1377 (by decide +kernel) (by decide +kernel), by decide +kernel, by decide +kernel⟩
theorem pd_X10_counted : (parseMethodDescriptor yX10_counted.desc).map (fun d => d.parameters.length) = some 1 := by decide +kernel
theorem my_X10_digitIn : MyV yX10_digitIn cX10_digitIn 3 (some (.int)) := ⟨gw_t 1427 (by decide +kernel) (by decide +kernel), gw_p 63 (by decide +kernel) (by decide +kernel), gw_t 12 (by decide +kernel) (by decide +kernel), gw_t 1428 (by decide +kernel) (by decide +kernel), by decide +kernel, by decide +kernel⟩
theorem pd_X10_digitIn : (parseMethodDescriptor yX10_digitIn.desc).map (fun d => d.parameters.length) = some 2 := by decide +kernel
theorem my_X10_does : MyV yX10_does cX10_does 3 (some (.boolean)) := ⟨gw_t 1431 (by decide +kernel) (by decide +kernel), gw_p 64 (by decide +kernel) (by decide +kernel), gw_t 12 (by decide +kernel) (by decide +kernel), gw_t 1432 (by decide +kernel) (by decide +kernel), by decide +kernel, by decide +kernel⟩
theorem pd_X10_does : (parseMethodDescriptor yX10_does.desc).map (fun d => d.parameters.length) = some 1 := by decide +kernel
theorem my_X10_draws : MyV yX10_draws cX10_draws 2 (some (.int)) := ⟨gw_t 1596 (by decide +kernel) (by decide +kernel), gw_p 72 (by decide +kernel) (by decide +kernel), gw_t 12 (by decide +kernel) (by decide +kernel), gw_t 1597 (by decide +kernel) (by decide +kernel), by decide +kernel, by decide +kernel⟩
theorem pd_X10_draws : (parseMethodDescriptor yX10_draws.desc).map (fun d => d.parameters.length) = some 1 := by decide +kernel
theorem my_X10_enters : MyV yX10_enters cX10_enters 3 none := ⟨gw_t 1349 (by decide +kernel) (by decide +kernel), gw_p 54 (by decide +kernel) (by decide +kernel), gw_t 12 (by decide +kernel) (by decide +kernel), gw_t 1350 (by decide +kernel) (by decide +kernel), by decide +kernel, by decide +kernel⟩
theorem pd_X10_enters : (parseMethodDescriptor yX10_enters.desc).map (fun d => d.parameters.length) = some 1 := by decide +kernel
theorem my_X10_faultOf : MyV yX10_faultOf cX10_faultOf 5 (some (.int)) := ⟨gw_t 1239 (by decide +kernel) (by decide +kernel), gw_p 38 (by decide +kernel) (by decide +kernel), gw_t 12 (by decide +kernel) (by decide +kernel), gw_t 1240 (by decide +kernel) (by decide +kernel), by decide +kernel, by decide +kernel⟩
theorem pd_X10_faultOf : (parseMethodDescriptor yX10_faultOf.desc).map (fun d => d.parameters.length) = some 3 := by decide +kernel
theorem my_X10_flag : MyS yX10_flag cX10_flag 1 (some (.int)) := ⟨gw_t 1231 (by decide +kernel) (by decide +kernel), gw_t 12 (by decide +kernel) (by decide +kernel), gw_t 1232 (by decide +kernel) (by decide +kernel), by decide +kernel, by decide +kernel⟩
theorem pd_X10_flag : (parseMethodDescriptor yX10_flag.desc).map (fun d => d.parameters.length) = some 1 := by decide +kernel
theorem my_X10_flowsBy : MyV yX10_flowsBy cX10_flowsBy 3 (some (.int)) := ⟨gw_t 1414 (by decide +kernel) (by decide +kernel), gw_p 61 (by decide +kernel) (by decide +kernel), gw_t 12 (by decide +kernel) (by decide +kernel), gw_t 1415 (by decide +kernel) (by decide +kernel), by decide +kernel, by decide +kernel⟩
theorem pd_X10_flowsBy : (parseMethodDescriptor yX10_flowsBy.desc).map (fun d => d.parameters.length) = some 1 := by decide +kernel
theorem my_X10_gets : MyS yX10_gets cX10_gets 3 (some (.int)) := ⟨gw_t 1588 (by decide +kernel) (by decide +kernel), gw_t 12 (by decide +kernel) (by decide +kernel), gw_t 1589 (by decide +kernel) (by decide +kernel), by decide +kernel, by decide +kernel⟩
theorem pd_X10_gets : (parseMethodDescriptor yX10_gets.desc).map (fun d => d.parameters.length) = some 3 := by decide +kernel
theorem my_X10_goesOn : MyV yX10_goesOn cX10_goesOn 4 none := ⟨gw_t 1341 (by decide +kernel) (by decide +kernel), gw_p 52 (by decide +kernel) (by decide +kernel), gw_t 12 (by decide +kernel) (by decide +kernel), gw_t 1342 (by decide +kernel) (by decide +kernel), by decide +kernel, by decide +kernel⟩
theorem pd_X10_goesOn : (parseMethodDescriptor yX10_goesOn.desc).map (fun d => d.parameters.length) = some 2 := by decide +kernel
theorem my_X10_has : MyS yX10_has cX10_has 2 (some (.boolean)) := ⟨gw_t 1481 (by decide +kernel) (by decide +kernel), gw_t 12 (by decide +kernel) (by decide +kernel), gw_t 1482 (by decide +kernel) (by decide +kernel), by decide +kernel, by decide +kernel⟩
theorem pd_X10_has : (parseMethodDescriptor yX10_has.desc).map (fun d => d.parameters.length) = some 2 := by decide +kernel
theorem my_X10_in : MyS yX10_in cX10_in 6 (some (.boolean)) := ⟨gw_t 1201 (by decide +kernel) (by decide +kernel), gw_t 12 (by decide +kernel) (by decide +kernel), gw_t 1202 (by decide +kernel) (by decide +kernel), by decide +kernel, by decide +kernel⟩
theorem pd_X10_in : (parseMethodDescriptor yX10_in.desc).map (fun d => d.parameters.length) = some 3 := by decide +kernel
theorem my_X10_isDigit : MyV yX10_isDigit cX10_isDigit 1 (some (.boolean)) := ⟨gw_t 1226 (by decide +kernel) (by decide +kernel), gw_p 36 (by decide +kernel) (by decide +kernel), gw_t 12 (by decide +kernel) (by decide +kernel), gw_t 1227 (by decide +kernel) (by decide +kernel), by decide +kernel, by decide +kernel⟩
theorem pd_X10_isDigit : (parseMethodDescriptor yX10_isDigit.desc).map (fun d => d.parameters.length) = some 0 := by decide +kernel
theorem my_X10_isKind : MyS yX10_isKind cX10_isKind 1 (some (.boolean)) := ⟨gw_t 1360 (by decide +kernel) (by decide +kernel), gw_t 12 (by decide +kernel) (by decide +kernel), gw_t 1361 (by decide +kernel) (by decide +kernel), by decide +kernel, by decide +kernel⟩
theorem pd_X10_isKind : (parseMethodDescriptor yX10_isKind.desc).map (fun d => d.parameters.length) = some 1 := by decide +kernel
theorem my_X10_isMarket : MyV yX10_isMarket cX10_isMarket 2 (some (.boolean)) := ⟨gw_t 1290 (by decide +kernel) (by decide +kernel), gw_p 46 (by decide +kernel) (by decide +kernel), gw_t 12 (by decide +kernel) (by decide +kernel), gw_t 1291 (by decide +kernel) (by decide +kernel), by decide +kernel, by decide +kernel⟩
theorem pd_X10_isMarket : (parseMethodDescriptor yX10_isMarket.desc).map (fun d => d.parameters.length) = some 1 := by decide +kernel
theorem my_X10_isRest : MyS yX10_isRest cX10_isRest 5 (some (.boolean)) := ⟨gw_t 1585 (by decide +kernel) (by decide +kernel), gw_t 12 (by decide +kernel) (by decide +kernel), gw_t 1586 (by decide +kernel) (by decide +kernel), by decide +kernel, by decide +kernel⟩
theorem pd_X10_isRest : (parseMethodDescriptor yX10_isRest.desc).map (fun d => d.parameters.length) = some 3 := by decide +kernel
theorem my_X10_isSo : MyV yX10_isSo cX10_isSo 4 (some (.boolean)) := ⟨gw_t 1548 (by decide +kernel) (by decide +kernel), gw_p 69 (by decide +kernel) (by decide +kernel), gw_t 12 (by decide +kernel) (by decide +kernel), gw_t 1549 (by decide +kernel) (by decide +kernel), by decide +kernel, by decide +kernel⟩
theorem pd_X10_isSo : (parseMethodDescriptor yX10_isSo.desc).map (fun d => d.parameters.length) = some 1 := by decide +kernel
theorem my_X10_isSome : MyS yX10_isSome cX10_isSome 1 (some (.boolean)) := ⟨gw_t 1363 (by decide +kernel) (by decide +kernel), gw_t 12 (by decide +kernel) (by decide +kernel), gw_t 1364 (by decide +kernel) (by decide +kernel), by decide +kernel, by decide +kernel⟩
theorem pd_X10_isSome : (parseMethodDescriptor yX10_isSome.desc).map (fun d => d.parameters.length) = some 1 := by decide +kernel
theorem my_X10_laysBy : MyV yX10_laysBy cX10_laysBy 5 (some (.int)) := ⟨gw_t 1372 (by decide +kernel) (by decide +kernel), gw_p 56 (by decide +kernel) (by decide +kernel), gw_t 12 (by decide +kernel) (by decide +kernel), gw_t 1373 (by decide +kernel) (by decide +kernel), by decide +kernel, by decide +kernel⟩
theorem pd_X10_laysBy : (parseMethodDescriptor yX10_laysBy.desc).map (fun d => d.parameters.length) = some 3 := by decide +kernel
theorem my_X10_laysCode : MyV yX10_laysCode cX10_laysCode 4 none := ⟨gw_t 1282 (by decide +kernel) (by decide +kernel), gw_p 45 (by decide +kernel) (by decide +kernel), gw_t 12 (by decide +kernel) (by decide +kernel), gw_t 1283 (by decide +kernel) (by decide +kernel), by decide +kernel, by decide +kernel⟩
theorem pd_X10_laysCode : (parseMethodDescriptor yX10_laysCode.desc).map (fun d => d.parameters.length) = some 2 := by decide +kernel
theorem my_X10_monthGoes : MyV yX10_monthGoes cX10_monthGoes 5 none := ⟨gw_t 1345 (by decide +kernel) (by decide +kernel), gw_p 53 (by decide +kernel) (by decide +kernel), gw_t 12 (by decide +kernel) (by decide +kernel), gw_t 1346 (by decide +kernel) (by decide +kernel), by decide +kernel, by decide +kernel⟩
theorem pd_X10_monthGoes : (parseMethodDescriptor yX10_monthGoes.desc).map (fun d => d.parameters.length) = some 1 := by decide +kernel
theorem my_X10_number : MyV yX10_number cX10_number 4 (some (.int)) := ⟨gw_t 1222 (by decide +kernel) (by decide +kernel), gw_p 35 (by decide +kernel) (by decide +kernel), gw_t 12 (by decide +kernel) (by decide +kernel), gw_t 1223 (by decide +kernel) (by decide +kernel), by decide +kernel, by decide +kernel⟩
theorem pd_X10_number : (parseMethodDescriptor yX10_number.desc).map (fun d => d.parameters.length) = some 1 := by decide +kernel
theorem my_X10_numberAbove : MyV yX10_numberAbove cX10_numberAbove 3 (some (.int)) := ⟨gw_t 1218 (by decide +kernel) (by decide +kernel), gw_p 34 (by decide +kernel) (by decide +kernel), gw_t 12 (by decide +kernel) (by decide +kernel), gw_t 1219 (by decide +kernel) (by decide +kernel), by decide +kernel, by decide +kernel⟩
theorem pd_X10_numberAbove : (parseMethodDescriptor yX10_numberAbove.desc).map (fun d => d.parameters.length) = some 1 := by decide +kernel
theorem my_X10_priceAll : MyV yX10_priceAll cX10_priceAll 3 (some (.int)) := ⟨gw_t 1578 (by decide +kernel) (by decide +kernel), gw_p 71 (by decide +kernel) (by decide +kernel), gw_t 12 (by decide +kernel) (by decide +kernel), gw_t 1579 (by decide +kernel) (by decide +kernel), by decide +kernel, by decide +kernel⟩
theorem pd_X10_priceAll : (parseMethodDescriptor yX10_priceAll.desc).map (fun d => d.parameters.length) = some 0 := by decide +kernel
theorem my_X10_priceBy : MyV yX10_priceBy cX10_priceBy 6 (some (.int)) := ⟨gw_t 1306 (by decide +kernel) (by decide +kernel), gw_p 49 (by decide +kernel) (by decide +kernel), gw_t 12 (by decide +kernel) (by decide +kernel), gw_t 1307 (by decide +kernel) (by decide +kernel), by decide +kernel, by decide +kernel⟩
theorem pd_X10_priceBy : (parseMethodDescriptor yX10_priceBy.desc).map (fun d => d.parameters.length) = some 5 := by decide +kernel
theorem my_X10_priceOf : MyV yX10_priceOf cX10_priceOf 3 (some (.int)) := ⟨gw_t 1299 (by decide +kernel) (by decide +kernel), gw_p 48 (by decide +kernel) (by decide +kernel), gw_t 12 (by decide +kernel) (by decide +kernel), gw_t 1300 (by decide +kernel) (by decide +kernel), by decide +kernel, by decide +kernel⟩
theorem pd_X10_priceOf : (parseMethodDescriptor yX10_priceOf.desc).map (fun d => d.parameters.length) = some 2 := by decide +kernel
theorem my_X10_putsBy : MyV yX10_putsBy cX10_putsBy 2 none := ⟨gw_t 1337 (by decide +kernel) (by decide +kernel), gw_p 51 (by decide +kernel) (by decide +kernel), gw_t 12 (by decide +kernel) (by decide +kernel), gw_t 1338 (by decide +kernel) (by decide +kernel), by decide +kernel, by decide +kernel⟩
theorem pd_X10_putsBy : (parseMethodDescriptor yX10_putsBy.desc).map (fun d => d.parameters.length) = some 0 := by decide +kernel
theorem my_X10_readsAct : MyV yX10_readsAct cX10_readsAct 2 (some (.boolean)) := ⟨gw_t 1422 (by decide +kernel) (by decide +kernel), gw_p 62 (by decide +kernel) (by decide +kernel), gw_t 12 (by decide +kernel) (by decide +kernel), gw_t 1423 (by decide +kernel) (by decide +kernel), by decide +kernel, by decide +kernel⟩
theorem pd_X10_readsAct : (parseMethodDescriptor yX10_readsAct.desc).map (fun d => d.parameters.length) = some 0 := by decide +kernel
theorem my_X10_readsLoad : MyV yX10_readsLoad cX10_readsLoad 2 (some (.boolean)) := ⟨gw_t 1247 (by decide +kernel) (by decide +kernel), gw_p 39 (by decide +kernel) (by decide +kernel), gw_t 12 (by decide +kernel) (by decide +kernel), gw_t 1248 (by decide +kernel) (by decide +kernel), by decide +kernel, by decide +kernel⟩
theorem pd_X10_readsLoad : (parseMethodDescriptor yX10_readsLoad.desc).map (fun d => d.parameters.length) = some 0 := by decide +kernel
theorem my_X10_readsMarket : MyV yX10_readsMarket cX10_readsMarket 1 (some (.boolean)) := ⟨gw_t 1214 (by decide +kernel) (by decide +kernel), gw_p 33 (by decide +kernel) (by decide +kernel), gw_t 12 (by decide +kernel) (by decide +kernel), gw_t 1215 (by decide +kernel) (by decide +kernel), by decide +kernel, by decide +kernel⟩
theorem pd_X10_readsMarket : (parseMethodDescriptor yX10_readsMarket.desc).map (fun d => d.parameters.length) = some 0 := by decide +kernel
theorem my_X10_readsRank : MyV yX10_readsRank cX10_readsRank 4 (some (.boolean)) := ⟨gw_t 1266 (by decide +kernel) (by decide +kernel), gw_p 42 (by decide +kernel) (by decide +kernel), gw_t 12 (by decide +kernel) (by decide +kernel), gw_t 1267 (by decide +kernel) (by decide +kernel), by decide +kernel, by decide +kernel⟩
theorem pd_X10_readsRank : (parseMethodDescriptor yX10_readsRank.desc).map (fun d => d.parameters.length) = some 1 := by decide +kernel
theorem my_X10_readsRule : MyV yX10_readsRule cX10_readsRule 3 (some (.int)) := ⟨gw_t 1262 (by decide +kernel) (by decide +kernel), gw_p 41 (by decide +kernel) (by decide +kernel), gw_t 12 (by decide +kernel) (by decide +kernel), gw_t 1263 (by decide +kernel) (by decide +kernel), by decide +kernel, by decide +kernel⟩
theorem pd_X10_readsRule : (parseMethodDescriptor yX10_readsRule.desc).map (fun d => d.parameters.length) = some 0 := by decide +kernel
theorem my_X10_readsThing : MyV yX10_readsThing cX10_readsThing 2 (some (.boolean)) := ⟨gw_t 1270 (by decide +kernel) (by decide +kernel), gw_p 43 (by decide +kernel) (by decide +kernel), gw_t 12 (by decide +kernel) (by decide +kernel), gw_t 1271 (by decide +kernel) (by decide +kernel), by decide +kernel, by decide +kernel⟩
theorem pd_X10_readsThing : (parseMethodDescriptor yX10_readsThing.desc).map (fun d => d.parameters.length) = some 0 := by decide +kernel
theorem my_X10_refuse : MyV yX10_refuse cX10_refuse 1 (some (.int)) := ⟨gw_t 1295 (by decide +kernel) (by decide +kernel), gw_p 47 (by decide +kernel) (by decide +kernel), gw_t 12 (by decide +kernel) (by decide +kernel), gw_t 1296 (by decide +kernel) (by decide +kernel), by decide +kernel, by decide +kernel⟩
theorem pd_X10_refuse : (parseMethodDescriptor yX10_refuse.desc).map (fun d => d.parameters.length) = some 0 := by decide +kernel
theorem my_X10_ruled : MyV yX10_ruled cX10_ruled 4 (some (.int)) := ⟨gw_t 1311 (by decide +kernel) (by decide +kernel), gw_p 50 (by decide +kernel) (by decide +kernel), gw_t 12 (by decide +kernel) (by decide +kernel), gw_t 1312 (by decide +kernel) (by decide +kernel), by decide +kernel, by decide +kernel⟩
theorem pd_X10_ruled : (parseMethodDescriptor yX10_ruled.desc).map (fun d => d.parameters.length) = some 0 := by decide +kernel
theorem my_X10_spendsOf : MyV yX10_spendsOf cX10_spendsOf 5 (some (.int)) := ⟨gw_t 1384 (by decide +kernel) (by decide +kernel), gw_p 58 (by decide +kernel) (by decide +kernel), gw_t 12 (by decide +kernel) (by decide +kernel), gw_t 1385 (by decide +kernel) (by decide +kernel), by decide +kernel, by decide +kernel⟩
theorem pd_X10_spendsOf : (parseMethodDescriptor yX10_spendsOf.desc).map (fun d => d.parameters.length) = some 3 := by decide +kernel
theorem my_X10_sumOf : MyV yX10_sumOf cX10_sumOf 5 (some (.int)) := ⟨gw_t 1601 (by decide +kernel) (by decide +kernel), gw_p 73 (by decide +kernel) (by decide +kernel), gw_t 12 (by decide +kernel) (by decide +kernel), gw_t 1602 (by decide +kernel) (by decide +kernel), by decide +kernel, by decide +kernel⟩
theorem pd_X10_sumOf : (parseMethodDescriptor yX10_sumOf.desc).map (fun d => d.parameters.length) = some 2 := by decide +kernel
theorem my_X10_takes : MyV yX10_takes cX10_takes 3 (some (.boolean)) := ⟨gw_t 1235 (by decide +kernel) (by decide +kernel), gw_p 37 (by decide +kernel) (by decide +kernel), gw_t 12 (by decide +kernel) (by decide +kernel), gw_t 1236 (by decide +kernel) (by decide +kernel), by decide +kernel, by decide +kernel⟩
theorem pd_X10_takes : (parseMethodDescriptor yX10_takes.desc).map (fun d => d.parameters.length) = some 1 := by decide +kernel
theorem my_X10_takesOf : MyV yX10_takesOf cX10_takesOf 3 (some (.int)) := ⟨gw_t 1252 (by decide +kernel) (by decide +kernel), gw_p 40 (by decide +kernel) (by decide +kernel), gw_t 12 (by decide +kernel) (by decide +kernel), gw_t 1253 (by decide +kernel) (by decide +kernel), by decide +kernel, by decide +kernel⟩
theorem pd_X10_takesOf : (parseMethodDescriptor yX10_takesOf.desc).map (fun d => d.parameters.length) = some 1 := by decide +kernel
theorem my_X10_taxesOf : MyV yX10_taxesOf cX10_taxesOf 6 (some (.int)) := ⟨gw_t 1392 (by decide +kernel) (by decide +kernel), gw_p 59 (by decide +kernel) (by decide +kernel), gw_t 12 (by decide +kernel) (by decide +kernel), gw_t 1393 (by decide +kernel) (by decide +kernel), by decide +kernel, by decide +kernel⟩
theorem pd_X10_taxesOf : (parseMethodDescriptor yX10_taxesOf.desc).map (fun d => d.parameters.length) = some 3 := by decide +kernel
theorem my_X10_tellsFraction : MyV yX10_tellsFraction cX10_tellsFraction 7 none := ⟨gw_t 1561 (by decide +kernel) (by decide +kernel), gw_p 70 (by decide +kernel) (by decide +kernel), gw_t 12 (by decide +kernel) (by decide +kernel), gw_t 1562 (by decide +kernel) (by decide +kernel), by decide +kernel, by decide +kernel⟩
theorem pd_X10_tellsFraction : (parseMethodDescriptor yX10_tellsFraction.desc).map (fun d => d.parameters.length) = some 2 := by decide +kernel
theorem my_X10_travels : MyV yX10_travels cX10_travels 10 none := ⟨gw_t 1512 (by decide +kernel) (by decide +kernel), gw_p 68 (by decide +kernel) (by decide +kernel), gw_t 12 (by decide +kernel) (by decide +kernel), gw_t 1513 (by decide +kernel) (by decide +kernel), by decide +kernel, by decide +kernel⟩
theorem pd_X10_travels : (parseMethodDescriptor yX10_travels.desc).map (fun d => d.parameters.length) = some 3 := by decide +kernel
theorem my_X10_worked : MyS yX10_worked cX10_worked 3 (some (.int)) := ⟨gw_t 1314 (by decide +kernel) (by decide +kernel), gw_t 12 (by decide +kernel) (by decide +kernel), gw_t 1315 (by decide +kernel) (by decide +kernel), by decide +kernel, by decide +kernel⟩
theorem pd_X10_worked : (parseMethodDescriptor yX10_worked.desc).map (fun d => d.parameters.length) = some 3 := by decide +kernel
theorem my_X1_atMonth : MyV yX1_atMonth cX1_atMonth 2 (some (.int)) := ⟨gw_t 524 (by decide +kernel) (by decide +kernel), gw_t 525 (by decide +kernel) (by decide +kernel), gw_t 9 (by decide +kernel) (by decide +kernel), gw_t 526 (by decide +kernel) (by decide +kernel), by decide +kernel, by decide +kernel⟩
theorem pd_X1_atMonth : (parseMethodDescriptor yX1_atMonth.desc).map (fun d => d.parameters.length) = some 1 := by decide +kernel
theorem my_X1_read : MyV yX1_read cX1_read 6 (some (.int)) := ⟨gw_t 349 (by decide +kernel) (by decide +kernel), gw_t 350 (by decide +kernel) (by decide +kernel), gw_t 9 (by decide +kernel) (by decide +kernel), gw_t 351 (by decide +kernel) (by decide +kernel), by decide +kernel, by decide +kernel⟩
theorem pd_X1_read : (parseMethodDescriptor yX1_read.desc).map (fun d => d.parameters.length) = some 1 := by decide +kernel
theorem my_X2_hear : MyV yX2_hear cX2_hear 3 (some (.boolean)) := ⟨gw_t 854 (by decide +kernel) (by decide +kernel), gw_t 855 (by decide +kernel) (by decide +kernel), gw_t 7 (by decide +kernel) (by decide +kernel), gw_t 856 (by decide +kernel) (by decide +kernel), by decide +kernel, by decide +kernel⟩
theorem pd_X2_hear : (parseMethodDescriptor yX2_hear.desc).map (fun d => d.parameters.length) = some 2 := by decide +kernel
theorem my_X2_isFitting : MyV yX2_isFitting cX2_isFitting 3 (some (.boolean)) := ⟨gw_t 871 (by decide +kernel) (by decide +kernel), gw_p 28 (by decide +kernel) (by decide +kernel), gw_t 7 (by decide +kernel) (by decide +kernel), gw_t 872 (by decide +kernel) (by decide +kernel), by decide +kernel, by decide +kernel⟩
theorem pd_X2_isFitting : (parseMethodDescriptor yX2_isFitting.desc).map (fun d => d.parameters.length) = some 1 := by decide +kernel
theorem my_X2_mostLeft : MyV yX2_mostLeft cX2_mostLeft 6 (some (.int)) := ⟨gw_t 878 (by decide +kernel) (by decide +kernel), gw_t 879 (by decide +kernel) (by decide +kernel), gw_t 7 (by decide +kernel) (by decide +kernel), gw_t 880 (by decide +kernel) (by decide +kernel), by decide +kernel, by decide +kernel⟩
theorem pd_X2_mostLeft : (parseMethodDescriptor yX2_mostLeft.desc).map (fun d => d.parameters.length) = some 1 := by decide +kernel
theorem my_X2_sift : MyV yX2_sift cX2_sift 2 none := ⟨gw_t 866 (by decide +kernel) (by decide +kernel), gw_t 867 (by decide +kernel) (by decide +kernel), gw_t 7 (by decide +kernel) (by decide +kernel), gw_t 868 (by decide +kernel) (by decide +kernel), by decide +kernel, by decide +kernel⟩
theorem pd_X2_sift : (parseMethodDescriptor yX2_sift.desc).map (fun d => d.parameters.length) = some 0 := by decide +kernel
theorem my_X3_read : MyV yX3_read cX3_read 9 (some (.int)) := ⟨gw_t 306 (by decide +kernel) (by decide +kernel), gw_t 307 (by decide +kernel) (by decide +kernel), gw_t 6 (by decide +kernel) (by decide +kernel), gw_t 308 (by decide +kernel) (by decide +kernel), by decide +kernel, by decide +kernel⟩
theorem pd_X3_read : (parseMethodDescriptor yX3_read.desc).map (fun d => d.parameters.length) = some 4 := by decide +kernel
theorem my_X3_sum : MyV yX3_sum cX3_sum 4 (some (.int)) := ⟨gw_t 842 (by decide +kernel) (by decide +kernel), gw_t 843 (by decide +kernel) (by decide +kernel), gw_t 6 (by decide +kernel) (by decide +kernel), gw_t 844 (by decide +kernel) (by decide +kernel), by decide +kernel, by decide +kernel⟩
theorem pd_X3_sum : (parseMethodDescriptor yX3_sum.desc).map (fun d => d.parameters.length) = some 1 := by decide +kernel
theorem my_X4_begin : MyV yX4_begin cX4_begin 2 none := ⟨gw_t 921 (by decide +kernel) (by decide +kernel), gw_t 922 (by decide +kernel) (by decide +kernel), gw_t 8 (by decide +kernel) (by decide +kernel), gw_t 923 (by decide +kernel) (by decide +kernel), by decide +kernel, by decide +kernel⟩
theorem pd_X4_begin : (parseMethodDescriptor yX4_begin.desc).map (fun d => d.parameters.length) = some 1 := by decide +kernel
theorem my_X4_draw : MyV yX4_draw cX4_draw 2 (some (.int)) := ⟨gw_t 929 (by decide +kernel) (by decide +kernel), gw_t 930 (by decide +kernel) (by decide +kernel), gw_t 8 (by decide +kernel) (by decide +kernel), gw_t 931 (by decide +kernel) (by decide +kernel), by decide +kernel, by decide +kernel⟩
theorem pd_X4_draw : (parseMethodDescriptor yX4_draw.desc).map (fun d => d.parameters.length) = some 1 := by decide +kernel
theorem my_X5_clear : MyV yX5_clear cX5_clear 1 none := ⟨gw_t 341 (by decide +kernel) (by decide +kernel), gw_t 342 (by decide +kernel) (by decide +kernel), gw_t 5 (by decide +kernel) (by decide +kernel), gw_t 343 (by decide +kernel) (by decide +kernel), by decide +kernel, by decide +kernel⟩
theorem pd_X5_clear : (parseMethodDescriptor yX5_clear.desc).map (fun d => d.parameters.length) = some 0 := by decide +kernel
theorem my_X5_giveBack : MyV yX5_giveBack cX5_giveBack 2 (some (.boolean)) := ⟨gw_t 703 (by decide +kernel) (by decide +kernel), gw_t 704 (by decide +kernel) (by decide +kernel), gw_t 5 (by decide +kernel) (by decide +kernel), gw_t 705 (by decide +kernel) (by decide +kernel), by decide +kernel, by decide +kernel⟩
theorem pd_X5_giveBack : (parseMethodDescriptor yX5_giveBack.desc).map (fun d => d.parameters.length) = some 1 := by decide +kernel
theorem my_X5_put : MyV yX5_put cX5_put 2 none := ⟨gw_t 548 (by decide +kernel) (by decide +kernel), gw_t 549 (by decide +kernel) (by decide +kernel), gw_t 5 (by decide +kernel) (by decide +kernel), gw_t 550 (by decide +kernel) (by decide +kernel), by decide +kernel, by decide +kernel⟩
theorem pd_X5_put : (parseMethodDescriptor yX5_put.desc).map (fun d => d.parameters.length) = some 1 := by decide +kernel
theorem my_X6_add : MyV yX6_add cX6_add 3 none := ⟨gw_t 576 (by decide +kernel) (by decide +kernel), gw_t 577 (by decide +kernel) (by decide +kernel), gw_t 3 (by decide +kernel) (by decide +kernel), gw_t 578 (by decide +kernel) (by decide +kernel), by decide +kernel, by decide +kernel⟩
theorem pd_X6_add : (parseMethodDescriptor yX6_add.desc).map (fun d => d.parameters.length) = some 1 := by decide +kernel
theorem my_X6_clear : MyV yX6_clear cX6_clear 1 none := ⟨gw_t 727 (by decide +kernel) (by decide +kernel), gw_t 728 (by decide +kernel) (by decide +kernel), gw_t 3 (by decide +kernel) (by decide +kernel), gw_t 729 (by decide +kernel) (by decide +kernel), by decide +kernel, by decide +kernel⟩
theorem pd_X6_clear : (parseMethodDescriptor yX6_clear.desc).map (fun d => d.parameters.length) = some 0 := by decide +kernel
theorem my_X6_tell : MyV yX6_tell cX6_tell 3 none := ⟨gw_t 719 (by decide +kernel) (by decide +kernel), gw_t 720 (by decide +kernel) (by decide +kernel), gw_t 3 (by decide +kernel) (by decide +kernel), gw_t 721 (by decide +kernel) (by decide +kernel), by decide +kernel, by decide +kernel⟩
theorem pd_X6_tell : (parseMethodDescriptor yX6_tell.desc).map (fun d => d.parameters.length) = some 1 := by decide +kernel
theorem my_X6_tell_ : MyV yX6_tell_ cX6_tell_ 5 none := ⟨gw_t 572 (by decide +kernel) (by decide +kernel), gw_t 573 (by decide +kernel) (by decide +kernel), gw_t 3 (by decide +kernel) (by decide +kernel), gw_t 574 (by decide +kernel) (by decide +kernel), by decide +kernel, by decide +kernel⟩
theorem pd_X6_tell_ : (parseMethodDescriptor yX6_tell_.desc).map (fun d => d.parameters.length) = some 2 := by decide +kernel
theorem my_X7_await : MyV yX7_await cX7_await 2 none := ⟨gw_t 372 (by decide +kernel) (by decide +kernel), gw_p 3 (by decide +kernel) (by decide +kernel), gw_t 10 (by decide +kernel) (by decide +kernel), gw_t 373 (by decide +kernel) (by decide +kernel), by decide +kernel, by decide +kernel⟩
theorem pd_X7_await : (parseMethodDescriptor yX7_await.desc).map (fun d => d.parameters.length) = some 1 := by decide +kernel
theorem my_X7_beFirstRule : MyV yX7_beFirstRule cX7_beFirstRule 1 none := ⟨gw_t 201 (by decide +kernel) (by decide +kernel), gw_p 0 (by decide +kernel) (by decide +kernel), gw_t 10 (by decide +kernel) (by decide +kernel), gw_t 202 (by decide +kernel) (by decide +kernel), by decide +kernel, by decide +kernel⟩
theorem pd_X7_beFirstRule : (parseMethodDescriptor yX7_beFirstRule.desc).map (fun d => d.parameters.length) = some 0 := by decide +kernel
theorem my_X7_joined : MyS yX7_joined cX7_joined 3 (some (.int)) := ⟨gw_t 567 (by decide +kernel) (by decide +kernel), gw_t 10 (by decide +kernel) (by decide +kernel), gw_t 568 (by decide +kernel) (by decide +kernel), by decide +kernel, by decide +kernel⟩
theorem pd_X7_joined : (parseMethodDescriptor yX7_joined.desc).map (fun d => d.parameters.length) = some 3 := by decide +kernel
theorem my_X7_open : MyV yX7_open cX7_open 1 (some (.boolean)) := ⟨gw_t 376 (by decide +kernel) (by decide +kernel), gw_p 4 (by decide +kernel) (by decide +kernel), gw_t 10 (by decide +kernel) (by decide +kernel), gw_t 377 (by decide +kernel) (by decide +kernel), by decide +kernel, by decide +kernel⟩
theorem pd_X7_open : (parseMethodDescriptor yX7_open.desc).map (fun d => d.parameters.length) = some 0 := by decide +kernel
theorem my_X7_price : MyV yX7_price cX7_price 10 (some (.int)) := ⟨gw_t 563 (by decide +kernel) (by decide +kernel), gw_t 564 (by decide +kernel) (by decide +kernel), gw_t 10 (by decide +kernel) (by decide +kernel), gw_t 565 (by decide +kernel) (by decide +kernel), by decide +kernel, by decide +kernel⟩
theorem pd_X7_price : (parseMethodDescriptor yX7_price.desc).map (fun d => d.parameters.length) = some 6 := by decide +kernel
theorem my_X7_rank : MyS yX7_rank cX7_rank 1 (some (.int)) := ⟨gw_t 482 (by decide +kernel) (by decide +kernel), gw_t 10 (by decide +kernel) (by decide +kernel), gw_t 483 (by decide +kernel) (by decide +kernel), by decide +kernel, by decide +kernel⟩
theorem pd_X7_rank : (parseMethodDescriptor yX7_rank.desc).map (fun d => d.parameters.length) = some 1 := by decide +kernel
theorem my_X7_read : MyV yX7_read cX7_read 5 (some (.int)) := ⟨gw_t 361 (by decide +kernel) (by decide +kernel), gw_t 362 (by decide +kernel) (by decide +kernel), gw_t 10 (by decide +kernel) (by decide +kernel), gw_t 363 (by decide +kernel) (by decide +kernel), by decide +kernel, by decide +kernel⟩
theorem pd_X7_read : (parseMethodDescriptor yX7_read.desc).map (fun d => d.parameters.length) = some 1 := by decide +kernel
theorem my_X7_readOperator : MyV yX7_readOperator cX7_readOperator 3 (some (.int)) := ⟨gw_t 471 (by decide +kernel) (by decide +kernel), gw_p 6 (by decide +kernel) (by decide +kernel), gw_t 10 (by decide +kernel) (by decide +kernel), gw_t 472 (by decide +kernel) (by decide +kernel), by decide +kernel, by decide +kernel⟩
theorem pd_X7_readOperator : (parseMethodDescriptor yX7_readOperator.desc).map (fun d => d.parameters.length) = some 1 := by decide +kernel
theorem my_X7_readThing : MyV yX7_readThing cX7_readThing 7 (some (.int)) := ⟨gw_t 367 (by decide +kernel) (by decide +kernel), gw_p 2 (by decide +kernel) (by decide +kernel), gw_t 10 (by decide +kernel) (by decide +kernel), gw_t 368 (by decide +kernel) (by decide +kernel), by decide +kernel, by decide +kernel⟩
theorem pd_X7_readThing : (parseMethodDescriptor yX7_readThing.desc).map (fun d => d.parameters.length) = some 3 := by decide +kernel
theorem my_X7_release : MyV yX7_release cX7_release 2 none := ⟨gw_t 479 (by decide +kernel) (by decide +kernel), gw_p 8 (by decide +kernel) (by decide +kernel), gw_t 10 (by decide +kernel) (by decide +kernel), gw_t 480 (by decide +kernel) (by decide +kernel), by decide +kernel, by decide +kernel⟩
theorem pd_X7_release : (parseMethodDescriptor yX7_release.desc).map (fun d => d.parameters.length) = some 1 := by decide +kernel
theorem my_X7_shut : MyV yX7_shut cX7_shut 1 (some (.boolean)) := ⟨gw_t 475 (by decide +kernel) (by decide +kernel), gw_p 7 (by decide +kernel) (by decide +kernel), gw_t 10 (by decide +kernel) (by decide +kernel), gw_t 476 (by decide +kernel) (by decide +kernel), by decide +kernel, by decide +kernel⟩
theorem pd_X7_shut : (parseMethodDescriptor yX7_shut.desc).map (fun d => d.parameters.length) = some 0 := by decide +kernel
theorem my_X7_step : MyV yX7_step cX7_step 2 none := ⟨gw_t 466 (by decide +kernel) (by decide +kernel), gw_p 5 (by decide +kernel) (by decide +kernel), gw_t 10 (by decide +kernel) (by decide +kernel), gw_t 467 (by decide +kernel) (by decide +kernel), by decide +kernel, by decide +kernel⟩
theorem pd_X7_step : (parseMethodDescriptor yX7_step.desc).map (fun d => d.parameters.length) = some 1 := by decide +kernel
theorem my_X8_add : MyV yX8_add cX8_add 3 (some (.boolean)) := ⟨gw_t 290 (by decide +kernel) (by decide +kernel), gw_t 291 (by decide +kernel) (by decide +kernel), gw_t 2 (by decide +kernel) (by decide +kernel), gw_t 292 (by decide +kernel) (by decide +kernel), by decide +kernel, by decide +kernel⟩
theorem pd_X8_add : (parseMethodDescriptor yX8_add.desc).map (fun d => d.parameters.length) = some 1 := by decide +kernel
theorem my_X8_at : MyV yX8_at cX8_at 3 (some (.int)) := ⟨gw_t 317 (by decide +kernel) (by decide +kernel), gw_t 318 (by decide +kernel) (by decide +kernel), gw_t 2 (by decide +kernel) (by decide +kernel), gw_t 319 (by decide +kernel) (by decide +kernel), by decide +kernel, by decide +kernel⟩
theorem pd_X8_at : (parseMethodDescriptor yX8_at.desc).map (fun d => d.parameters.length) = some 2 := by decide +kernel
theorem my_X8_cut : MyV yX8_cut cX8_cut 2 (some (.boolean)) := ⟨gw_t 298 (by decide +kernel) (by decide +kernel), gw_t 299 (by decide +kernel) (by decide +kernel), gw_t 2 (by decide +kernel) (by decide +kernel), gw_t 300 (by decide +kernel) (by decide +kernel), by decide +kernel, by decide +kernel⟩
theorem pd_X8_cut : (parseMethodDescriptor yX8_cut.desc).map (fun d => d.parameters.length) = some 1 := by decide +kernel
theorem my_X8_digits : MyV yX8_digits cX8_digits 5 (some (.int)) := ⟨gw_t 313 (by decide +kernel) (by decide +kernel), gw_t 314 (by decide +kernel) (by decide +kernel), gw_t 2 (by decide +kernel) (by decide +kernel), gw_t 315 (by decide +kernel) (by decide +kernel), by decide +kernel, by decide +kernel⟩
theorem pd_X8_digits : (parseMethodDescriptor yX8_digits.desc).map (fun d => d.parameters.length) = some 3 := by decide +kernel
theorem my_X8_empty : MyV yX8_empty cX8_empty 1 none := ⟨gw_t 329 (by decide +kernel) (by decide +kernel), gw_t 330 (by decide +kernel) (by decide +kernel), gw_t 2 (by decide +kernel) (by decide +kernel), gw_t 331 (by decide +kernel) (by decide +kernel), by decide +kernel, by decide +kernel⟩
theorem pd_X8_empty : (parseMethodDescriptor yX8_empty.desc).map (fun d => d.parameters.length) = some 0 := by decide +kernel
theorem my_X8_number : MyV yX8_number cX8_number 5 (some (.int)) := ⟨gw_t 324 (by decide +kernel) (by decide +kernel), gw_t 325 (by decide +kernel) (by decide +kernel), gw_t 2 (by decide +kernel) (by decide +kernel), gw_t 326 (by decide +kernel) (by decide +kernel), by decide +kernel, by decide +kernel⟩
theorem pd_X8_number : (parseMethodDescriptor yX8_number.desc).map (fun d => d.parameters.length) = some 2 := by decide +kernel
theorem my_X9_act : MyV yX9_act cX9_act 6 (some (.int)) := ⟨gw_t 696 (by decide +kernel) (by decide +kernel), gw_p 17 (by decide +kernel) (by decide +kernel), gw_t 1 (by decide +kernel) (by decide +kernel), gw_t 697 (by decide +kernel) (by decide +kernel), by decide +kernel, by decide +kernel⟩
theorem pd_X9_act : (parseMethodDescriptor yX9_act.desc).map (fun d => d.parameters.length) = some 1 := by decide +kernel
theorem my_X9_addMarket : MyV yX9_addMarket cX9_addMarket 2 none := ⟨gw_t 334 (by decide +kernel) (by decide +kernel), gw_p 1 (by decide +kernel) (by decide +kernel), gw_t 1 (by decide +kernel) (by decide +kernel), gw_t 335 (by decide +kernel) (by decide +kernel), by decide +kernel, by decide +kernel⟩
theorem pd_X9_addMarket : (parseMethodDescriptor yX9_addMarket.desc).map (fun d => d.parameters.length) = some 1 := by decide +kernel
theorem my_X9_asKind : MyS yX9_asKind cX9_asKind 2 (some (.int)) := ⟨gw_t 499 (by decide +kernel) (by decide +kernel), gw_t 1 (by decide +kernel) (by decide +kernel), gw_t 500 (by decide +kernel) (by decide +kernel), by decide +kernel, by decide +kernel⟩
theorem pd_X9_asKind : (parseMethodDescriptor yX9_asKind.desc).map (fun d => d.parameters.length) = some 2 := by decide +kernel
theorem my_X9_badSignOfYear : MyV yX9_badSignOfYear cX9_badSignOfYear 5 (some (.int)) := ⟨gw_t 651 (by decide +kernel) (by decide +kernel), gw_p 16 (by decide +kernel) (by decide +kernel), gw_t 1 (by decide +kernel) (by decide +kernel), gw_t 652 (by decide +kernel) (by decide +kernel), by decide +kernel, by decide +kernel⟩
theorem pd_X9_badSignOfYear : (parseMethodDescriptor yX9_badSignOfYear.desc).map (fun d => d.parameters.length) = some 0 := by decide +kernel
theorem my_X9_baskets : MyS yX9_baskets cX9_baskets 4 (some (.int)) := ⟨gw_t 914 (by decide +kernel) (by decide +kernel), gw_t 1 (by decide +kernel) (by decide +kernel), gw_t 915 (by decide +kernel) (by decide +kernel), by decide +kernel, by decide +kernel⟩
theorem pd_X9_baskets : (parseMethodDescriptor yX9_baskets.desc).map (fun d => d.parameters.length) = some 3 := by decide +kernel
theorem my_X9_choices : MyS yX9_choices cX9_choices 5 (some (.long)) := ⟨gw_t 899 (by decide +kernel) (by decide +kernel), gw_t 1 (by decide +kernel) (by decide +kernel), gw_t 900 (by decide +kernel) (by decide +kernel), by decide +kernel, by decide +kernel⟩
theorem pd_X9_choices : (parseMethodDescriptor yX9_choices.desc).map (fun d => d.parameters.length) = some 2 := by decide +kernel
theorem my_X9_commonDivisor : MyS yX9_commonDivisor cX9_commonDivisor 11 (some (.long)) := ⟨gw_t 892 (by decide +kernel) (by decide +kernel), gw_t 1 (by decide +kernel) (by decide +kernel), gw_t 893 (by decide +kernel) (by decide +kernel), by decide +kernel, by decide +kernel⟩
theorem pd_X9_commonDivisor : (parseMethodDescriptor yX9_commonDivisor.desc).map (fun d => d.parameters.length) = some 2 := by decide +kernel
theorem my_X9_counted : MyS yX9_counted cX9_counted 2 (some (.int)) := ⟨gw_t 835 (by decide +kernel) (by decide +kernel), gw_t 1 (by decide +kernel) (by decide +kernel), gw_t 836 (by decide +kernel) (by decide +kernel), by decide +kernel, by decide +kernel⟩
theorem pd_X9_counted : (parseMethodDescriptor yX9_counted.desc).map (fun d => d.parameters.length) = some 2 := by decide +kernel
theorem my_X9_deedOf : MyV yX9_deedOf cX9_deedOf 3 (some (.int)) := ⟨gw_t 816 (by decide +kernel) (by decide +kernel), gw_p 27 (by decide +kernel) (by decide +kernel), gw_t 1 (by decide +kernel) (by decide +kernel), gw_t 817 (by decide +kernel) (by decide +kernel), by decide +kernel, by decide +kernel⟩
theorem pd_X9_deedOf : (parseMethodDescriptor yX9_deedOf.desc).map (fun d => d.parameters.length) = some 2 := by decide +kernel
theorem my_X9_drawAct : MyV yX9_drawAct cX9_drawAct 3 none := ⟨gw_t 926 (by decide +kernel) (by decide +kernel), gw_p 30 (by decide +kernel) (by decide +kernel), gw_t 1 (by decide +kernel) (by decide +kernel), gw_t 927 (by decide +kernel) (by decide +kernel), by decide +kernel, by decide +kernel⟩
theorem pd_X9_drawAct : (parseMethodDescriptor yX9_drawAct.desc).map (fun d => d.parameters.length) = some 0 := by decide +kernel
theorem my_X9_fillGoods : MyV yX9_fillGoods cX9_fillGoods 8 (some (.int)) := ⟨gw_t 496 (by decide +kernel) (by decide +kernel), gw_p 9 (by decide +kernel) (by decide +kernel), gw_t 1 (by decide +kernel) (by decide +kernel), gw_t 497 (by decide +kernel) (by decide +kernel), by decide +kernel, by decide +kernel⟩
theorem pd_X9_fillGoods : (parseMethodDescriptor yX9_fillGoods.desc).map (fun d => d.parameters.length) = some 4 := by decide +kernel
theorem my_X9_foresee : MyV yX9_foresee cX9_foresee 3 none := ⟨gw_t 732 (by decide +kernel) (by decide +kernel), gw_p 19 (by decide +kernel) (by decide +kernel), gw_t 1 (by decide +kernel) (by decide +kernel), gw_t 733 (by decide +kernel) (by decide +kernel), by decide +kernel, by decide +kernel⟩
theorem pd_X9_foresee : (parseMethodDescriptor yX9_foresee.desc).map (fun d => d.parameters.length) = some 0 := by decide +kernel
theorem my_X9_goodsByKind : MyV yX9_goodsByKind cX9_goodsByKind 5 (some (.int)) := ⟨gw_t 748 (by decide +kernel) (by decide +kernel), gw_p 22 (by decide +kernel) (by decide +kernel), gw_t 1 (by decide +kernel) (by decide +kernel), gw_t 749 (by decide +kernel) (by decide +kernel), by decide +kernel, by decide +kernel⟩
theorem pd_X9_goodsByKind : (parseMethodDescriptor yX9_goodsByKind.desc).map (fun d => d.parameters.length) = some 4 := by decide +kernel
theorem my_X9_goodsFor : MyS yX9_goodsFor cX9_goodsFor 2 (some (.int)) := ⟨gw_t 751 (by decide +kernel) (by decide +kernel), gw_t 1 (by decide +kernel) (by decide +kernel), gw_t 752 (by decide +kernel) (by decide +kernel), by decide +kernel, by decide +kernel⟩
theorem pd_X9_goodsFor : (parseMethodDescriptor yX9_goodsFor.desc).map (fun d => d.parameters.length) = some 2 := by decide +kernel
theorem my_X9_growth : MyV yX9_growth cX9_growth 2 (some (.int)) := ⟨gw_t 780 (by decide +kernel) (by decide +kernel), gw_p 24 (by decide +kernel) (by decide +kernel), gw_t 1 (by decide +kernel) (by decide +kernel), gw_t 781 (by decide +kernel) (by decide +kernel), by decide +kernel, by decide +kernel⟩
theorem pd_X9_growth : (parseMethodDescriptor yX9_growth.desc).map (fun d => d.parameters.length) = some 1 := by decide +kernel
theorem my_X9_hasFewer : MyS yX9_hasFewer cX9_hasFewer 2 (some (.boolean)) := ⟨gw_t 772 (by decide +kernel) (by decide +kernel), gw_t 1 (by decide +kernel) (by decide +kernel), gw_t 773 (by decide +kernel) (by decide +kernel), by decide +kernel, by decide +kernel⟩
theorem pd_X9_hasFewer : (parseMethodDescriptor yX9_hasFewer.desc).map (fun d => d.parameters.length) = some 2 := by decide +kernel
theorem my_X9_isBestAgainst : MyS yX9_isBestAgainst cX9_isBestAgainst 5 (some (.boolean)) := ⟨gw_t 911 (by decide +kernel) (by decide +kernel), gw_t 1 (by decide +kernel) (by decide +kernel), gw_t 912 (by decide +kernel) (by decide +kernel), by decide +kernel, by decide +kernel⟩
theorem pd_X9_isBestAgainst : (parseMethodDescriptor yX9_isBestAgainst.desc).map (fun d => d.parameters.length) = some 3 := by decide +kernel
theorem my_X9_isDigit : MyS yX9_isDigit cX9_isDigit 1 (some (.boolean)) := ⟨gw_t 321 (by decide +kernel) (by decide +kernel), gw_t 1 (by decide +kernel) (by decide +kernel), gw_t 322 (by decide +kernel) (by decide +kernel), by decide +kernel, by decide +kernel⟩
theorem pd_X9_isDigit : (parseMethodDescriptor yX9_isDigit.desc).map (fun d => d.parameters.length) = some 1 := by decide +kernel
theorem my_X9_isKind : MyS yX9_isKind cX9_isKind 1 (some (.boolean)) := ⟨gw_t 539 (by decide +kernel) (by decide +kernel), gw_t 1 (by decide +kernel) (by decide +kernel), gw_t 540 (by decide +kernel) (by decide +kernel), by decide +kernel, by decide +kernel⟩
theorem pd_X9_isKind : (parseMethodDescriptor yX9_isKind.desc).map (fun d => d.parameters.length) = some 1 := by decide +kernel
theorem my_X9_maySpend : MyV yX9_maySpend cX9_maySpend 4 (some (.boolean)) := ⟨gw_t 744 (by decide +kernel) (by decide +kernel), gw_p 21 (by decide +kernel) (by decide +kernel), gw_t 1 (by decide +kernel) (by decide +kernel), gw_t 745 (by decide +kernel) (by decide +kernel), by decide +kernel, by decide +kernel⟩
theorem pd_X9_maySpend : (parseMethodDescriptor yX9_maySpend.desc).map (fun d => d.parameters.length) = some 3 := by decide +kernel
theorem my_X9_priceBehindClosing : MyV yX9_priceBehindClosing cX9_priceBehindClosing 5 (some (.int)) := ⟨gw_t 769 (by decide +kernel) (by decide +kernel), gw_p 23 (by decide +kernel) (by decide +kernel), gw_t 1 (by decide +kernel) (by decide +kernel), gw_t 770 (by decide +kernel) (by decide +kernel), by decide +kernel, by decide +kernel⟩
theorem pd_X9_priceBehindClosing : (parseMethodDescriptor yX9_priceBehindClosing.desc).map (fun d => d.parameters.length) = some 3 := by decide +kernel
theorem my_X9_priceBy : MyV yX9_priceBy cX9_priceBy 5 (some (.int)) := ⟨gw_t 559 (by decide +kernel) (by decide +kernel), gw_p 13 (by decide +kernel) (by decide +kernel), gw_t 1 (by decide +kernel) (by decide +kernel), gw_t 560 (by decide +kernel) (by decide +kernel), by decide +kernel, by decide +kernel⟩
theorem pd_X9_priceBy : (parseMethodDescriptor yX9_priceBy.desc).map (fun d => d.parameters.length) = some 3 := by decide +kernel
theorem my_X9_priceOf : MyV yX9_priceOf cX9_priceOf 3 (some (.int)) := ⟨gw_t 555 (by decide +kernel) (by decide +kernel), gw_p 12 (by decide +kernel) (by decide +kernel), gw_t 1 (by decide +kernel) (by decide +kernel), gw_t 556 (by decide +kernel) (by decide +kernel), by decide +kernel, by decide +kernel⟩
theorem pd_X9_priceOf : (parseMethodDescriptor yX9_priceOf.desc).map (fun d => d.parameters.length) = some 2 := by decide +kernel
theorem my_X9_put : MyS yX9_put cX9_put 3 (some (.int)) := ⟨gw_t 502 (by decide +kernel) (by decide +kernel), gw_t 1 (by decide +kernel) (by decide +kernel), gw_t 503 (by decide +kernel) (by decide +kernel), by decide +kernel, by decide +kernel⟩
theorem pd_X9_put : (parseMethodDescriptor yX9_put.desc).map (fun d => d.parameters.length) = some 3 := by decide +kernel
theorem my_X9_remembered : MyV yX9_remembered cX9_remembered 2 (some (.int)) := ⟨gw_t 594 (by decide +kernel) (by decide +kernel), gw_p 15 (by decide +kernel) (by decide +kernel), gw_t 1 (by decide +kernel) (by decide +kernel), gw_t 595 (by decide +kernel) (by decide +kernel), by decide +kernel, by decide +kernel⟩
theorem pd_X9_remembered : (parseMethodDescriptor yX9_remembered.desc).map (fun d => d.parameters.length) = some 1 := by decide +kernel
theorem my_X9_roundedUp : MyS yX9_roundedUp cX9_roundedUp 2 (some (.int)) := ⟨gw_t 828 (by decide +kernel) (by decide +kernel), gw_t 1 (by decide +kernel) (by decide +kernel), gw_t 829 (by decide +kernel) (by decide +kernel), by decide +kernel, by decide +kernel⟩
theorem pd_X9_roundedUp : (parseMethodDescriptor yX9_roundedUp.desc).map (fun d => d.parameters.length) = some 2 := by decide +kernel
theorem my_X9_shapeOfAct : MyS yX9_shapeOfAct cX9_shapeOfAct 1 (some (.object "java/lang/String")) := ⟨gw_t 655 (by decide +kernel) (by decide +kernel), gw_t 1 (by decide +kernel) (by decide +kernel), gw_t 656 (by decide +kernel) (by decide +kernel), by decide +kernel, by decide +kernel⟩
theorem pd_X9_shapeOfAct : (parseMethodDescriptor yX9_shapeOfAct.desc).map (fun d => d.parameters.length) = some 1 := by decide +kernel
theorem my_X9_shellsByPlan : MyV yX9_shellsByPlan cX9_shellsByPlan 10 (some (.long)) := ⟨gw_t 812 (by decide +kernel) (by decide +kernel), gw_p 26 (by decide +kernel) (by decide +kernel), gw_t 1 (by decide +kernel) (by decide +kernel), gw_t 813 (by decide +kernel) (by decide +kernel), by decide +kernel, by decide +kernel⟩
theorem pd_X9_shellsByPlan : (parseMethodDescriptor yX9_shellsByPlan.desc).map (fun d => d.parameters.length) = some 2 := by decide +kernel
theorem my_X9_suits : MyS yX9_suits cX9_suits 2 (some (.boolean)) := ⟨gw_t 691 (by decide +kernel) (by decide +kernel), gw_t 1 (by decide +kernel) (by decide +kernel), gw_t 692 (by decide +kernel) (by decide +kernel), by decide +kernel, by decide +kernel⟩
theorem pd_X9_suits : (parseMethodDescriptor yX9_suits.desc).map (fun d => d.parameters.length) = some 2 := by decide +kernel
theorem my_X9_tellFraction : MyV yX9_tellFraction cX9_tellFraction 7 none := ⟨gw_t 889 (by decide +kernel) (by decide +kernel), gw_p 29 (by decide +kernel) (by decide +kernel), gw_t 1 (by decide +kernel) (by decide +kernel), gw_t 890 (by decide +kernel) (by decide +kernel), by decide +kernel, by decide +kernel⟩
theorem pd_X9_tellFraction : (parseMethodDescriptor yX9_tellFraction.desc).map (fun d => d.parameters.length) = some 2 := by decide +kernel
theorem my_X9_traded : MyV yX9_traded cX9_traded 7 (some (.int)) := ⟨gw_t 736 (by decide +kernel) (by decide +kernel), gw_p 20 (by decide +kernel) (by decide +kernel), gw_t 1 (by decide +kernel) (by decide +kernel), gw_t 737 (by decide +kernel) (by decide +kernel), by decide +kernel, by decide +kernel⟩
theorem pd_X9_traded : (parseMethodDescriptor yX9_traded.desc).map (fun d => d.parameters.length) = some 3 := by decide +kernel
theorem my_X9_tryMonths : MyV yX9_tryMonths cX9_tryMonths 2 none := ⟨gw_t 712 (by decide +kernel) (by decide +kernel), gw_p 18 (by decide +kernel) (by decide +kernel), gw_t 1 (by decide +kernel) (by decide +kernel), gw_t 713 (by decide +kernel) (by decide +kernel), by decide +kernel, by decide +kernel⟩
theorem pd_X9_tryMonths : (parseMethodDescriptor yX9_tryMonths.desc).map (fun d => d.parameters.length) = some 1 := by decide +kernel
theorem my_X9_tryTaxes : MyV yX9_tryTaxes cX9_tryTaxes 5 none := ⟨gw_t 789 (by decide +kernel) (by decide +kernel), gw_p 25 (by decide +kernel) (by decide +kernel), gw_t 1 (by decide +kernel) (by decide +kernel), gw_t 790 (by decide +kernel) (by decide +kernel), by decide +kernel, by decide +kernel⟩
theorem pd_X9_tryTaxes : (parseMethodDescriptor yX9_tryTaxes.desc).map (fun d => d.parameters.length) = some 3 := by decide +kernel
theorem my_X9_within : MyS yX9_within cX9_within 3 (some (.boolean)) := ⟨gw_t 492 (by decide +kernel) (by decide +kernel), gw_t 1 (by decide +kernel) (by decide +kernel), gw_t 493 (by decide +kernel) (by decide +kernel), by decide +kernel, by decide +kernel⟩
theorem pd_X9_within : (parseMethodDescriptor yX9_within.desc).map (fun d => d.parameters.length) = some 3 := by decide +kernel
theorem hw_0 : ∀ w ∈ u_ws RX0 TX0 7, w ∈ gw := by decide +kernel
theorem hw_1 : ∀ w ∈ u_ws RX1 TX1 3, w ∈ gw := by decide +kernel
theorem hw_2 : ∀ w ∈ u_ws RX2 TX2 4, w ∈ gw := by decide +kernel
theorem hw_3 : ∀ w ∈ u_ws RX3 TX3 2, w ∈ gw := by decide +kernel
theorem hw_4 : ∀ w ∈ u_ws RX4 TX4 1, w ∈ gw := by decide +kernel
theorem hw_5 : ∀ w ∈ u_ws RX5 TX5 3, w ∈ gw := by decide +kernel
theorem hw_6 : ∀ w ∈ u_ws RX6 TX6 2, w ∈ gw := by decide +kernel
theorem hw_7 : ∀ w ∈ u_ws RX7 TX7 9, w ∈ gw := by decide +kernel
theorem hw_8 : ∀ w ∈ u_ws RX8 TX8 2, w ∈ gw := by decide +kernel
theorem hw_9 : ∀ w ∈ u_ws RX9 TX9 16, w ∈ gw := by decide +kernel
theorem hw_10 : ∀ w ∈ u_ws RX10 TX10 48, w ∈ gw := by decide +kernel
theorem fl_RX0_11 : FL RX0 11 0 0 2 := ⟨RX0, TX0, 7, tyX0, tyX0 0, by decide, rfl, hw_0, by decide, rfl, gw_t 74 (by decide +kernel) (by decide +kernel), rfl, tyX0_ok, nmX0, tyX0_ok 0 (by decide), ⟨fun q => absurd q (by decide), fun _ _ => ⟨rfl, rfl⟩⟩⟩
theorem fl_RX0_16 : FL RX0 16 0 1 2 := ⟨RX0, TX0, 7, tyX0, tyX0 1, by decide, rfl, hw_0, by decide, rfl, gw_t 76 (by decide +kernel) (by decide +kernel), rfl, tyX0_ok, nmX0, tyX0_ok 1 (by decide), ⟨fun q => absurd q (by decide), fun _ _ => ⟨rfl, rfl⟩⟩⟩
theorem fl_RX0_19 : FL RX0 19 0 2 0 := ⟨RX0, TX0, 7, tyX0, tyX0 2, by decide, rfl, hw_0, by decide, rfl, gw_t 78 (by decide +kernel) (by decide +kernel), rfl, tyX0_ok, nmX0, tyX0_ok 2 (by decide), ⟨fun q => absurd q (by decide), fun q => absurd q (by decide)⟩⟩
theorem fl_RX0_23 : FL RX0 23 0 3 0 := ⟨RX0, TX0, 7, tyX0, tyX0 3, by decide, rfl, hw_0, by decide, rfl, gw_t 80 (by decide +kernel) (by decide +kernel), rfl, tyX0_ok, nmX0, tyX0_ok 3 (by decide), ⟨fun q => absurd q (by decide), fun q => absurd q (by decide)⟩⟩
theorem fl_RX0_26 : FL RX0 26 0 4 0 := ⟨RX0, TX0, 7, tyX0, tyX0 4, by decide, rfl, hw_0, by decide, rfl, gw_t 82 (by decide +kernel) (by decide +kernel), rfl, tyX0_ok, nmX0, tyX0_ok 4 (by decide), ⟨fun q => absurd q (by decide), fun q => absurd q (by decide)⟩⟩
theorem fl_RX0_29 : FL RX0 29 0 5 0 := ⟨RX0, TX0, 7, tyX0, tyX0 5, by decide, rfl, hw_0, by decide, rfl, gw_t 84 (by decide +kernel) (by decide +kernel), rfl, tyX0_ok, nmX0, tyX0_ok 5 (by decide), ⟨fun q => absurd q (by decide), fun q => absurd q (by decide)⟩⟩
theorem fl_RX0_32 : FL RX0 32 0 6 0 := ⟨RX0, TX0, 7, tyX0, tyX0 6, by decide, rfl, hw_0, by decide, rfl, gw_t 86 (by decide +kernel) (by decide +kernel), rfl, tyX0_ok, nmX0, tyX0_ok 6 (by decide), ⟨fun q => absurd q (by decide), fun q => absurd q (by decide)⟩⟩
theorem fl_RX0_56 : FL RX0 56 1 0 2 := ⟨RX1, TX1, 3, tyX1, tyX1 0, by decide, rfl, hw_1, by decide, rfl, gw_t 179 (by decide +kernel) (by decide +kernel), rfl, tyX1_ok, nmX1, tyX1_ok 0 (by decide), ⟨fun q => absurd q (by decide), fun _ _ => ⟨rfl, rfl⟩⟩⟩
theorem fl_RX0_60 : FL RX0 60 1 1 2 := ⟨RX1, TX1, 3, tyX1, tyX1 1, by decide, rfl, hw_1, by decide, rfl, gw_t 182 (by decide +kernel) (by decide +kernel), rfl, tyX1_ok, nmX1, tyX1_ok 1 (by decide), ⟨fun q => absurd q (by decide), fun _ _ => ⟨rfl, rfl⟩⟩⟩
theorem fl_RX10_101 : FL RX10 101 10 41 2 := ⟨RX10, TX10, 48, tyX10, tyX10 41, by decide, rfl, hw_10, by decide, rfl, gw_t 1088 (by decide +kernel) (by decide +kernel), rfl, tyX10_ok, nmX10, tyX10_ok 41 (by decide), ⟨fun q => absurd q (by decide), fun _ _ => ⟨rfl, rfl⟩⟩⟩
theorem fl_RX10_104 : FL RX10 104 10 42 2 := ⟨RX10, TX10, 48, tyX10, tyX10 42, by decide, rfl, hw_10, by decide, rfl, gw_t 1089 (by decide +kernel) (by decide +kernel), rfl, tyX10_ok, nmX10, tyX10_ok 42 (by decide), ⟨fun q => absurd q (by decide), fun _ _ => ⟨rfl, rfl⟩⟩⟩
theorem fl_RX10_107 : FL RX10 107 10 43 2 := ⟨RX10, TX10, 48, tyX10, tyX10 43, by decide, rfl, hw_10, by decide, rfl, gw_t 1090 (by decide +kernel) (by decide +kernel), rfl, tyX10_ok, nmX10, tyX10_ok 43 (by decide), ⟨fun q => absurd q (by decide), fun _ _ => ⟨rfl, rfl⟩⟩⟩
theorem fl_RX10_11 : FL RX10 11 10 2 2 := ⟨RX10, TX10, 48, tyX10, tyX10 2, by decide, rfl, hw_10, by decide, rfl, gw_t 1049 (by decide +kernel) (by decide +kernel), rfl, tyX10_ok, nmX10, tyX10_ok 2 (by decide), ⟨fun q => absurd q (by decide), fun _ _ => ⟨rfl, rfl⟩⟩⟩
theorem fl_RX10_110 : FL RX10 110 10 45 2 := ⟨RX10, TX10, 48, tyX10, tyX10 45, by decide, rfl, hw_10, by decide, rfl, gw_t 1092 (by decide +kernel) (by decide +kernel), rfl, tyX10_ok, nmX10, tyX10_ok 45 (by decide), ⟨fun q => absurd q (by decide), fun _ _ => ⟨rfl, rfl⟩⟩⟩
theorem fl_RX10_114 : FL RX10 114 10 46 2 := ⟨RX10, TX10, 48, tyX10, tyX10 46, by decide, rfl, hw_10, by decide, rfl, gw_t 1093 (by decide +kernel) (by decide +kernel), rfl, tyX10_ok, nmX10, tyX10_ok 46 (by decide), ⟨fun q => absurd q (by decide), fun _ _ => ⟨rfl, rfl⟩⟩⟩
theorem fl_RX10_117 : FL RX10 117 10 47 2 := ⟨RX10, TX10, 48, tyX10, tyX10 47, by decide, rfl, hw_10, by decide, rfl, gw_t 1094 (by decide +kernel) (by decide +kernel), rfl, tyX10_ok, nmX10, tyX10_ok 47 (by decide), ⟨fun q => absurd q (by decide), fun _ _ => ⟨rfl, rfl⟩⟩⟩
theorem fl_RX10_120 : FL RX10 120 10 3 0 := ⟨RX10, TX10, 48, tyX10, tyX10 3, by decide, rfl, hw_10, by decide, rfl, gw_t 1050 (by decide +kernel) (by decide +kernel), rfl, tyX10_ok, nmX10, tyX10_ok 3 (by decide), ⟨fun q => absurd q (by decide), fun q => absurd q (by decide)⟩⟩
theorem fl_RX10_127 : FL RX10 127 10 12 0 := ⟨RX10, TX10, 48, tyX10, tyX10 12, by decide, rfl, hw_10, by decide, rfl, gw_t 1059 (by decide +kernel) (by decide +kernel), rfl, tyX10_ok, nmX10, tyX10_ok 12 (by decide), ⟨fun q => absurd q (by decide), fun q => absurd q (by decide)⟩⟩
theorem fl_RX10_130 : FL RX10 130 10 13 0 := ⟨RX10, TX10, 48, tyX10, tyX10 13, by decide, rfl, hw_10, by decide, rfl, gw_t 1060 (by decide +kernel) (by decide +kernel), rfl, tyX10_ok, nmX10, tyX10_ok 13 (by decide), ⟨fun q => absurd q (by decide), fun q => absurd q (by decide)⟩⟩
theorem fl_RX10_133 : FL RX10 133 10 15 0 := ⟨RX10, TX10, 48, tyX10, tyX10 15, by decide, rfl, hw_10, by decide, rfl, gw_t 1062 (by decide +kernel) (by decide +kernel), rfl, tyX10_ok, nmX10, tyX10_ok 15 (by decide), ⟨fun q => absurd q (by decide), fun q => absurd q (by decide)⟩⟩
theorem fl_RX10_142 : FL RX10 142 10 14 0 := ⟨RX10, TX10, 48, tyX10, tyX10 14, by decide, rfl, hw_10, by decide, rfl, gw_t 1061 (by decide +kernel) (by decide +kernel), rfl, tyX10_ok, nmX10, tyX10_ok 14 (by decide), ⟨fun q => absurd q (by decide), fun q => absurd q (by decide)⟩⟩
theorem fl_RX10_15 : FL RX10 15 10 1 0 := ⟨RX10, TX10, 48, tyX10, tyX10 1, by decide, rfl, hw_10, by decide, rfl, gw_t 1048 (by decide +kernel) (by decide +kernel), rfl, tyX10_ok, nmX10, tyX10_ok 1 (by decide), ⟨fun q => absurd q (by decide), fun q => absurd q (by decide)⟩⟩
theorem fl_RX10_171 : FL RX10 171 10 18 0 := ⟨RX10, TX10, 48, tyX10, tyX10 18, by decide, rfl, hw_10, by decide, rfl, gw_t 1065 (by decide +kernel) (by decide +kernel), rfl, tyX10_ok, nmX10, tyX10_ok 18 (by decide), ⟨fun q => absurd q (by decide), fun q => absurd q (by decide)⟩⟩
theorem fl_RX10_191 : FL RX10 191 10 25 0 := ⟨RX10, TX10, 48, tyX10, tyX10 25, by decide, rfl, hw_10, by decide, rfl, gw_t 1072 (by decide +kernel) (by decide +kernel), rfl, tyX10_ok, nmX10, tyX10_ok 25 (by decide), ⟨fun q => absurd q (by decide), fun q => absurd q (by decide)⟩⟩
theorem fl_RX10_194 : FL RX10 194 10 4 0 := ⟨RX10, TX10, 48, tyX10, tyX10 4, by decide, rfl, hw_10, by decide, rfl, gw_t 1051 (by decide +kernel) (by decide +kernel), rfl, tyX10_ok, nmX10, tyX10_ok 4 (by decide), ⟨fun q => absurd q (by decide), fun q => absurd q (by decide)⟩⟩
theorem fl_RX10_206 : FL RX10 206 10 22 0 := ⟨RX10, TX10, 48, tyX10, tyX10 22, by decide, rfl, hw_10, by decide, rfl, gw_t 1069 (by decide +kernel) (by decide +kernel), rfl, tyX10_ok, nmX10, tyX10_ok 22 (by decide), ⟨fun q => absurd q (by decide), fun q => absurd q (by decide)⟩⟩
theorem fl_RX10_227 : FL RX10 227 10 21 0 := ⟨RX10, TX10, 48, tyX10, tyX10 21, by decide, rfl, hw_10, by decide, rfl, gw_t 1068 (by decide +kernel) (by decide +kernel), rfl, tyX10_ok, nmX10, tyX10_ok 21 (by decide), ⟨fun q => absurd q (by decide), fun q => absurd q (by decide)⟩⟩
theorem fl_RX10_271 : FL RX10 271 10 27 0 := ⟨RX10, TX10, 48, tyX10, tyX10 27, by decide, rfl, hw_10, by decide, rfl, gw_t 1074 (by decide +kernel) (by decide +kernel), rfl, tyX10_ok, nmX10, tyX10_ok 27 (by decide), ⟨fun q => absurd q (by decide), fun q => absurd q (by decide)⟩⟩
theorem fl_RX10_28 : FL RX10 28 10 5 0 := ⟨RX10, TX10, 48, tyX10, tyX10 5, by decide, rfl, hw_10, by decide, rfl, gw_t 1052 (by decide +kernel) (by decide +kernel), rfl, tyX10_ok, nmX10, tyX10_ok 5 (by decide), ⟨fun q => absurd q (by decide), fun q => absurd q (by decide)⟩⟩
theorem fl_RX10_3 : FL RX10 3 10 0 0 := ⟨RX10, TX10, 48, tyX10, tyX10 0, by decide, rfl, hw_10, by decide, rfl, gw_t 1047 (by decide +kernel) (by decide +kernel), rfl, tyX10_ok, nmX10, tyX10_ok 0 (by decide), ⟨fun q => absurd q (by decide), fun q => absurd q (by decide)⟩⟩
theorem fl_RX10_31 : FL RX10 31 10 6 2 := ⟨RX10, TX10, 48, tyX10, tyX10 6, by decide, rfl, hw_10, by decide, rfl, gw_t 1053 (by decide +kernel) (by decide +kernel), rfl, tyX10_ok, nmX10, tyX10_ok 6 (by decide), ⟨fun q => absurd q (by decide), fun _ _ => ⟨rfl, rfl⟩⟩⟩
theorem fl_RX10_316 : FL RX10 316 10 33 0 := ⟨RX10, TX10, 48, tyX10, tyX10 33, by decide, rfl, hw_10, by decide, rfl, gw_t 1080 (by decide +kernel) (by decide +kernel), rfl, tyX10_ok, nmX10, tyX10_ok 33 (by decide), ⟨fun q => absurd q (by decide), fun q => absurd q (by decide)⟩⟩
theorem fl_RX10_35 : FL RX10 35 10 7 2 := ⟨RX10, TX10, 48, tyX10, tyX10 7, by decide, rfl, hw_10, by decide, rfl, gw_t 1054 (by decide +kernel) (by decide +kernel), rfl, tyX10_ok, nmX10, tyX10_ok 7 (by decide), ⟨fun q => absurd q (by decide), fun _ _ => ⟨rfl, rfl⟩⟩⟩
theorem fl_RX10_366 : FL RX10 366 10 37 1 := ⟨RX10, TX10, 48, tyX10, tyX10 37, by decide, rfl, hw_10, by decide, rfl, gw_t 1084 (by decide +kernel) (by decide +kernel), rfl, tyX10_ok, nmX10, tyX10_ok 37 (by decide), ⟨fun _ _ => ⟨rfl, rfl⟩, fun q => absurd q (by decide)⟩⟩
theorem fl_RX10_38 : FL RX10 38 10 8 2 := ⟨RX10, TX10, 48, tyX10, tyX10 8, by decide, rfl, hw_10, by decide, rfl, gw_t 1055 (by decide +kernel) (by decide +kernel), rfl, tyX10_ok, nmX10, tyX10_ok 8 (by decide), ⟨fun q => absurd q (by decide), fun _ _ => ⟨rfl, rfl⟩⟩⟩
theorem fl_RX10_384 : FL RX10 384 10 39 0 := ⟨RX10, TX10, 48, tyX10, tyX10 39, by decide, rfl, hw_10, by decide, rfl, gw_t 1086 (by decide +kernel) (by decide +kernel), rfl, tyX10_ok, nmX10, tyX10_ok 39 (by decide), ⟨fun q => absurd q (by decide), fun q => absurd q (by decide)⟩⟩
theorem fl_RX10_408 : FL RX10 408 10 44 0 := ⟨RX10, TX10, 48, tyX10, tyX10 44, by decide, rfl, hw_10, by decide, rfl, gw_t 1091 (by decide +kernel) (by decide +kernel), rfl, tyX10_ok, nmX10, tyX10_ok 44 (by decide), ⟨fun q => absurd q (by decide), fun q => absurd q (by decide)⟩⟩
theorem fl_RX10_41 : FL RX10 41 10 9 2 := ⟨RX10, TX10, 48, tyX10, tyX10 9, by decide, rfl, hw_10, by decide, rfl, gw_t 1056 (by decide +kernel) (by decide +kernel), rfl, tyX10_ok, nmX10, tyX10_ok 9 (by decide), ⟨fun q => absurd q (by decide), fun _ _ => ⟨rfl, rfl⟩⟩⟩
theorem fl_RX10_44 : FL RX10 44 10 10 2 := ⟨RX10, TX10, 48, tyX10, tyX10 10, by decide, rfl, hw_10, by decide, rfl, gw_t 1057 (by decide +kernel) (by decide +kernel), rfl, tyX10_ok, nmX10, tyX10_ok 10 (by decide), ⟨fun q => absurd q (by decide), fun _ _ => ⟨rfl, rfl⟩⟩⟩
theorem fl_RX10_47 : FL RX10 47 10 11 2 := ⟨RX10, TX10, 48, tyX10, tyX10 11, by decide, rfl, hw_10, by decide, rfl, gw_t 1058 (by decide +kernel) (by decide +kernel), rfl, tyX10_ok, nmX10, tyX10_ok 11 (by decide), ⟨fun q => absurd q (by decide), fun _ _ => ⟨rfl, rfl⟩⟩⟩
theorem fl_RX10_50 : FL RX10 50 10 16 2 := ⟨RX10, TX10, 48, tyX10, tyX10 16, by decide, rfl, hw_10, by decide, rfl, gw_t 1063 (by decide +kernel) (by decide +kernel), rfl, tyX10_ok, nmX10, tyX10_ok 16 (by decide), ⟨fun q => absurd q (by decide), fun _ _ => ⟨rfl, rfl⟩⟩⟩
theorem fl_RX10_53 : FL RX10 53 10 17 2 := ⟨RX10, TX10, 48, tyX10, tyX10 17, by decide, rfl, hw_10, by decide, rfl, gw_t 1064 (by decide +kernel) (by decide +kernel), rfl, tyX10_ok, nmX10, tyX10_ok 17 (by decide), ⟨fun q => absurd q (by decide), fun _ _ => ⟨rfl, rfl⟩⟩⟩
theorem fl_RX10_56 : FL RX10 56 10 19 2 := ⟨RX10, TX10, 48, tyX10, tyX10 19, by decide, rfl, hw_10, by decide, rfl, gw_t 1066 (by decide +kernel) (by decide +kernel), rfl, tyX10_ok, nmX10, tyX10_ok 19 (by decide), ⟨fun q => absurd q (by decide), fun _ _ => ⟨rfl, rfl⟩⟩⟩
theorem fl_RX10_59 : FL RX10 59 10 20 2 := ⟨RX10, TX10, 48, tyX10, tyX10 20, by decide, rfl, hw_10, by decide, rfl, gw_t 1067 (by decide +kernel) (by decide +kernel), rfl, tyX10_ok, nmX10, tyX10_ok 20 (by decide), ⟨fun q => absurd q (by decide), fun _ _ => ⟨rfl, rfl⟩⟩⟩
theorem fl_RX10_62 : FL RX10 62 10 23 2 := ⟨RX10, TX10, 48, tyX10, tyX10 23, by decide, rfl, hw_10, by decide, rfl, gw_t 1070 (by decide +kernel) (by decide +kernel), rfl, tyX10_ok, nmX10, tyX10_ok 23 (by decide), ⟨fun q => absurd q (by decide), fun _ _ => ⟨rfl, rfl⟩⟩⟩
theorem fl_RX10_65 : FL RX10 65 10 24 2 := ⟨RX10, TX10, 48, tyX10, tyX10 24, by decide, rfl, hw_10, by decide, rfl, gw_t 1071 (by decide +kernel) (by decide +kernel), rfl, tyX10_ok, nmX10, tyX10_ok 24 (by decide), ⟨fun q => absurd q (by decide), fun _ _ => ⟨rfl, rfl⟩⟩⟩
theorem fl_RX10_68 : FL RX10 68 10 26 2 := ⟨RX10, TX10, 48, tyX10, tyX10 26, by decide, rfl, hw_10, by decide, rfl, gw_t 1073 (by decide +kernel) (by decide +kernel), rfl, tyX10_ok, nmX10, tyX10_ok 26 (by decide), ⟨fun q => absurd q (by decide), fun _ _ => ⟨rfl, rfl⟩⟩⟩
theorem fl_RX10_71 : FL RX10 71 10 28 2 := ⟨RX10, TX10, 48, tyX10, tyX10 28, by decide, rfl, hw_10, by decide, rfl, gw_t 1075 (by decide +kernel) (by decide +kernel), rfl, tyX10_ok, nmX10, tyX10_ok 28 (by decide), ⟨fun q => absurd q (by decide), fun _ _ => ⟨rfl, rfl⟩⟩⟩
theorem fl_RX10_74 : FL RX10 74 10 29 2 := ⟨RX10, TX10, 48, tyX10, tyX10 29, by decide, rfl, hw_10, by decide, rfl, gw_t 1076 (by decide +kernel) (by decide +kernel), rfl, tyX10_ok, nmX10, tyX10_ok 29 (by decide), ⟨fun q => absurd q (by decide), fun _ _ => ⟨rfl, rfl⟩⟩⟩
theorem fl_RX10_77 : FL RX10 77 10 30 2 := ⟨RX10, TX10, 48, tyX10, tyX10 30, by decide, rfl, hw_10, by decide, rfl, gw_t 1077 (by decide +kernel) (by decide +kernel), rfl, tyX10_ok, nmX10, tyX10_ok 30 (by decide), ⟨fun q => absurd q (by decide), fun _ _ => ⟨rfl, rfl⟩⟩⟩
theorem fl_RX10_80 : FL RX10 80 10 31 2 := ⟨RX10, TX10, 48, tyX10, tyX10 31, by decide, rfl, hw_10, by decide, rfl, gw_t 1078 (by decide +kernel) (by decide +kernel), rfl, tyX10_ok, nmX10, tyX10_ok 31 (by decide), ⟨fun q => absurd q (by decide), fun _ _ => ⟨rfl, rfl⟩⟩⟩
theorem fl_RX10_83 : FL RX10 83 10 32 2 := ⟨RX10, TX10, 48, tyX10, tyX10 32, by decide, rfl, hw_10, by decide, rfl, gw_t 1079 (by decide +kernel) (by decide +kernel), rfl, tyX10_ok, nmX10, tyX10_ok 32 (by decide), ⟨fun q => absurd q (by decide), fun _ _ => ⟨rfl, rfl⟩⟩⟩
theorem fl_RX10_86 : FL RX10 86 10 34 2 := ⟨RX10, TX10, 48, tyX10, tyX10 34, by decide, rfl, hw_10, by decide, rfl, gw_t 1081 (by decide +kernel) (by decide +kernel), rfl, tyX10_ok, nmX10, tyX10_ok 34 (by decide), ⟨fun q => absurd q (by decide), fun _ _ => ⟨rfl, rfl⟩⟩⟩
theorem fl_RX10_89 : FL RX10 89 10 35 2 := ⟨RX10, TX10, 48, tyX10, tyX10 35, by decide, rfl, hw_10, by decide, rfl, gw_t 1082 (by decide +kernel) (by decide +kernel), rfl, tyX10_ok, nmX10, tyX10_ok 35 (by decide), ⟨fun q => absurd q (by decide), fun _ _ => ⟨rfl, rfl⟩⟩⟩
theorem fl_RX10_92 : FL RX10 92 10 36 2 := ⟨RX10, TX10, 48, tyX10, tyX10 36, by decide, rfl, hw_10, by decide, rfl, gw_t 1083 (by decide +kernel) (by decide +kernel), rfl, tyX10_ok, nmX10, tyX10_ok 36 (by decide), ⟨fun q => absurd q (by decide), fun _ _ => ⟨rfl, rfl⟩⟩⟩
theorem fl_RX10_95 : FL RX10 95 10 38 2 := ⟨RX10, TX10, 48, tyX10, tyX10 38, by decide, rfl, hw_10, by decide, rfl, gw_t 1085 (by decide +kernel) (by decide +kernel), rfl, tyX10_ok, nmX10, tyX10_ok 38 (by decide), ⟨fun q => absurd q (by decide), fun _ _ => ⟨rfl, rfl⟩⟩⟩
theorem fl_RX10_98 : FL RX10 98 10 40 2 := ⟨RX10, TX10, 48, tyX10, tyX10 40, by decide, rfl, hw_10, by decide, rfl, gw_t 1087 (by decide +kernel) (by decide +kernel), rfl, tyX10_ok, nmX10, tyX10_ok 40 (by decide), ⟨fun q => absurd q (by decide), fun _ _ => ⟨rfl, rfl⟩⟩⟩
theorem fl_RX1_15 : FL RX1 15 1 1 2 := ⟨RX1, TX1, 3, tyX1, tyX1 1, by decide, rfl, hw_1, by decide, rfl, gw_t 181 (by decide +kernel) (by decide +kernel), rfl, tyX1_ok, nmX1, tyX1_ok 1 (by decide), ⟨fun q => absurd q (by decide), fun _ _ => ⟨rfl, rfl⟩⟩⟩
theorem fl_RX1_18 : FL RX1 18 1 2 0 := ⟨RX1, TX1, 3, tyX1, tyX1 2, by decide, rfl, hw_1, by decide, rfl, gw_t 184 (by decide +kernel) (by decide +kernel), rfl, tyX1_ok, nmX1, tyX1_ok 2 (by decide), ⟨fun q => absurd q (by decide), fun q => absurd q (by decide)⟩⟩
theorem fl_RX1_22 : FL RX1 22 8 1 0 := ⟨RX8, TX8, 2, tyX8, tyX8 1, by decide, rfl, hw_8, by decide, rfl, gw_t 40 (by decide +kernel) (by decide +kernel), rfl, tyX8_ok, nmX8, tyX8_ok 1 (by decide), ⟨fun q => absurd q (by decide), fun q => absurd q (by decide)⟩⟩
theorem fl_RX1_9 : FL RX1 9 1 0 2 := ⟨RX1, TX1, 3, tyX1, tyX1 0, by decide, rfl, hw_1, by decide, rfl, gw_t 178 (by decide +kernel) (by decide +kernel), rfl, tyX1_ok, nmX1, tyX1_ok 0 (by decide), ⟨fun q => absurd q (by decide), fun _ _ => ⟨rfl, rfl⟩⟩⟩
theorem fl_RX2_15 : FL RX2 15 2 1 2 := ⟨RX2, TX2, 4, tyX2, tyX2 1, by decide, rfl, hw_2, by decide, rfl, gw_t 147 (by decide +kernel) (by decide +kernel), rfl, tyX2_ok, nmX2, tyX2_ok 1 (by decide), ⟨fun q => absurd q (by decide), fun _ _ => ⟨rfl, rfl⟩⟩⟩
theorem fl_RX2_18 : FL RX2 18 2 2 2 := ⟨RX2, TX2, 4, tyX2, tyX2 2, by decide, rfl, hw_2, by decide, rfl, gw_t 148 (by decide +kernel) (by decide +kernel), rfl, tyX2_ok, nmX2, tyX2_ok 2 (by decide), ⟨fun q => absurd q (by decide), fun _ _ => ⟨rfl, rfl⟩⟩⟩
theorem fl_RX2_22 : FL RX2 22 2 3 0 := ⟨RX2, TX2, 4, tyX2, tyX2 3, by decide, rfl, hw_2, by decide, rfl, gw_t 150 (by decide +kernel) (by decide +kernel), rfl, tyX2_ok, nmX2, tyX2_ok 3 (by decide), ⟨fun q => absurd q (by decide), fun q => absurd q (by decide)⟩⟩
theorem fl_RX2_9 : FL RX2 9 2 0 2 := ⟨RX2, TX2, 4, tyX2, tyX2 0, by decide, rfl, hw_2, by decide, rfl, gw_t 146 (by decide +kernel) (by decide +kernel), rfl, tyX2_ok, nmX2, tyX2_ok 0 (by decide), ⟨fun q => absurd q (by decide), fun _ _ => ⟨rfl, rfl⟩⟩⟩
theorem fl_RX3_15 : FL RX3 15 3 1 0 := ⟨RX3, TX3, 2, tyX3, tyX3 1, by decide, rfl, hw_3, by decide, rfl, gw_t 133 (by decide +kernel) (by decide +kernel), rfl, tyX3_ok, nmX3, tyX3_ok 1 (by decide), ⟨fun q => absurd q (by decide), fun q => absurd q (by decide)⟩⟩
theorem fl_RX3_19 : FL RX3 19 8 1 0 := ⟨RX8, TX8, 2, tyX8, tyX8 1, by decide, rfl, hw_8, by decide, rfl, gw_t 41 (by decide +kernel) (by decide +kernel), rfl, tyX8_ok, nmX8, tyX8_ok 1 (by decide), ⟨fun q => absurd q (by decide), fun q => absurd q (by decide)⟩⟩
theorem fl_RX3_9 : FL RX3 9 3 0 2 := ⟨RX3, TX3, 2, tyX3, tyX3 0, by decide, rfl, hw_3, by decide, rfl, gw_t 131 (by decide +kernel) (by decide +kernel), rfl, tyX3_ok, nmX3, tyX3_ok 0 (by decide), ⟨fun q => absurd q (by decide), fun _ _ => ⟨rfl, rfl⟩⟩⟩
theorem fl_RX4_7 : FL RX4 7 4 0 0 := ⟨RX4, TX4, 1, tyX4, tyX4 0, by decide, rfl, hw_4, by decide, rfl, gw_t 168 (by decide +kernel) (by decide +kernel), rfl, tyX4_ok, nmX4, tyX4_ok 0 (by decide), ⟨fun q => absurd q (by decide), fun q => absurd q (by decide)⟩⟩
theorem fl_RX5_11 : FL RX5 11 5 0 2 := ⟨RX5, TX5, 3, tyX5, tyX5 0, by decide, rfl, hw_5, by decide, rfl, gw_t 113 (by decide +kernel) (by decide +kernel), rfl, tyX5_ok, nmX5, tyX5_ok 0 (by decide), ⟨fun q => absurd q (by decide), fun _ _ => ⟨rfl, rfl⟩⟩⟩
theorem fl_RX5_17 : FL RX5 17 5 1 0 := ⟨RX5, TX5, 3, tyX5, tyX5 1, by decide, rfl, hw_5, by decide, rfl, gw_t 114 (by decide +kernel) (by decide +kernel), rfl, tyX5_ok, nmX5, tyX5_ok 1 (by decide), ⟨fun q => absurd q (by decide), fun q => absurd q (by decide)⟩⟩
theorem fl_RX5_21 : FL RX5 21 5 2 0 := ⟨RX5, TX5, 3, tyX5, tyX5 2, by decide, rfl, hw_5, by decide, rfl, gw_t 115 (by decide +kernel) (by decide +kernel), rfl, tyX5_ok, nmX5, tyX5_ok 2 (by decide), ⟨fun q => absurd q (by decide), fun q => absurd q (by decide)⟩⟩
theorem fl_RX6_15 : FL RX6 15 6 1 0 := ⟨RX6, TX6, 2, tyX6, tyX6 1, by decide, rfl, hw_6, by decide, rfl, gw_t 58 (by decide +kernel) (by decide +kernel), rfl, tyX6_ok, nmX6, tyX6_ok 1 (by decide), ⟨fun q => absurd q (by decide), fun q => absurd q (by decide)⟩⟩
theorem fl_RX6_9 : FL RX6 9 6 0 2 := ⟨RX6, TX6, 2, tyX6, tyX6 0, by decide, rfl, hw_6, by decide, rfl, gw_t 56 (by decide +kernel) (by decide +kernel), rfl, tyX6_ok, nmX6, tyX6_ok 0 (by decide), ⟨fun q => absurd q (by decide), fun _ _ => ⟨rfl, rfl⟩⟩⟩
theorem fl_RX7_15 : FL RX7 15 7 1 2 := ⟨RX7, TX7, 9, tyX7, tyX7 1, by decide, rfl, hw_7, by decide, rfl, gw_t 209 (by decide +kernel) (by decide +kernel), rfl, tyX7_ok, nmX7, tyX7_ok 1 (by decide), ⟨fun q => absurd q (by decide), fun _ _ => ⟨rfl, rfl⟩⟩⟩
theorem fl_RX7_18 : FL RX7 18 7 2 2 := ⟨RX7, TX7, 9, tyX7, tyX7 2, by decide, rfl, hw_7, by decide, rfl, gw_t 210 (by decide +kernel) (by decide +kernel), rfl, tyX7_ok, nmX7, tyX7_ok 2 (by decide), ⟨fun q => absurd q (by decide), fun _ _ => ⟨rfl, rfl⟩⟩⟩
theorem fl_RX7_21 : FL RX7 21 7 3 2 := ⟨RX7, TX7, 9, tyX7, tyX7 3, by decide, rfl, hw_7, by decide, rfl, gw_t 211 (by decide +kernel) (by decide +kernel), rfl, tyX7_ok, nmX7, tyX7_ok 3 (by decide), ⟨fun q => absurd q (by decide), fun _ _ => ⟨rfl, rfl⟩⟩⟩
theorem fl_RX7_24 : FL RX7 24 7 4 2 := ⟨RX7, TX7, 9, tyX7, tyX7 4, by decide, rfl, hw_7, by decide, rfl, gw_t 212 (by decide +kernel) (by decide +kernel), rfl, tyX7_ok, nmX7, tyX7_ok 4 (by decide), ⟨fun q => absurd q (by decide), fun _ _ => ⟨rfl, rfl⟩⟩⟩
theorem fl_RX7_34 : FL RX7 34 7 5 0 := ⟨RX7, TX7, 9, tyX7, tyX7 5, by decide, rfl, hw_7, by decide, rfl, gw_t 213 (by decide +kernel) (by decide +kernel), rfl, tyX7_ok, nmX7, tyX7_ok 5 (by decide), ⟨fun q => absurd q (by decide), fun q => absurd q (by decide)⟩⟩
theorem fl_RX7_44 : FL RX7 44 8 1 0 := ⟨RX8, TX8, 2, tyX8, tyX8 1, by decide, rfl, hw_8, by decide, rfl, gw_t 43 (by decide +kernel) (by decide +kernel), rfl, tyX8_ok, nmX8, tyX8_ok 1 (by decide), ⟨fun q => absurd q (by decide), fun q => absurd q (by decide)⟩⟩
theorem fl_RX7_55 : FL RX7 55 7 6 0 := ⟨RX7, TX7, 9, tyX7, tyX7 6, by decide, rfl, hw_7, by decide, rfl, gw_t 214 (by decide +kernel) (by decide +kernel), rfl, tyX7_ok, nmX7, tyX7_ok 6 (by decide), ⟨fun q => absurd q (by decide), fun q => absurd q (by decide)⟩⟩
theorem fl_RX7_58 : FL RX7 58 7 7 0 := ⟨RX7, TX7, 9, tyX7, tyX7 7, by decide, rfl, hw_7, by decide, rfl, gw_t 215 (by decide +kernel) (by decide +kernel), rfl, tyX7_ok, nmX7, tyX7_ok 7 (by decide), ⟨fun q => absurd q (by decide), fun q => absurd q (by decide)⟩⟩
theorem fl_RX7_61 : FL RX7 61 7 8 0 := ⟨RX7, TX7, 9, tyX7, tyX7 8, by decide, rfl, hw_7, by decide, rfl, gw_t 216 (by decide +kernel) (by decide +kernel), rfl, tyX7_ok, nmX7, tyX7_ok 8 (by decide), ⟨fun q => absurd q (by decide), fun q => absurd q (by decide)⟩⟩
theorem fl_RX7_9 : FL RX7 9 7 0 2 := ⟨RX7, TX7, 9, tyX7, tyX7 0, by decide, rfl, hw_7, by decide, rfl, gw_t 208 (by decide +kernel) (by decide +kernel), rfl, tyX7_ok, nmX7, tyX7_ok 0 (by decide), ⟨fun q => absurd q (by decide), fun _ _ => ⟨rfl, rfl⟩⟩⟩
theorem fl_RX8_15 : FL RX8 15 8 1 0 := ⟨RX8, TX8, 2, tyX8, tyX8 1, by decide, rfl, hw_8, by decide, rfl, gw_t 39 (by decide +kernel) (by decide +kernel), rfl, tyX8_ok, nmX8, tyX8_ok 1 (by decide), ⟨fun q => absurd q (by decide), fun q => absurd q (by decide)⟩⟩
theorem fl_RX8_9 : FL RX8 9 8 0 2 := ⟨RX8, TX8, 2, tyX8, tyX8 0, by decide, rfl, hw_8, by decide, rfl, gw_t 38 (by decide +kernel) (by decide +kernel), rfl, tyX8_ok, nmX8, tyX8_ok 0 (by decide), ⟨fun q => absurd q (by decide), fun _ _ => ⟨rfl, rfl⟩⟩⟩
theorem fl_RX9_10 : FL RX9 10 9 0 2 := ⟨RX9, TX9, 16, tyX9, tyX9 0, by decide, rfl, hw_9, by decide, rfl, gw_t 236 (by decide +kernel) (by decide +kernel), rfl, tyX9_ok, nmX9, tyX9_ok 0 (by decide), ⟨fun q => absurd q (by decide), fun _ _ => ⟨rfl, rfl⟩⟩⟩
theorem fl_RX9_105 : FL RX9 105 8 1 0 := ⟨RX8, TX8, 2, tyX8, tyX8 1, by decide, rfl, hw_8, by decide, rfl, gw_t 42 (by decide +kernel) (by decide +kernel), rfl, tyX8_ok, nmX8, tyX8_ok 1 (by decide), ⟨fun q => absurd q (by decide), fun q => absurd q (by decide)⟩⟩
theorem fl_RX9_118 : FL RX9 118 3 1 0 := ⟨RX3, TX3, 2, tyX3, tyX3 1, by decide, rfl, hw_3, by decide, rfl, gw_t 134 (by decide +kernel) (by decide +kernel), rfl, tyX3_ok, nmX3, tyX3_ok 1 (by decide), ⟨fun q => absurd q (by decide), fun q => absurd q (by decide)⟩⟩
theorem fl_RX9_119 : FL RX9 119 3 0 2 := ⟨RX3, TX3, 2, tyX3, tyX3 0, by decide, rfl, hw_3, by decide, rfl, gw_t 132 (by decide +kernel) (by decide +kernel), rfl, tyX3_ok, nmX3, tyX3_ok 0 (by decide), ⟨fun q => absurd q (by decide), fun _ _ => ⟨rfl, rfl⟩⟩⟩
theorem fl_RX9_135 : FL RX9 135 1 2 0 := ⟨RX1, TX1, 3, tyX1, tyX1 2, by decide, rfl, hw_1, by decide, rfl, gw_t 185 (by decide +kernel) (by decide +kernel), rfl, tyX1_ok, nmX1, tyX1_ok 2 (by decide), ⟨fun q => absurd q (by decide), fun q => absurd q (by decide)⟩⟩
theorem fl_RX9_147 : FL RX9 147 0 0 2 := ⟨RX0, TX0, 7, tyX0, tyX0 0, by decide, rfl, hw_0, by decide, rfl, gw_t 75 (by decide +kernel) (by decide +kernel), rfl, tyX0_ok, nmX0, tyX0_ok 0 (by decide), ⟨fun q => absurd q (by decide), fun _ _ => ⟨rfl, rfl⟩⟩⟩
theorem fl_RX9_150 : FL RX9 150 0 1 2 := ⟨RX0, TX0, 7, tyX0, tyX0 1, by decide, rfl, hw_0, by decide, rfl, gw_t 77 (by decide +kernel) (by decide +kernel), rfl, tyX0_ok, nmX0, tyX0_ok 1 (by decide), ⟨fun q => absurd q (by decide), fun _ _ => ⟨rfl, rfl⟩⟩⟩
theorem fl_RX9_19 : FL RX9 19 9 1 2 := ⟨RX9, TX9, 16, tyX9, tyX9 1, by decide, rfl, hw_9, by decide, rfl, gw_t 237 (by decide +kernel) (by decide +kernel), rfl, tyX9_ok, nmX9, tyX9_ok 1 (by decide), ⟨fun q => absurd q (by decide), fun _ _ => ⟨rfl, rfl⟩⟩⟩
theorem fl_RX9_237 : FL RX9 237 0 5 0 := ⟨RX0, TX0, 7, tyX0, tyX0 5, by decide, rfl, hw_0, by decide, rfl, gw_t 85 (by decide +kernel) (by decide +kernel), rfl, tyX0_ok, nmX0, tyX0_ok 5 (by decide), ⟨fun q => absurd q (by decide), fun q => absurd q (by decide)⟩⟩
theorem fl_RX9_26 : FL RX9 26 9 2 2 := ⟨RX9, TX9, 16, tyX9, tyX9 2, by decide, rfl, hw_9, by decide, rfl, gw_t 238 (by decide +kernel) (by decide +kernel), rfl, tyX9_ok, nmX9, tyX9_ok 2 (by decide), ⟨fun q => absurd q (by decide), fun _ _ => ⟨rfl, rfl⟩⟩⟩
theorem fl_RX9_278 : FL RX9 278 5 2 0 := ⟨RX5, TX5, 3, tyX5, tyX5 2, by decide, rfl, hw_5, by decide, rfl, gw_t 116 (by decide +kernel) (by decide +kernel), rfl, tyX5_ok, nmX5, tyX5_ok 2 (by decide), ⟨fun q => absurd q (by decide), fun q => absurd q (by decide)⟩⟩
theorem fl_RX9_30 : FL RX9 30 9 3 2 := ⟨RX9, TX9, 16, tyX9, tyX9 3, by decide, rfl, hw_9, by decide, rfl, gw_t 239 (by decide +kernel) (by decide +kernel), rfl, tyX9_ok, nmX9, tyX9_ok 3 (by decide), ⟨fun q => absurd q (by decide), fun _ _ => ⟨rfl, rfl⟩⟩⟩
theorem fl_RX9_317 : FL RX9 317 0 6 0 := ⟨RX0, TX0, 7, tyX0, tyX0 6, by decide, rfl, hw_0, by decide, rfl, gw_t 87 (by decide +kernel) (by decide +kernel), rfl, tyX0_ok, nmX0, tyX0_ok 6 (by decide), ⟨fun q => absurd q (by decide), fun q => absurd q (by decide)⟩⟩
theorem fl_RX9_33 : FL RX9 33 9 4 2 := ⟨RX9, TX9, 16, tyX9, tyX9 4, by decide, rfl, hw_9, by decide, rfl, gw_t 240 (by decide +kernel) (by decide +kernel), rfl, tyX9_ok, nmX9, tyX9_ok 4 (by decide), ⟨fun q => absurd q (by decide), fun _ _ => ⟨rfl, rfl⟩⟩⟩
theorem fl_RX9_352 : FL RX9 352 0 4 0 := ⟨RX0, TX0, 7, tyX0, tyX0 4, by decide, rfl, hw_0, by decide, rfl, gw_t 83 (by decide +kernel) (by decide +kernel), rfl, tyX0_ok, nmX0, tyX0_ok 4 (by decide), ⟨fun q => absurd q (by decide), fun q => absurd q (by decide)⟩⟩
theorem fl_RX9_367 : FL RX9 367 2 3 0 := ⟨RX2, TX2, 4, tyX2, tyX2 3, by decide, rfl, hw_2, by decide, rfl, gw_t 151 (by decide +kernel) (by decide +kernel), rfl, tyX2_ok, nmX2, tyX2_ok 3 (by decide), ⟨fun q => absurd q (by decide), fun q => absurd q (by decide)⟩⟩
theorem fl_RX9_371 : FL RX9 371 2 2 2 := ⟨RX2, TX2, 4, tyX2, tyX2 2, by decide, rfl, hw_2, by decide, rfl, gw_t 149 (by decide +kernel) (by decide +kernel), rfl, tyX2_ok, nmX2, tyX2_ok 2 (by decide), ⟨fun q => absurd q (by decide), fun _ _ => ⟨rfl, rfl⟩⟩⟩
theorem fl_RX9_39 : FL RX9 39 9 5 2 := ⟨RX9, TX9, 16, tyX9, tyX9 5, by decide, rfl, hw_9, by decide, rfl, gw_t 241 (by decide +kernel) (by decide +kernel), rfl, tyX9_ok, nmX9, tyX9_ok 5 (by decide), ⟨fun q => absurd q (by decide), fun _ _ => ⟨rfl, rfl⟩⟩⟩
theorem fl_RX9_410 : FL RX9 410 0 3 0 := ⟨RX0, TX0, 7, tyX0, tyX0 3, by decide, rfl, hw_0, by decide, rfl, gw_t 81 (by decide +kernel) (by decide +kernel), rfl, tyX0_ok, nmX0, tyX0_ok 3 (by decide), ⟨fun q => absurd q (by decide), fun q => absurd q (by decide)⟩⟩
theorem fl_RX9_416 : FL RX9 416 6 1 0 := ⟨RX6, TX6, 2, tyX6, tyX6 1, by decide, rfl, hw_6, by decide, rfl, gw_t 59 (by decide +kernel) (by decide +kernel), rfl, tyX6_ok, nmX6, tyX6_ok 1 (by decide), ⟨fun q => absurd q (by decide), fun q => absurd q (by decide)⟩⟩
theorem fl_RX9_43 : FL RX9 43 9 6 2 := ⟨RX9, TX9, 16, tyX9, tyX9 6, by decide, rfl, hw_9, by decide, rfl, gw_t 242 (by decide +kernel) (by decide +kernel), rfl, tyX9_ok, nmX9, tyX9_ok 6 (by decide), ⟨fun q => absurd q (by decide), fun _ _ => ⟨rfl, rfl⟩⟩⟩
theorem fl_RX9_47 : FL RX9 47 0 2 0 := ⟨RX0, TX0, 7, tyX0, tyX0 2, by decide, rfl, hw_0, by decide, rfl, gw_t 79 (by decide +kernel) (by decide +kernel), rfl, tyX0_ok, nmX0, tyX0_ok 2 (by decide), ⟨fun q => absurd q (by decide), fun q => absurd q (by decide)⟩⟩
theorem fl_RX9_51 : FL RX9 51 9 7 2 := ⟨RX9, TX9, 16, tyX9, tyX9 7, by decide, rfl, hw_9, by decide, rfl, gw_t 243 (by decide +kernel) (by decide +kernel), rfl, tyX9_ok, nmX9, tyX9_ok 7 (by decide), ⟨fun q => absurd q (by decide), fun _ _ => ⟨rfl, rfl⟩⟩⟩
theorem fl_RX9_57 : FL RX9 57 9 8 2 := ⟨RX9, TX9, 16, tyX9, tyX9 8, by decide, rfl, hw_9, by decide, rfl, gw_t 244 (by decide +kernel) (by decide +kernel), rfl, tyX9_ok, nmX9, tyX9_ok 8 (by decide), ⟨fun q => absurd q (by decide), fun _ _ => ⟨rfl, rfl⟩⟩⟩
theorem fl_RX9_63 : FL RX9 63 9 9 2 := ⟨RX9, TX9, 16, tyX9, tyX9 9, by decide, rfl, hw_9, by decide, rfl, gw_t 245 (by decide +kernel) (by decide +kernel), rfl, tyX9_ok, nmX9, tyX9_ok 9 (by decide), ⟨fun q => absurd q (by decide), fun _ _ => ⟨rfl, rfl⟩⟩⟩
theorem fl_RX9_70 : FL RX9 70 9 10 2 := ⟨RX9, TX9, 16, tyX9, tyX9 10, by decide, rfl, hw_9, by decide, rfl, gw_t 246 (by decide +kernel) (by decide +kernel), rfl, tyX9_ok, nmX9, tyX9_ok 10 (by decide), ⟨fun q => absurd q (by decide), fun _ _ => ⟨rfl, rfl⟩⟩⟩
theorem fl_RX9_77 : FL RX9 77 9 11 2 := ⟨RX9, TX9, 16, tyX9, tyX9 11, by decide, rfl, hw_9, by decide, rfl, gw_t 247 (by decide +kernel) (by decide +kernel), rfl, tyX9_ok, nmX9, tyX9_ok 11 (by decide), ⟨fun q => absurd q (by decide), fun _ _ => ⟨rfl, rfl⟩⟩⟩
theorem fl_RX9_84 : FL RX9 84 9 12 2 := ⟨RX9, TX9, 16, tyX9, tyX9 12, by decide, rfl, hw_9, by decide, rfl, gw_t 248 (by decide +kernel) (by decide +kernel), rfl, tyX9_ok, nmX9, tyX9_ok 12 (by decide), ⟨fun q => absurd q (by decide), fun _ _ => ⟨rfl, rfl⟩⟩⟩
theorem fl_RX9_88 : FL RX9 88 9 13 2 := ⟨RX9, TX9, 16, tyX9, tyX9 13, by decide, rfl, hw_9, by decide, rfl, gw_t 249 (by decide +kernel) (by decide +kernel), rfl, tyX9_ok, nmX9, tyX9_ok 13 (by decide), ⟨fun q => absurd q (by decide), fun _ _ => ⟨rfl, rfl⟩⟩⟩
theorem fl_RX9_94 : FL RX9 94 9 14 2 := ⟨RX9, TX9, 16, tyX9, tyX9 14, by decide, rfl, hw_9, by decide, rfl, gw_t 250 (by decide +kernel) (by decide +kernel), rfl, tyX9_ok, nmX9, tyX9_ok 14 (by decide), ⟨fun q => absurd q (by decide), fun _ _ => ⟨rfl, rfl⟩⟩⟩
theorem fl_RX9_98 : FL RX9 98 9 15 2 := ⟨RX9, TX9, 16, tyX9, tyX9 15, by decide, rfl, hw_9, by decide, rfl, gw_t 251 (by decide +kernel) (by decide +kernel), rfl, tyX9_ok, nmX9, tyX9_ok 15 (by decide), ⟨fun q => absurd q (by decide), fun _ _ => ⟨rfl, rfl⟩⟩⟩
theorem flw_RX0_19 : FLw RX0 19 0 2 0 := ⟨⟨RX0, TX0, 7, tyX0, tyX0 2, by decide, rfl, hw_0, by decide, rfl, gw_t 78 (by decide +kernel) (by decide +kernel), rfl, tyX0_ok, nmX0, tyX0_ok 2 (by decide), ⟨fun q => absurd q (by decide), fun q => absurd q (by decide)⟩⟩, RX0, TX0, 7, rfl, rfl⟩
theorem flw_RX0_23 : FLw RX0 23 0 3 0 := ⟨⟨RX0, TX0, 7, tyX0, tyX0 3, by decide, rfl, hw_0, by decide, rfl, gw_t 80 (by decide +kernel) (by decide +kernel), rfl, tyX0_ok, nmX0, tyX0_ok 3 (by decide), ⟨fun q => absurd q (by decide), fun q => absurd q (by decide)⟩⟩, RX0, TX0, 7, rfl, rfl⟩
theorem flw_RX0_26 : FLw RX0 26 0 4 0 := ⟨⟨RX0, TX0, 7, tyX0, tyX0 4, by decide, rfl, hw_0, by decide, rfl, gw_t 82 (by decide +kernel) (by decide +kernel), rfl, tyX0_ok, nmX0, tyX0_ok 4 (by decide), ⟨fun q => absurd q (by decide), fun q => absurd q (by decide)⟩⟩, RX0, TX0, 7, rfl, rfl⟩
theorem flw_RX0_29 : FLw RX0 29 0 5 0 := ⟨⟨RX0, TX0, 7, tyX0, tyX0 5, by decide, rfl, hw_0, by decide, rfl, gw_t 84 (by decide +kernel) (by decide +kernel), rfl, tyX0_ok, nmX0, tyX0_ok 5 (by decide), ⟨fun q => absurd q (by decide), fun q => absurd q (by decide)⟩⟩, RX0, TX0, 7, rfl, rfl⟩
theorem flw_RX0_32 : FLw RX0 32 0 6 0 := ⟨⟨RX0, TX0, 7, tyX0, tyX0 6, by decide, rfl, hw_0, by decide, rfl, gw_t 86 (by decide +kernel) (by decide +kernel), rfl, tyX0_ok, nmX0, tyX0_ok 6 (by decide), ⟨fun q => absurd q (by decide), fun q => absurd q (by decide)⟩⟩, RX0, TX0, 7, rfl, rfl⟩
theorem flw_RX10_120 : FLw RX10 120 10 3 0 := ⟨⟨RX10, TX10, 48, tyX10, tyX10 3, by decide, rfl, hw_10, by decide, rfl, gw_t 1050 (by decide +kernel) (by decide +kernel), rfl, tyX10_ok, nmX10, tyX10_ok 3 (by decide), ⟨fun q => absurd q (by decide), fun q => absurd q (by decide)⟩⟩, RX10, TX10, 48, rfl, rfl⟩
theorem flw_RX10_127 : FLw RX10 127 10 12 0 := ⟨⟨RX10, TX10, 48, tyX10, tyX10 12, by decide, rfl, hw_10, by decide, rfl, gw_t 1059 (by decide +kernel) (by decide +kernel), rfl, tyX10_ok, nmX10, tyX10_ok 12 (by decide), ⟨fun q => absurd q (by decide), fun q => absurd q (by decide)⟩⟩, RX10, TX10, 48, rfl, rfl⟩
theorem flw_RX10_130 : FLw RX10 130 10 13 0 := ⟨⟨RX10, TX10, 48, tyX10, tyX10 13, by decide, rfl, hw_10, by decide, rfl, gw_t 1060 (by decide +kernel) (by decide +kernel), rfl, tyX10_ok, nmX10, tyX10_ok 13 (by decide), ⟨fun q => absurd q (by decide), fun q => absurd q (by decide)⟩⟩, RX10, TX10, 48, rfl, rfl⟩
theorem flw_RX10_133 : FLw RX10 133 10 15 0 := ⟨⟨RX10, TX10, 48, tyX10, tyX10 15, by decide, rfl, hw_10, by decide, rfl, gw_t 1062 (by decide +kernel) (by decide +kernel), rfl, tyX10_ok, nmX10, tyX10_ok 15 (by decide), ⟨fun q => absurd q (by decide), fun q => absurd q (by decide)⟩⟩, RX10, TX10, 48, rfl, rfl⟩
theorem flw_RX10_142 : FLw RX10 142 10 14 0 := ⟨⟨RX10, TX10, 48, tyX10, tyX10 14, by decide, rfl, hw_10, by decide, rfl, gw_t 1061 (by decide +kernel) (by decide +kernel), rfl, tyX10_ok, nmX10, tyX10_ok 14 (by decide), ⟨fun q => absurd q (by decide), fun q => absurd q (by decide)⟩⟩, RX10, TX10, 48, rfl, rfl⟩
theorem flw_RX10_15 : FLw RX10 15 10 1 0 := ⟨⟨RX10, TX10, 48, tyX10, tyX10 1, by decide, rfl, hw_10, by decide, rfl, gw_t 1048 (by decide +kernel) (by decide +kernel), rfl, tyX10_ok, nmX10, tyX10_ok 1 (by decide), ⟨fun q => absurd q (by decide), fun q => absurd q (by decide)⟩⟩, RX10, TX10, 48, rfl, rfl⟩
theorem flw_RX10_171 : FLw RX10 171 10 18 0 := ⟨⟨RX10, TX10, 48, tyX10, tyX10 18, by decide, rfl, hw_10, by decide, rfl, gw_t 1065 (by decide +kernel) (by decide +kernel), rfl, tyX10_ok, nmX10, tyX10_ok 18 (by decide), ⟨fun q => absurd q (by decide), fun q => absurd q (by decide)⟩⟩, RX10, TX10, 48, rfl, rfl⟩
theorem flw_RX10_191 : FLw RX10 191 10 25 0 := ⟨⟨RX10, TX10, 48, tyX10, tyX10 25, by decide, rfl, hw_10, by decide, rfl, gw_t 1072 (by decide +kernel) (by decide +kernel), rfl, tyX10_ok, nmX10, tyX10_ok 25 (by decide), ⟨fun q => absurd q (by decide), fun q => absurd q (by decide)⟩⟩, RX10, TX10, 48, rfl, rfl⟩
theorem flw_RX10_194 : FLw RX10 194 10 4 0 := ⟨⟨RX10, TX10, 48, tyX10, tyX10 4, by decide, rfl, hw_10, by decide, rfl, gw_t 1051 (by decide +kernel) (by decide +kernel), rfl, tyX10_ok, nmX10, tyX10_ok 4 (by decide), ⟨fun q => absurd q (by decide), fun q => absurd q (by decide)⟩⟩, RX10, TX10, 48, rfl, rfl⟩
theorem flw_RX10_206 : FLw RX10 206 10 22 0 := ⟨⟨RX10, TX10, 48, tyX10, tyX10 22, by decide, rfl, hw_10, by decide, rfl, gw_t 1069 (by decide +kernel) (by decide +kernel), rfl, tyX10_ok, nmX10, tyX10_ok 22 (by decide), ⟨fun q => absurd q (by decide), fun q => absurd q (by decide)⟩⟩, RX10, TX10, 48, rfl, rfl⟩
theorem flw_RX10_227 : FLw RX10 227 10 21 0 := ⟨⟨RX10, TX10, 48, tyX10, tyX10 21, by decide, rfl, hw_10, by decide, rfl, gw_t 1068 (by decide +kernel) (by decide +kernel), rfl, tyX10_ok, nmX10, tyX10_ok 21 (by decide), ⟨fun q => absurd q (by decide), fun q => absurd q (by decide)⟩⟩, RX10, TX10, 48, rfl, rfl⟩
theorem flw_RX10_271 : FLw RX10 271 10 27 0 := ⟨⟨RX10, TX10, 48, tyX10, tyX10 27, by decide, rfl, hw_10, by decide, rfl, gw_t 1074 (by decide +kernel) (by decide +kernel), rfl, tyX10_ok, nmX10, tyX10_ok 27 (by decide), ⟨fun q => absurd q (by decide), fun q => absurd q (by decide)⟩⟩, RX10, TX10, 48, rfl, rfl⟩
theorem flw_RX10_28 : FLw RX10 28 10 5 0 := ⟨⟨RX10, TX10, 48, tyX10, tyX10 5, by decide, rfl, hw_10, by decide, rfl, gw_t 1052 (by decide +kernel) (by decide +kernel), rfl, tyX10_ok, nmX10, tyX10_ok 5 (by decide), ⟨fun q => absurd q (by decide), fun q => absurd q (by decide)⟩⟩, RX10, TX10, 48, rfl, rfl⟩
theorem flw_RX10_3 : FLw RX10 3 10 0 0 := ⟨⟨RX10, TX10, 48, tyX10, tyX10 0, by decide, rfl, hw_10, by decide, rfl, gw_t 1047 (by decide +kernel) (by decide +kernel), rfl, tyX10_ok, nmX10, tyX10_ok 0 (by decide), ⟨fun q => absurd q (by decide), fun q => absurd q (by decide)⟩⟩, RX10, TX10, 48, rfl, rfl⟩
theorem flw_RX10_316 : FLw RX10 316 10 33 0 := ⟨⟨RX10, TX10, 48, tyX10, tyX10 33, by decide, rfl, hw_10, by decide, rfl, gw_t 1080 (by decide +kernel) (by decide +kernel), rfl, tyX10_ok, nmX10, tyX10_ok 33 (by decide), ⟨fun q => absurd q (by decide), fun q => absurd q (by decide)⟩⟩, RX10, TX10, 48, rfl, rfl⟩
theorem flw_RX10_366 : FLw RX10 366 10 37 1 := ⟨⟨RX10, TX10, 48, tyX10, tyX10 37, by decide, rfl, hw_10, by decide, rfl, gw_t 1084 (by decide +kernel) (by decide +kernel), rfl, tyX10_ok, nmX10, tyX10_ok 37 (by decide), ⟨fun _ _ => ⟨rfl, rfl⟩, fun q => absurd q (by decide)⟩⟩, RX10, TX10, 48, rfl, rfl⟩
theorem flw_RX10_384 : FLw RX10 384 10 39 0 := ⟨⟨RX10, TX10, 48, tyX10, tyX10 39, by decide, rfl, hw_10, by decide, rfl, gw_t 1086 (by decide +kernel) (by decide +kernel), rfl, tyX10_ok, nmX10, tyX10_ok 39 (by decide), ⟨fun q => absurd q (by decide), fun q => absurd q (by decide)⟩⟩, RX10, TX10, 48, rfl, rfl⟩
theorem flw_RX10_408 : FLw RX10 408 10 44 0 := ⟨⟨RX10, TX10, 48, tyX10, tyX10 44, by decide, rfl, hw_10, by decide, rfl, gw_t 1091 (by decide +kernel) (by decide +kernel), rfl, tyX10_ok, nmX10, tyX10_ok 44 (by decide), ⟨fun q => absurd q (by decide), fun q => absurd q (by decide)⟩⟩, RX10, TX10, 48, rfl, rfl⟩
theorem flw_RX1_18 : FLw RX1 18 1 2 0 := ⟨⟨RX1, TX1, 3, tyX1, tyX1 2, by decide, rfl, hw_1, by decide, rfl, gw_t 184 (by decide +kernel) (by decide +kernel), rfl, tyX1_ok, nmX1, tyX1_ok 2 (by decide), ⟨fun q => absurd q (by decide), fun q => absurd q (by decide)⟩⟩, RX1, TX1, 3, rfl, rfl⟩
theorem flw_RX2_22 : FLw RX2 22 2 3 0 := ⟨⟨RX2, TX2, 4, tyX2, tyX2 3, by decide, rfl, hw_2, by decide, rfl, gw_t 150 (by decide +kernel) (by decide +kernel), rfl, tyX2_ok, nmX2, tyX2_ok 3 (by decide), ⟨fun q => absurd q (by decide), fun q => absurd q (by decide)⟩⟩, RX2, TX2, 4, rfl, rfl⟩
theorem flw_RX3_15 : FLw RX3 15 3 1 0 := ⟨⟨RX3, TX3, 2, tyX3, tyX3 1, by decide, rfl, hw_3, by decide, rfl, gw_t 133 (by decide +kernel) (by decide +kernel), rfl, tyX3_ok, nmX3, tyX3_ok 1 (by decide), ⟨fun q => absurd q (by decide), fun q => absurd q (by decide)⟩⟩, RX3, TX3, 2, rfl, rfl⟩
theorem flw_RX4_7 : FLw RX4 7 4 0 0 := ⟨⟨RX4, TX4, 1, tyX4, tyX4 0, by decide, rfl, hw_4, by decide, rfl, gw_t 168 (by decide +kernel) (by decide +kernel), rfl, tyX4_ok, nmX4, tyX4_ok 0 (by decide), ⟨fun q => absurd q (by decide), fun q => absurd q (by decide)⟩⟩, RX4, TX4, 1, rfl, rfl⟩
theorem flw_RX5_17 : FLw RX5 17 5 1 0 := ⟨⟨RX5, TX5, 3, tyX5, tyX5 1, by decide, rfl, hw_5, by decide, rfl, gw_t 114 (by decide +kernel) (by decide +kernel), rfl, tyX5_ok, nmX5, tyX5_ok 1 (by decide), ⟨fun q => absurd q (by decide), fun q => absurd q (by decide)⟩⟩, RX5, TX5, 3, rfl, rfl⟩
theorem flw_RX5_21 : FLw RX5 21 5 2 0 := ⟨⟨RX5, TX5, 3, tyX5, tyX5 2, by decide, rfl, hw_5, by decide, rfl, gw_t 115 (by decide +kernel) (by decide +kernel), rfl, tyX5_ok, nmX5, tyX5_ok 2 (by decide), ⟨fun q => absurd q (by decide), fun q => absurd q (by decide)⟩⟩, RX5, TX5, 3, rfl, rfl⟩
theorem flw_RX6_15 : FLw RX6 15 6 1 0 := ⟨⟨RX6, TX6, 2, tyX6, tyX6 1, by decide, rfl, hw_6, by decide, rfl, gw_t 58 (by decide +kernel) (by decide +kernel), rfl, tyX6_ok, nmX6, tyX6_ok 1 (by decide), ⟨fun q => absurd q (by decide), fun q => absurd q (by decide)⟩⟩, RX6, TX6, 2, rfl, rfl⟩
theorem flw_RX7_34 : FLw RX7 34 7 5 0 := ⟨⟨RX7, TX7, 9, tyX7, tyX7 5, by decide, rfl, hw_7, by decide, rfl, gw_t 213 (by decide +kernel) (by decide +kernel), rfl, tyX7_ok, nmX7, tyX7_ok 5 (by decide), ⟨fun q => absurd q (by decide), fun q => absurd q (by decide)⟩⟩, RX7, TX7, 9, rfl, rfl⟩
theorem flw_RX7_55 : FLw RX7 55 7 6 0 := ⟨⟨RX7, TX7, 9, tyX7, tyX7 6, by decide, rfl, hw_7, by decide, rfl, gw_t 214 (by decide +kernel) (by decide +kernel), rfl, tyX7_ok, nmX7, tyX7_ok 6 (by decide), ⟨fun q => absurd q (by decide), fun q => absurd q (by decide)⟩⟩, RX7, TX7, 9, rfl, rfl⟩
theorem flw_RX7_58 : FLw RX7 58 7 7 0 := ⟨⟨RX7, TX7, 9, tyX7, tyX7 7, by decide, rfl, hw_7, by decide, rfl, gw_t 215 (by decide +kernel) (by decide +kernel), rfl, tyX7_ok, nmX7, tyX7_ok 7 (by decide), ⟨fun q => absurd q (by decide), fun q => absurd q (by decide)⟩⟩, RX7, TX7, 9, rfl, rfl⟩
theorem flw_RX7_61 : FLw RX7 61 7 8 0 := ⟨⟨RX7, TX7, 9, tyX7, tyX7 8, by decide, rfl, hw_7, by decide, rfl, gw_t 216 (by decide +kernel) (by decide +kernel), rfl, tyX7_ok, nmX7, tyX7_ok 8 (by decide), ⟨fun q => absurd q (by decide), fun q => absurd q (by decide)⟩⟩, RX7, TX7, 9, rfl, rfl⟩
theorem flw_RX8_15 : FLw RX8 15 8 1 0 := ⟨⟨RX8, TX8, 2, tyX8, tyX8 1, by decide, rfl, hw_8, by decide, rfl, gw_t 39 (by decide +kernel) (by decide +kernel), rfl, tyX8_ok, nmX8, tyX8_ok 1 (by decide), ⟨fun q => absurd q (by decide), fun q => absurd q (by decide)⟩⟩, RX8, TX8, 2, rfl, rfl⟩
theorem flw_RX9_317 : FLw RX9 317 0 6 0 := ⟨⟨RX0, TX0, 7, tyX0, tyX0 6, by decide, rfl, hw_0, by decide, rfl, gw_t 87 (by decide +kernel) (by decide +kernel), rfl, tyX0_ok, nmX0, tyX0_ok 6 (by decide), ⟨fun q => absurd q (by decide), fun q => absurd q (by decide)⟩⟩, RX0, TX0, 7, rfl, rfl⟩
theorem flw_RX9_367 : FLw RX9 367 2 3 0 := ⟨⟨RX2, TX2, 4, tyX2, tyX2 3, by decide, rfl, hw_2, by decide, rfl, gw_t 151 (by decide +kernel) (by decide +kernel), rfl, tyX2_ok, nmX2, tyX2_ok 3 (by decide), ⟨fun q => absurd q (by decide), fun q => absurd q (by decide)⟩⟩, RX2, TX2, 4, rfl, rfl⟩
theorem flw_RX9_84 : FLw RX9 84 9 12 2 := ⟨⟨RX9, TX9, 16, tyX9, tyX9 12, by decide, rfl, hw_9, by decide, rfl, gw_t 248 (by decide +kernel) (by decide +kernel), rfl, tyX9_ok, nmX9, tyX9_ok 12 (by decide), ⟨fun q => absurd q (by decide), fun _ _ => ⟨rfl, rfl⟩⟩⟩, RX9, TX9, 16, rfl, rfl⟩
theorem flw_RX9_88 : FLw RX9 88 9 13 2 := ⟨⟨RX9, TX9, 16, tyX9, tyX9 13, by decide, rfl, hw_9, by decide, rfl, gw_t 249 (by decide +kernel) (by decide +kernel), rfl, tyX9_ok, nmX9, tyX9_ok 13 (by decide), ⟨fun q => absurd q (by decide), fun _ _ => ⟨rfl, rfl⟩⟩⟩, RX9, TX9, 16, rfl, rfl⟩
theorem flw_RX9_94 : FLw RX9 94 9 14 2 := ⟨⟨RX9, TX9, 16, tyX9, tyX9 14, by decide, rfl, hw_9, by decide, rfl, gw_t 250 (by decide +kernel) (by decide +kernel), rfl, tyX9_ok, nmX9, tyX9_ok 14 (by decide), ⟨fun q => absurd q (by decide), fun _ _ => ⟨rfl, rfl⟩⟩⟩, RX9, TX9, 16, rfl, rfl⟩
theorem flw_RX9_98 : FLw RX9 98 9 15 2 := ⟨⟨RX9, TX9, 16, tyX9, tyX9 15, by decide, rfl, hw_9, by decide, rfl, gw_t 251 (by decide +kernel) (by decide +kernel), rfl, tyX9_ok, nmX9, tyX9_ok 15 (by decide), ⟨fun q => absurd q (by decide), fun _ _ => ⟨rfl, rfl⟩⟩⟩, RX9, TX9, 16, rfl, rfl⟩
theorem nr_0_2 (v : Int32) : ∀ ty : FieldType, ∀ (C : String) (T : u_T) (N : Nat), vwCl[0]? = some (C, T, N) → parseFieldDescriptor (T 2).2.2.1 = some ty → narrow ty (.int v) = .int v ∧ fits ty (.int v) = true := by
  intro ty C T N hc hp
  have e1 : T = TX0 := (congrArg (fun q => q.2.1) (Option.some.inj hc)).symm
  subst e1
  have e2 : ty = tyX0 2 := Option.some.inj (hp.symm.trans (tyX0_ok 2 (by decide)))
  subst e2
  exact ⟨rfl, rfl⟩
theorem nr_0_3 (v : Int32) : ∀ ty : FieldType, ∀ (C : String) (T : u_T) (N : Nat), vwCl[0]? = some (C, T, N) → parseFieldDescriptor (T 3).2.2.1 = some ty → narrow ty (.int v) = .int v ∧ fits ty (.int v) = true := by
  intro ty C T N hc hp
  have e1 : T = TX0 := (congrArg (fun q => q.2.1) (Option.some.inj hc)).symm
  subst e1
  have e2 : ty = tyX0 3 := Option.some.inj (hp.symm.trans (tyX0_ok 3 (by decide)))
  subst e2
  exact ⟨rfl, rfl⟩
theorem nr_0_4 (v : Int32) : ∀ ty : FieldType, ∀ (C : String) (T : u_T) (N : Nat), vwCl[0]? = some (C, T, N) → parseFieldDescriptor (T 4).2.2.1 = some ty → narrow ty (.int v) = .int v ∧ fits ty (.int v) = true := by
  intro ty C T N hc hp
  have e1 : T = TX0 := (congrArg (fun q => q.2.1) (Option.some.inj hc)).symm
  subst e1
  have e2 : ty = tyX0 4 := Option.some.inj (hp.symm.trans (tyX0_ok 4 (by decide)))
  subst e2
  exact ⟨rfl, rfl⟩
theorem nr_0_5 (v : Int32) : ∀ ty : FieldType, ∀ (C : String) (T : u_T) (N : Nat), vwCl[0]? = some (C, T, N) → parseFieldDescriptor (T 5).2.2.1 = some ty → narrow ty (.int v) = .int v ∧ fits ty (.int v) = true := by
  intro ty C T N hc hp
  have e1 : T = TX0 := (congrArg (fun q => q.2.1) (Option.some.inj hc)).symm
  subst e1
  have e2 : ty = tyX0 5 := Option.some.inj (hp.symm.trans (tyX0_ok 5 (by decide)))
  subst e2
  exact ⟨rfl, rfl⟩
theorem nr_0_6 {v : Int32} (hv : v = 0 ∨ v = 1) : ∀ ty : FieldType, ∀ (C : String) (T : u_T) (N : Nat), vwCl[0]? = some (C, T, N) → parseFieldDescriptor (T 6).2.2.1 = some ty → narrow ty (.int v) = .int v ∧ fits ty (.int v) = true := by
  intro ty C T N hc hp
  have e1 : T = TX0 := (congrArg (fun q => q.2.1) (Option.some.inj hc)).symm
  subst e1
  have e2 : ty = tyX0 6 := Option.some.inj (hp.symm.trans (tyX0_ok 6 (by decide)))
  subst e2
  rcases hv with rfl | rfl <;> exact ⟨rfl, rfl⟩
theorem nr_1_2 (v : Int32) : ∀ ty : FieldType, ∀ (C : String) (T : u_T) (N : Nat), vwCl[1]? = some (C, T, N) → parseFieldDescriptor (T 2).2.2.1 = some ty → narrow ty (.int v) = .int v ∧ fits ty (.int v) = true := by
  intro ty C T N hc hp
  have e1 : T = TX1 := (congrArg (fun q => q.2.1) (Option.some.inj hc)).symm
  subst e1
  have e2 : ty = tyX1 2 := Option.some.inj (hp.symm.trans (tyX1_ok 2 (by decide)))
  subst e2
  exact ⟨rfl, rfl⟩
theorem nr_2_3 (v : Int32) : ∀ ty : FieldType, ∀ (C : String) (T : u_T) (N : Nat), vwCl[2]? = some (C, T, N) → parseFieldDescriptor (T 3).2.2.1 = some ty → narrow ty (.int v) = .int v ∧ fits ty (.int v) = true := by
  intro ty C T N hc hp
  have e1 : T = TX2 := (congrArg (fun q => q.2.1) (Option.some.inj hc)).symm
  subst e1
  have e2 : ty = tyX2 3 := Option.some.inj (hp.symm.trans (tyX2_ok 3 (by decide)))
  subst e2
  exact ⟨rfl, rfl⟩
theorem nr_3_1 (v : Int32) : ∀ ty : FieldType, ∀ (C : String) (T : u_T) (N : Nat), vwCl[3]? = some (C, T, N) → parseFieldDescriptor (T 1).2.2.1 = some ty → narrow ty (.int v) = .int v ∧ fits ty (.int v) = true := by
  intro ty C T N hc hp
  have e1 : T = TX3 := (congrArg (fun q => q.2.1) (Option.some.inj hc)).symm
  subst e1
  have e2 : ty = tyX3 1 := Option.some.inj (hp.symm.trans (tyX3_ok 1 (by decide)))
  subst e2
  exact ⟨rfl, rfl⟩
theorem nr_4_0 (v : Int32) : ∀ ty : FieldType, ∀ (C : String) (T : u_T) (N : Nat), vwCl[4]? = some (C, T, N) → parseFieldDescriptor (T 0).2.2.1 = some ty → narrow ty (.int v) = .int v ∧ fits ty (.int v) = true := by
  intro ty C T N hc hp
  have e1 : T = TX4 := (congrArg (fun q => q.2.1) (Option.some.inj hc)).symm
  subst e1
  have e2 : ty = tyX4 0 := Option.some.inj (hp.symm.trans (tyX4_ok 0 (by decide)))
  subst e2
  exact ⟨rfl, rfl⟩
theorem nr_5_1 (v : Int32) : ∀ ty : FieldType, ∀ (C : String) (T : u_T) (N : Nat), vwCl[5]? = some (C, T, N) → parseFieldDescriptor (T 1).2.2.1 = some ty → narrow ty (.int v) = .int v ∧ fits ty (.int v) = true := by
  intro ty C T N hc hp
  have e1 : T = TX5 := (congrArg (fun q => q.2.1) (Option.some.inj hc)).symm
  subst e1
  have e2 : ty = tyX5 1 := Option.some.inj (hp.symm.trans (tyX5_ok 1 (by decide)))
  subst e2
  exact ⟨rfl, rfl⟩
theorem nr_5_2 (v : Int32) : ∀ ty : FieldType, ∀ (C : String) (T : u_T) (N : Nat), vwCl[5]? = some (C, T, N) → parseFieldDescriptor (T 2).2.2.1 = some ty → narrow ty (.int v) = .int v ∧ fits ty (.int v) = true := by
  intro ty C T N hc hp
  have e1 : T = TX5 := (congrArg (fun q => q.2.1) (Option.some.inj hc)).symm
  subst e1
  have e2 : ty = tyX5 2 := Option.some.inj (hp.symm.trans (tyX5_ok 2 (by decide)))
  subst e2
  exact ⟨rfl, rfl⟩
theorem nr_6_1 (v : Int32) : ∀ ty : FieldType, ∀ (C : String) (T : u_T) (N : Nat), vwCl[6]? = some (C, T, N) → parseFieldDescriptor (T 1).2.2.1 = some ty → narrow ty (.int v) = .int v ∧ fits ty (.int v) = true := by
  intro ty C T N hc hp
  have e1 : T = TX6 := (congrArg (fun q => q.2.1) (Option.some.inj hc)).symm
  subst e1
  have e2 : ty = tyX6 1 := Option.some.inj (hp.symm.trans (tyX6_ok 1 (by decide)))
  subst e2
  exact ⟨rfl, rfl⟩
theorem nr_7_5 (v : Int32) : ∀ ty : FieldType, ∀ (C : String) (T : u_T) (N : Nat), vwCl[7]? = some (C, T, N) → parseFieldDescriptor (T 5).2.2.1 = some ty → narrow ty (.int v) = .int v ∧ fits ty (.int v) = true := by
  intro ty C T N hc hp
  have e1 : T = TX7 := (congrArg (fun q => q.2.1) (Option.some.inj hc)).symm
  subst e1
  have e2 : ty = tyX7 5 := Option.some.inj (hp.symm.trans (tyX7_ok 5 (by decide)))
  subst e2
  exact ⟨rfl, rfl⟩
theorem nr_7_6 (v : Int32) : ∀ ty : FieldType, ∀ (C : String) (T : u_T) (N : Nat), vwCl[7]? = some (C, T, N) → parseFieldDescriptor (T 6).2.2.1 = some ty → narrow ty (.int v) = .int v ∧ fits ty (.int v) = true := by
  intro ty C T N hc hp
  have e1 : T = TX7 := (congrArg (fun q => q.2.1) (Option.some.inj hc)).symm
  subst e1
  have e2 : ty = tyX7 6 := Option.some.inj (hp.symm.trans (tyX7_ok 6 (by decide)))
  subst e2
  exact ⟨rfl, rfl⟩
theorem nr_7_7 (v : Int32) : ∀ ty : FieldType, ∀ (C : String) (T : u_T) (N : Nat), vwCl[7]? = some (C, T, N) → parseFieldDescriptor (T 7).2.2.1 = some ty → narrow ty (.int v) = .int v ∧ fits ty (.int v) = true := by
  intro ty C T N hc hp
  have e1 : T = TX7 := (congrArg (fun q => q.2.1) (Option.some.inj hc)).symm
  subst e1
  have e2 : ty = tyX7 7 := Option.some.inj (hp.symm.trans (tyX7_ok 7 (by decide)))
  subst e2
  exact ⟨rfl, rfl⟩
theorem nr_7_8 {v : Int32} (hv : v = 0 ∨ v = 1) : ∀ ty : FieldType, ∀ (C : String) (T : u_T) (N : Nat), vwCl[7]? = some (C, T, N) → parseFieldDescriptor (T 8).2.2.1 = some ty → narrow ty (.int v) = .int v ∧ fits ty (.int v) = true := by
  intro ty C T N hc hp
  have e1 : T = TX7 := (congrArg (fun q => q.2.1) (Option.some.inj hc)).symm
  subst e1
  have e2 : ty = tyX7 8 := Option.some.inj (hp.symm.trans (tyX7_ok 8 (by decide)))
  subst e2
  rcases hv with rfl | rfl <;> exact ⟨rfl, rfl⟩
theorem nr_8_1 (v : Int32) : ∀ ty : FieldType, ∀ (C : String) (T : u_T) (N : Nat), vwCl[8]? = some (C, T, N) → parseFieldDescriptor (T 1).2.2.1 = some ty → narrow ty (.int v) = .int v ∧ fits ty (.int v) = true := by
  intro ty C T N hc hp
  have e1 : T = TX8 := (congrArg (fun q => q.2.1) (Option.some.inj hc)).symm
  subst e1
  have e2 : ty = tyX8 1 := Option.some.inj (hp.symm.trans (tyX8_ok 1 (by decide)))
  subst e2
  exact ⟨rfl, rfl⟩
theorem nr_10_0 (v : Int32) : ∀ ty : FieldType, ∀ (C : String) (T : u_T) (N : Nat), vwCl[10]? = some (C, T, N) → parseFieldDescriptor (T 0).2.2.1 = some ty → narrow ty (.int v) = .int v ∧ fits ty (.int v) = true := by
  intro ty C T N hc hp
  have e1 : T = TX10 := (congrArg (fun q => q.2.1) (Option.some.inj hc)).symm
  subst e1
  have e2 : ty = tyX10 0 := Option.some.inj (hp.symm.trans (tyX10_ok 0 (by decide)))
  subst e2
  exact ⟨rfl, rfl⟩
theorem nr_10_1 (v : Int32) : ∀ ty : FieldType, ∀ (C : String) (T : u_T) (N : Nat), vwCl[10]? = some (C, T, N) → parseFieldDescriptor (T 1).2.2.1 = some ty → narrow ty (.int v) = .int v ∧ fits ty (.int v) = true := by
  intro ty C T N hc hp
  have e1 : T = TX10 := (congrArg (fun q => q.2.1) (Option.some.inj hc)).symm
  subst e1
  have e2 : ty = tyX10 1 := Option.some.inj (hp.symm.trans (tyX10_ok 1 (by decide)))
  subst e2
  exact ⟨rfl, rfl⟩
theorem nr_10_3 (v : Int32) : ∀ ty : FieldType, ∀ (C : String) (T : u_T) (N : Nat), vwCl[10]? = some (C, T, N) → parseFieldDescriptor (T 3).2.2.1 = some ty → narrow ty (.int v) = .int v ∧ fits ty (.int v) = true := by
  intro ty C T N hc hp
  have e1 : T = TX10 := (congrArg (fun q => q.2.1) (Option.some.inj hc)).symm
  subst e1
  have e2 : ty = tyX10 3 := Option.some.inj (hp.symm.trans (tyX10_ok 3 (by decide)))
  subst e2
  exact ⟨rfl, rfl⟩
theorem nr_10_4 (v : Int32) : ∀ ty : FieldType, ∀ (C : String) (T : u_T) (N : Nat), vwCl[10]? = some (C, T, N) → parseFieldDescriptor (T 4).2.2.1 = some ty → narrow ty (.int v) = .int v ∧ fits ty (.int v) = true := by
  intro ty C T N hc hp
  have e1 : T = TX10 := (congrArg (fun q => q.2.1) (Option.some.inj hc)).symm
  subst e1
  have e2 : ty = tyX10 4 := Option.some.inj (hp.symm.trans (tyX10_ok 4 (by decide)))
  subst e2
  exact ⟨rfl, rfl⟩
theorem nr_10_5 (v : Int32) : ∀ ty : FieldType, ∀ (C : String) (T : u_T) (N : Nat), vwCl[10]? = some (C, T, N) → parseFieldDescriptor (T 5).2.2.1 = some ty → narrow ty (.int v) = .int v ∧ fits ty (.int v) = true := by
  intro ty C T N hc hp
  have e1 : T = TX10 := (congrArg (fun q => q.2.1) (Option.some.inj hc)).symm
  subst e1
  have e2 : ty = tyX10 5 := Option.some.inj (hp.symm.trans (tyX10_ok 5 (by decide)))
  subst e2
  exact ⟨rfl, rfl⟩
theorem nr_10_12 (v : Int32) : ∀ ty : FieldType, ∀ (C : String) (T : u_T) (N : Nat), vwCl[10]? = some (C, T, N) → parseFieldDescriptor (T 12).2.2.1 = some ty → narrow ty (.int v) = .int v ∧ fits ty (.int v) = true := by
  intro ty C T N hc hp
  have e1 : T = TX10 := (congrArg (fun q => q.2.1) (Option.some.inj hc)).symm
  subst e1
  have e2 : ty = tyX10 12 := Option.some.inj (hp.symm.trans (tyX10_ok 12 (by decide)))
  subst e2
  exact ⟨rfl, rfl⟩
theorem nr_10_13 (v : Int32) : ∀ ty : FieldType, ∀ (C : String) (T : u_T) (N : Nat), vwCl[10]? = some (C, T, N) → parseFieldDescriptor (T 13).2.2.1 = some ty → narrow ty (.int v) = .int v ∧ fits ty (.int v) = true := by
  intro ty C T N hc hp
  have e1 : T = TX10 := (congrArg (fun q => q.2.1) (Option.some.inj hc)).symm
  subst e1
  have e2 : ty = tyX10 13 := Option.some.inj (hp.symm.trans (tyX10_ok 13 (by decide)))
  subst e2
  exact ⟨rfl, rfl⟩
theorem nr_10_14 (v : Int32) : ∀ ty : FieldType, ∀ (C : String) (T : u_T) (N : Nat), vwCl[10]? = some (C, T, N) → parseFieldDescriptor (T 14).2.2.1 = some ty → narrow ty (.int v) = .int v ∧ fits ty (.int v) = true := by
  intro ty C T N hc hp
  have e1 : T = TX10 := (congrArg (fun q => q.2.1) (Option.some.inj hc)).symm
  subst e1
  have e2 : ty = tyX10 14 := Option.some.inj (hp.symm.trans (tyX10_ok 14 (by decide)))
  subst e2
  exact ⟨rfl, rfl⟩
theorem nr_10_15 (v : Int32) : ∀ ty : FieldType, ∀ (C : String) (T : u_T) (N : Nat), vwCl[10]? = some (C, T, N) → parseFieldDescriptor (T 15).2.2.1 = some ty → narrow ty (.int v) = .int v ∧ fits ty (.int v) = true := by
  intro ty C T N hc hp
  have e1 : T = TX10 := (congrArg (fun q => q.2.1) (Option.some.inj hc)).symm
  subst e1
  have e2 : ty = tyX10 15 := Option.some.inj (hp.symm.trans (tyX10_ok 15 (by decide)))
  subst e2
  exact ⟨rfl, rfl⟩
theorem nr_10_18 (v : Int32) : ∀ ty : FieldType, ∀ (C : String) (T : u_T) (N : Nat), vwCl[10]? = some (C, T, N) → parseFieldDescriptor (T 18).2.2.1 = some ty → narrow ty (.int v) = .int v ∧ fits ty (.int v) = true := by
  intro ty C T N hc hp
  have e1 : T = TX10 := (congrArg (fun q => q.2.1) (Option.some.inj hc)).symm
  subst e1
  have e2 : ty = tyX10 18 := Option.some.inj (hp.symm.trans (tyX10_ok 18 (by decide)))
  subst e2
  exact ⟨rfl, rfl⟩
theorem nr_10_21 (v : Int32) : ∀ ty : FieldType, ∀ (C : String) (T : u_T) (N : Nat), vwCl[10]? = some (C, T, N) → parseFieldDescriptor (T 21).2.2.1 = some ty → narrow ty (.int v) = .int v ∧ fits ty (.int v) = true := by
  intro ty C T N hc hp
  have e1 : T = TX10 := (congrArg (fun q => q.2.1) (Option.some.inj hc)).symm
  subst e1
  have e2 : ty = tyX10 21 := Option.some.inj (hp.symm.trans (tyX10_ok 21 (by decide)))
  subst e2
  exact ⟨rfl, rfl⟩
theorem nr_10_22 (v : Int32) : ∀ ty : FieldType, ∀ (C : String) (T : u_T) (N : Nat), vwCl[10]? = some (C, T, N) → parseFieldDescriptor (T 22).2.2.1 = some ty → narrow ty (.int v) = .int v ∧ fits ty (.int v) = true := by
  intro ty C T N hc hp
  have e1 : T = TX10 := (congrArg (fun q => q.2.1) (Option.some.inj hc)).symm
  subst e1
  have e2 : ty = tyX10 22 := Option.some.inj (hp.symm.trans (tyX10_ok 22 (by decide)))
  subst e2
  exact ⟨rfl, rfl⟩
theorem nr_10_25 (v : Int32) : ∀ ty : FieldType, ∀ (C : String) (T : u_T) (N : Nat), vwCl[10]? = some (C, T, N) → parseFieldDescriptor (T 25).2.2.1 = some ty → narrow ty (.int v) = .int v ∧ fits ty (.int v) = true := by
  intro ty C T N hc hp
  have e1 : T = TX10 := (congrArg (fun q => q.2.1) (Option.some.inj hc)).symm
  subst e1
  have e2 : ty = tyX10 25 := Option.some.inj (hp.symm.trans (tyX10_ok 25 (by decide)))
  subst e2
  exact ⟨rfl, rfl⟩
theorem nr_10_27 (v : Int32) : ∀ ty : FieldType, ∀ (C : String) (T : u_T) (N : Nat), vwCl[10]? = some (C, T, N) → parseFieldDescriptor (T 27).2.2.1 = some ty → narrow ty (.int v) = .int v ∧ fits ty (.int v) = true := by
  intro ty C T N hc hp
  have e1 : T = TX10 := (congrArg (fun q => q.2.1) (Option.some.inj hc)).symm
  subst e1
  have e2 : ty = tyX10 27 := Option.some.inj (hp.symm.trans (tyX10_ok 27 (by decide)))
  subst e2
  exact ⟨rfl, rfl⟩
theorem nr_10_33 (v : Int32) : ∀ ty : FieldType, ∀ (C : String) (T : u_T) (N : Nat), vwCl[10]? = some (C, T, N) → parseFieldDescriptor (T 33).2.2.1 = some ty → narrow ty (.int v) = .int v ∧ fits ty (.int v) = true := by
  intro ty C T N hc hp
  have e1 : T = TX10 := (congrArg (fun q => q.2.1) (Option.some.inj hc)).symm
  subst e1
  have e2 : ty = tyX10 33 := Option.some.inj (hp.symm.trans (tyX10_ok 33 (by decide)))
  subst e2
  exact ⟨rfl, rfl⟩
theorem nr_10_39 (v : Int32) : ∀ ty : FieldType, ∀ (C : String) (T : u_T) (N : Nat), vwCl[10]? = some (C, T, N) → parseFieldDescriptor (T 39).2.2.1 = some ty → narrow ty (.int v) = .int v ∧ fits ty (.int v) = true := by
  intro ty C T N hc hp
  have e1 : T = TX10 := (congrArg (fun q => q.2.1) (Option.some.inj hc)).symm
  subst e1
  have e2 : ty = tyX10 39 := Option.some.inj (hp.symm.trans (tyX10_ok 39 (by decide)))
  subst e2
  exact ⟨rfl, rfl⟩
theorem nr_10_44 (v : Int32) : ∀ ty : FieldType, ∀ (C : String) (T : u_T) (N : Nat), vwCl[10]? = some (C, T, N) → parseFieldDescriptor (T 44).2.2.1 = some ty → narrow ty (.int v) = .int v ∧ fits ty (.int v) = true := by
  intro ty C T N hc hp
  have e1 : T = TX10 := (congrArg (fun q => q.2.1) (Option.some.inj hc)).symm
  subst e1
  have e2 : ty = tyX10 44 := Option.some.inj (hp.symm.trans (tyX10_ok 44 (by decide)))
  subst e2
  exact ⟨rfl, rfl⟩
theorem nestM_at {q : String × Nat × MethodName × String} (i : Nat) (h : nestM[i]? = some q) : q ∈ nestM := List.mem_of_getElem? h
theorem nestF_at {q : String × Nat × String × String × String × String} (i : Nat) (h : nestF[i]? = some q) : q ∈ nestF := List.mem_of_getElem? h
