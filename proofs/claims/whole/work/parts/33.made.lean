/-! ===== the two objects made ===== -/
def zE : HP := ([], fun _ _ => 0, fun _ _ => 0, fun _ _ => none)
def zB0 : HP := nw zE (9, 16)
def zX9_init_1 : HP := nw zB0 (8, 2)
def zX9_init_2 : HP := QX8_init_L zX9_init_1 1
def zX9_init_3 : HP := setR zX9_init_2 0 0 (some 1)
def zX9_init_4 : HP := nw zX9_init_3 (6, 2)
def zX9_init_5 : HP := QX6_init_L zX9_init_4 3
def zX9_init_6 : HP := setR zX9_init_5 0 1 (some 3)
def zX9_init_7 : HP := nw zX9_init_6 (0, 7)
def zX9_init_8 : HP := QX0_init_L zX9_init_7 5
def zX9_init_9 : HP := setR zX9_init_8 0 2 (some 5)
def zX9_init_10 : HP := nw zX9_init_9 (0, 7)
def zX9_init_11 : HP := QX0_init_L zX9_init_10 12
def zX9_init_12 : HP := setR zX9_init_11 0 3 (some 12)
def zX9_init_13 : HP := nw zX9_init_12 (0, 7)
def zX9_init_14 : HP := QX0_init_L zX9_init_13 19
def zX9_init_15 : HP := setR zX9_init_14 0 4 (some 19)
def zX9_init_16 : HP := nw zX9_init_15 (5, 3)
def zX5_init_1 : HP := nw zX9_init_16 (105, 15)
def zX5_init_2 : HP := setR zX5_init_1 26 0 (some 27)
def zX5_init_3 : HP := setI zX5_init_2 26 1 (0)
def zX5_init_4 : HP := setI zX5_init_3 26 2 (0)
def zX5_init_5 : HP := nw zX5_init_4 (0, 7)
def zX5_init_6 : HP := QX0_init_L zX5_init_5 28
def zX5_init_7 : HP := setR zX5_init_6 27 (0 : Int32).toNatClampNeg (some 28)
def zX5_init_8 : HP := nw zX5_init_7 (0, 7)
def zX5_init_9 : HP := QX0_init_L zX5_init_8 35
def zX5_init_10 : HP := setR zX5_init_9 27 (1 : Int32).toNatClampNeg (some 35)
def zX5_init_11 : HP := nw zX5_init_10 (0, 7)
def zX5_init_12 : HP := QX0_init_L zX5_init_11 42
def zX5_init_13 : HP := setR zX5_init_12 27 (2 : Int32).toNatClampNeg (some 42)
def zX5_init_14 : HP := nw zX5_init_13 (0, 7)
def zX5_init_15 : HP := QX0_init_L zX5_init_14 49
def zX5_init_16 : HP := setR zX5_init_15 27 (3 : Int32).toNatClampNeg (some 49)
def zX5_init_17 : HP := nw zX5_init_16 (0, 7)
def zX5_init_18 : HP := QX0_init_L zX5_init_17 56
def zX5_init_19 : HP := setR zX5_init_18 27 (4 : Int32).toNatClampNeg (some 56)
def zX5_init_20 : HP := nw zX5_init_19 (0, 7)
def zX5_init_21 : HP := QX0_init_L zX5_init_20 63
def zX5_init_22 : HP := setR zX5_init_21 27 (5 : Int32).toNatClampNeg (some 63)
def zX5_init_23 : HP := nw zX5_init_22 (0, 7)
def zX5_init_24 : HP := QX0_init_L zX5_init_23 70
def zX5_init_25 : HP := setR zX5_init_24 27 (6 : Int32).toNatClampNeg (some 70)
def zX5_init_26 : HP := nw zX5_init_25 (0, 7)
def zX5_init_27 : HP := QX0_init_L zX5_init_26 77
def zX5_init_28 : HP := setR zX5_init_27 27 (7 : Int32).toNatClampNeg (some 77)
def zX5_init_29 : HP := nw zX5_init_28 (0, 7)
def zX5_init_30 : HP := QX0_init_L zX5_init_29 84
def zX5_init_31 : HP := setR zX5_init_30 27 (8 : Int32).toNatClampNeg (some 84)
def zX5_init_32 : HP := nw zX5_init_31 (0, 7)
def zX5_init_33 : HP := QX0_init_L zX5_init_32 91
def zX5_init_34 : HP := setR zX5_init_33 27 (9 : Int32).toNatClampNeg (some 91)
def zX5_init_35 : HP := nw zX5_init_34 (0, 7)
def zX5_init_36 : HP := QX0_init_L zX5_init_35 98
def zX5_init_37 : HP := setR zX5_init_36 27 (10 : Int32).toNatClampNeg (some 98)
def zX5_init_38 : HP := nw zX5_init_37 (0, 7)
def zX5_init_39 : HP := QX0_init_L zX5_init_38 105
def zX5_init_40 : HP := setR zX5_init_39 27 (11 : Int32).toNatClampNeg (some 105)
def zX5_init_41 : HP := nw zX5_init_40 (0, 7)
def zX5_init_42 : HP := QX0_init_L zX5_init_41 112
def zX5_init_43 : HP := setR zX5_init_42 27 (12 : Int32).toNatClampNeg (some 112)
def zX5_init_44 : HP := nw zX5_init_43 (0, 7)
def zX5_init_45 : HP := QX0_init_L zX5_init_44 119
def zX5_init_46 : HP := setR zX5_init_45 27 (13 : Int32).toNatClampNeg (some 119)
def zX5_init_47 : HP := nw zX5_init_46 (0, 7)
def zX5_init_48 : HP := QX0_init_L zX5_init_47 126
def zX5_init_49 : HP := setR zX5_init_48 27 (14 : Int32).toNatClampNeg (some 126)
def zX5_init_L : HP := zX5_init_49
def zX9_init_17 : HP := zX5_init_L
def zX9_init_18 : HP := setR zX9_init_17 0 5 (some 26)
def zX9_init_19 : HP := nw zX9_init_18 (105, 3)
def zX9_init_20 : HP := setR zX9_init_19 0 6 (some 133)
def zX9_init_21 : HP := nw zX9_init_20 (0, 7)
def zX9_init_22 : HP := QX0_init_L zX9_init_21 134
def zX9_init_23 : HP := setR zX9_init_22 133 (0 : Int32).toNatClampNeg (some 134)
def zX9_init_24 : HP := setI zX9_init_23 134 2 (-1)
def zX9_init_25 : HP := nw zX9_init_24 (0, 7)
def zX9_init_26 : HP := QX0_init_L zX9_init_25 141
def zX9_init_27 : HP := setR zX9_init_26 133 (1 : Int32).toNatClampNeg (some 141)
def zX9_init_28 : HP := setI zX9_init_27 141 2 (-1)
def zX9_init_29 : HP := nw zX9_init_28 (0, 7)
def zX9_init_30 : HP := QX0_init_L zX9_init_29 148
def zX9_init_31 : HP := setR zX9_init_30 133 (2 : Int32).toNatClampNeg (some 148)
def zX9_init_32 : HP := setI zX9_init_31 148 2 (-1)
def zX9_init_33 : HP := nw zX9_init_32 (102, 6)
def zX9_init_34 : HP := setR zX9_init_33 0 7 (some 155)
def zX9_init_35 : HP := nwM zX9_init_34 6 6
def zX9_init_36 : HP := setR zX9_init_35 0 8 (some 156)
def zX9_init_37 : HP := nw zX9_init_36 (3, 2)
def zX9_init_38 : HP := QX3_init_L zX9_init_37 163
def zX9_init_39 : HP := setR zX9_init_38 0 9 (some 163)
def zX9_init_40 : HP := nw zX9_init_39 (2, 4)
def zX9_init_41 : HP := QX2_init_L zX9_init_40 165
def zX9_init_42 : HP := setR zX9_init_41 0 10 (some 165)
def zX9_init_43 : HP := nw zX9_init_42 (4, 1)
def zX9_init_44 : HP := QX4_init_L zX9_init_43 169
def zX9_init_45 : HP := setR zX9_init_44 0 11 (some 169)
def zX9_init_46 : HP := nw zX9_init_45 (1, 3)
def zX9_init_47 : HP := QX1_init_L zX9_init_46 170
def zX9_init_48 : HP := setR zX9_init_47 0 12 (some 170)
def zX9_init_49 : HP := nw zX9_init_48 (1, 3)
def zX9_init_50 : HP := QX1_init_L zX9_init_49 173
def zX9_init_51 : HP := setR zX9_init_50 0 13 (some 173)
def zX9_init_52 : HP := nw zX9_init_51 (7, 9)
def zX9_init_53 : HP := QX7_init_L zX9_init_52 176
def zX9_init_54 : HP := setR zX9_init_53 0 14 (some 176)
def zX9_init_55 : HP := nw zX9_init_54 (7, 9)
def zX9_init_56 : HP := QX7_init_L zX9_init_55 182
def zX9_init_57 : HP := setR zX9_init_56 0 15 (some 182)
set_option maxHeartbeats 4000000 in
set_option maxRecDepth 100000 in
theorem m_X5_init {l : Launch} : MtA l yX5_init cX5_init 2 2 106 540 26 zX9_init_16 zX5_init_L := by
  refine MtA.of (f := 2) my_X5_init (Nat.le_of_ble_eq_true rfl) (fun x hl okk al ao ini hF => ?_)
  refine wp_aload_n (v := 26) (okk 0 0 (Nat.le_of_ble_eq_true rfl) (Nat.le_of_ble_eq_true rfl)) dX5_init_0 rfl ?_
  refine wp_objI (okk 0 0 (Nat.le_of_ble_eq_true rfl) (Nat.le_of_ble_eq_true rfl)) (Nat.le_of_ble_eq_true rfl) wk_109 wk_30 wk_31 dX5_init_1 ?_
  refine wp_aload_n (v := 26) (okk 0 0 (Nat.le_of_ble_eq_true rfl) (Nat.le_of_ble_eq_true rfl)) dX5_init_4 rfl ?_
  refine wp_bipush (v := 15) (okk 0 0 (Nat.le_of_ble_eq_true rfl) (Nat.le_of_ble_eq_true rfl)) dX5_init_5 (by decide) ?_
  refine wp_anew (N := 15) (okk 0 0 (Nat.le_of_ble_eq_true rfl) (Nat.le_of_ble_eq_true rfl)) (okk 1 15 (Nat.le_of_ble_eq_true rfl) (Nat.le_of_ble_eq_true rfl)) al (by decide +kernel) rfl wk_110 ao (by decide) (by decide) (Nat.le_of_ble_eq_true rfl) rfl rfl dX5_init_7 ?_
  refine wp_nmR (v := 27) (by decide +kernel) ?_
  refine wp_nmH (v := zX5_init_1) rfl ?_
  refine wp_putRF (okk 1 15 (Nat.le_of_ble_eq_true rfl) (Nat.le_of_ble_eq_true rfl)) ini flf_RX5_11 (show zX5_init_1.1[26]? = some (5, 3) from by decide +kernel) dX5_init_10 ?_
  refine wp_nmH (v := zX5_init_2) rfl ?_
  refine wp_aload_n (v := 26) (okk 1 15 (Nat.le_of_ble_eq_true rfl) (Nat.le_of_ble_eq_true rfl)) dX5_init_13 rfl ?_
  refine wp_iconst (v := 0) (okk 1 15 (Nat.le_of_ble_eq_true rfl) (Nat.le_of_ble_eq_true rfl)) dX5_init_14 (by decide) ?_
  refine wp_putI (okk 1 15 (Nat.le_of_ble_eq_true rfl) (Nat.le_of_ble_eq_true rfl)) flw_RX5_17 (nr_5_1 _) (show zX5_init_2.1[26]? = some (5, 3) from by decide +kernel) dX5_init_15 ?_
  refine wp_nmH (v := zX5_init_3) rfl ?_
  refine wp_aload_n (v := 26) (okk 1 15 (Nat.le_of_ble_eq_true rfl) (Nat.le_of_ble_eq_true rfl)) dX5_init_18 rfl ?_
  refine wp_iconst (v := 0) (okk 1 15 (Nat.le_of_ble_eq_true rfl) (Nat.le_of_ble_eq_true rfl)) dX5_init_19 (by decide) ?_
  refine wp_putI (okk 1 15 (Nat.le_of_ble_eq_true rfl) (Nat.le_of_ble_eq_true rfl)) flw_RX5_21 (nr_5_2 _) (show zX5_init_3.1[26]? = some (5, 3) from by decide +kernel) dX5_init_20 ?_
  refine wp_nmH (v := zX5_init_4) rfl ?_
  refine wp_iconst (v := 0) (okk 1 15 (Nat.le_of_ble_eq_true rfl) (Nat.le_of_ble_eq_true rfl)) dX5_init_23 (by decide) ?_
  refine wp_istore_n (L' := [(1, .int (0)), (0, .ref 26)]) (okk 1 15 (Nat.le_of_ble_eq_true rfl) (Nat.le_of_ble_eq_true rfl)) dX5_init_24 rfl rfl ?_
  refine wp_iload_n (v := 0) (okk 1 15 (Nat.le_of_ble_eq_true rfl) (Nat.le_of_ble_eq_true rfl)) dX5_init_25 rfl ?_
  refine wp_aload_n (v := 26) (okk 1 15 (Nat.le_of_ble_eq_true rfl) (Nat.le_of_ble_eq_true rfl)) dX5_init_26 rfl ?_
  refine wp_getR (b := 27) (okk 1 15 (Nat.le_of_ble_eq_true rfl) (Nat.le_of_ble_eq_true rfl)) fl_RX5_11 (show zX5_init_4.1[26]? = some (5, 3) from by decide +kernel) (by decide +kernel) dX5_init_27 ?_
  refine wp_alen105 (v := 15) (okk 1 15 (Nat.le_of_ble_eq_true rfl) (Nat.le_of_ble_eq_true rfl)) (show zX5_init_4.1[27]? = some (105, 15) from by decide +kernel) (by decide) dX5_init_30 ?_
  refine wp_icmp_ge (tgt := 53) (okk 1 15 (Nat.le_of_ble_eq_true rfl) (Nat.le_of_ble_eq_true rfl)) dX5_init_31 (by decide) (fun q => absurd q (by decide)) (fun _ => ?_)
  refine wp_aload_n (v := 26) (okk 1 15 (Nat.le_of_ble_eq_true rfl) (Nat.le_of_ble_eq_true rfl)) dX5_init_34 rfl ?_
  refine wp_getR (b := 27) (okk 1 15 (Nat.le_of_ble_eq_true rfl) (Nat.le_of_ble_eq_true rfl)) fl_RX5_11 (show zX5_init_4.1[26]? = some (5, 3) from by decide +kernel) (by decide +kernel) dX5_init_35 ?_
  refine wp_iload_n (v := 0) (okk 1 15 (Nat.le_of_ble_eq_true rfl) (Nat.le_of_ble_eq_true rfl)) dX5_init_38 rfl ?_
  refine wp_new (C := RX0) (T := TX0) (N := 7) (ci := 0) (k := 7) (okk 1 15 (Nat.le_of_ble_eq_true rfl) (Nat.le_of_ble_eq_true rfl)) (okk 2 22 (Nat.le_of_ble_eq_true rfl) (Nat.le_of_ble_eq_true rfl)) al (by decide +kernel) rfl tyX0 rfl rfl hw_0 tyX0_ok dvk_0 wk_110 (gw_t 67 (by decide +kernel) (by decide +kernel)) (gw_t 4 (by decide +kernel) (by decide +kernel)) rfl rfl dX5_init_39 ?_
  refine wp_nmR (v := 28) (by decide +kernel) ?_
  refine wp_nmH (v := zX5_init_5) rfl ?_
  refine wp_dup (okk 2 22 (Nat.le_of_ble_eq_true rfl) (Nat.le_of_ble_eq_true rfl)) dX5_init_42 rfl ?_
  refine wp_callI (h1 := zX5_init_6) (fy := 1) (mc := 6) (ms := 28) (okk 2 22 (Nat.le_of_ble_eq_true rfl) (Nat.le_of_ble_eq_true rfl)) (okk 8 50 (Nat.le_of_ble_eq_true rfl) (Nat.le_of_ble_eq_true rfl)) al ao (by decide +kernel) rfl (m_X0_init (k := 7) (by decide +kernel)) my_X0_init (Or.inr ⟨_, nestM_at 8 rfl⟩) (Nat.le_of_ble_eq_true rfl) rfl rfl (by decide +kernel) (Nat.le_of_ble_eq_true rfl) rfl rfl rfl dX5_init_43 ?_
  refine wp_aast (okk 8 50 (Nat.le_of_ble_eq_true rfl) (Nat.le_of_ble_eq_true rfl)) (show zX5_init_6.1[27]? = some (105, 15) from by decide +kernel) (show zX5_init_6.1[28]? = some (0, 7) from by decide +kernel) (ix_lit (by decide +kernel)) dX5_init_46 ?_
  refine wp_nmH (v := zX5_init_7) rfl ?_
  refine wp_iinc (v := 0) (w := 1) (L' := [(1, .int (1)), (0, .ref 26)]) (okk 8 50 (Nat.le_of_ble_eq_true rfl) (Nat.le_of_ble_eq_true rfl)) dX5_init_47 rfl (by decide) rfl (by decide +kernel) ?_
  refine wp_goto (tgt := 25) (okk 8 50 (Nat.le_of_ble_eq_true rfl) (Nat.le_of_ble_eq_true rfl)) dX5_init_50 (by decide) ?_
  refine wp_iload_n (v := 1) (okk 8 50 (Nat.le_of_ble_eq_true rfl) (Nat.le_of_ble_eq_true rfl)) dX5_init_25 rfl ?_
  refine wp_aload_n (v := 26) (okk 8 50 (Nat.le_of_ble_eq_true rfl) (Nat.le_of_ble_eq_true rfl)) dX5_init_26 rfl ?_
  refine wp_getR (b := 27) (okk 8 50 (Nat.le_of_ble_eq_true rfl) (Nat.le_of_ble_eq_true rfl)) fl_RX5_11 (show zX5_init_7.1[26]? = some (5, 3) from by decide +kernel) (by decide +kernel) dX5_init_27 ?_
  refine wp_alen105 (v := 15) (okk 8 50 (Nat.le_of_ble_eq_true rfl) (Nat.le_of_ble_eq_true rfl)) (show zX5_init_7.1[27]? = some (105, 15) from by decide +kernel) (by decide) dX5_init_30 ?_
  refine wp_icmp_ge (tgt := 53) (okk 8 50 (Nat.le_of_ble_eq_true rfl) (Nat.le_of_ble_eq_true rfl)) dX5_init_31 (by decide) (fun q => absurd q (by decide)) (fun _ => ?_)
  refine wp_aload_n (v := 26) (okk 8 50 (Nat.le_of_ble_eq_true rfl) (Nat.le_of_ble_eq_true rfl)) dX5_init_34 rfl ?_
  refine wp_getR (b := 27) (okk 8 50 (Nat.le_of_ble_eq_true rfl) (Nat.le_of_ble_eq_true rfl)) fl_RX5_11 (show zX5_init_7.1[26]? = some (5, 3) from by decide +kernel) (by decide +kernel) dX5_init_35 ?_
  refine wp_iload_n (v := 1) (okk 8 50 (Nat.le_of_ble_eq_true rfl) (Nat.le_of_ble_eq_true rfl)) dX5_init_38 rfl ?_
  refine wp_new (C := RX0) (T := TX0) (N := 7) (ci := 0) (k := 7) (okk 8 50 (Nat.le_of_ble_eq_true rfl) (Nat.le_of_ble_eq_true rfl)) (okk 9 57 (Nat.le_of_ble_eq_true rfl) (Nat.le_of_ble_eq_true rfl)) al (by decide +kernel) rfl tyX0 rfl rfl hw_0 tyX0_ok dvk_0 wk_110 (gw_t 67 (by decide +kernel) (by decide +kernel)) (gw_t 4 (by decide +kernel) (by decide +kernel)) rfl rfl dX5_init_39 ?_
  refine wp_nmR (v := 35) (by decide +kernel) ?_
  refine wp_nmH (v := zX5_init_8) rfl ?_
  refine wp_dup (okk 9 57 (Nat.le_of_ble_eq_true rfl) (Nat.le_of_ble_eq_true rfl)) dX5_init_42 rfl ?_
  refine wp_callI (h1 := zX5_init_9) (fy := 1) (mc := 6) (ms := 28) (okk 9 57 (Nat.le_of_ble_eq_true rfl) (Nat.le_of_ble_eq_true rfl)) (okk 15 85 (Nat.le_of_ble_eq_true rfl) (Nat.le_of_ble_eq_true rfl)) al ao (by decide +kernel) rfl (m_X0_init (k := 7) (by decide +kernel)) my_X0_init (Or.inr ⟨_, nestM_at 8 rfl⟩) (Nat.le_of_ble_eq_true rfl) rfl rfl (by decide +kernel) (Nat.le_of_ble_eq_true rfl) rfl rfl rfl dX5_init_43 ?_
  refine wp_aast (okk 15 85 (Nat.le_of_ble_eq_true rfl) (Nat.le_of_ble_eq_true rfl)) (show zX5_init_9.1[27]? = some (105, 15) from by decide +kernel) (show zX5_init_9.1[35]? = some (0, 7) from by decide +kernel) (ix_lit (by decide +kernel)) dX5_init_46 ?_
  refine wp_nmH (v := zX5_init_10) rfl ?_
  refine wp_iinc (v := 1) (w := 1) (L' := [(1, .int (2)), (0, .ref 26)]) (okk 15 85 (Nat.le_of_ble_eq_true rfl) (Nat.le_of_ble_eq_true rfl)) dX5_init_47 rfl (by decide) rfl (by decide +kernel) ?_
  refine wp_goto (tgt := 25) (okk 15 85 (Nat.le_of_ble_eq_true rfl) (Nat.le_of_ble_eq_true rfl)) dX5_init_50 (by decide) ?_
  refine wp_iload_n (v := 2) (okk 15 85 (Nat.le_of_ble_eq_true rfl) (Nat.le_of_ble_eq_true rfl)) dX5_init_25 rfl ?_
  refine wp_aload_n (v := 26) (okk 15 85 (Nat.le_of_ble_eq_true rfl) (Nat.le_of_ble_eq_true rfl)) dX5_init_26 rfl ?_
  refine wp_getR (b := 27) (okk 15 85 (Nat.le_of_ble_eq_true rfl) (Nat.le_of_ble_eq_true rfl)) fl_RX5_11 (show zX5_init_10.1[26]? = some (5, 3) from by decide +kernel) (by decide +kernel) dX5_init_27 ?_
  refine wp_alen105 (v := 15) (okk 15 85 (Nat.le_of_ble_eq_true rfl) (Nat.le_of_ble_eq_true rfl)) (show zX5_init_10.1[27]? = some (105, 15) from by decide +kernel) (by decide) dX5_init_30 ?_
  refine wp_icmp_ge (tgt := 53) (okk 15 85 (Nat.le_of_ble_eq_true rfl) (Nat.le_of_ble_eq_true rfl)) dX5_init_31 (by decide) (fun q => absurd q (by decide)) (fun _ => ?_)
  refine wp_aload_n (v := 26) (okk 15 85 (Nat.le_of_ble_eq_true rfl) (Nat.le_of_ble_eq_true rfl)) dX5_init_34 rfl ?_
  refine wp_getR (b := 27) (okk 15 85 (Nat.le_of_ble_eq_true rfl) (Nat.le_of_ble_eq_true rfl)) fl_RX5_11 (show zX5_init_10.1[26]? = some (5, 3) from by decide +kernel) (by decide +kernel) dX5_init_35 ?_
  refine wp_iload_n (v := 2) (okk 15 85 (Nat.le_of_ble_eq_true rfl) (Nat.le_of_ble_eq_true rfl)) dX5_init_38 rfl ?_
  refine wp_new (C := RX0) (T := TX0) (N := 7) (ci := 0) (k := 7) (okk 15 85 (Nat.le_of_ble_eq_true rfl) (Nat.le_of_ble_eq_true rfl)) (okk 16 92 (Nat.le_of_ble_eq_true rfl) (Nat.le_of_ble_eq_true rfl)) al (by decide +kernel) rfl tyX0 rfl rfl hw_0 tyX0_ok dvk_0 wk_110 (gw_t 67 (by decide +kernel) (by decide +kernel)) (gw_t 4 (by decide +kernel) (by decide +kernel)) rfl rfl dX5_init_39 ?_
  refine wp_nmR (v := 42) (by decide +kernel) ?_
  refine wp_nmH (v := zX5_init_11) rfl ?_
  refine wp_dup (okk 16 92 (Nat.le_of_ble_eq_true rfl) (Nat.le_of_ble_eq_true rfl)) dX5_init_42 rfl ?_
  refine wp_callI (h1 := zX5_init_12) (fy := 1) (mc := 6) (ms := 28) (okk 16 92 (Nat.le_of_ble_eq_true rfl) (Nat.le_of_ble_eq_true rfl)) (okk 22 120 (Nat.le_of_ble_eq_true rfl) (Nat.le_of_ble_eq_true rfl)) al ao (by decide +kernel) rfl (m_X0_init (k := 7) (by decide +kernel)) my_X0_init (Or.inr ⟨_, nestM_at 8 rfl⟩) (Nat.le_of_ble_eq_true rfl) rfl rfl (by decide +kernel) (Nat.le_of_ble_eq_true rfl) rfl rfl rfl dX5_init_43 ?_
  refine wp_aast (okk 22 120 (Nat.le_of_ble_eq_true rfl) (Nat.le_of_ble_eq_true rfl)) (show zX5_init_12.1[27]? = some (105, 15) from by decide +kernel) (show zX5_init_12.1[42]? = some (0, 7) from by decide +kernel) (ix_lit (by decide +kernel)) dX5_init_46 ?_
  refine wp_nmH (v := zX5_init_13) rfl ?_
  refine wp_iinc (v := 2) (w := 1) (L' := [(1, .int (3)), (0, .ref 26)]) (okk 22 120 (Nat.le_of_ble_eq_true rfl) (Nat.le_of_ble_eq_true rfl)) dX5_init_47 rfl (by decide) rfl (by decide +kernel) ?_
  refine wp_goto (tgt := 25) (okk 22 120 (Nat.le_of_ble_eq_true rfl) (Nat.le_of_ble_eq_true rfl)) dX5_init_50 (by decide) ?_
  refine wp_iload_n (v := 3) (okk 22 120 (Nat.le_of_ble_eq_true rfl) (Nat.le_of_ble_eq_true rfl)) dX5_init_25 rfl ?_
  refine wp_aload_n (v := 26) (okk 22 120 (Nat.le_of_ble_eq_true rfl) (Nat.le_of_ble_eq_true rfl)) dX5_init_26 rfl ?_
  refine wp_getR (b := 27) (okk 22 120 (Nat.le_of_ble_eq_true rfl) (Nat.le_of_ble_eq_true rfl)) fl_RX5_11 (show zX5_init_13.1[26]? = some (5, 3) from by decide +kernel) (by decide +kernel) dX5_init_27 ?_
  refine wp_alen105 (v := 15) (okk 22 120 (Nat.le_of_ble_eq_true rfl) (Nat.le_of_ble_eq_true rfl)) (show zX5_init_13.1[27]? = some (105, 15) from by decide +kernel) (by decide) dX5_init_30 ?_
  refine wp_icmp_ge (tgt := 53) (okk 22 120 (Nat.le_of_ble_eq_true rfl) (Nat.le_of_ble_eq_true rfl)) dX5_init_31 (by decide) (fun q => absurd q (by decide)) (fun _ => ?_)
  refine wp_aload_n (v := 26) (okk 22 120 (Nat.le_of_ble_eq_true rfl) (Nat.le_of_ble_eq_true rfl)) dX5_init_34 rfl ?_
  refine wp_getR (b := 27) (okk 22 120 (Nat.le_of_ble_eq_true rfl) (Nat.le_of_ble_eq_true rfl)) fl_RX5_11 (show zX5_init_13.1[26]? = some (5, 3) from by decide +kernel) (by decide +kernel) dX5_init_35 ?_
  refine wp_iload_n (v := 3) (okk 22 120 (Nat.le_of_ble_eq_true rfl) (Nat.le_of_ble_eq_true rfl)) dX5_init_38 rfl ?_
  refine wp_new (C := RX0) (T := TX0) (N := 7) (ci := 0) (k := 7) (okk 22 120 (Nat.le_of_ble_eq_true rfl) (Nat.le_of_ble_eq_true rfl)) (okk 23 127 (Nat.le_of_ble_eq_true rfl) (Nat.le_of_ble_eq_true rfl)) al (by decide +kernel) rfl tyX0 rfl rfl hw_0 tyX0_ok dvk_0 wk_110 (gw_t 67 (by decide +kernel) (by decide +kernel)) (gw_t 4 (by decide +kernel) (by decide +kernel)) rfl rfl dX5_init_39 ?_
  refine wp_nmR (v := 49) (by decide +kernel) ?_
  refine wp_nmH (v := zX5_init_14) rfl ?_
  refine wp_dup (okk 23 127 (Nat.le_of_ble_eq_true rfl) (Nat.le_of_ble_eq_true rfl)) dX5_init_42 rfl ?_
  refine wp_callI (h1 := zX5_init_15) (fy := 1) (mc := 6) (ms := 28) (okk 23 127 (Nat.le_of_ble_eq_true rfl) (Nat.le_of_ble_eq_true rfl)) (okk 29 155 (Nat.le_of_ble_eq_true rfl) (Nat.le_of_ble_eq_true rfl)) al ao (by decide +kernel) rfl (m_X0_init (k := 7) (by decide +kernel)) my_X0_init (Or.inr ⟨_, nestM_at 8 rfl⟩) (Nat.le_of_ble_eq_true rfl) rfl rfl (by decide +kernel) (Nat.le_of_ble_eq_true rfl) rfl rfl rfl dX5_init_43 ?_
  refine wp_aast (okk 29 155 (Nat.le_of_ble_eq_true rfl) (Nat.le_of_ble_eq_true rfl)) (show zX5_init_15.1[27]? = some (105, 15) from by decide +kernel) (show zX5_init_15.1[49]? = some (0, 7) from by decide +kernel) (ix_lit (by decide +kernel)) dX5_init_46 ?_
  refine wp_nmH (v := zX5_init_16) rfl ?_
  refine wp_iinc (v := 3) (w := 1) (L' := [(1, .int (4)), (0, .ref 26)]) (okk 29 155 (Nat.le_of_ble_eq_true rfl) (Nat.le_of_ble_eq_true rfl)) dX5_init_47 rfl (by decide) rfl (by decide +kernel) ?_
  refine wp_goto (tgt := 25) (okk 29 155 (Nat.le_of_ble_eq_true rfl) (Nat.le_of_ble_eq_true rfl)) dX5_init_50 (by decide) ?_
  refine wp_iload_n (v := 4) (okk 29 155 (Nat.le_of_ble_eq_true rfl) (Nat.le_of_ble_eq_true rfl)) dX5_init_25 rfl ?_
  refine wp_aload_n (v := 26) (okk 29 155 (Nat.le_of_ble_eq_true rfl) (Nat.le_of_ble_eq_true rfl)) dX5_init_26 rfl ?_
  refine wp_getR (b := 27) (okk 29 155 (Nat.le_of_ble_eq_true rfl) (Nat.le_of_ble_eq_true rfl)) fl_RX5_11 (show zX5_init_16.1[26]? = some (5, 3) from by decide +kernel) (by decide +kernel) dX5_init_27 ?_
  refine wp_alen105 (v := 15) (okk 29 155 (Nat.le_of_ble_eq_true rfl) (Nat.le_of_ble_eq_true rfl)) (show zX5_init_16.1[27]? = some (105, 15) from by decide +kernel) (by decide) dX5_init_30 ?_
  refine wp_icmp_ge (tgt := 53) (okk 29 155 (Nat.le_of_ble_eq_true rfl) (Nat.le_of_ble_eq_true rfl)) dX5_init_31 (by decide) (fun q => absurd q (by decide)) (fun _ => ?_)
  refine wp_aload_n (v := 26) (okk 29 155 (Nat.le_of_ble_eq_true rfl) (Nat.le_of_ble_eq_true rfl)) dX5_init_34 rfl ?_
  refine wp_getR (b := 27) (okk 29 155 (Nat.le_of_ble_eq_true rfl) (Nat.le_of_ble_eq_true rfl)) fl_RX5_11 (show zX5_init_16.1[26]? = some (5, 3) from by decide +kernel) (by decide +kernel) dX5_init_35 ?_
  refine wp_iload_n (v := 4) (okk 29 155 (Nat.le_of_ble_eq_true rfl) (Nat.le_of_ble_eq_true rfl)) dX5_init_38 rfl ?_
  refine wp_new (C := RX0) (T := TX0) (N := 7) (ci := 0) (k := 7) (okk 29 155 (Nat.le_of_ble_eq_true rfl) (Nat.le_of_ble_eq_true rfl)) (okk 30 162 (Nat.le_of_ble_eq_true rfl) (Nat.le_of_ble_eq_true rfl)) al (by decide +kernel) rfl tyX0 rfl rfl hw_0 tyX0_ok dvk_0 wk_110 (gw_t 67 (by decide +kernel) (by decide +kernel)) (gw_t 4 (by decide +kernel) (by decide +kernel)) rfl rfl dX5_init_39 ?_
  refine wp_nmR (v := 56) (by decide +kernel) ?_
  refine wp_nmH (v := zX5_init_17) rfl ?_
  refine wp_dup (okk 30 162 (Nat.le_of_ble_eq_true rfl) (Nat.le_of_ble_eq_true rfl)) dX5_init_42 rfl ?_
  refine wp_callI (h1 := zX5_init_18) (fy := 1) (mc := 6) (ms := 28) (okk 30 162 (Nat.le_of_ble_eq_true rfl) (Nat.le_of_ble_eq_true rfl)) (okk 36 190 (Nat.le_of_ble_eq_true rfl) (Nat.le_of_ble_eq_true rfl)) al ao (by decide +kernel) rfl (m_X0_init (k := 7) (by decide +kernel)) my_X0_init (Or.inr ⟨_, nestM_at 8 rfl⟩) (Nat.le_of_ble_eq_true rfl) rfl rfl (by decide +kernel) (Nat.le_of_ble_eq_true rfl) rfl rfl rfl dX5_init_43 ?_
  refine wp_aast (okk 36 190 (Nat.le_of_ble_eq_true rfl) (Nat.le_of_ble_eq_true rfl)) (show zX5_init_18.1[27]? = some (105, 15) from by decide +kernel) (show zX5_init_18.1[56]? = some (0, 7) from by decide +kernel) (ix_lit (by decide +kernel)) dX5_init_46 ?_
  refine wp_nmH (v := zX5_init_19) rfl ?_
  refine wp_iinc (v := 4) (w := 1) (L' := [(1, .int (5)), (0, .ref 26)]) (okk 36 190 (Nat.le_of_ble_eq_true rfl) (Nat.le_of_ble_eq_true rfl)) dX5_init_47 rfl (by decide) rfl (by decide +kernel) ?_
  refine wp_goto (tgt := 25) (okk 36 190 (Nat.le_of_ble_eq_true rfl) (Nat.le_of_ble_eq_true rfl)) dX5_init_50 (by decide) ?_
  refine wp_iload_n (v := 5) (okk 36 190 (Nat.le_of_ble_eq_true rfl) (Nat.le_of_ble_eq_true rfl)) dX5_init_25 rfl ?_
  refine wp_aload_n (v := 26) (okk 36 190 (Nat.le_of_ble_eq_true rfl) (Nat.le_of_ble_eq_true rfl)) dX5_init_26 rfl ?_
  refine wp_getR (b := 27) (okk 36 190 (Nat.le_of_ble_eq_true rfl) (Nat.le_of_ble_eq_true rfl)) fl_RX5_11 (show zX5_init_19.1[26]? = some (5, 3) from by decide +kernel) (by decide +kernel) dX5_init_27 ?_
  refine wp_alen105 (v := 15) (okk 36 190 (Nat.le_of_ble_eq_true rfl) (Nat.le_of_ble_eq_true rfl)) (show zX5_init_19.1[27]? = some (105, 15) from by decide +kernel) (by decide) dX5_init_30 ?_
  refine wp_icmp_ge (tgt := 53) (okk 36 190 (Nat.le_of_ble_eq_true rfl) (Nat.le_of_ble_eq_true rfl)) dX5_init_31 (by decide) (fun q => absurd q (by decide)) (fun _ => ?_)
  refine wp_aload_n (v := 26) (okk 36 190 (Nat.le_of_ble_eq_true rfl) (Nat.le_of_ble_eq_true rfl)) dX5_init_34 rfl ?_
  refine wp_getR (b := 27) (okk 36 190 (Nat.le_of_ble_eq_true rfl) (Nat.le_of_ble_eq_true rfl)) fl_RX5_11 (show zX5_init_19.1[26]? = some (5, 3) from by decide +kernel) (by decide +kernel) dX5_init_35 ?_
  refine wp_iload_n (v := 5) (okk 36 190 (Nat.le_of_ble_eq_true rfl) (Nat.le_of_ble_eq_true rfl)) dX5_init_38 rfl ?_
  refine wp_new (C := RX0) (T := TX0) (N := 7) (ci := 0) (k := 7) (okk 36 190 (Nat.le_of_ble_eq_true rfl) (Nat.le_of_ble_eq_true rfl)) (okk 37 197 (Nat.le_of_ble_eq_true rfl) (Nat.le_of_ble_eq_true rfl)) al (by decide +kernel) rfl tyX0 rfl rfl hw_0 tyX0_ok dvk_0 wk_110 (gw_t 67 (by decide +kernel) (by decide +kernel)) (gw_t 4 (by decide +kernel) (by decide +kernel)) rfl rfl dX5_init_39 ?_
  refine wp_nmR (v := 63) (by decide +kernel) ?_
  refine wp_nmH (v := zX5_init_20) rfl ?_
  refine wp_dup (okk 37 197 (Nat.le_of_ble_eq_true rfl) (Nat.le_of_ble_eq_true rfl)) dX5_init_42 rfl ?_
  refine wp_callI (h1 := zX5_init_21) (fy := 1) (mc := 6) (ms := 28) (okk 37 197 (Nat.le_of_ble_eq_true rfl) (Nat.le_of_ble_eq_true rfl)) (okk 43 225 (Nat.le_of_ble_eq_true rfl) (Nat.le_of_ble_eq_true rfl)) al ao (by decide +kernel) rfl (m_X0_init (k := 7) (by decide +kernel)) my_X0_init (Or.inr ⟨_, nestM_at 8 rfl⟩) (Nat.le_of_ble_eq_true rfl) rfl rfl (by decide +kernel) (Nat.le_of_ble_eq_true rfl) rfl rfl rfl dX5_init_43 ?_
  refine wp_aast (okk 43 225 (Nat.le_of_ble_eq_true rfl) (Nat.le_of_ble_eq_true rfl)) (show zX5_init_21.1[27]? = some (105, 15) from by decide +kernel) (show zX5_init_21.1[63]? = some (0, 7) from by decide +kernel) (ix_lit (by decide +kernel)) dX5_init_46 ?_
  refine wp_nmH (v := zX5_init_22) rfl ?_
  refine wp_iinc (v := 5) (w := 1) (L' := [(1, .int (6)), (0, .ref 26)]) (okk 43 225 (Nat.le_of_ble_eq_true rfl) (Nat.le_of_ble_eq_true rfl)) dX5_init_47 rfl (by decide) rfl (by decide +kernel) ?_
  refine wp_goto (tgt := 25) (okk 43 225 (Nat.le_of_ble_eq_true rfl) (Nat.le_of_ble_eq_true rfl)) dX5_init_50 (by decide) ?_
  refine wp_iload_n (v := 6) (okk 43 225 (Nat.le_of_ble_eq_true rfl) (Nat.le_of_ble_eq_true rfl)) dX5_init_25 rfl ?_
  refine wp_aload_n (v := 26) (okk 43 225 (Nat.le_of_ble_eq_true rfl) (Nat.le_of_ble_eq_true rfl)) dX5_init_26 rfl ?_
  refine wp_getR (b := 27) (okk 43 225 (Nat.le_of_ble_eq_true rfl) (Nat.le_of_ble_eq_true rfl)) fl_RX5_11 (show zX5_init_22.1[26]? = some (5, 3) from by decide +kernel) (by decide +kernel) dX5_init_27 ?_
  refine wp_alen105 (v := 15) (okk 43 225 (Nat.le_of_ble_eq_true rfl) (Nat.le_of_ble_eq_true rfl)) (show zX5_init_22.1[27]? = some (105, 15) from by decide +kernel) (by decide) dX5_init_30 ?_
  refine wp_icmp_ge (tgt := 53) (okk 43 225 (Nat.le_of_ble_eq_true rfl) (Nat.le_of_ble_eq_true rfl)) dX5_init_31 (by decide) (fun q => absurd q (by decide)) (fun _ => ?_)
  refine wp_aload_n (v := 26) (okk 43 225 (Nat.le_of_ble_eq_true rfl) (Nat.le_of_ble_eq_true rfl)) dX5_init_34 rfl ?_
  refine wp_getR (b := 27) (okk 43 225 (Nat.le_of_ble_eq_true rfl) (Nat.le_of_ble_eq_true rfl)) fl_RX5_11 (show zX5_init_22.1[26]? = some (5, 3) from by decide +kernel) (by decide +kernel) dX5_init_35 ?_
  refine wp_iload_n (v := 6) (okk 43 225 (Nat.le_of_ble_eq_true rfl) (Nat.le_of_ble_eq_true rfl)) dX5_init_38 rfl ?_
  refine wp_new (C := RX0) (T := TX0) (N := 7) (ci := 0) (k := 7) (okk 43 225 (Nat.le_of_ble_eq_true rfl) (Nat.le_of_ble_eq_true rfl)) (okk 44 232 (Nat.le_of_ble_eq_true rfl) (Nat.le_of_ble_eq_true rfl)) al (by decide +kernel) rfl tyX0 rfl rfl hw_0 tyX0_ok dvk_0 wk_110 (gw_t 67 (by decide +kernel) (by decide +kernel)) (gw_t 4 (by decide +kernel) (by decide +kernel)) rfl rfl dX5_init_39 ?_
  refine wp_nmR (v := 70) (by decide +kernel) ?_
  refine wp_nmH (v := zX5_init_23) rfl ?_
  refine wp_dup (okk 44 232 (Nat.le_of_ble_eq_true rfl) (Nat.le_of_ble_eq_true rfl)) dX5_init_42 rfl ?_
  refine wp_callI (h1 := zX5_init_24) (fy := 1) (mc := 6) (ms := 28) (okk 44 232 (Nat.le_of_ble_eq_true rfl) (Nat.le_of_ble_eq_true rfl)) (okk 50 260 (Nat.le_of_ble_eq_true rfl) (Nat.le_of_ble_eq_true rfl)) al ao (by decide +kernel) rfl (m_X0_init (k := 7) (by decide +kernel)) my_X0_init (Or.inr ⟨_, nestM_at 8 rfl⟩) (Nat.le_of_ble_eq_true rfl) rfl rfl (by decide +kernel) (Nat.le_of_ble_eq_true rfl) rfl rfl rfl dX5_init_43 ?_
  refine wp_aast (okk 50 260 (Nat.le_of_ble_eq_true rfl) (Nat.le_of_ble_eq_true rfl)) (show zX5_init_24.1[27]? = some (105, 15) from by decide +kernel) (show zX5_init_24.1[70]? = some (0, 7) from by decide +kernel) (ix_lit (by decide +kernel)) dX5_init_46 ?_
  refine wp_nmH (v := zX5_init_25) rfl ?_
  refine wp_iinc (v := 6) (w := 1) (L' := [(1, .int (7)), (0, .ref 26)]) (okk 50 260 (Nat.le_of_ble_eq_true rfl) (Nat.le_of_ble_eq_true rfl)) dX5_init_47 rfl (by decide) rfl (by decide +kernel) ?_
  refine wp_goto (tgt := 25) (okk 50 260 (Nat.le_of_ble_eq_true rfl) (Nat.le_of_ble_eq_true rfl)) dX5_init_50 (by decide) ?_
  refine wp_iload_n (v := 7) (okk 50 260 (Nat.le_of_ble_eq_true rfl) (Nat.le_of_ble_eq_true rfl)) dX5_init_25 rfl ?_
  refine wp_aload_n (v := 26) (okk 50 260 (Nat.le_of_ble_eq_true rfl) (Nat.le_of_ble_eq_true rfl)) dX5_init_26 rfl ?_
  refine wp_getR (b := 27) (okk 50 260 (Nat.le_of_ble_eq_true rfl) (Nat.le_of_ble_eq_true rfl)) fl_RX5_11 (show zX5_init_25.1[26]? = some (5, 3) from by decide +kernel) (by decide +kernel) dX5_init_27 ?_
  refine wp_alen105 (v := 15) (okk 50 260 (Nat.le_of_ble_eq_true rfl) (Nat.le_of_ble_eq_true rfl)) (show zX5_init_25.1[27]? = some (105, 15) from by decide +kernel) (by decide) dX5_init_30 ?_
  refine wp_icmp_ge (tgt := 53) (okk 50 260 (Nat.le_of_ble_eq_true rfl) (Nat.le_of_ble_eq_true rfl)) dX5_init_31 (by decide) (fun q => absurd q (by decide)) (fun _ => ?_)
  refine wp_aload_n (v := 26) (okk 50 260 (Nat.le_of_ble_eq_true rfl) (Nat.le_of_ble_eq_true rfl)) dX5_init_34 rfl ?_
  refine wp_getR (b := 27) (okk 50 260 (Nat.le_of_ble_eq_true rfl) (Nat.le_of_ble_eq_true rfl)) fl_RX5_11 (show zX5_init_25.1[26]? = some (5, 3) from by decide +kernel) (by decide +kernel) dX5_init_35 ?_
  refine wp_iload_n (v := 7) (okk 50 260 (Nat.le_of_ble_eq_true rfl) (Nat.le_of_ble_eq_true rfl)) dX5_init_38 rfl ?_
  refine wp_new (C := RX0) (T := TX0) (N := 7) (ci := 0) (k := 7) (okk 50 260 (Nat.le_of_ble_eq_true rfl) (Nat.le_of_ble_eq_true rfl)) (okk 51 267 (Nat.le_of_ble_eq_true rfl) (Nat.le_of_ble_eq_true rfl)) al (by decide +kernel) rfl tyX0 rfl rfl hw_0 tyX0_ok dvk_0 wk_110 (gw_t 67 (by decide +kernel) (by decide +kernel)) (gw_t 4 (by decide +kernel) (by decide +kernel)) rfl rfl dX5_init_39 ?_
  refine wp_nmR (v := 77) (by decide +kernel) ?_
  refine wp_nmH (v := zX5_init_26) rfl ?_
  refine wp_dup (okk 51 267 (Nat.le_of_ble_eq_true rfl) (Nat.le_of_ble_eq_true rfl)) dX5_init_42 rfl ?_
  refine wp_callI (h1 := zX5_init_27) (fy := 1) (mc := 6) (ms := 28) (okk 51 267 (Nat.le_of_ble_eq_true rfl) (Nat.le_of_ble_eq_true rfl)) (okk 57 295 (Nat.le_of_ble_eq_true rfl) (Nat.le_of_ble_eq_true rfl)) al ao (by decide +kernel) rfl (m_X0_init (k := 7) (by decide +kernel)) my_X0_init (Or.inr ⟨_, nestM_at 8 rfl⟩) (Nat.le_of_ble_eq_true rfl) rfl rfl (by decide +kernel) (Nat.le_of_ble_eq_true rfl) rfl rfl rfl dX5_init_43 ?_
  refine wp_aast (okk 57 295 (Nat.le_of_ble_eq_true rfl) (Nat.le_of_ble_eq_true rfl)) (show zX5_init_27.1[27]? = some (105, 15) from by decide +kernel) (show zX5_init_27.1[77]? = some (0, 7) from by decide +kernel) (ix_lit (by decide +kernel)) dX5_init_46 ?_
  refine wp_nmH (v := zX5_init_28) rfl ?_
  refine wp_iinc (v := 7) (w := 1) (L' := [(1, .int (8)), (0, .ref 26)]) (okk 57 295 (Nat.le_of_ble_eq_true rfl) (Nat.le_of_ble_eq_true rfl)) dX5_init_47 rfl (by decide) rfl (by decide +kernel) ?_
  refine wp_goto (tgt := 25) (okk 57 295 (Nat.le_of_ble_eq_true rfl) (Nat.le_of_ble_eq_true rfl)) dX5_init_50 (by decide) ?_
  refine wp_iload_n (v := 8) (okk 57 295 (Nat.le_of_ble_eq_true rfl) (Nat.le_of_ble_eq_true rfl)) dX5_init_25 rfl ?_
  refine wp_aload_n (v := 26) (okk 57 295 (Nat.le_of_ble_eq_true rfl) (Nat.le_of_ble_eq_true rfl)) dX5_init_26 rfl ?_
  refine wp_getR (b := 27) (okk 57 295 (Nat.le_of_ble_eq_true rfl) (Nat.le_of_ble_eq_true rfl)) fl_RX5_11 (show zX5_init_28.1[26]? = some (5, 3) from by decide +kernel) (by decide +kernel) dX5_init_27 ?_
  refine wp_alen105 (v := 15) (okk 57 295 (Nat.le_of_ble_eq_true rfl) (Nat.le_of_ble_eq_true rfl)) (show zX5_init_28.1[27]? = some (105, 15) from by decide +kernel) (by decide) dX5_init_30 ?_
  refine wp_icmp_ge (tgt := 53) (okk 57 295 (Nat.le_of_ble_eq_true rfl) (Nat.le_of_ble_eq_true rfl)) dX5_init_31 (by decide) (fun q => absurd q (by decide)) (fun _ => ?_)
  refine wp_aload_n (v := 26) (okk 57 295 (Nat.le_of_ble_eq_true rfl) (Nat.le_of_ble_eq_true rfl)) dX5_init_34 rfl ?_
  refine wp_getR (b := 27) (okk 57 295 (Nat.le_of_ble_eq_true rfl) (Nat.le_of_ble_eq_true rfl)) fl_RX5_11 (show zX5_init_28.1[26]? = some (5, 3) from by decide +kernel) (by decide +kernel) dX5_init_35 ?_
  refine wp_iload_n (v := 8) (okk 57 295 (Nat.le_of_ble_eq_true rfl) (Nat.le_of_ble_eq_true rfl)) dX5_init_38 rfl ?_
  refine wp_new (C := RX0) (T := TX0) (N := 7) (ci := 0) (k := 7) (okk 57 295 (Nat.le_of_ble_eq_true rfl) (Nat.le_of_ble_eq_true rfl)) (okk 58 302 (Nat.le_of_ble_eq_true rfl) (Nat.le_of_ble_eq_true rfl)) al (by decide +kernel) rfl tyX0 rfl rfl hw_0 tyX0_ok dvk_0 wk_110 (gw_t 67 (by decide +kernel) (by decide +kernel)) (gw_t 4 (by decide +kernel) (by decide +kernel)) rfl rfl dX5_init_39 ?_
  refine wp_nmR (v := 84) (by decide +kernel) ?_
  refine wp_nmH (v := zX5_init_29) rfl ?_
  refine wp_dup (okk 58 302 (Nat.le_of_ble_eq_true rfl) (Nat.le_of_ble_eq_true rfl)) dX5_init_42 rfl ?_
  refine wp_callI (h1 := zX5_init_30) (fy := 1) (mc := 6) (ms := 28) (okk 58 302 (Nat.le_of_ble_eq_true rfl) (Nat.le_of_ble_eq_true rfl)) (okk 64 330 (Nat.le_of_ble_eq_true rfl) (Nat.le_of_ble_eq_true rfl)) al ao (by decide +kernel) rfl (m_X0_init (k := 7) (by decide +kernel)) my_X0_init (Or.inr ⟨_, nestM_at 8 rfl⟩) (Nat.le_of_ble_eq_true rfl) rfl rfl (by decide +kernel) (Nat.le_of_ble_eq_true rfl) rfl rfl rfl dX5_init_43 ?_
  refine wp_aast (okk 64 330 (Nat.le_of_ble_eq_true rfl) (Nat.le_of_ble_eq_true rfl)) (show zX5_init_30.1[27]? = some (105, 15) from by decide +kernel) (show zX5_init_30.1[84]? = some (0, 7) from by decide +kernel) (ix_lit (by decide +kernel)) dX5_init_46 ?_
  refine wp_nmH (v := zX5_init_31) rfl ?_
  refine wp_iinc (v := 8) (w := 1) (L' := [(1, .int (9)), (0, .ref 26)]) (okk 64 330 (Nat.le_of_ble_eq_true rfl) (Nat.le_of_ble_eq_true rfl)) dX5_init_47 rfl (by decide) rfl (by decide +kernel) ?_
  refine wp_goto (tgt := 25) (okk 64 330 (Nat.le_of_ble_eq_true rfl) (Nat.le_of_ble_eq_true rfl)) dX5_init_50 (by decide) ?_
  refine wp_iload_n (v := 9) (okk 64 330 (Nat.le_of_ble_eq_true rfl) (Nat.le_of_ble_eq_true rfl)) dX5_init_25 rfl ?_
  refine wp_aload_n (v := 26) (okk 64 330 (Nat.le_of_ble_eq_true rfl) (Nat.le_of_ble_eq_true rfl)) dX5_init_26 rfl ?_
  refine wp_getR (b := 27) (okk 64 330 (Nat.le_of_ble_eq_true rfl) (Nat.le_of_ble_eq_true rfl)) fl_RX5_11 (show zX5_init_31.1[26]? = some (5, 3) from by decide +kernel) (by decide +kernel) dX5_init_27 ?_
  refine wp_alen105 (v := 15) (okk 64 330 (Nat.le_of_ble_eq_true rfl) (Nat.le_of_ble_eq_true rfl)) (show zX5_init_31.1[27]? = some (105, 15) from by decide +kernel) (by decide) dX5_init_30 ?_
  refine wp_icmp_ge (tgt := 53) (okk 64 330 (Nat.le_of_ble_eq_true rfl) (Nat.le_of_ble_eq_true rfl)) dX5_init_31 (by decide) (fun q => absurd q (by decide)) (fun _ => ?_)
  refine wp_aload_n (v := 26) (okk 64 330 (Nat.le_of_ble_eq_true rfl) (Nat.le_of_ble_eq_true rfl)) dX5_init_34 rfl ?_
  refine wp_getR (b := 27) (okk 64 330 (Nat.le_of_ble_eq_true rfl) (Nat.le_of_ble_eq_true rfl)) fl_RX5_11 (show zX5_init_31.1[26]? = some (5, 3) from by decide +kernel) (by decide +kernel) dX5_init_35 ?_
  refine wp_iload_n (v := 9) (okk 64 330 (Nat.le_of_ble_eq_true rfl) (Nat.le_of_ble_eq_true rfl)) dX5_init_38 rfl ?_
  refine wp_new (C := RX0) (T := TX0) (N := 7) (ci := 0) (k := 7) (okk 64 330 (Nat.le_of_ble_eq_true rfl) (Nat.le_of_ble_eq_true rfl)) (okk 65 337 (Nat.le_of_ble_eq_true rfl) (Nat.le_of_ble_eq_true rfl)) al (by decide +kernel) rfl tyX0 rfl rfl hw_0 tyX0_ok dvk_0 wk_110 (gw_t 67 (by decide +kernel) (by decide +kernel)) (gw_t 4 (by decide +kernel) (by decide +kernel)) rfl rfl dX5_init_39 ?_
  refine wp_nmR (v := 91) (by decide +kernel) ?_
  refine wp_nmH (v := zX5_init_32) rfl ?_
  refine wp_dup (okk 65 337 (Nat.le_of_ble_eq_true rfl) (Nat.le_of_ble_eq_true rfl)) dX5_init_42 rfl ?_
  refine wp_callI (h1 := zX5_init_33) (fy := 1) (mc := 6) (ms := 28) (okk 65 337 (Nat.le_of_ble_eq_true rfl) (Nat.le_of_ble_eq_true rfl)) (okk 71 365 (Nat.le_of_ble_eq_true rfl) (Nat.le_of_ble_eq_true rfl)) al ao (by decide +kernel) rfl (m_X0_init (k := 7) (by decide +kernel)) my_X0_init (Or.inr ⟨_, nestM_at 8 rfl⟩) (Nat.le_of_ble_eq_true rfl) rfl rfl (by decide +kernel) (Nat.le_of_ble_eq_true rfl) rfl rfl rfl dX5_init_43 ?_
  refine wp_aast (okk 71 365 (Nat.le_of_ble_eq_true rfl) (Nat.le_of_ble_eq_true rfl)) (show zX5_init_33.1[27]? = some (105, 15) from by decide +kernel) (show zX5_init_33.1[91]? = some (0, 7) from by decide +kernel) (ix_lit (by decide +kernel)) dX5_init_46 ?_
  refine wp_nmH (v := zX5_init_34) rfl ?_
  refine wp_iinc (v := 9) (w := 1) (L' := [(1, .int (10)), (0, .ref 26)]) (okk 71 365 (Nat.le_of_ble_eq_true rfl) (Nat.le_of_ble_eq_true rfl)) dX5_init_47 rfl (by decide) rfl (by decide +kernel) ?_
  refine wp_goto (tgt := 25) (okk 71 365 (Nat.le_of_ble_eq_true rfl) (Nat.le_of_ble_eq_true rfl)) dX5_init_50 (by decide) ?_
  refine wp_iload_n (v := 10) (okk 71 365 (Nat.le_of_ble_eq_true rfl) (Nat.le_of_ble_eq_true rfl)) dX5_init_25 rfl ?_
  refine wp_aload_n (v := 26) (okk 71 365 (Nat.le_of_ble_eq_true rfl) (Nat.le_of_ble_eq_true rfl)) dX5_init_26 rfl ?_
  refine wp_getR (b := 27) (okk 71 365 (Nat.le_of_ble_eq_true rfl) (Nat.le_of_ble_eq_true rfl)) fl_RX5_11 (show zX5_init_34.1[26]? = some (5, 3) from by decide +kernel) (by decide +kernel) dX5_init_27 ?_
  refine wp_alen105 (v := 15) (okk 71 365 (Nat.le_of_ble_eq_true rfl) (Nat.le_of_ble_eq_true rfl)) (show zX5_init_34.1[27]? = some (105, 15) from by decide +kernel) (by decide) dX5_init_30 ?_
  refine wp_icmp_ge (tgt := 53) (okk 71 365 (Nat.le_of_ble_eq_true rfl) (Nat.le_of_ble_eq_true rfl)) dX5_init_31 (by decide) (fun q => absurd q (by decide)) (fun _ => ?_)
  refine wp_aload_n (v := 26) (okk 71 365 (Nat.le_of_ble_eq_true rfl) (Nat.le_of_ble_eq_true rfl)) dX5_init_34 rfl ?_
  refine wp_getR (b := 27) (okk 71 365 (Nat.le_of_ble_eq_true rfl) (Nat.le_of_ble_eq_true rfl)) fl_RX5_11 (show zX5_init_34.1[26]? = some (5, 3) from by decide +kernel) (by decide +kernel) dX5_init_35 ?_
  refine wp_iload_n (v := 10) (okk 71 365 (Nat.le_of_ble_eq_true rfl) (Nat.le_of_ble_eq_true rfl)) dX5_init_38 rfl ?_
  refine wp_new (C := RX0) (T := TX0) (N := 7) (ci := 0) (k := 7) (okk 71 365 (Nat.le_of_ble_eq_true rfl) (Nat.le_of_ble_eq_true rfl)) (okk 72 372 (Nat.le_of_ble_eq_true rfl) (Nat.le_of_ble_eq_true rfl)) al (by decide +kernel) rfl tyX0 rfl rfl hw_0 tyX0_ok dvk_0 wk_110 (gw_t 67 (by decide +kernel) (by decide +kernel)) (gw_t 4 (by decide +kernel) (by decide +kernel)) rfl rfl dX5_init_39 ?_
  refine wp_nmR (v := 98) (by decide +kernel) ?_
  refine wp_nmH (v := zX5_init_35) rfl ?_
  refine wp_dup (okk 72 372 (Nat.le_of_ble_eq_true rfl) (Nat.le_of_ble_eq_true rfl)) dX5_init_42 rfl ?_
  refine wp_callI (h1 := zX5_init_36) (fy := 1) (mc := 6) (ms := 28) (okk 72 372 (Nat.le_of_ble_eq_true rfl) (Nat.le_of_ble_eq_true rfl)) (okk 78 400 (Nat.le_of_ble_eq_true rfl) (Nat.le_of_ble_eq_true rfl)) al ao (by decide +kernel) rfl (m_X0_init (k := 7) (by decide +kernel)) my_X0_init (Or.inr ⟨_, nestM_at 8 rfl⟩) (Nat.le_of_ble_eq_true rfl) rfl rfl (by decide +kernel) (Nat.le_of_ble_eq_true rfl) rfl rfl rfl dX5_init_43 ?_
  refine wp_aast (okk 78 400 (Nat.le_of_ble_eq_true rfl) (Nat.le_of_ble_eq_true rfl)) (show zX5_init_36.1[27]? = some (105, 15) from by decide +kernel) (show zX5_init_36.1[98]? = some (0, 7) from by decide +kernel) (ix_lit (by decide +kernel)) dX5_init_46 ?_
  refine wp_nmH (v := zX5_init_37) rfl ?_
  refine wp_iinc (v := 10) (w := 1) (L' := [(1, .int (11)), (0, .ref 26)]) (okk 78 400 (Nat.le_of_ble_eq_true rfl) (Nat.le_of_ble_eq_true rfl)) dX5_init_47 rfl (by decide) rfl (by decide +kernel) ?_
  refine wp_goto (tgt := 25) (okk 78 400 (Nat.le_of_ble_eq_true rfl) (Nat.le_of_ble_eq_true rfl)) dX5_init_50 (by decide) ?_
  refine wp_iload_n (v := 11) (okk 78 400 (Nat.le_of_ble_eq_true rfl) (Nat.le_of_ble_eq_true rfl)) dX5_init_25 rfl ?_
  refine wp_aload_n (v := 26) (okk 78 400 (Nat.le_of_ble_eq_true rfl) (Nat.le_of_ble_eq_true rfl)) dX5_init_26 rfl ?_
  refine wp_getR (b := 27) (okk 78 400 (Nat.le_of_ble_eq_true rfl) (Nat.le_of_ble_eq_true rfl)) fl_RX5_11 (show zX5_init_37.1[26]? = some (5, 3) from by decide +kernel) (by decide +kernel) dX5_init_27 ?_
  refine wp_alen105 (v := 15) (okk 78 400 (Nat.le_of_ble_eq_true rfl) (Nat.le_of_ble_eq_true rfl)) (show zX5_init_37.1[27]? = some (105, 15) from by decide +kernel) (by decide) dX5_init_30 ?_
  refine wp_icmp_ge (tgt := 53) (okk 78 400 (Nat.le_of_ble_eq_true rfl) (Nat.le_of_ble_eq_true rfl)) dX5_init_31 (by decide) (fun q => absurd q (by decide)) (fun _ => ?_)
  refine wp_aload_n (v := 26) (okk 78 400 (Nat.le_of_ble_eq_true rfl) (Nat.le_of_ble_eq_true rfl)) dX5_init_34 rfl ?_
  refine wp_getR (b := 27) (okk 78 400 (Nat.le_of_ble_eq_true rfl) (Nat.le_of_ble_eq_true rfl)) fl_RX5_11 (show zX5_init_37.1[26]? = some (5, 3) from by decide +kernel) (by decide +kernel) dX5_init_35 ?_
  refine wp_iload_n (v := 11) (okk 78 400 (Nat.le_of_ble_eq_true rfl) (Nat.le_of_ble_eq_true rfl)) dX5_init_38 rfl ?_
  refine wp_new (C := RX0) (T := TX0) (N := 7) (ci := 0) (k := 7) (okk 78 400 (Nat.le_of_ble_eq_true rfl) (Nat.le_of_ble_eq_true rfl)) (okk 79 407 (Nat.le_of_ble_eq_true rfl) (Nat.le_of_ble_eq_true rfl)) al (by decide +kernel) rfl tyX0 rfl rfl hw_0 tyX0_ok dvk_0 wk_110 (gw_t 67 (by decide +kernel) (by decide +kernel)) (gw_t 4 (by decide +kernel) (by decide +kernel)) rfl rfl dX5_init_39 ?_
  refine wp_nmR (v := 105) (by decide +kernel) ?_
  refine wp_nmH (v := zX5_init_38) rfl ?_
  refine wp_dup (okk 79 407 (Nat.le_of_ble_eq_true rfl) (Nat.le_of_ble_eq_true rfl)) dX5_init_42 rfl ?_
  refine wp_callI (h1 := zX5_init_39) (fy := 1) (mc := 6) (ms := 28) (okk 79 407 (Nat.le_of_ble_eq_true rfl) (Nat.le_of_ble_eq_true rfl)) (okk 85 435 (Nat.le_of_ble_eq_true rfl) (Nat.le_of_ble_eq_true rfl)) al ao (by decide +kernel) rfl (m_X0_init (k := 7) (by decide +kernel)) my_X0_init (Or.inr ⟨_, nestM_at 8 rfl⟩) (Nat.le_of_ble_eq_true rfl) rfl rfl (by decide +kernel) (Nat.le_of_ble_eq_true rfl) rfl rfl rfl dX5_init_43 ?_
  refine wp_aast (okk 85 435 (Nat.le_of_ble_eq_true rfl) (Nat.le_of_ble_eq_true rfl)) (show zX5_init_39.1[27]? = some (105, 15) from by decide +kernel) (show zX5_init_39.1[105]? = some (0, 7) from by decide +kernel) (ix_lit (by decide +kernel)) dX5_init_46 ?_
  refine wp_nmH (v := zX5_init_40) rfl ?_
  refine wp_iinc (v := 11) (w := 1) (L' := [(1, .int (12)), (0, .ref 26)]) (okk 85 435 (Nat.le_of_ble_eq_true rfl) (Nat.le_of_ble_eq_true rfl)) dX5_init_47 rfl (by decide) rfl (by decide +kernel) ?_
  refine wp_goto (tgt := 25) (okk 85 435 (Nat.le_of_ble_eq_true rfl) (Nat.le_of_ble_eq_true rfl)) dX5_init_50 (by decide) ?_
  refine wp_iload_n (v := 12) (okk 85 435 (Nat.le_of_ble_eq_true rfl) (Nat.le_of_ble_eq_true rfl)) dX5_init_25 rfl ?_
  refine wp_aload_n (v := 26) (okk 85 435 (Nat.le_of_ble_eq_true rfl) (Nat.le_of_ble_eq_true rfl)) dX5_init_26 rfl ?_
  refine wp_getR (b := 27) (okk 85 435 (Nat.le_of_ble_eq_true rfl) (Nat.le_of_ble_eq_true rfl)) fl_RX5_11 (show zX5_init_40.1[26]? = some (5, 3) from by decide +kernel) (by decide +kernel) dX5_init_27 ?_
  refine wp_alen105 (v := 15) (okk 85 435 (Nat.le_of_ble_eq_true rfl) (Nat.le_of_ble_eq_true rfl)) (show zX5_init_40.1[27]? = some (105, 15) from by decide +kernel) (by decide) dX5_init_30 ?_
  refine wp_icmp_ge (tgt := 53) (okk 85 435 (Nat.le_of_ble_eq_true rfl) (Nat.le_of_ble_eq_true rfl)) dX5_init_31 (by decide) (fun q => absurd q (by decide)) (fun _ => ?_)
  refine wp_aload_n (v := 26) (okk 85 435 (Nat.le_of_ble_eq_true rfl) (Nat.le_of_ble_eq_true rfl)) dX5_init_34 rfl ?_
  refine wp_getR (b := 27) (okk 85 435 (Nat.le_of_ble_eq_true rfl) (Nat.le_of_ble_eq_true rfl)) fl_RX5_11 (show zX5_init_40.1[26]? = some (5, 3) from by decide +kernel) (by decide +kernel) dX5_init_35 ?_
  refine wp_iload_n (v := 12) (okk 85 435 (Nat.le_of_ble_eq_true rfl) (Nat.le_of_ble_eq_true rfl)) dX5_init_38 rfl ?_
  refine wp_new (C := RX0) (T := TX0) (N := 7) (ci := 0) (k := 7) (okk 85 435 (Nat.le_of_ble_eq_true rfl) (Nat.le_of_ble_eq_true rfl)) (okk 86 442 (Nat.le_of_ble_eq_true rfl) (Nat.le_of_ble_eq_true rfl)) al (by decide +kernel) rfl tyX0 rfl rfl hw_0 tyX0_ok dvk_0 wk_110 (gw_t 67 (by decide +kernel) (by decide +kernel)) (gw_t 4 (by decide +kernel) (by decide +kernel)) rfl rfl dX5_init_39 ?_
  refine wp_nmR (v := 112) (by decide +kernel) ?_
  refine wp_nmH (v := zX5_init_41) rfl ?_
  refine wp_dup (okk 86 442 (Nat.le_of_ble_eq_true rfl) (Nat.le_of_ble_eq_true rfl)) dX5_init_42 rfl ?_
  refine wp_callI (h1 := zX5_init_42) (fy := 1) (mc := 6) (ms := 28) (okk 86 442 (Nat.le_of_ble_eq_true rfl) (Nat.le_of_ble_eq_true rfl)) (okk 92 470 (Nat.le_of_ble_eq_true rfl) (Nat.le_of_ble_eq_true rfl)) al ao (by decide +kernel) rfl (m_X0_init (k := 7) (by decide +kernel)) my_X0_init (Or.inr ⟨_, nestM_at 8 rfl⟩) (Nat.le_of_ble_eq_true rfl) rfl rfl (by decide +kernel) (Nat.le_of_ble_eq_true rfl) rfl rfl rfl dX5_init_43 ?_
  refine wp_aast (okk 92 470 (Nat.le_of_ble_eq_true rfl) (Nat.le_of_ble_eq_true rfl)) (show zX5_init_42.1[27]? = some (105, 15) from by decide +kernel) (show zX5_init_42.1[112]? = some (0, 7) from by decide +kernel) (ix_lit (by decide +kernel)) dX5_init_46 ?_
  refine wp_nmH (v := zX5_init_43) rfl ?_
  refine wp_iinc (v := 12) (w := 1) (L' := [(1, .int (13)), (0, .ref 26)]) (okk 92 470 (Nat.le_of_ble_eq_true rfl) (Nat.le_of_ble_eq_true rfl)) dX5_init_47 rfl (by decide) rfl (by decide +kernel) ?_
  refine wp_goto (tgt := 25) (okk 92 470 (Nat.le_of_ble_eq_true rfl) (Nat.le_of_ble_eq_true rfl)) dX5_init_50 (by decide) ?_
  refine wp_iload_n (v := 13) (okk 92 470 (Nat.le_of_ble_eq_true rfl) (Nat.le_of_ble_eq_true rfl)) dX5_init_25 rfl ?_
  refine wp_aload_n (v := 26) (okk 92 470 (Nat.le_of_ble_eq_true rfl) (Nat.le_of_ble_eq_true rfl)) dX5_init_26 rfl ?_
  refine wp_getR (b := 27) (okk 92 470 (Nat.le_of_ble_eq_true rfl) (Nat.le_of_ble_eq_true rfl)) fl_RX5_11 (show zX5_init_43.1[26]? = some (5, 3) from by decide +kernel) (by decide +kernel) dX5_init_27 ?_
  refine wp_alen105 (v := 15) (okk 92 470 (Nat.le_of_ble_eq_true rfl) (Nat.le_of_ble_eq_true rfl)) (show zX5_init_43.1[27]? = some (105, 15) from by decide +kernel) (by decide) dX5_init_30 ?_
  refine wp_icmp_ge (tgt := 53) (okk 92 470 (Nat.le_of_ble_eq_true rfl) (Nat.le_of_ble_eq_true rfl)) dX5_init_31 (by decide) (fun q => absurd q (by decide)) (fun _ => ?_)
  refine wp_aload_n (v := 26) (okk 92 470 (Nat.le_of_ble_eq_true rfl) (Nat.le_of_ble_eq_true rfl)) dX5_init_34 rfl ?_
  refine wp_getR (b := 27) (okk 92 470 (Nat.le_of_ble_eq_true rfl) (Nat.le_of_ble_eq_true rfl)) fl_RX5_11 (show zX5_init_43.1[26]? = some (5, 3) from by decide +kernel) (by decide +kernel) dX5_init_35 ?_
  refine wp_iload_n (v := 13) (okk 92 470 (Nat.le_of_ble_eq_true rfl) (Nat.le_of_ble_eq_true rfl)) dX5_init_38 rfl ?_
  refine wp_new (C := RX0) (T := TX0) (N := 7) (ci := 0) (k := 7) (okk 92 470 (Nat.le_of_ble_eq_true rfl) (Nat.le_of_ble_eq_true rfl)) (okk 93 477 (Nat.le_of_ble_eq_true rfl) (Nat.le_of_ble_eq_true rfl)) al (by decide +kernel) rfl tyX0 rfl rfl hw_0 tyX0_ok dvk_0 wk_110 (gw_t 67 (by decide +kernel) (by decide +kernel)) (gw_t 4 (by decide +kernel) (by decide +kernel)) rfl rfl dX5_init_39 ?_
  refine wp_nmR (v := 119) (by decide +kernel) ?_
  refine wp_nmH (v := zX5_init_44) rfl ?_
  refine wp_dup (okk 93 477 (Nat.le_of_ble_eq_true rfl) (Nat.le_of_ble_eq_true rfl)) dX5_init_42 rfl ?_
  refine wp_callI (h1 := zX5_init_45) (fy := 1) (mc := 6) (ms := 28) (okk 93 477 (Nat.le_of_ble_eq_true rfl) (Nat.le_of_ble_eq_true rfl)) (okk 99 505 (Nat.le_of_ble_eq_true rfl) (Nat.le_of_ble_eq_true rfl)) al ao (by decide +kernel) rfl (m_X0_init (k := 7) (by decide +kernel)) my_X0_init (Or.inr ⟨_, nestM_at 8 rfl⟩) (Nat.le_of_ble_eq_true rfl) rfl rfl (by decide +kernel) (Nat.le_of_ble_eq_true rfl) rfl rfl rfl dX5_init_43 ?_
  refine wp_aast (okk 99 505 (Nat.le_of_ble_eq_true rfl) (Nat.le_of_ble_eq_true rfl)) (show zX5_init_45.1[27]? = some (105, 15) from by decide +kernel) (show zX5_init_45.1[119]? = some (0, 7) from by decide +kernel) (ix_lit (by decide +kernel)) dX5_init_46 ?_
  refine wp_nmH (v := zX5_init_46) rfl ?_
  refine wp_iinc (v := 13) (w := 1) (L' := [(1, .int (14)), (0, .ref 26)]) (okk 99 505 (Nat.le_of_ble_eq_true rfl) (Nat.le_of_ble_eq_true rfl)) dX5_init_47 rfl (by decide) rfl (by decide +kernel) ?_
  refine wp_goto (tgt := 25) (okk 99 505 (Nat.le_of_ble_eq_true rfl) (Nat.le_of_ble_eq_true rfl)) dX5_init_50 (by decide) ?_
  refine wp_iload_n (v := 14) (okk 99 505 (Nat.le_of_ble_eq_true rfl) (Nat.le_of_ble_eq_true rfl)) dX5_init_25 rfl ?_
  refine wp_aload_n (v := 26) (okk 99 505 (Nat.le_of_ble_eq_true rfl) (Nat.le_of_ble_eq_true rfl)) dX5_init_26 rfl ?_
  refine wp_getR (b := 27) (okk 99 505 (Nat.le_of_ble_eq_true rfl) (Nat.le_of_ble_eq_true rfl)) fl_RX5_11 (show zX5_init_46.1[26]? = some (5, 3) from by decide +kernel) (by decide +kernel) dX5_init_27 ?_
  refine wp_alen105 (v := 15) (okk 99 505 (Nat.le_of_ble_eq_true rfl) (Nat.le_of_ble_eq_true rfl)) (show zX5_init_46.1[27]? = some (105, 15) from by decide +kernel) (by decide) dX5_init_30 ?_
  refine wp_icmp_ge (tgt := 53) (okk 99 505 (Nat.le_of_ble_eq_true rfl) (Nat.le_of_ble_eq_true rfl)) dX5_init_31 (by decide) (fun q => absurd q (by decide)) (fun _ => ?_)
  refine wp_aload_n (v := 26) (okk 99 505 (Nat.le_of_ble_eq_true rfl) (Nat.le_of_ble_eq_true rfl)) dX5_init_34 rfl ?_
  refine wp_getR (b := 27) (okk 99 505 (Nat.le_of_ble_eq_true rfl) (Nat.le_of_ble_eq_true rfl)) fl_RX5_11 (show zX5_init_46.1[26]? = some (5, 3) from by decide +kernel) (by decide +kernel) dX5_init_35 ?_
  refine wp_iload_n (v := 14) (okk 99 505 (Nat.le_of_ble_eq_true rfl) (Nat.le_of_ble_eq_true rfl)) dX5_init_38 rfl ?_
  refine wp_new (C := RX0) (T := TX0) (N := 7) (ci := 0) (k := 7) (okk 99 505 (Nat.le_of_ble_eq_true rfl) (Nat.le_of_ble_eq_true rfl)) (okk 100 512 (Nat.le_of_ble_eq_true rfl) (Nat.le_of_ble_eq_true rfl)) al (by decide +kernel) rfl tyX0 rfl rfl hw_0 tyX0_ok dvk_0 wk_110 (gw_t 67 (by decide +kernel) (by decide +kernel)) (gw_t 4 (by decide +kernel) (by decide +kernel)) rfl rfl dX5_init_39 ?_
  refine wp_nmR (v := 126) (by decide +kernel) ?_
  refine wp_nmH (v := zX5_init_47) rfl ?_
  refine wp_dup (okk 100 512 (Nat.le_of_ble_eq_true rfl) (Nat.le_of_ble_eq_true rfl)) dX5_init_42 rfl ?_
  refine wp_callI (h1 := zX5_init_48) (fy := 1) (mc := 6) (ms := 28) (okk 100 512 (Nat.le_of_ble_eq_true rfl) (Nat.le_of_ble_eq_true rfl)) (okk 106 540 (Nat.le_of_ble_eq_true rfl) (Nat.le_of_ble_eq_true rfl)) al ao (by decide +kernel) rfl (m_X0_init (k := 7) (by decide +kernel)) my_X0_init (Or.inr ⟨_, nestM_at 8 rfl⟩) (Nat.le_of_ble_eq_true rfl) rfl rfl (by decide +kernel) (Nat.le_of_ble_eq_true rfl) rfl rfl rfl dX5_init_43 ?_
  refine wp_aast (okk 106 540 (Nat.le_of_ble_eq_true rfl) (Nat.le_of_ble_eq_true rfl)) (show zX5_init_48.1[27]? = some (105, 15) from by decide +kernel) (show zX5_init_48.1[126]? = some (0, 7) from by decide +kernel) (ix_lit (by decide +kernel)) dX5_init_46 ?_
  refine wp_nmH (v := zX5_init_49) rfl ?_
  refine wp_iinc (v := 14) (w := 1) (L' := [(1, .int (15)), (0, .ref 26)]) (okk 106 540 (Nat.le_of_ble_eq_true rfl) (Nat.le_of_ble_eq_true rfl)) dX5_init_47 rfl (by decide) rfl (by decide +kernel) ?_
  refine wp_goto (tgt := 25) (okk 106 540 (Nat.le_of_ble_eq_true rfl) (Nat.le_of_ble_eq_true rfl)) dX5_init_50 (by decide) ?_
  refine wp_iload_n (v := 15) (okk 106 540 (Nat.le_of_ble_eq_true rfl) (Nat.le_of_ble_eq_true rfl)) dX5_init_25 rfl ?_
  refine wp_aload_n (v := 26) (okk 106 540 (Nat.le_of_ble_eq_true rfl) (Nat.le_of_ble_eq_true rfl)) dX5_init_26 rfl ?_
  refine wp_getR (b := 27) (okk 106 540 (Nat.le_of_ble_eq_true rfl) (Nat.le_of_ble_eq_true rfl)) fl_RX5_11 (show zX5_init_49.1[26]? = some (5, 3) from by decide +kernel) (by decide +kernel) dX5_init_27 ?_
  refine wp_alen105 (v := 15) (okk 106 540 (Nat.le_of_ble_eq_true rfl) (Nat.le_of_ble_eq_true rfl)) (show zX5_init_49.1[27]? = some (105, 15) from by decide +kernel) (by decide) dX5_init_30 ?_
  refine wp_icmp_ge (tgt := 53) (okk 106 540 (Nat.le_of_ble_eq_true rfl) (Nat.le_of_ble_eq_true rfl)) dX5_init_31 (by decide) (fun _ => ?_) (fun q => absurd (by decide) q)
  exact wp_vretA (okk 106 540 (Nat.le_of_ble_eq_true rfl) (Nat.le_of_ble_eq_true rfl)) hF rfl dX5_init_53
def zX9_init_L : HP := zX9_init_57
set_option maxHeartbeats 4000000 in
set_option maxRecDepth 100000 in
theorem m_X9_init {l : Launch} : MtA l yX9_init cX9_init 2 4 187 2243 0 zB0 zX9_init_L := by
  refine MtA.of (f := 4) my_X9_init (Nat.le_of_ble_eq_true rfl) (fun x hl okk al ao ini hF => ?_)
  refine wp_aload_n (v := 0) (okk 0 0 (Nat.le_of_ble_eq_true rfl) (Nat.le_of_ble_eq_true rfl)) dX9_init_0 rfl ?_
  refine wp_objI (okk 0 0 (Nat.le_of_ble_eq_true rfl) (Nat.le_of_ble_eq_true rfl)) (Nat.le_of_ble_eq_true rfl) wk_29 wk_30 wk_31 dX9_init_1 ?_
  refine wp_aload_n (v := 0) (okk 0 0 (Nat.le_of_ble_eq_true rfl) (Nat.le_of_ble_eq_true rfl)) dX9_init_4 rfl ?_
  refine wp_new (C := RX8) (T := TX8) (N := 2) (ci := 8) (k := 2) (okk 0 0 (Nat.le_of_ble_eq_true rfl) (Nat.le_of_ble_eq_true rfl)) (okk 1 2 (Nat.le_of_ble_eq_true rfl) (Nat.le_of_ble_eq_true rfl)) al (by decide +kernel) rfl tyX8 rfl rfl hw_8 tyX8_ok dvk_8 wk_32 (gw_t 33 (by decide +kernel) (by decide +kernel)) (gw_t 2 (by decide +kernel) (by decide +kernel)) rfl rfl dX9_init_5 ?_
  refine wp_nmR (v := 1) (by decide +kernel) ?_
  refine wp_nmH (v := zX9_init_1) rfl ?_
  refine wp_dup (okk 1 2 (Nat.le_of_ble_eq_true rfl) (Nat.le_of_ble_eq_true rfl)) dX9_init_8 rfl ?_
  refine wp_callI (h1 := zX9_init_2) (fy := 1) (mc := 1) (ms := 80) (okk 1 2 (Nat.le_of_ble_eq_true rfl) (Nat.le_of_ble_eq_true rfl)) (okk 2 82 (Nat.le_of_ble_eq_true rfl) (Nat.le_of_ble_eq_true rfl)) al ao (by decide +kernel) rfl (m_X8_init (k := 2) (by decide +kernel)) my_X8_init (Or.inr ⟨_, nestM_at 0 rfl⟩) (Nat.le_of_ble_eq_true rfl) rfl rfl (by decide +kernel) (Nat.le_of_ble_eq_true rfl) rfl rfl rfl dX9_init_9 ?_
  refine wp_putRF (okk 2 82 (Nat.le_of_ble_eq_true rfl) (Nat.le_of_ble_eq_true rfl)) ini flf_RX9_10 (show zX9_init_2.1[0]? = some (9, 16) from by decide +kernel) dX9_init_12 ?_
  refine wp_nmH (v := zX9_init_3) rfl ?_
  refine wp_aload_n (v := 0) (okk 2 82 (Nat.le_of_ble_eq_true rfl) (Nat.le_of_ble_eq_true rfl)) dX9_init_15 rfl ?_
  refine wp_new (C := RX6) (T := TX6) (N := 2) (ci := 6) (k := 2) (okk 2 82 (Nat.le_of_ble_eq_true rfl) (Nat.le_of_ble_eq_true rfl)) (okk 3 84 (Nat.le_of_ble_eq_true rfl) (Nat.le_of_ble_eq_true rfl)) al (by decide +kernel) rfl tyX6 rfl rfl hw_6 tyX6_ok dvk_6 wk_50 (gw_t 51 (by decide +kernel) (by decide +kernel)) (gw_t 3 (by decide +kernel) (by decide +kernel)) rfl rfl dX9_init_16 ?_
  refine wp_nmR (v := 3) (by decide +kernel) ?_
  refine wp_nmH (v := zX9_init_4) rfl ?_
  refine wp_dup (okk 3 84 (Nat.le_of_ble_eq_true rfl) (Nat.le_of_ble_eq_true rfl)) dX9_init_19 rfl ?_
  refine wp_callI (h1 := zX9_init_5) (fy := 1) (mc := 1) (ms := 6) (okk 3 84 (Nat.le_of_ble_eq_true rfl) (Nat.le_of_ble_eq_true rfl)) (okk 4 90 (Nat.le_of_ble_eq_true rfl) (Nat.le_of_ble_eq_true rfl)) al ao (by decide +kernel) rfl (m_X6_init (k := 2) (by decide +kernel)) my_X6_init (Or.inr ⟨_, nestM_at 1 rfl⟩) (Nat.le_of_ble_eq_true rfl) rfl rfl (by decide +kernel) (Nat.le_of_ble_eq_true rfl) rfl rfl rfl dX9_init_20 ?_
  refine wp_putRF (okk 4 90 (Nat.le_of_ble_eq_true rfl) (Nat.le_of_ble_eq_true rfl)) ini flf_RX9_19 (show zX9_init_5.1[0]? = some (9, 16) from by decide +kernel) dX9_init_23 ?_
  refine wp_nmH (v := zX9_init_6) rfl ?_
  refine wp_aload_n (v := 0) (okk 4 90 (Nat.le_of_ble_eq_true rfl) (Nat.le_of_ble_eq_true rfl)) dX9_init_26 rfl ?_
  refine wp_new (C := RX0) (T := TX0) (N := 7) (ci := 0) (k := 7) (okk 4 90 (Nat.le_of_ble_eq_true rfl) (Nat.le_of_ble_eq_true rfl)) (okk 5 97 (Nat.le_of_ble_eq_true rfl) (Nat.le_of_ble_eq_true rfl)) al (by decide +kernel) rfl tyX0 rfl rfl hw_0 tyX0_ok dvk_0 wk_66 (gw_t 67 (by decide +kernel) (by decide +kernel)) (gw_t 4 (by decide +kernel) (by decide +kernel)) rfl rfl dX9_init_27 ?_
  refine wp_nmR (v := 5) (by decide +kernel) ?_
  refine wp_nmH (v := zX9_init_7) rfl ?_
  refine wp_dup (okk 5 97 (Nat.le_of_ble_eq_true rfl) (Nat.le_of_ble_eq_true rfl)) dX9_init_30 rfl ?_
  refine wp_callI (h1 := zX9_init_8) (fy := 1) (mc := 6) (ms := 28) (okk 5 97 (Nat.le_of_ble_eq_true rfl) (Nat.le_of_ble_eq_true rfl)) (okk 11 125 (Nat.le_of_ble_eq_true rfl) (Nat.le_of_ble_eq_true rfl)) al ao (by decide +kernel) rfl (m_X0_init (k := 7) (by decide +kernel)) my_X0_init (Or.inr ⟨_, nestM_at 2 rfl⟩) (Nat.le_of_ble_eq_true rfl) rfl rfl (by decide +kernel) (Nat.le_of_ble_eq_true rfl) rfl rfl rfl dX9_init_31 ?_
  refine wp_putRF (okk 11 125 (Nat.le_of_ble_eq_true rfl) (Nat.le_of_ble_eq_true rfl)) ini flf_RX9_26 (show zX9_init_8.1[0]? = some (9, 16) from by decide +kernel) dX9_init_34 ?_
  refine wp_nmH (v := zX9_init_9) rfl ?_
  refine wp_aload_n (v := 0) (okk 11 125 (Nat.le_of_ble_eq_true rfl) (Nat.le_of_ble_eq_true rfl)) dX9_init_37 rfl ?_
  refine wp_new (C := RX0) (T := TX0) (N := 7) (ci := 0) (k := 7) (okk 11 125 (Nat.le_of_ble_eq_true rfl) (Nat.le_of_ble_eq_true rfl)) (okk 12 132 (Nat.le_of_ble_eq_true rfl) (Nat.le_of_ble_eq_true rfl)) al (by decide +kernel) rfl tyX0 rfl rfl hw_0 tyX0_ok dvk_0 wk_66 (gw_t 67 (by decide +kernel) (by decide +kernel)) (gw_t 4 (by decide +kernel) (by decide +kernel)) rfl rfl dX9_init_38 ?_
  refine wp_nmR (v := 12) (by decide +kernel) ?_
  refine wp_nmH (v := zX9_init_10) rfl ?_
  refine wp_dup (okk 12 132 (Nat.le_of_ble_eq_true rfl) (Nat.le_of_ble_eq_true rfl)) dX9_init_41 rfl ?_
  refine wp_callI (h1 := zX9_init_11) (fy := 1) (mc := 6) (ms := 28) (okk 12 132 (Nat.le_of_ble_eq_true rfl) (Nat.le_of_ble_eq_true rfl)) (okk 18 160 (Nat.le_of_ble_eq_true rfl) (Nat.le_of_ble_eq_true rfl)) al ao (by decide +kernel) rfl (m_X0_init (k := 7) (by decide +kernel)) my_X0_init (Or.inr ⟨_, nestM_at 2 rfl⟩) (Nat.le_of_ble_eq_true rfl) rfl rfl (by decide +kernel) (Nat.le_of_ble_eq_true rfl) rfl rfl rfl dX9_init_42 ?_
  refine wp_putRF (okk 18 160 (Nat.le_of_ble_eq_true rfl) (Nat.le_of_ble_eq_true rfl)) ini flf_RX9_30 (show zX9_init_11.1[0]? = some (9, 16) from by decide +kernel) dX9_init_45 ?_
  refine wp_nmH (v := zX9_init_12) rfl ?_
  refine wp_aload_n (v := 0) (okk 18 160 (Nat.le_of_ble_eq_true rfl) (Nat.le_of_ble_eq_true rfl)) dX9_init_48 rfl ?_
  refine wp_new (C := RX0) (T := TX0) (N := 7) (ci := 0) (k := 7) (okk 18 160 (Nat.le_of_ble_eq_true rfl) (Nat.le_of_ble_eq_true rfl)) (okk 19 167 (Nat.le_of_ble_eq_true rfl) (Nat.le_of_ble_eq_true rfl)) al (by decide +kernel) rfl tyX0 rfl rfl hw_0 tyX0_ok dvk_0 wk_66 (gw_t 67 (by decide +kernel) (by decide +kernel)) (gw_t 4 (by decide +kernel) (by decide +kernel)) rfl rfl dX9_init_49 ?_
  refine wp_nmR (v := 19) (by decide +kernel) ?_
  refine wp_nmH (v := zX9_init_13) rfl ?_
  refine wp_dup (okk 19 167 (Nat.le_of_ble_eq_true rfl) (Nat.le_of_ble_eq_true rfl)) dX9_init_52 rfl ?_
  refine wp_callI (h1 := zX9_init_14) (fy := 1) (mc := 6) (ms := 28) (okk 19 167 (Nat.le_of_ble_eq_true rfl) (Nat.le_of_ble_eq_true rfl)) (okk 25 195 (Nat.le_of_ble_eq_true rfl) (Nat.le_of_ble_eq_true rfl)) al ao (by decide +kernel) rfl (m_X0_init (k := 7) (by decide +kernel)) my_X0_init (Or.inr ⟨_, nestM_at 2 rfl⟩) (Nat.le_of_ble_eq_true rfl) rfl rfl (by decide +kernel) (Nat.le_of_ble_eq_true rfl) rfl rfl rfl dX9_init_53 ?_
  refine wp_putRF (okk 25 195 (Nat.le_of_ble_eq_true rfl) (Nat.le_of_ble_eq_true rfl)) ini flf_RX9_33 (show zX9_init_14.1[0]? = some (9, 16) from by decide +kernel) dX9_init_56 ?_
  refine wp_nmH (v := zX9_init_15) rfl ?_
  refine wp_aload_n (v := 0) (okk 25 195 (Nat.le_of_ble_eq_true rfl) (Nat.le_of_ble_eq_true rfl)) dX9_init_59 rfl ?_
  refine wp_new (C := RX5) (T := TX5) (N := 3) (ci := 5) (k := 3) (okk 25 195 (Nat.le_of_ble_eq_true rfl) (Nat.le_of_ble_eq_true rfl)) (okk 26 198 (Nat.le_of_ble_eq_true rfl) (Nat.le_of_ble_eq_true rfl)) al (by decide +kernel) rfl tyX5 rfl rfl hw_5 tyX5_ok dvk_5 wk_104 (gw_t 105 (by decide +kernel) (by decide +kernel)) (gw_t 5 (by decide +kernel) (by decide +kernel)) rfl rfl dX9_init_60 ?_
  refine wp_nmR (v := 26) (by decide +kernel) ?_
  refine wp_nmH (v := zX9_init_16) rfl ?_
  refine wp_dup (okk 26 198 (Nat.le_of_ble_eq_true rfl) (Nat.le_of_ble_eq_true rfl)) dX9_init_63 rfl ?_
  refine wp_callI (h1 := zX9_init_17) (fy := 2) (mc := 106) (ms := 540) (okk 26 198 (Nat.le_of_ble_eq_true rfl) (Nat.le_of_ble_eq_true rfl)) (okk 132 738 (Nat.le_of_ble_eq_true rfl) (Nat.le_of_ble_eq_true rfl)) al ao (by decide +kernel) rfl m_X5_init my_X5_init (Or.inl wk_106) (Nat.le_of_ble_eq_true rfl) rfl rfl (by decide +kernel) (Nat.le_of_ble_eq_true rfl) rfl rfl rfl dX9_init_64 ?_
  refine wp_putRF (okk 132 738 (Nat.le_of_ble_eq_true rfl) (Nat.le_of_ble_eq_true rfl)) ini flf_RX9_39 (show zX9_init_17.1[0]? = some (9, 16) from by decide +kernel) dX9_init_67 ?_
  refine wp_nmH (v := zX9_init_18) rfl ?_
  refine wp_aload_n (v := 0) (okk 132 738 (Nat.le_of_ble_eq_true rfl) (Nat.le_of_ble_eq_true rfl)) dX9_init_70 rfl ?_
  refine wp_iconst (v := 3) (okk 132 738 (Nat.le_of_ble_eq_true rfl) (Nat.le_of_ble_eq_true rfl)) dX9_init_71 (by decide) ?_
  refine wp_anew (N := 3) (okk 132 738 (Nat.le_of_ble_eq_true rfl) (Nat.le_of_ble_eq_true rfl)) (okk 133 741 (Nat.le_of_ble_eq_true rfl) (Nat.le_of_ble_eq_true rfl)) al (by decide +kernel) rfl wk_66 ao (by decide) (by decide) (Nat.le_of_ble_eq_true rfl) rfl rfl dX9_init_72 ?_
  refine wp_nmR (v := 133) (by decide +kernel) ?_
  refine wp_nmH (v := zX9_init_19) rfl ?_
  refine wp_putRF (okk 133 741 (Nat.le_of_ble_eq_true rfl) (Nat.le_of_ble_eq_true rfl)) ini flf_RX9_43 (show zX9_init_19.1[0]? = some (9, 16) from by decide +kernel) dX9_init_75 ?_
  refine wp_nmH (v := zX9_init_20) rfl ?_
  refine wp_iconst (v := 0) (okk 133 741 (Nat.le_of_ble_eq_true rfl) (Nat.le_of_ble_eq_true rfl)) dX9_init_78 (by decide) ?_
  refine wp_istore_n (L' := [(1, .int (0)), (0, .ref 0)]) (okk 133 741 (Nat.le_of_ble_eq_true rfl) (Nat.le_of_ble_eq_true rfl)) dX9_init_79 rfl rfl ?_
  refine wp_iload_n (v := 0) (okk 133 741 (Nat.le_of_ble_eq_true rfl) (Nat.le_of_ble_eq_true rfl)) dX9_init_80 rfl ?_
  refine wp_aload_n (v := 0) (okk 133 741 (Nat.le_of_ble_eq_true rfl) (Nat.le_of_ble_eq_true rfl)) dX9_init_81 rfl ?_
  refine wp_getR (b := 133) (okk 133 741 (Nat.le_of_ble_eq_true rfl) (Nat.le_of_ble_eq_true rfl)) fl_RX9_43 (show zX9_init_20.1[0]? = some (9, 16) from by decide +kernel) (by decide +kernel) dX9_init_82 ?_
  refine wp_alen105 (v := 3) (okk 133 741 (Nat.le_of_ble_eq_true rfl) (Nat.le_of_ble_eq_true rfl)) (show zX9_init_20.1[133]? = some (105, 3) from by decide +kernel) (by decide) dX9_init_85 ?_
  refine wp_icmp_ge (tgt := 118) (okk 133 741 (Nat.le_of_ble_eq_true rfl) (Nat.le_of_ble_eq_true rfl)) dX9_init_86 (by decide) (fun q => absurd q (by decide)) (fun _ => ?_)
  refine wp_aload_n (v := 0) (okk 133 741 (Nat.le_of_ble_eq_true rfl) (Nat.le_of_ble_eq_true rfl)) dX9_init_89 rfl ?_
  refine wp_getR (b := 133) (okk 133 741 (Nat.le_of_ble_eq_true rfl) (Nat.le_of_ble_eq_true rfl)) fl_RX9_43 (show zX9_init_20.1[0]? = some (9, 16) from by decide +kernel) (by decide +kernel) dX9_init_90 ?_
  refine wp_iload_n (v := 0) (okk 133 741 (Nat.le_of_ble_eq_true rfl) (Nat.le_of_ble_eq_true rfl)) dX9_init_93 rfl ?_
  refine wp_new (C := RX0) (T := TX0) (N := 7) (ci := 0) (k := 7) (okk 133 741 (Nat.le_of_ble_eq_true rfl) (Nat.le_of_ble_eq_true rfl)) (okk 134 748 (Nat.le_of_ble_eq_true rfl) (Nat.le_of_ble_eq_true rfl)) al (by decide +kernel) rfl tyX0 rfl rfl hw_0 tyX0_ok dvk_0 wk_66 (gw_t 67 (by decide +kernel) (by decide +kernel)) (gw_t 4 (by decide +kernel) (by decide +kernel)) rfl rfl dX9_init_94 ?_
  refine wp_nmR (v := 134) (by decide +kernel) ?_
  refine wp_nmH (v := zX9_init_21) rfl ?_
  refine wp_dup (okk 134 748 (Nat.le_of_ble_eq_true rfl) (Nat.le_of_ble_eq_true rfl)) dX9_init_97 rfl ?_
  refine wp_callI (h1 := zX9_init_22) (fy := 1) (mc := 6) (ms := 28) (okk 134 748 (Nat.le_of_ble_eq_true rfl) (Nat.le_of_ble_eq_true rfl)) (okk 140 776 (Nat.le_of_ble_eq_true rfl) (Nat.le_of_ble_eq_true rfl)) al ao (by decide +kernel) rfl (m_X0_init (k := 7) (by decide +kernel)) my_X0_init (Or.inr ⟨_, nestM_at 2 rfl⟩) (Nat.le_of_ble_eq_true rfl) rfl rfl (by decide +kernel) (Nat.le_of_ble_eq_true rfl) rfl rfl rfl dX9_init_98 ?_
  refine wp_aast (okk 140 776 (Nat.le_of_ble_eq_true rfl) (Nat.le_of_ble_eq_true rfl)) (show zX9_init_22.1[133]? = some (105, 3) from by decide +kernel) (show zX9_init_22.1[134]? = some (0, 7) from by decide +kernel) (ix_lit (by decide +kernel)) dX9_init_101 ?_
  refine wp_nmH (v := zX9_init_23) rfl ?_
  refine wp_aload_n (v := 0) (okk 140 776 (Nat.le_of_ble_eq_true rfl) (Nat.le_of_ble_eq_true rfl)) dX9_init_102 rfl ?_
  refine wp_getR (b := 133) (okk 140 776 (Nat.le_of_ble_eq_true rfl) (Nat.le_of_ble_eq_true rfl)) fl_RX9_43 (show zX9_init_23.1[0]? = some (9, 16) from by decide +kernel) (by decide +kernel) dX9_init_103 ?_
  refine wp_iload_n (v := 0) (okk 140 776 (Nat.le_of_ble_eq_true rfl) (Nat.le_of_ble_eq_true rfl)) dX9_init_106 rfl ?_
  refine wp_aald105 (b := 134) (okk 140 776 (Nat.le_of_ble_eq_true rfl) (Nat.le_of_ble_eq_true rfl)) (show zX9_init_23.1[133]? = some (105, 3) from by decide +kernel) (ix_lit (by decide +kernel)) (by decide +kernel) dX9_init_107 ?_
  refine wp_iconst (v := -1) (okk 140 776 (Nat.le_of_ble_eq_true rfl) (Nat.le_of_ble_eq_true rfl)) dX9_init_108 (by decide) ?_
  refine wp_putI (okk 140 776 (Nat.le_of_ble_eq_true rfl) (Nat.le_of_ble_eq_true rfl)) flw_RX9_47 (nr_0_2 _) (show zX9_init_23.1[134]? = some (0, 7) from by decide +kernel) dX9_init_109 ?_
  refine wp_nmH (v := zX9_init_24) rfl ?_
  refine wp_iinc (v := 0) (w := 1) (L' := [(1, .int (1)), (0, .ref 0)]) (okk 140 776 (Nat.le_of_ble_eq_true rfl) (Nat.le_of_ble_eq_true rfl)) dX9_init_112 rfl (by decide) rfl (by decide +kernel) ?_
  refine wp_goto (tgt := 80) (okk 140 776 (Nat.le_of_ble_eq_true rfl) (Nat.le_of_ble_eq_true rfl)) dX9_init_115 (by decide) ?_
  refine wp_iload_n (v := 1) (okk 140 776 (Nat.le_of_ble_eq_true rfl) (Nat.le_of_ble_eq_true rfl)) dX9_init_80 rfl ?_
  refine wp_aload_n (v := 0) (okk 140 776 (Nat.le_of_ble_eq_true rfl) (Nat.le_of_ble_eq_true rfl)) dX9_init_81 rfl ?_
  refine wp_getR (b := 133) (okk 140 776 (Nat.le_of_ble_eq_true rfl) (Nat.le_of_ble_eq_true rfl)) fl_RX9_43 (show zX9_init_24.1[0]? = some (9, 16) from by decide +kernel) (by decide +kernel) dX9_init_82 ?_
  refine wp_alen105 (v := 3) (okk 140 776 (Nat.le_of_ble_eq_true rfl) (Nat.le_of_ble_eq_true rfl)) (show zX9_init_24.1[133]? = some (105, 3) from by decide +kernel) (by decide) dX9_init_85 ?_
  refine wp_icmp_ge (tgt := 118) (okk 140 776 (Nat.le_of_ble_eq_true rfl) (Nat.le_of_ble_eq_true rfl)) dX9_init_86 (by decide) (fun q => absurd q (by decide)) (fun _ => ?_)
  refine wp_aload_n (v := 0) (okk 140 776 (Nat.le_of_ble_eq_true rfl) (Nat.le_of_ble_eq_true rfl)) dX9_init_89 rfl ?_
  refine wp_getR (b := 133) (okk 140 776 (Nat.le_of_ble_eq_true rfl) (Nat.le_of_ble_eq_true rfl)) fl_RX9_43 (show zX9_init_24.1[0]? = some (9, 16) from by decide +kernel) (by decide +kernel) dX9_init_90 ?_
  refine wp_iload_n (v := 1) (okk 140 776 (Nat.le_of_ble_eq_true rfl) (Nat.le_of_ble_eq_true rfl)) dX9_init_93 rfl ?_
  refine wp_new (C := RX0) (T := TX0) (N := 7) (ci := 0) (k := 7) (okk 140 776 (Nat.le_of_ble_eq_true rfl) (Nat.le_of_ble_eq_true rfl)) (okk 141 783 (Nat.le_of_ble_eq_true rfl) (Nat.le_of_ble_eq_true rfl)) al (by decide +kernel) rfl tyX0 rfl rfl hw_0 tyX0_ok dvk_0 wk_66 (gw_t 67 (by decide +kernel) (by decide +kernel)) (gw_t 4 (by decide +kernel) (by decide +kernel)) rfl rfl dX9_init_94 ?_
  refine wp_nmR (v := 141) (by decide +kernel) ?_
  refine wp_nmH (v := zX9_init_25) rfl ?_
  refine wp_dup (okk 141 783 (Nat.le_of_ble_eq_true rfl) (Nat.le_of_ble_eq_true rfl)) dX9_init_97 rfl ?_
  refine wp_callI (h1 := zX9_init_26) (fy := 1) (mc := 6) (ms := 28) (okk 141 783 (Nat.le_of_ble_eq_true rfl) (Nat.le_of_ble_eq_true rfl)) (okk 147 811 (Nat.le_of_ble_eq_true rfl) (Nat.le_of_ble_eq_true rfl)) al ao (by decide +kernel) rfl (m_X0_init (k := 7) (by decide +kernel)) my_X0_init (Or.inr ⟨_, nestM_at 2 rfl⟩) (Nat.le_of_ble_eq_true rfl) rfl rfl (by decide +kernel) (Nat.le_of_ble_eq_true rfl) rfl rfl rfl dX9_init_98 ?_
  refine wp_aast (okk 147 811 (Nat.le_of_ble_eq_true rfl) (Nat.le_of_ble_eq_true rfl)) (show zX9_init_26.1[133]? = some (105, 3) from by decide +kernel) (show zX9_init_26.1[141]? = some (0, 7) from by decide +kernel) (ix_lit (by decide +kernel)) dX9_init_101 ?_
  refine wp_nmH (v := zX9_init_27) rfl ?_
  refine wp_aload_n (v := 0) (okk 147 811 (Nat.le_of_ble_eq_true rfl) (Nat.le_of_ble_eq_true rfl)) dX9_init_102 rfl ?_
  refine wp_getR (b := 133) (okk 147 811 (Nat.le_of_ble_eq_true rfl) (Nat.le_of_ble_eq_true rfl)) fl_RX9_43 (show zX9_init_27.1[0]? = some (9, 16) from by decide +kernel) (by decide +kernel) dX9_init_103 ?_
  refine wp_iload_n (v := 1) (okk 147 811 (Nat.le_of_ble_eq_true rfl) (Nat.le_of_ble_eq_true rfl)) dX9_init_106 rfl ?_
  refine wp_aald105 (b := 141) (okk 147 811 (Nat.le_of_ble_eq_true rfl) (Nat.le_of_ble_eq_true rfl)) (show zX9_init_27.1[133]? = some (105, 3) from by decide +kernel) (ix_lit (by decide +kernel)) (by decide +kernel) dX9_init_107 ?_
  refine wp_iconst (v := -1) (okk 147 811 (Nat.le_of_ble_eq_true rfl) (Nat.le_of_ble_eq_true rfl)) dX9_init_108 (by decide) ?_
  refine wp_putI (okk 147 811 (Nat.le_of_ble_eq_true rfl) (Nat.le_of_ble_eq_true rfl)) flw_RX9_47 (nr_0_2 _) (show zX9_init_27.1[141]? = some (0, 7) from by decide +kernel) dX9_init_109 ?_
  refine wp_nmH (v := zX9_init_28) rfl ?_
  refine wp_iinc (v := 1) (w := 1) (L' := [(1, .int (2)), (0, .ref 0)]) (okk 147 811 (Nat.le_of_ble_eq_true rfl) (Nat.le_of_ble_eq_true rfl)) dX9_init_112 rfl (by decide) rfl (by decide +kernel) ?_
  refine wp_goto (tgt := 80) (okk 147 811 (Nat.le_of_ble_eq_true rfl) (Nat.le_of_ble_eq_true rfl)) dX9_init_115 (by decide) ?_
  refine wp_iload_n (v := 2) (okk 147 811 (Nat.le_of_ble_eq_true rfl) (Nat.le_of_ble_eq_true rfl)) dX9_init_80 rfl ?_
  refine wp_aload_n (v := 0) (okk 147 811 (Nat.le_of_ble_eq_true rfl) (Nat.le_of_ble_eq_true rfl)) dX9_init_81 rfl ?_
  refine wp_getR (b := 133) (okk 147 811 (Nat.le_of_ble_eq_true rfl) (Nat.le_of_ble_eq_true rfl)) fl_RX9_43 (show zX9_init_28.1[0]? = some (9, 16) from by decide +kernel) (by decide +kernel) dX9_init_82 ?_
  refine wp_alen105 (v := 3) (okk 147 811 (Nat.le_of_ble_eq_true rfl) (Nat.le_of_ble_eq_true rfl)) (show zX9_init_28.1[133]? = some (105, 3) from by decide +kernel) (by decide) dX9_init_85 ?_
  refine wp_icmp_ge (tgt := 118) (okk 147 811 (Nat.le_of_ble_eq_true rfl) (Nat.le_of_ble_eq_true rfl)) dX9_init_86 (by decide) (fun q => absurd q (by decide)) (fun _ => ?_)
  refine wp_aload_n (v := 0) (okk 147 811 (Nat.le_of_ble_eq_true rfl) (Nat.le_of_ble_eq_true rfl)) dX9_init_89 rfl ?_
  refine wp_getR (b := 133) (okk 147 811 (Nat.le_of_ble_eq_true rfl) (Nat.le_of_ble_eq_true rfl)) fl_RX9_43 (show zX9_init_28.1[0]? = some (9, 16) from by decide +kernel) (by decide +kernel) dX9_init_90 ?_
  refine wp_iload_n (v := 2) (okk 147 811 (Nat.le_of_ble_eq_true rfl) (Nat.le_of_ble_eq_true rfl)) dX9_init_93 rfl ?_
  refine wp_new (C := RX0) (T := TX0) (N := 7) (ci := 0) (k := 7) (okk 147 811 (Nat.le_of_ble_eq_true rfl) (Nat.le_of_ble_eq_true rfl)) (okk 148 818 (Nat.le_of_ble_eq_true rfl) (Nat.le_of_ble_eq_true rfl)) al (by decide +kernel) rfl tyX0 rfl rfl hw_0 tyX0_ok dvk_0 wk_66 (gw_t 67 (by decide +kernel) (by decide +kernel)) (gw_t 4 (by decide +kernel) (by decide +kernel)) rfl rfl dX9_init_94 ?_
  refine wp_nmR (v := 148) (by decide +kernel) ?_
  refine wp_nmH (v := zX9_init_29) rfl ?_
  refine wp_dup (okk 148 818 (Nat.le_of_ble_eq_true rfl) (Nat.le_of_ble_eq_true rfl)) dX9_init_97 rfl ?_
  refine wp_callI (h1 := zX9_init_30) (fy := 1) (mc := 6) (ms := 28) (okk 148 818 (Nat.le_of_ble_eq_true rfl) (Nat.le_of_ble_eq_true rfl)) (okk 154 846 (Nat.le_of_ble_eq_true rfl) (Nat.le_of_ble_eq_true rfl)) al ao (by decide +kernel) rfl (m_X0_init (k := 7) (by decide +kernel)) my_X0_init (Or.inr ⟨_, nestM_at 2 rfl⟩) (Nat.le_of_ble_eq_true rfl) rfl rfl (by decide +kernel) (Nat.le_of_ble_eq_true rfl) rfl rfl rfl dX9_init_98 ?_
  refine wp_aast (okk 154 846 (Nat.le_of_ble_eq_true rfl) (Nat.le_of_ble_eq_true rfl)) (show zX9_init_30.1[133]? = some (105, 3) from by decide +kernel) (show zX9_init_30.1[148]? = some (0, 7) from by decide +kernel) (ix_lit (by decide +kernel)) dX9_init_101 ?_
  refine wp_nmH (v := zX9_init_31) rfl ?_
  refine wp_aload_n (v := 0) (okk 154 846 (Nat.le_of_ble_eq_true rfl) (Nat.le_of_ble_eq_true rfl)) dX9_init_102 rfl ?_
  refine wp_getR (b := 133) (okk 154 846 (Nat.le_of_ble_eq_true rfl) (Nat.le_of_ble_eq_true rfl)) fl_RX9_43 (show zX9_init_31.1[0]? = some (9, 16) from by decide +kernel) (by decide +kernel) dX9_init_103 ?_
  refine wp_iload_n (v := 2) (okk 154 846 (Nat.le_of_ble_eq_true rfl) (Nat.le_of_ble_eq_true rfl)) dX9_init_106 rfl ?_
  refine wp_aald105 (b := 148) (okk 154 846 (Nat.le_of_ble_eq_true rfl) (Nat.le_of_ble_eq_true rfl)) (show zX9_init_31.1[133]? = some (105, 3) from by decide +kernel) (ix_lit (by decide +kernel)) (by decide +kernel) dX9_init_107 ?_
  refine wp_iconst (v := -1) (okk 154 846 (Nat.le_of_ble_eq_true rfl) (Nat.le_of_ble_eq_true rfl)) dX9_init_108 (by decide) ?_
  refine wp_putI (okk 154 846 (Nat.le_of_ble_eq_true rfl) (Nat.le_of_ble_eq_true rfl)) flw_RX9_47 (nr_0_2 _) (show zX9_init_31.1[148]? = some (0, 7) from by decide +kernel) dX9_init_109 ?_
  refine wp_nmH (v := zX9_init_32) rfl ?_
  refine wp_iinc (v := 2) (w := 1) (L' := [(1, .int (3)), (0, .ref 0)]) (okk 154 846 (Nat.le_of_ble_eq_true rfl) (Nat.le_of_ble_eq_true rfl)) dX9_init_112 rfl (by decide) rfl (by decide +kernel) ?_
  refine wp_goto (tgt := 80) (okk 154 846 (Nat.le_of_ble_eq_true rfl) (Nat.le_of_ble_eq_true rfl)) dX9_init_115 (by decide) ?_
  refine wp_iload_n (v := 3) (okk 154 846 (Nat.le_of_ble_eq_true rfl) (Nat.le_of_ble_eq_true rfl)) dX9_init_80 rfl ?_
  refine wp_aload_n (v := 0) (okk 154 846 (Nat.le_of_ble_eq_true rfl) (Nat.le_of_ble_eq_true rfl)) dX9_init_81 rfl ?_
  refine wp_getR (b := 133) (okk 154 846 (Nat.le_of_ble_eq_true rfl) (Nat.le_of_ble_eq_true rfl)) fl_RX9_43 (show zX9_init_32.1[0]? = some (9, 16) from by decide +kernel) (by decide +kernel) dX9_init_82 ?_
  refine wp_alen105 (v := 3) (okk 154 846 (Nat.le_of_ble_eq_true rfl) (Nat.le_of_ble_eq_true rfl)) (show zX9_init_32.1[133]? = some (105, 3) from by decide +kernel) (by decide) dX9_init_85 ?_
  refine wp_icmp_ge (tgt := 118) (okk 154 846 (Nat.le_of_ble_eq_true rfl) (Nat.le_of_ble_eq_true rfl)) dX9_init_86 (by decide) (fun _ => ?_) (fun q => absurd (by decide) q)
  refine wp_aload_n (v := 0) (okk 154 846 (Nat.le_of_ble_eq_true rfl) (Nat.le_of_ble_eq_true rfl)) dX9_init_118 rfl ?_
  refine wp_bipush (v := 6) (okk 154 846 (Nat.le_of_ble_eq_true rfl) (Nat.le_of_ble_eq_true rfl)) dX9_init_119 (by decide) ?_
  refine wp_newaX (kd := 102) (t0 := 1) (N := 6) (ty := .int) (okk 154 846 (Nat.le_of_ble_eq_true rfl) (Nat.le_of_ble_eq_true rfl)) (okk 155 852 (Nat.le_of_ble_eq_true rfl) (Nat.le_of_ble_eq_true rfl)) al (by decide +kernel) rfl rfl (fun _ => rfl) (fun _ _ q => q) (by decide) (fun cA ad => cell_I (by decide) rfl cA ad) wk_103 (by decide) (by decide) (Nat.le_of_ble_eq_true rfl) rfl rfl dX9_init_121 ?_
  refine wp_nmR (v := 155) (by decide +kernel) ?_
  refine wp_nmH (v := zX9_init_33) rfl ?_
  refine wp_putRF (okk 155 852 (Nat.le_of_ble_eq_true rfl) (Nat.le_of_ble_eq_true rfl)) ini flf_RX9_51 (show zX9_init_33.1[0]? = some (9, 16) from by decide +kernel) dX9_init_123 ?_
  refine wp_nmH (v := zX9_init_34) rfl ?_
  refine wp_aload_n (v := 0) (okk 155 852 (Nat.le_of_ble_eq_true rfl) (Nat.le_of_ble_eq_true rfl)) dX9_init_126 rfl ?_
  refine wp_bipush (v := 6) (okk 155 852 (Nat.le_of_ble_eq_true rfl) (Nat.le_of_ble_eq_true rfl)) dX9_init_127 (by decide) ?_
  refine wp_bipush (v := 6) (okk 155 852 (Nat.le_of_ble_eq_true rfl) (Nat.le_of_ble_eq_true rfl)) dX9_init_129 (by decide) ?_
  refine wp_multi (N := 6) (K := 6) (okk 155 852 (Nat.le_of_ble_eq_true rfl) (Nat.le_of_ble_eq_true rfl)) (okk 162 894 (Nat.le_of_ble_eq_true rfl) (Nat.le_of_ble_eq_true rfl)) al (by decide +kernel) rfl wk_124 ao wk_103 (by decide) (by decide) (by decide) (by decide) (by decide) (by decide) rfl rfl dX9_init_131 ?_
  refine wp_nmR (v := 156) (by decide +kernel) ?_
  refine wp_nmH (v := zX9_init_35) rfl ?_
  refine wp_putRF (okk 162 894 (Nat.le_of_ble_eq_true rfl) (Nat.le_of_ble_eq_true rfl)) ini flf_RX9_57 (show zX9_init_35.1[0]? = some (9, 16) from by decide +kernel) dX9_init_135 ?_
  refine wp_nmH (v := zX9_init_36) rfl ?_
  refine wp_aload_n (v := 0) (okk 162 894 (Nat.le_of_ble_eq_true rfl) (Nat.le_of_ble_eq_true rfl)) dX9_init_138 rfl ?_
  refine wp_new (C := RX3) (T := TX3) (N := 2) (ci := 3) (k := 2) (okk 162 894 (Nat.le_of_ble_eq_true rfl) (Nat.le_of_ble_eq_true rfl)) (okk 163 896 (Nat.le_of_ble_eq_true rfl) (Nat.le_of_ble_eq_true rfl)) al (by decide +kernel) rfl tyX3 rfl rfl hw_3 tyX3_ok dvk_3 wk_125 (gw_t 126 (by decide +kernel) (by decide +kernel)) (gw_t 6 (by decide +kernel) (by decide +kernel)) rfl rfl dX9_init_139 ?_
  refine wp_nmR (v := 163) (by decide +kernel) ?_
  refine wp_nmH (v := zX9_init_37) rfl ?_
  refine wp_dup (okk 163 896 (Nat.le_of_ble_eq_true rfl) (Nat.le_of_ble_eq_true rfl)) dX9_init_142 rfl ?_
  refine wp_callI (h1 := zX9_init_38) (fy := 1) (mc := 1) (ms := 8) (okk 163 896 (Nat.le_of_ble_eq_true rfl) (Nat.le_of_ble_eq_true rfl)) (okk 164 904 (Nat.le_of_ble_eq_true rfl) (Nat.le_of_ble_eq_true rfl)) al ao (by decide +kernel) rfl (m_X3_init (k := 2) (by decide +kernel)) my_X3_init (Or.inr ⟨_, nestM_at 3 rfl⟩) (Nat.le_of_ble_eq_true rfl) rfl rfl (by decide +kernel) (Nat.le_of_ble_eq_true rfl) rfl rfl rfl dX9_init_143 ?_
  refine wp_putRF (okk 164 904 (Nat.le_of_ble_eq_true rfl) (Nat.le_of_ble_eq_true rfl)) ini flf_RX9_63 (show zX9_init_38.1[0]? = some (9, 16) from by decide +kernel) dX9_init_146 ?_
  refine wp_nmH (v := zX9_init_39) rfl ?_
  refine wp_aload_n (v := 0) (okk 164 904 (Nat.le_of_ble_eq_true rfl) (Nat.le_of_ble_eq_true rfl)) dX9_init_149 rfl ?_
  refine wp_new (C := RX2) (T := TX2) (N := 4) (ci := 2) (k := 4) (okk 164 904 (Nat.le_of_ble_eq_true rfl) (Nat.le_of_ble_eq_true rfl)) (okk 165 908 (Nat.le_of_ble_eq_true rfl) (Nat.le_of_ble_eq_true rfl)) al (by decide +kernel) rfl tyX2 rfl rfl hw_2 tyX2_ok dvk_2 wk_140 (gw_t 141 (by decide +kernel) (by decide +kernel)) (gw_t 7 (by decide +kernel) (by decide +kernel)) rfl rfl dX9_init_150 ?_
  refine wp_nmR (v := 165) (by decide +kernel) ?_
  refine wp_nmH (v := zX9_init_40) rfl ?_
  refine wp_dup (okk 165 908 (Nat.le_of_ble_eq_true rfl) (Nat.le_of_ble_eq_true rfl)) dX9_init_153 rfl ?_
  refine wp_callI (h1 := zX9_init_41) (fy := 1) (mc := 3) (ms := 1016) (okk 165 908 (Nat.le_of_ble_eq_true rfl) (Nat.le_of_ble_eq_true rfl)) (okk 168 1924 (Nat.le_of_ble_eq_true rfl) (Nat.le_of_ble_eq_true rfl)) al ao (by decide +kernel) rfl (m_X2_init (k := 4) (by decide +kernel)) my_X2_init (Or.inr ⟨_, nestM_at 4 rfl⟩) (Nat.le_of_ble_eq_true rfl) rfl rfl (by decide +kernel) (Nat.le_of_ble_eq_true rfl) rfl rfl rfl dX9_init_154 ?_
  refine wp_putRF (okk 168 1924 (Nat.le_of_ble_eq_true rfl) (Nat.le_of_ble_eq_true rfl)) ini flf_RX9_70 (show zX9_init_41.1[0]? = some (9, 16) from by decide +kernel) dX9_init_157 ?_
  refine wp_nmH (v := zX9_init_42) rfl ?_
  refine wp_aload_n (v := 0) (okk 168 1924 (Nat.le_of_ble_eq_true rfl) (Nat.le_of_ble_eq_true rfl)) dX9_init_160 rfl ?_
  refine wp_new (C := RX4) (T := TX4) (N := 1) (ci := 4) (k := 1) (okk 168 1924 (Nat.le_of_ble_eq_true rfl) (Nat.le_of_ble_eq_true rfl)) (okk 169 1925 (Nat.le_of_ble_eq_true rfl) (Nat.le_of_ble_eq_true rfl)) al (by decide +kernel) rfl tyX4 rfl rfl hw_4 tyX4_ok dvk_4 wk_162 (gw_t 163 (by decide +kernel) (by decide +kernel)) (gw_t 8 (by decide +kernel) (by decide +kernel)) rfl rfl dX9_init_161 ?_
  refine wp_nmR (v := 169) (by decide +kernel) ?_
  refine wp_nmH (v := zX9_init_43) rfl ?_
  refine wp_dup (okk 169 1925 (Nat.le_of_ble_eq_true rfl) (Nat.le_of_ble_eq_true rfl)) dX9_init_164 rfl ?_
  refine wp_callI (h1 := zX9_init_44) (fy := 1) (mc := 0) (ms := 0) (okk 169 1925 (Nat.le_of_ble_eq_true rfl) (Nat.le_of_ble_eq_true rfl)) (okk 169 1925 (Nat.le_of_ble_eq_true rfl) (Nat.le_of_ble_eq_true rfl)) al ao (by decide +kernel) rfl (m_X4_init (k := 1) (by decide +kernel)) my_X4_init (Or.inr ⟨_, nestM_at 5 rfl⟩) (Nat.le_of_ble_eq_true rfl) rfl rfl (by decide +kernel) (Nat.le_of_ble_eq_true rfl) rfl rfl rfl dX9_init_165 ?_
  refine wp_putRF (okk 169 1925 (Nat.le_of_ble_eq_true rfl) (Nat.le_of_ble_eq_true rfl)) ini flf_RX9_77 (show zX9_init_44.1[0]? = some (9, 16) from by decide +kernel) dX9_init_168 ?_
  refine wp_nmH (v := zX9_init_45) rfl ?_
  refine wp_aload_n (v := 0) (okk 169 1925 (Nat.le_of_ble_eq_true rfl) (Nat.le_of_ble_eq_true rfl)) dX9_init_171 rfl ?_
  refine wp_new (C := RX1) (T := TX1) (N := 3) (ci := 1) (k := 3) (okk 169 1925 (Nat.le_of_ble_eq_true rfl) (Nat.le_of_ble_eq_true rfl)) (okk 170 1928 (Nat.le_of_ble_eq_true rfl) (Nat.le_of_ble_eq_true rfl)) al (by decide +kernel) rfl tyX1 rfl rfl hw_1 tyX1_ok dvk_1 wk_172 (gw_t 173 (by decide +kernel) (by decide +kernel)) (gw_t 9 (by decide +kernel) (by decide +kernel)) rfl rfl dX9_init_172 ?_
  refine wp_nmR (v := 170) (by decide +kernel) ?_
  refine wp_nmH (v := zX9_init_46) rfl ?_
  refine wp_dup (okk 170 1928 (Nat.le_of_ble_eq_true rfl) (Nat.le_of_ble_eq_true rfl)) dX9_init_175 rfl ?_
  refine wp_callI (h1 := zX9_init_47) (fy := 1) (mc := 2) (ms := 16) (okk 170 1928 (Nat.le_of_ble_eq_true rfl) (Nat.le_of_ble_eq_true rfl)) (okk 172 1944 (Nat.le_of_ble_eq_true rfl) (Nat.le_of_ble_eq_true rfl)) al ao (by decide +kernel) rfl (m_X1_init (k := 3) (by decide +kernel)) my_X1_init (Or.inl wk_174) (Nat.le_of_ble_eq_true rfl) rfl rfl (by decide +kernel) (Nat.le_of_ble_eq_true rfl) rfl rfl rfl dX9_init_176 ?_
  refine wp_putR (okk 172 1944 (Nat.le_of_ble_eq_true rfl) (Nat.le_of_ble_eq_true rfl)) flw_RX9_84 (show zX9_init_47.1[0]? = some (9, 16) from by decide +kernel) dX9_init_179 ?_
  refine wp_nmH (v := zX9_init_48) rfl ?_
  refine wp_aload_n (v := 0) (okk 172 1944 (Nat.le_of_ble_eq_true rfl) (Nat.le_of_ble_eq_true rfl)) dX9_init_182 rfl ?_
  refine wp_new (C := RX1) (T := TX1) (N := 3) (ci := 1) (k := 3) (okk 172 1944 (Nat.le_of_ble_eq_true rfl) (Nat.le_of_ble_eq_true rfl)) (okk 173 1947 (Nat.le_of_ble_eq_true rfl) (Nat.le_of_ble_eq_true rfl)) al (by decide +kernel) rfl tyX1 rfl rfl hw_1 tyX1_ok dvk_1 wk_172 (gw_t 173 (by decide +kernel) (by decide +kernel)) (gw_t 9 (by decide +kernel) (by decide +kernel)) rfl rfl dX9_init_183 ?_
  refine wp_nmR (v := 173) (by decide +kernel) ?_
  refine wp_nmH (v := zX9_init_49) rfl ?_
  refine wp_dup (okk 173 1947 (Nat.le_of_ble_eq_true rfl) (Nat.le_of_ble_eq_true rfl)) dX9_init_186 rfl ?_
  refine wp_callI (h1 := zX9_init_50) (fy := 1) (mc := 2) (ms := 16) (okk 173 1947 (Nat.le_of_ble_eq_true rfl) (Nat.le_of_ble_eq_true rfl)) (okk 175 1963 (Nat.le_of_ble_eq_true rfl) (Nat.le_of_ble_eq_true rfl)) al ao (by decide +kernel) rfl (m_X1_init (k := 3) (by decide +kernel)) my_X1_init (Or.inl wk_174) (Nat.le_of_ble_eq_true rfl) rfl rfl (by decide +kernel) (Nat.le_of_ble_eq_true rfl) rfl rfl rfl dX9_init_187 ?_
  refine wp_putR (okk 175 1963 (Nat.le_of_ble_eq_true rfl) (Nat.le_of_ble_eq_true rfl)) flw_RX9_88 (show zX9_init_50.1[0]? = some (9, 16) from by decide +kernel) dX9_init_190 ?_
  refine wp_nmH (v := zX9_init_51) rfl ?_
  refine wp_aload_n (v := 0) (okk 175 1963 (Nat.le_of_ble_eq_true rfl) (Nat.le_of_ble_eq_true rfl)) dX9_init_193 rfl ?_
  refine wp_new (C := RX7) (T := TX7) (N := 9) (ci := 7) (k := 9) (okk 175 1963 (Nat.le_of_ble_eq_true rfl) (Nat.le_of_ble_eq_true rfl)) (okk 176 1972 (Nat.le_of_ble_eq_true rfl) (Nat.le_of_ble_eq_true rfl)) al (by decide +kernel) rfl tyX7 rfl rfl hw_7 tyX7_ok dvk_7 wk_193 (gw_t 194 (by decide +kernel) (by decide +kernel)) (gw_t 10 (by decide +kernel) (by decide +kernel)) rfl rfl dX9_init_194 ?_
  refine wp_nmR (v := 176) (by decide +kernel) ?_
  refine wp_nmH (v := zX9_init_52) rfl ?_
  refine wp_dup (okk 176 1972 (Nat.le_of_ble_eq_true rfl) (Nat.le_of_ble_eq_true rfl)) dX9_init_197 rfl ?_
  refine wp_callI (h1 := zX9_init_53) (fy := 3) (mc := 5) (ms := 131) (okk 176 1972 (Nat.le_of_ble_eq_true rfl) (Nat.le_of_ble_eq_true rfl)) (okk 181 2103 (Nat.le_of_ble_eq_true rfl) (Nat.le_of_ble_eq_true rfl)) al ao (by decide +kernel) rfl (m_X7_init (k := 9) (by decide +kernel)) my_X7_init (Or.inl wk_195) (Nat.le_of_ble_eq_true rfl) rfl rfl (by decide +kernel) (Nat.le_of_ble_eq_true rfl) rfl rfl rfl dX9_init_198 ?_
  refine wp_putR (okk 181 2103 (Nat.le_of_ble_eq_true rfl) (Nat.le_of_ble_eq_true rfl)) flw_RX9_94 (show zX9_init_53.1[0]? = some (9, 16) from by decide +kernel) dX9_init_201 ?_
  refine wp_nmH (v := zX9_init_54) rfl ?_
  refine wp_aload_n (v := 0) (okk 181 2103 (Nat.le_of_ble_eq_true rfl) (Nat.le_of_ble_eq_true rfl)) dX9_init_204 rfl ?_
  refine wp_new (C := RX7) (T := TX7) (N := 9) (ci := 7) (k := 9) (okk 181 2103 (Nat.le_of_ble_eq_true rfl) (Nat.le_of_ble_eq_true rfl)) (okk 182 2112 (Nat.le_of_ble_eq_true rfl) (Nat.le_of_ble_eq_true rfl)) al (by decide +kernel) rfl tyX7 rfl rfl hw_7 tyX7_ok dvk_7 wk_193 (gw_t 194 (by decide +kernel) (by decide +kernel)) (gw_t 10 (by decide +kernel) (by decide +kernel)) rfl rfl dX9_init_205 ?_
  refine wp_nmR (v := 182) (by decide +kernel) ?_
  refine wp_nmH (v := zX9_init_55) rfl ?_
  refine wp_dup (okk 182 2112 (Nat.le_of_ble_eq_true rfl) (Nat.le_of_ble_eq_true rfl)) dX9_init_208 rfl ?_
  refine wp_callI (h1 := zX9_init_56) (fy := 3) (mc := 5) (ms := 131) (okk 182 2112 (Nat.le_of_ble_eq_true rfl) (Nat.le_of_ble_eq_true rfl)) (okk 187 2243 (Nat.le_of_ble_eq_true rfl) (Nat.le_of_ble_eq_true rfl)) al ao (by decide +kernel) rfl (m_X7_init (k := 9) (by decide +kernel)) my_X7_init (Or.inl wk_195) (Nat.le_of_ble_eq_true rfl) rfl rfl (by decide +kernel) (Nat.le_of_ble_eq_true rfl) rfl rfl rfl dX9_init_209 ?_
  refine wp_putR (okk 187 2243 (Nat.le_of_ble_eq_true rfl) (Nat.le_of_ble_eq_true rfl)) flw_RX9_98 (show zX9_init_56.1[0]? = some (9, 16) from by decide +kernel) dX9_init_212 ?_
  refine wp_nmH (v := zX9_init_57) rfl ?_
  exact wp_vretA (okk 187 2243 (Nat.le_of_ble_eq_true rfl) (Nat.le_of_ble_eq_true rfl)) hF rfl dX9_init_215
def zM0 : HP := nw zX9_init_L (10, 48)
def zX10_init_1 : HP := nw zM0 (103, 24)
def zX10_init_2 : HP := setR zX10_init_1 188 2 (some 189)
def zX10_init_3 : HP := setI zX10_init_2 188 5 (1)
def zX10_init_4 : HP := nw zX10_init_3 (102, 8)
def zX10_init_5 : HP := setR zX10_init_4 188 6 (some 190)
def zX10_init_6 : HP := nw zX10_init_5 (102, 8)
def zX10_init_7 : HP := setR zX10_init_6 188 7 (some 191)
def zX10_init_8 : HP := nw zX10_init_7 (102, 6)
def zX10_init_9 : HP := setR zX10_init_8 188 8 (some 192)
def zX10_init_10 : HP := nw zX10_init_9 (102, 28)
def zX10_init_11 : HP := setR zX10_init_10 188 9 (some 193)
def zX10_init_12 : HP := nw zX10_init_11 (102, 28)
def zX10_init_13 : HP := setR zX10_init_12 188 10 (some 194)
def zX10_init_14 : HP := nw zX10_init_13 (102, 80)
def zX10_init_15 : HP := setR zX10_init_14 188 11 (some 195)
def zX10_init_16 : HP := nw zX10_init_15 (102, 8)
def zX10_init_17 : HP := setR zX10_init_16 188 16 (some 196)
def zX10_init_18 : HP := nw zX10_init_17 (102, 8)
def zX10_init_19 : HP := setR zX10_init_18 188 17 (some 197)
def zX10_init_20 : HP := nw zX10_init_19 (102, 80)
def zX10_init_21 : HP := setR zX10_init_20 188 19 (some 198)
def zX10_init_22 : HP := nw zX10_init_21 (102, 80)
def zX10_init_23 : HP := setR zX10_init_22 188 20 (some 199)
def zX10_init_24 : HP := nw zX10_init_23 (102, 80)
def zX10_init_25 : HP := setR zX10_init_24 188 23 (some 200)
def zX10_init_26 : HP := nw zX10_init_25 (102, 6)
def zX10_init_27 : HP := setR zX10_init_26 188 24 (some 201)
def zX10_init_28 : HP := nw zX10_init_27 (102, 448)
def zX10_init_29 : HP := setR zX10_init_28 188 26 (some 202)
def zX10_init_30 : HP := nw zX10_init_29 (102, 12)
def zX10_init_31 : HP := setR zX10_init_30 188 28 (some 203)
def zX10_init_32 : HP := nw zX10_init_31 (102, 60)
def zX10_init_33 : HP := setR zX10_init_32 188 29 (some 204)
def zX10_init_34 : HP := nw zX10_init_33 (102, 60)
def zX10_init_35 : HP := setR zX10_init_34 188 30 (some 205)
def zX10_init_36 : HP := nw zX10_init_35 (102, 60)
def zX10_init_37 : HP := setR zX10_init_36 188 31 (some 206)
def zX10_init_38 : HP := nw zX10_init_37 (102, 60)
def zX10_init_39 : HP := setR zX10_init_38 188 32 (some 207)
def zX10_init_40 : HP := nw zX10_init_39 (102, 6)
def zX10_init_41 : HP := setR zX10_init_40 188 34 (some 208)
def zX10_init_42 : HP := nw zX10_init_41 (102, 6)
def zX10_init_43 : HP := setR zX10_init_42 188 35 (some 209)
def zX10_init_44 : HP := nw zX10_init_43 (102, 6)
def zX10_init_45 : HP := setR zX10_init_44 188 36 (some 210)
def zX10_init_46 : HP := nw zX10_init_45 (102, 8)
def zX10_init_47 : HP := setR zX10_init_46 188 38 (some 211)
def zX10_init_48 : HP := nw zX10_init_47 (102, 8)
def zX10_init_49 : HP := setR zX10_init_48 188 40 (some 212)
def zX10_init_50 : HP := nw zX10_init_49 (102, 8)
def zX10_init_51 : HP := setR zX10_init_50 188 41 (some 213)
def zX10_init_52 : HP := nw zX10_init_51 (102, 40)
def zX10_init_53 : HP := setR zX10_init_52 188 42 (some 214)
def zX10_init_54 : HP := nw zX10_init_53 (102, 80)
def zX10_init_55 : HP := setR zX10_init_54 188 43 (some 215)
def zX10_init_56 : HP := nw zX10_init_55 (104, 3)
def zX10_init_57 : HP := setR zX10_init_56 188 45 (some 216)
def zX10_init_58 : HP := nw zX10_init_57 (102, 3)
def zX10_init_59 : HP := setR zX10_init_58 188 46 (some 217)
def zX10_init_60 : HP := nw zX10_init_59 (102, 84)
def zX10_init_61 : HP := setR zX10_init_60 188 47 (some 218)
def zX10_init_62 : HP := setI zX10_init_61 193 (24 : Int32).toNatClampNeg (2)
def zX10_init_63 : HP := setI zX10_init_62 190 (0 : Int32).toNatClampNeg (-1)
def zX10_init_L : HP := zX10_init_63
set_option maxHeartbeats 4000000 in
set_option maxRecDepth 100000 in
theorem m_X10_init {l : Launch} : MtA l yX10_init cX10_init 1 1 30 1396 188 zM0 zX10_init_L := by
  refine MtA.of (f := 1) my_X10_init (Nat.le_of_ble_eq_true rfl) (fun x hl okk al ao ini hF => ?_)
  refine wp_aload_n (v := 188) (okk 0 0 (Nat.le_of_ble_eq_true rfl) (Nat.le_of_ble_eq_true rfl)) dX10_init_0 rfl ?_
  refine wp_objI (okk 0 0 (Nat.le_of_ble_eq_true rfl) (Nat.le_of_ble_eq_true rfl)) (Nat.le_of_ble_eq_true rfl) wk_1046 wk_30 wk_31 dX10_init_1 ?_
  refine wp_aload_n (v := 188) (okk 0 0 (Nat.le_of_ble_eq_true rfl) (Nat.le_of_ble_eq_true rfl)) dX10_init_4 rfl ?_
  refine wp_bipush (v := 24) (okk 0 0 (Nat.le_of_ble_eq_true rfl) (Nat.le_of_ble_eq_true rfl)) dX10_init_5 (by decide) ?_
  refine wp_newaX (kd := 103) (t0 := 2) (N := 24) (ty := .long) (okk 0 0 (Nat.le_of_ble_eq_true rfl) (Nat.le_of_ble_eq_true rfl)) (okk 1 24 (Nat.le_of_ble_eq_true rfl) (Nat.le_of_ble_eq_true rfl)) al (by decide +kernel) rfl rfl (fun _ => rfl) (fun _ _ q => q) (by decide) (fun cA ad => cell_J cA ad) wk_65 (by decide) (by decide) (Nat.le_of_ble_eq_true rfl) rfl rfl dX10_init_7 ?_
  refine wp_nmR (v := 189) (by decide +kernel) ?_
  refine wp_nmH (v := zX10_init_1) rfl ?_
  refine wp_putRF (okk 1 24 (Nat.le_of_ble_eq_true rfl) (Nat.le_of_ble_eq_true rfl)) ini flf_RX10_11 (show zX10_init_1.1[188]? = some (10, 48) from by decide +kernel) dX10_init_9 ?_
  refine wp_nmH (v := zX10_init_2) rfl ?_
  refine wp_aload_n (v := 188) (okk 1 24 (Nat.le_of_ble_eq_true rfl) (Nat.le_of_ble_eq_true rfl)) dX10_init_12 rfl ?_
  refine wp_iconst (v := 1) (okk 1 24 (Nat.le_of_ble_eq_true rfl) (Nat.le_of_ble_eq_true rfl)) dX10_init_13 (by decide) ?_
  refine wp_putI (okk 1 24 (Nat.le_of_ble_eq_true rfl) (Nat.le_of_ble_eq_true rfl)) flw_RX10_28 (nr_10_5 _) (show zX10_init_2.1[188]? = some (10, 48) from by decide +kernel) dX10_init_14 ?_
  refine wp_nmH (v := zX10_init_3) rfl ?_
  refine wp_aload_n (v := 188) (okk 1 24 (Nat.le_of_ble_eq_true rfl) (Nat.le_of_ble_eq_true rfl)) dX10_init_17 rfl ?_
  refine wp_bipush (v := 8) (okk 1 24 (Nat.le_of_ble_eq_true rfl) (Nat.le_of_ble_eq_true rfl)) dX10_init_18 (by decide) ?_
  refine wp_newaX (kd := 102) (t0 := 1) (N := 8) (ty := .int) (okk 1 24 (Nat.le_of_ble_eq_true rfl) (Nat.le_of_ble_eq_true rfl)) (okk 2 32 (Nat.le_of_ble_eq_true rfl) (Nat.le_of_ble_eq_true rfl)) al (by decide +kernel) rfl rfl (fun _ => rfl) (fun _ _ q => q) (by decide) (fun cA ad => cell_I (by decide) rfl cA ad) wk_103 (by decide) (by decide) (Nat.le_of_ble_eq_true rfl) rfl rfl dX10_init_20 ?_
  refine wp_nmR (v := 190) (by decide +kernel) ?_
  refine wp_nmH (v := zX10_init_4) rfl ?_
  refine wp_putRF (okk 2 32 (Nat.le_of_ble_eq_true rfl) (Nat.le_of_ble_eq_true rfl)) ini flf_RX10_31 (show zX10_init_4.1[188]? = some (10, 48) from by decide +kernel) dX10_init_22 ?_
  refine wp_nmH (v := zX10_init_5) rfl ?_
  refine wp_aload_n (v := 188) (okk 2 32 (Nat.le_of_ble_eq_true rfl) (Nat.le_of_ble_eq_true rfl)) dX10_init_25 rfl ?_
  refine wp_bipush (v := 8) (okk 2 32 (Nat.le_of_ble_eq_true rfl) (Nat.le_of_ble_eq_true rfl)) dX10_init_26 (by decide) ?_
  refine wp_newaX (kd := 102) (t0 := 1) (N := 8) (ty := .int) (okk 2 32 (Nat.le_of_ble_eq_true rfl) (Nat.le_of_ble_eq_true rfl)) (okk 3 40 (Nat.le_of_ble_eq_true rfl) (Nat.le_of_ble_eq_true rfl)) al (by decide +kernel) rfl rfl (fun _ => rfl) (fun _ _ q => q) (by decide) (fun cA ad => cell_I (by decide) rfl cA ad) wk_103 (by decide) (by decide) (Nat.le_of_ble_eq_true rfl) rfl rfl dX10_init_28 ?_
  refine wp_nmR (v := 191) (by decide +kernel) ?_
  refine wp_nmH (v := zX10_init_6) rfl ?_
  refine wp_putRF (okk 3 40 (Nat.le_of_ble_eq_true rfl) (Nat.le_of_ble_eq_true rfl)) ini flf_RX10_35 (show zX10_init_6.1[188]? = some (10, 48) from by decide +kernel) dX10_init_30 ?_
  refine wp_nmH (v := zX10_init_7) rfl ?_
  refine wp_aload_n (v := 188) (okk 3 40 (Nat.le_of_ble_eq_true rfl) (Nat.le_of_ble_eq_true rfl)) dX10_init_33 rfl ?_
  refine wp_bipush (v := 6) (okk 3 40 (Nat.le_of_ble_eq_true rfl) (Nat.le_of_ble_eq_true rfl)) dX10_init_34 (by decide) ?_
  refine wp_newaX (kd := 102) (t0 := 1) (N := 6) (ty := .int) (okk 3 40 (Nat.le_of_ble_eq_true rfl) (Nat.le_of_ble_eq_true rfl)) (okk 4 46 (Nat.le_of_ble_eq_true rfl) (Nat.le_of_ble_eq_true rfl)) al (by decide +kernel) rfl rfl (fun _ => rfl) (fun _ _ q => q) (by decide) (fun cA ad => cell_I (by decide) rfl cA ad) wk_103 (by decide) (by decide) (Nat.le_of_ble_eq_true rfl) rfl rfl dX10_init_36 ?_
  refine wp_nmR (v := 192) (by decide +kernel) ?_
  refine wp_nmH (v := zX10_init_8) rfl ?_
  refine wp_putRF (okk 4 46 (Nat.le_of_ble_eq_true rfl) (Nat.le_of_ble_eq_true rfl)) ini flf_RX10_38 (show zX10_init_8.1[188]? = some (10, 48) from by decide +kernel) dX10_init_38 ?_
  refine wp_nmH (v := zX10_init_9) rfl ?_
  refine wp_aload_n (v := 188) (okk 4 46 (Nat.le_of_ble_eq_true rfl) (Nat.le_of_ble_eq_true rfl)) dX10_init_41 rfl ?_
  refine wp_bipush (v := 28) (okk 4 46 (Nat.le_of_ble_eq_true rfl) (Nat.le_of_ble_eq_true rfl)) dX10_init_42 (by decide) ?_
  refine wp_newaX (kd := 102) (t0 := 1) (N := 28) (ty := .int) (okk 4 46 (Nat.le_of_ble_eq_true rfl) (Nat.le_of_ble_eq_true rfl)) (okk 5 74 (Nat.le_of_ble_eq_true rfl) (Nat.le_of_ble_eq_true rfl)) al (by decide +kernel) rfl rfl (fun _ => rfl) (fun _ _ q => q) (by decide) (fun cA ad => cell_I (by decide) rfl cA ad) wk_103 (by decide) (by decide) (Nat.le_of_ble_eq_true rfl) rfl rfl dX10_init_44 ?_
  refine wp_nmR (v := 193) (by decide +kernel) ?_
  refine wp_nmH (v := zX10_init_10) rfl ?_
  refine wp_putRF (okk 5 74 (Nat.le_of_ble_eq_true rfl) (Nat.le_of_ble_eq_true rfl)) ini flf_RX10_41 (show zX10_init_10.1[188]? = some (10, 48) from by decide +kernel) dX10_init_46 ?_
  refine wp_nmH (v := zX10_init_11) rfl ?_
  refine wp_aload_n (v := 188) (okk 5 74 (Nat.le_of_ble_eq_true rfl) (Nat.le_of_ble_eq_true rfl)) dX10_init_49 rfl ?_
  refine wp_bipush (v := 28) (okk 5 74 (Nat.le_of_ble_eq_true rfl) (Nat.le_of_ble_eq_true rfl)) dX10_init_50 (by decide) ?_
  refine wp_newaX (kd := 102) (t0 := 1) (N := 28) (ty := .int) (okk 5 74 (Nat.le_of_ble_eq_true rfl) (Nat.le_of_ble_eq_true rfl)) (okk 6 102 (Nat.le_of_ble_eq_true rfl) (Nat.le_of_ble_eq_true rfl)) al (by decide +kernel) rfl rfl (fun _ => rfl) (fun _ _ q => q) (by decide) (fun cA ad => cell_I (by decide) rfl cA ad) wk_103 (by decide) (by decide) (Nat.le_of_ble_eq_true rfl) rfl rfl dX10_init_52 ?_
  refine wp_nmR (v := 194) (by decide +kernel) ?_
  refine wp_nmH (v := zX10_init_12) rfl ?_
  refine wp_putRF (okk 6 102 (Nat.le_of_ble_eq_true rfl) (Nat.le_of_ble_eq_true rfl)) ini flf_RX10_44 (show zX10_init_12.1[188]? = some (10, 48) from by decide +kernel) dX10_init_54 ?_
  refine wp_nmH (v := zX10_init_13) rfl ?_
  refine wp_aload_n (v := 188) (okk 6 102 (Nat.le_of_ble_eq_true rfl) (Nat.le_of_ble_eq_true rfl)) dX10_init_57 rfl ?_
  refine wp_bipush (v := 80) (okk 6 102 (Nat.le_of_ble_eq_true rfl) (Nat.le_of_ble_eq_true rfl)) dX10_init_58 (by decide) ?_
  refine wp_newaX (kd := 102) (t0 := 1) (N := 80) (ty := .int) (okk 6 102 (Nat.le_of_ble_eq_true rfl) (Nat.le_of_ble_eq_true rfl)) (okk 7 182 (Nat.le_of_ble_eq_true rfl) (Nat.le_of_ble_eq_true rfl)) al (by decide +kernel) rfl rfl (fun _ => rfl) (fun _ _ q => q) (by decide) (fun cA ad => cell_I (by decide) rfl cA ad) wk_103 (by decide) (by decide) (Nat.le_of_ble_eq_true rfl) rfl rfl dX10_init_60 ?_
  refine wp_nmR (v := 195) (by decide +kernel) ?_
  refine wp_nmH (v := zX10_init_14) rfl ?_
  refine wp_putRF (okk 7 182 (Nat.le_of_ble_eq_true rfl) (Nat.le_of_ble_eq_true rfl)) ini flf_RX10_47 (show zX10_init_14.1[188]? = some (10, 48) from by decide +kernel) dX10_init_62 ?_
  refine wp_nmH (v := zX10_init_15) rfl ?_
  refine wp_aload_n (v := 188) (okk 7 182 (Nat.le_of_ble_eq_true rfl) (Nat.le_of_ble_eq_true rfl)) dX10_init_65 rfl ?_
  refine wp_bipush (v := 8) (okk 7 182 (Nat.le_of_ble_eq_true rfl) (Nat.le_of_ble_eq_true rfl)) dX10_init_66 (by decide) ?_
  refine wp_newaX (kd := 102) (t0 := 1) (N := 8) (ty := .int) (okk 7 182 (Nat.le_of_ble_eq_true rfl) (Nat.le_of_ble_eq_true rfl)) (okk 8 190 (Nat.le_of_ble_eq_true rfl) (Nat.le_of_ble_eq_true rfl)) al (by decide +kernel) rfl rfl (fun _ => rfl) (fun _ _ q => q) (by decide) (fun cA ad => cell_I (by decide) rfl cA ad) wk_103 (by decide) (by decide) (Nat.le_of_ble_eq_true rfl) rfl rfl dX10_init_68 ?_
  refine wp_nmR (v := 196) (by decide +kernel) ?_
  refine wp_nmH (v := zX10_init_16) rfl ?_
  refine wp_putRF (okk 8 190 (Nat.le_of_ble_eq_true rfl) (Nat.le_of_ble_eq_true rfl)) ini flf_RX10_50 (show zX10_init_16.1[188]? = some (10, 48) from by decide +kernel) dX10_init_70 ?_
  refine wp_nmH (v := zX10_init_17) rfl ?_
  refine wp_aload_n (v := 188) (okk 8 190 (Nat.le_of_ble_eq_true rfl) (Nat.le_of_ble_eq_true rfl)) dX10_init_73 rfl ?_
  refine wp_bipush (v := 8) (okk 8 190 (Nat.le_of_ble_eq_true rfl) (Nat.le_of_ble_eq_true rfl)) dX10_init_74 (by decide) ?_
  refine wp_newaX (kd := 102) (t0 := 1) (N := 8) (ty := .int) (okk 8 190 (Nat.le_of_ble_eq_true rfl) (Nat.le_of_ble_eq_true rfl)) (okk 9 198 (Nat.le_of_ble_eq_true rfl) (Nat.le_of_ble_eq_true rfl)) al (by decide +kernel) rfl rfl (fun _ => rfl) (fun _ _ q => q) (by decide) (fun cA ad => cell_I (by decide) rfl cA ad) wk_103 (by decide) (by decide) (Nat.le_of_ble_eq_true rfl) rfl rfl dX10_init_76 ?_
  refine wp_nmR (v := 197) (by decide +kernel) ?_
  refine wp_nmH (v := zX10_init_18) rfl ?_
  refine wp_putRF (okk 9 198 (Nat.le_of_ble_eq_true rfl) (Nat.le_of_ble_eq_true rfl)) ini flf_RX10_53 (show zX10_init_18.1[188]? = some (10, 48) from by decide +kernel) dX10_init_78 ?_
  refine wp_nmH (v := zX10_init_19) rfl ?_
  refine wp_aload_n (v := 188) (okk 9 198 (Nat.le_of_ble_eq_true rfl) (Nat.le_of_ble_eq_true rfl)) dX10_init_81 rfl ?_
  refine wp_bipush (v := 80) (okk 9 198 (Nat.le_of_ble_eq_true rfl) (Nat.le_of_ble_eq_true rfl)) dX10_init_82 (by decide) ?_
  refine wp_newaX (kd := 102) (t0 := 1) (N := 80) (ty := .int) (okk 9 198 (Nat.le_of_ble_eq_true rfl) (Nat.le_of_ble_eq_true rfl)) (okk 10 278 (Nat.le_of_ble_eq_true rfl) (Nat.le_of_ble_eq_true rfl)) al (by decide +kernel) rfl rfl (fun _ => rfl) (fun _ _ q => q) (by decide) (fun cA ad => cell_I (by decide) rfl cA ad) wk_103 (by decide) (by decide) (Nat.le_of_ble_eq_true rfl) rfl rfl dX10_init_84 ?_
  refine wp_nmR (v := 198) (by decide +kernel) ?_
  refine wp_nmH (v := zX10_init_20) rfl ?_
  refine wp_putRF (okk 10 278 (Nat.le_of_ble_eq_true rfl) (Nat.le_of_ble_eq_true rfl)) ini flf_RX10_56 (show zX10_init_20.1[188]? = some (10, 48) from by decide +kernel) dX10_init_86 ?_
  refine wp_nmH (v := zX10_init_21) rfl ?_
  refine wp_aload_n (v := 188) (okk 10 278 (Nat.le_of_ble_eq_true rfl) (Nat.le_of_ble_eq_true rfl)) dX10_init_89 rfl ?_
  refine wp_bipush (v := 80) (okk 10 278 (Nat.le_of_ble_eq_true rfl) (Nat.le_of_ble_eq_true rfl)) dX10_init_90 (by decide) ?_
  refine wp_newaX (kd := 102) (t0 := 1) (N := 80) (ty := .int) (okk 10 278 (Nat.le_of_ble_eq_true rfl) (Nat.le_of_ble_eq_true rfl)) (okk 11 358 (Nat.le_of_ble_eq_true rfl) (Nat.le_of_ble_eq_true rfl)) al (by decide +kernel) rfl rfl (fun _ => rfl) (fun _ _ q => q) (by decide) (fun cA ad => cell_I (by decide) rfl cA ad) wk_103 (by decide) (by decide) (Nat.le_of_ble_eq_true rfl) rfl rfl dX10_init_92 ?_
  refine wp_nmR (v := 199) (by decide +kernel) ?_
  refine wp_nmH (v := zX10_init_22) rfl ?_
  refine wp_putRF (okk 11 358 (Nat.le_of_ble_eq_true rfl) (Nat.le_of_ble_eq_true rfl)) ini flf_RX10_59 (show zX10_init_22.1[188]? = some (10, 48) from by decide +kernel) dX10_init_94 ?_
  refine wp_nmH (v := zX10_init_23) rfl ?_
  refine wp_aload_n (v := 188) (okk 11 358 (Nat.le_of_ble_eq_true rfl) (Nat.le_of_ble_eq_true rfl)) dX10_init_97 rfl ?_
  refine wp_bipush (v := 80) (okk 11 358 (Nat.le_of_ble_eq_true rfl) (Nat.le_of_ble_eq_true rfl)) dX10_init_98 (by decide) ?_
  refine wp_newaX (kd := 102) (t0 := 1) (N := 80) (ty := .int) (okk 11 358 (Nat.le_of_ble_eq_true rfl) (Nat.le_of_ble_eq_true rfl)) (okk 12 438 (Nat.le_of_ble_eq_true rfl) (Nat.le_of_ble_eq_true rfl)) al (by decide +kernel) rfl rfl (fun _ => rfl) (fun _ _ q => q) (by decide) (fun cA ad => cell_I (by decide) rfl cA ad) wk_103 (by decide) (by decide) (Nat.le_of_ble_eq_true rfl) rfl rfl dX10_init_100 ?_
  refine wp_nmR (v := 200) (by decide +kernel) ?_
  refine wp_nmH (v := zX10_init_24) rfl ?_
  refine wp_putRF (okk 12 438 (Nat.le_of_ble_eq_true rfl) (Nat.le_of_ble_eq_true rfl)) ini flf_RX10_62 (show zX10_init_24.1[188]? = some (10, 48) from by decide +kernel) dX10_init_102 ?_
  refine wp_nmH (v := zX10_init_25) rfl ?_
  refine wp_aload_n (v := 188) (okk 12 438 (Nat.le_of_ble_eq_true rfl) (Nat.le_of_ble_eq_true rfl)) dX10_init_105 rfl ?_
  refine wp_bipush (v := 6) (okk 12 438 (Nat.le_of_ble_eq_true rfl) (Nat.le_of_ble_eq_true rfl)) dX10_init_106 (by decide) ?_
  refine wp_newaX (kd := 102) (t0 := 1) (N := 6) (ty := .int) (okk 12 438 (Nat.le_of_ble_eq_true rfl) (Nat.le_of_ble_eq_true rfl)) (okk 13 444 (Nat.le_of_ble_eq_true rfl) (Nat.le_of_ble_eq_true rfl)) al (by decide +kernel) rfl rfl (fun _ => rfl) (fun _ _ q => q) (by decide) (fun cA ad => cell_I (by decide) rfl cA ad) wk_103 (by decide) (by decide) (Nat.le_of_ble_eq_true rfl) rfl rfl dX10_init_108 ?_
  refine wp_nmR (v := 201) (by decide +kernel) ?_
  refine wp_nmH (v := zX10_init_26) rfl ?_
  refine wp_putRF (okk 13 444 (Nat.le_of_ble_eq_true rfl) (Nat.le_of_ble_eq_true rfl)) ini flf_RX10_65 (show zX10_init_26.1[188]? = some (10, 48) from by decide +kernel) dX10_init_110 ?_
  refine wp_nmH (v := zX10_init_27) rfl ?_
  refine wp_aload_n (v := 188) (okk 13 444 (Nat.le_of_ble_eq_true rfl) (Nat.le_of_ble_eq_true rfl)) dX10_init_113 rfl ?_
  refine wp_sipush (v := 448) (okk 13 444 (Nat.le_of_ble_eq_true rfl) (Nat.le_of_ble_eq_true rfl)) dX10_init_114 (by decide) ?_
  refine wp_newaX (kd := 102) (t0 := 1) (N := 448) (ty := .int) (okk 13 444 (Nat.le_of_ble_eq_true rfl) (Nat.le_of_ble_eq_true rfl)) (okk 14 892 (Nat.le_of_ble_eq_true rfl) (Nat.le_of_ble_eq_true rfl)) al (by decide +kernel) rfl rfl (fun _ => rfl) (fun _ _ q => q) (by decide) (fun cA ad => cell_I (by decide) rfl cA ad) wk_103 (by decide) (by decide) (Nat.le_of_ble_eq_true rfl) rfl rfl dX10_init_117 ?_
  refine wp_nmR (v := 202) (by decide +kernel) ?_
  refine wp_nmH (v := zX10_init_28) rfl ?_
  refine wp_putRF (okk 14 892 (Nat.le_of_ble_eq_true rfl) (Nat.le_of_ble_eq_true rfl)) ini flf_RX10_68 (show zX10_init_28.1[188]? = some (10, 48) from by decide +kernel) dX10_init_119 ?_
  refine wp_nmH (v := zX10_init_29) rfl ?_
  refine wp_aload_n (v := 188) (okk 14 892 (Nat.le_of_ble_eq_true rfl) (Nat.le_of_ble_eq_true rfl)) dX10_init_122 rfl ?_
  refine wp_bipush (v := 12) (okk 14 892 (Nat.le_of_ble_eq_true rfl) (Nat.le_of_ble_eq_true rfl)) dX10_init_123 (by decide) ?_
  refine wp_newaX (kd := 102) (t0 := 1) (N := 12) (ty := .int) (okk 14 892 (Nat.le_of_ble_eq_true rfl) (Nat.le_of_ble_eq_true rfl)) (okk 15 904 (Nat.le_of_ble_eq_true rfl) (Nat.le_of_ble_eq_true rfl)) al (by decide +kernel) rfl rfl (fun _ => rfl) (fun _ _ q => q) (by decide) (fun cA ad => cell_I (by decide) rfl cA ad) wk_103 (by decide) (by decide) (Nat.le_of_ble_eq_true rfl) rfl rfl dX10_init_125 ?_
  refine wp_nmR (v := 203) (by decide +kernel) ?_
  refine wp_nmH (v := zX10_init_30) rfl ?_
  refine wp_putRF (okk 15 904 (Nat.le_of_ble_eq_true rfl) (Nat.le_of_ble_eq_true rfl)) ini flf_RX10_71 (show zX10_init_30.1[188]? = some (10, 48) from by decide +kernel) dX10_init_127 ?_
  refine wp_nmH (v := zX10_init_31) rfl ?_
  refine wp_aload_n (v := 188) (okk 15 904 (Nat.le_of_ble_eq_true rfl) (Nat.le_of_ble_eq_true rfl)) dX10_init_130 rfl ?_
  refine wp_bipush (v := 60) (okk 15 904 (Nat.le_of_ble_eq_true rfl) (Nat.le_of_ble_eq_true rfl)) dX10_init_131 (by decide) ?_
  refine wp_newaX (kd := 102) (t0 := 1) (N := 60) (ty := .int) (okk 15 904 (Nat.le_of_ble_eq_true rfl) (Nat.le_of_ble_eq_true rfl)) (okk 16 964 (Nat.le_of_ble_eq_true rfl) (Nat.le_of_ble_eq_true rfl)) al (by decide +kernel) rfl rfl (fun _ => rfl) (fun _ _ q => q) (by decide) (fun cA ad => cell_I (by decide) rfl cA ad) wk_103 (by decide) (by decide) (Nat.le_of_ble_eq_true rfl) rfl rfl dX10_init_133 ?_
  refine wp_nmR (v := 204) (by decide +kernel) ?_
  refine wp_nmH (v := zX10_init_32) rfl ?_
  refine wp_putRF (okk 16 964 (Nat.le_of_ble_eq_true rfl) (Nat.le_of_ble_eq_true rfl)) ini flf_RX10_74 (show zX10_init_32.1[188]? = some (10, 48) from by decide +kernel) dX10_init_135 ?_
  refine wp_nmH (v := zX10_init_33) rfl ?_
  refine wp_aload_n (v := 188) (okk 16 964 (Nat.le_of_ble_eq_true rfl) (Nat.le_of_ble_eq_true rfl)) dX10_init_138 rfl ?_
  refine wp_bipush (v := 60) (okk 16 964 (Nat.le_of_ble_eq_true rfl) (Nat.le_of_ble_eq_true rfl)) dX10_init_139 (by decide) ?_
  refine wp_newaX (kd := 102) (t0 := 1) (N := 60) (ty := .int) (okk 16 964 (Nat.le_of_ble_eq_true rfl) (Nat.le_of_ble_eq_true rfl)) (okk 17 1024 (Nat.le_of_ble_eq_true rfl) (Nat.le_of_ble_eq_true rfl)) al (by decide +kernel) rfl rfl (fun _ => rfl) (fun _ _ q => q) (by decide) (fun cA ad => cell_I (by decide) rfl cA ad) wk_103 (by decide) (by decide) (Nat.le_of_ble_eq_true rfl) rfl rfl dX10_init_141 ?_
  refine wp_nmR (v := 205) (by decide +kernel) ?_
  refine wp_nmH (v := zX10_init_34) rfl ?_
  refine wp_putRF (okk 17 1024 (Nat.le_of_ble_eq_true rfl) (Nat.le_of_ble_eq_true rfl)) ini flf_RX10_77 (show zX10_init_34.1[188]? = some (10, 48) from by decide +kernel) dX10_init_143 ?_
  refine wp_nmH (v := zX10_init_35) rfl ?_
  refine wp_aload_n (v := 188) (okk 17 1024 (Nat.le_of_ble_eq_true rfl) (Nat.le_of_ble_eq_true rfl)) dX10_init_146 rfl ?_
  refine wp_bipush (v := 60) (okk 17 1024 (Nat.le_of_ble_eq_true rfl) (Nat.le_of_ble_eq_true rfl)) dX10_init_147 (by decide) ?_
  refine wp_newaX (kd := 102) (t0 := 1) (N := 60) (ty := .int) (okk 17 1024 (Nat.le_of_ble_eq_true rfl) (Nat.le_of_ble_eq_true rfl)) (okk 18 1084 (Nat.le_of_ble_eq_true rfl) (Nat.le_of_ble_eq_true rfl)) al (by decide +kernel) rfl rfl (fun _ => rfl) (fun _ _ q => q) (by decide) (fun cA ad => cell_I (by decide) rfl cA ad) wk_103 (by decide) (by decide) (Nat.le_of_ble_eq_true rfl) rfl rfl dX10_init_149 ?_
  refine wp_nmR (v := 206) (by decide +kernel) ?_
  refine wp_nmH (v := zX10_init_36) rfl ?_
  refine wp_putRF (okk 18 1084 (Nat.le_of_ble_eq_true rfl) (Nat.le_of_ble_eq_true rfl)) ini flf_RX10_80 (show zX10_init_36.1[188]? = some (10, 48) from by decide +kernel) dX10_init_151 ?_
  refine wp_nmH (v := zX10_init_37) rfl ?_
  refine wp_aload_n (v := 188) (okk 18 1084 (Nat.le_of_ble_eq_true rfl) (Nat.le_of_ble_eq_true rfl)) dX10_init_154 rfl ?_
  refine wp_bipush (v := 60) (okk 18 1084 (Nat.le_of_ble_eq_true rfl) (Nat.le_of_ble_eq_true rfl)) dX10_init_155 (by decide) ?_
  refine wp_newaX (kd := 102) (t0 := 1) (N := 60) (ty := .int) (okk 18 1084 (Nat.le_of_ble_eq_true rfl) (Nat.le_of_ble_eq_true rfl)) (okk 19 1144 (Nat.le_of_ble_eq_true rfl) (Nat.le_of_ble_eq_true rfl)) al (by decide +kernel) rfl rfl (fun _ => rfl) (fun _ _ q => q) (by decide) (fun cA ad => cell_I (by decide) rfl cA ad) wk_103 (by decide) (by decide) (Nat.le_of_ble_eq_true rfl) rfl rfl dX10_init_157 ?_
  refine wp_nmR (v := 207) (by decide +kernel) ?_
  refine wp_nmH (v := zX10_init_38) rfl ?_
  refine wp_putRF (okk 19 1144 (Nat.le_of_ble_eq_true rfl) (Nat.le_of_ble_eq_true rfl)) ini flf_RX10_83 (show zX10_init_38.1[188]? = some (10, 48) from by decide +kernel) dX10_init_159 ?_
  refine wp_nmH (v := zX10_init_39) rfl ?_
  refine wp_aload_n (v := 188) (okk 19 1144 (Nat.le_of_ble_eq_true rfl) (Nat.le_of_ble_eq_true rfl)) dX10_init_162 rfl ?_
  refine wp_bipush (v := 6) (okk 19 1144 (Nat.le_of_ble_eq_true rfl) (Nat.le_of_ble_eq_true rfl)) dX10_init_163 (by decide) ?_
  refine wp_newaX (kd := 102) (t0 := 1) (N := 6) (ty := .int) (okk 19 1144 (Nat.le_of_ble_eq_true rfl) (Nat.le_of_ble_eq_true rfl)) (okk 20 1150 (Nat.le_of_ble_eq_true rfl) (Nat.le_of_ble_eq_true rfl)) al (by decide +kernel) rfl rfl (fun _ => rfl) (fun _ _ q => q) (by decide) (fun cA ad => cell_I (by decide) rfl cA ad) wk_103 (by decide) (by decide) (Nat.le_of_ble_eq_true rfl) rfl rfl dX10_init_165 ?_
  refine wp_nmR (v := 208) (by decide +kernel) ?_
  refine wp_nmH (v := zX10_init_40) rfl ?_
  refine wp_putRF (okk 20 1150 (Nat.le_of_ble_eq_true rfl) (Nat.le_of_ble_eq_true rfl)) ini flf_RX10_86 (show zX10_init_40.1[188]? = some (10, 48) from by decide +kernel) dX10_init_167 ?_
  refine wp_nmH (v := zX10_init_41) rfl ?_
  refine wp_aload_n (v := 188) (okk 20 1150 (Nat.le_of_ble_eq_true rfl) (Nat.le_of_ble_eq_true rfl)) dX10_init_170 rfl ?_
  refine wp_bipush (v := 6) (okk 20 1150 (Nat.le_of_ble_eq_true rfl) (Nat.le_of_ble_eq_true rfl)) dX10_init_171 (by decide) ?_
  refine wp_newaX (kd := 102) (t0 := 1) (N := 6) (ty := .int) (okk 20 1150 (Nat.le_of_ble_eq_true rfl) (Nat.le_of_ble_eq_true rfl)) (okk 21 1156 (Nat.le_of_ble_eq_true rfl) (Nat.le_of_ble_eq_true rfl)) al (by decide +kernel) rfl rfl (fun _ => rfl) (fun _ _ q => q) (by decide) (fun cA ad => cell_I (by decide) rfl cA ad) wk_103 (by decide) (by decide) (Nat.le_of_ble_eq_true rfl) rfl rfl dX10_init_173 ?_
  refine wp_nmR (v := 209) (by decide +kernel) ?_
  refine wp_nmH (v := zX10_init_42) rfl ?_
  refine wp_putRF (okk 21 1156 (Nat.le_of_ble_eq_true rfl) (Nat.le_of_ble_eq_true rfl)) ini flf_RX10_89 (show zX10_init_42.1[188]? = some (10, 48) from by decide +kernel) dX10_init_175 ?_
  refine wp_nmH (v := zX10_init_43) rfl ?_
  refine wp_aload_n (v := 188) (okk 21 1156 (Nat.le_of_ble_eq_true rfl) (Nat.le_of_ble_eq_true rfl)) dX10_init_178 rfl ?_
  refine wp_bipush (v := 6) (okk 21 1156 (Nat.le_of_ble_eq_true rfl) (Nat.le_of_ble_eq_true rfl)) dX10_init_179 (by decide) ?_
  refine wp_newaX (kd := 102) (t0 := 1) (N := 6) (ty := .int) (okk 21 1156 (Nat.le_of_ble_eq_true rfl) (Nat.le_of_ble_eq_true rfl)) (okk 22 1162 (Nat.le_of_ble_eq_true rfl) (Nat.le_of_ble_eq_true rfl)) al (by decide +kernel) rfl rfl (fun _ => rfl) (fun _ _ q => q) (by decide) (fun cA ad => cell_I (by decide) rfl cA ad) wk_103 (by decide) (by decide) (Nat.le_of_ble_eq_true rfl) rfl rfl dX10_init_181 ?_
  refine wp_nmR (v := 210) (by decide +kernel) ?_
  refine wp_nmH (v := zX10_init_44) rfl ?_
  refine wp_putRF (okk 22 1162 (Nat.le_of_ble_eq_true rfl) (Nat.le_of_ble_eq_true rfl)) ini flf_RX10_92 (show zX10_init_44.1[188]? = some (10, 48) from by decide +kernel) dX10_init_183 ?_
  refine wp_nmH (v := zX10_init_45) rfl ?_
  refine wp_aload_n (v := 188) (okk 22 1162 (Nat.le_of_ble_eq_true rfl) (Nat.le_of_ble_eq_true rfl)) dX10_init_186 rfl ?_
  refine wp_bipush (v := 8) (okk 22 1162 (Nat.le_of_ble_eq_true rfl) (Nat.le_of_ble_eq_true rfl)) dX10_init_187 (by decide) ?_
  refine wp_newaX (kd := 102) (t0 := 1) (N := 8) (ty := .int) (okk 22 1162 (Nat.le_of_ble_eq_true rfl) (Nat.le_of_ble_eq_true rfl)) (okk 23 1170 (Nat.le_of_ble_eq_true rfl) (Nat.le_of_ble_eq_true rfl)) al (by decide +kernel) rfl rfl (fun _ => rfl) (fun _ _ q => q) (by decide) (fun cA ad => cell_I (by decide) rfl cA ad) wk_103 (by decide) (by decide) (Nat.le_of_ble_eq_true rfl) rfl rfl dX10_init_189 ?_
  refine wp_nmR (v := 211) (by decide +kernel) ?_
  refine wp_nmH (v := zX10_init_46) rfl ?_
  refine wp_putRF (okk 23 1170 (Nat.le_of_ble_eq_true rfl) (Nat.le_of_ble_eq_true rfl)) ini flf_RX10_95 (show zX10_init_46.1[188]? = some (10, 48) from by decide +kernel) dX10_init_191 ?_
  refine wp_nmH (v := zX10_init_47) rfl ?_
  refine wp_aload_n (v := 188) (okk 23 1170 (Nat.le_of_ble_eq_true rfl) (Nat.le_of_ble_eq_true rfl)) dX10_init_194 rfl ?_
  refine wp_bipush (v := 8) (okk 23 1170 (Nat.le_of_ble_eq_true rfl) (Nat.le_of_ble_eq_true rfl)) dX10_init_195 (by decide) ?_
  refine wp_newaX (kd := 102) (t0 := 1) (N := 8) (ty := .int) (okk 23 1170 (Nat.le_of_ble_eq_true rfl) (Nat.le_of_ble_eq_true rfl)) (okk 24 1178 (Nat.le_of_ble_eq_true rfl) (Nat.le_of_ble_eq_true rfl)) al (by decide +kernel) rfl rfl (fun _ => rfl) (fun _ _ q => q) (by decide) (fun cA ad => cell_I (by decide) rfl cA ad) wk_103 (by decide) (by decide) (Nat.le_of_ble_eq_true rfl) rfl rfl dX10_init_197 ?_
  refine wp_nmR (v := 212) (by decide +kernel) ?_
  refine wp_nmH (v := zX10_init_48) rfl ?_
  refine wp_putRF (okk 24 1178 (Nat.le_of_ble_eq_true rfl) (Nat.le_of_ble_eq_true rfl)) ini flf_RX10_98 (show zX10_init_48.1[188]? = some (10, 48) from by decide +kernel) dX10_init_199 ?_
  refine wp_nmH (v := zX10_init_49) rfl ?_
  refine wp_aload_n (v := 188) (okk 24 1178 (Nat.le_of_ble_eq_true rfl) (Nat.le_of_ble_eq_true rfl)) dX10_init_202 rfl ?_
  refine wp_bipush (v := 8) (okk 24 1178 (Nat.le_of_ble_eq_true rfl) (Nat.le_of_ble_eq_true rfl)) dX10_init_203 (by decide) ?_
  refine wp_newaX (kd := 102) (t0 := 1) (N := 8) (ty := .int) (okk 24 1178 (Nat.le_of_ble_eq_true rfl) (Nat.le_of_ble_eq_true rfl)) (okk 25 1186 (Nat.le_of_ble_eq_true rfl) (Nat.le_of_ble_eq_true rfl)) al (by decide +kernel) rfl rfl (fun _ => rfl) (fun _ _ q => q) (by decide) (fun cA ad => cell_I (by decide) rfl cA ad) wk_103 (by decide) (by decide) (Nat.le_of_ble_eq_true rfl) rfl rfl dX10_init_205 ?_
  refine wp_nmR (v := 213) (by decide +kernel) ?_
  refine wp_nmH (v := zX10_init_50) rfl ?_
  refine wp_putRF (okk 25 1186 (Nat.le_of_ble_eq_true rfl) (Nat.le_of_ble_eq_true rfl)) ini flf_RX10_101 (show zX10_init_50.1[188]? = some (10, 48) from by decide +kernel) dX10_init_207 ?_
  refine wp_nmH (v := zX10_init_51) rfl ?_
  refine wp_aload_n (v := 188) (okk 25 1186 (Nat.le_of_ble_eq_true rfl) (Nat.le_of_ble_eq_true rfl)) dX10_init_210 rfl ?_
  refine wp_bipush (v := 40) (okk 25 1186 (Nat.le_of_ble_eq_true rfl) (Nat.le_of_ble_eq_true rfl)) dX10_init_211 (by decide) ?_
  refine wp_newaX (kd := 102) (t0 := 1) (N := 40) (ty := .int) (okk 25 1186 (Nat.le_of_ble_eq_true rfl) (Nat.le_of_ble_eq_true rfl)) (okk 26 1226 (Nat.le_of_ble_eq_true rfl) (Nat.le_of_ble_eq_true rfl)) al (by decide +kernel) rfl rfl (fun _ => rfl) (fun _ _ q => q) (by decide) (fun cA ad => cell_I (by decide) rfl cA ad) wk_103 (by decide) (by decide) (Nat.le_of_ble_eq_true rfl) rfl rfl dX10_init_213 ?_
  refine wp_nmR (v := 214) (by decide +kernel) ?_
  refine wp_nmH (v := zX10_init_52) rfl ?_
  refine wp_putRF (okk 26 1226 (Nat.le_of_ble_eq_true rfl) (Nat.le_of_ble_eq_true rfl)) ini flf_RX10_104 (show zX10_init_52.1[188]? = some (10, 48) from by decide +kernel) dX10_init_215 ?_
  refine wp_nmH (v := zX10_init_53) rfl ?_
  refine wp_aload_n (v := 188) (okk 26 1226 (Nat.le_of_ble_eq_true rfl) (Nat.le_of_ble_eq_true rfl)) dX10_init_218 rfl ?_
  refine wp_bipush (v := 80) (okk 26 1226 (Nat.le_of_ble_eq_true rfl) (Nat.le_of_ble_eq_true rfl)) dX10_init_219 (by decide) ?_
  refine wp_newaX (kd := 102) (t0 := 1) (N := 80) (ty := .int) (okk 26 1226 (Nat.le_of_ble_eq_true rfl) (Nat.le_of_ble_eq_true rfl)) (okk 27 1306 (Nat.le_of_ble_eq_true rfl) (Nat.le_of_ble_eq_true rfl)) al (by decide +kernel) rfl rfl (fun _ => rfl) (fun _ _ q => q) (by decide) (fun cA ad => cell_I (by decide) rfl cA ad) wk_103 (by decide) (by decide) (Nat.le_of_ble_eq_true rfl) rfl rfl dX10_init_221 ?_
  refine wp_nmR (v := 215) (by decide +kernel) ?_
  refine wp_nmH (v := zX10_init_54) rfl ?_
  refine wp_putRF (okk 27 1306 (Nat.le_of_ble_eq_true rfl) (Nat.le_of_ble_eq_true rfl)) ini flf_RX10_107 (show zX10_init_54.1[188]? = some (10, 48) from by decide +kernel) dX10_init_223 ?_
  refine wp_nmH (v := zX10_init_55) rfl ?_
  refine wp_aload_n (v := 188) (okk 27 1306 (Nat.le_of_ble_eq_true rfl) (Nat.le_of_ble_eq_true rfl)) dX10_init_226 rfl ?_
  refine wp_iconst (v := 3) (okk 27 1306 (Nat.le_of_ble_eq_true rfl) (Nat.le_of_ble_eq_true rfl)) dX10_init_227 (by decide) ?_
  refine wp_newaX (kd := 104) (t0 := 3) (N := 3) (ty := .boolean) (okk 27 1306 (Nat.le_of_ble_eq_true rfl) (Nat.le_of_ble_eq_true rfl)) (okk 28 1309 (Nat.le_of_ble_eq_true rfl) (Nat.le_of_ble_eq_true rfl)) al (by decide +kernel) rfl rfl (fun _ => rfl) (fun _ _ q => q) (by decide) (fun cA ad => cell_I (by decide) rfl cA ad) wk_161 (by decide) (by decide) (Nat.le_of_ble_eq_true rfl) rfl rfl dX10_init_228 ?_
  refine wp_nmR (v := 216) (by decide +kernel) ?_
  refine wp_nmH (v := zX10_init_56) rfl ?_
  refine wp_putRF (okk 28 1309 (Nat.le_of_ble_eq_true rfl) (Nat.le_of_ble_eq_true rfl)) ini flf_RX10_110 (show zX10_init_56.1[188]? = some (10, 48) from by decide +kernel) dX10_init_230 ?_
  refine wp_nmH (v := zX10_init_57) rfl ?_
  refine wp_aload_n (v := 188) (okk 28 1309 (Nat.le_of_ble_eq_true rfl) (Nat.le_of_ble_eq_true rfl)) dX10_init_233 rfl ?_
  refine wp_iconst (v := 3) (okk 28 1309 (Nat.le_of_ble_eq_true rfl) (Nat.le_of_ble_eq_true rfl)) dX10_init_234 (by decide) ?_
  refine wp_newaX (kd := 102) (t0 := 1) (N := 3) (ty := .int) (okk 28 1309 (Nat.le_of_ble_eq_true rfl) (Nat.le_of_ble_eq_true rfl)) (okk 29 1312 (Nat.le_of_ble_eq_true rfl) (Nat.le_of_ble_eq_true rfl)) al (by decide +kernel) rfl rfl (fun _ => rfl) (fun _ _ q => q) (by decide) (fun cA ad => cell_I (by decide) rfl cA ad) wk_103 (by decide) (by decide) (Nat.le_of_ble_eq_true rfl) rfl rfl dX10_init_235 ?_
  refine wp_nmR (v := 217) (by decide +kernel) ?_
  refine wp_nmH (v := zX10_init_58) rfl ?_
  refine wp_putRF (okk 29 1312 (Nat.le_of_ble_eq_true rfl) (Nat.le_of_ble_eq_true rfl)) ini flf_RX10_114 (show zX10_init_58.1[188]? = some (10, 48) from by decide +kernel) dX10_init_237 ?_
  refine wp_nmH (v := zX10_init_59) rfl ?_
  refine wp_aload_n (v := 188) (okk 29 1312 (Nat.le_of_ble_eq_true rfl) (Nat.le_of_ble_eq_true rfl)) dX10_init_240 rfl ?_
  refine wp_bipush (v := 84) (okk 29 1312 (Nat.le_of_ble_eq_true rfl) (Nat.le_of_ble_eq_true rfl)) dX10_init_241 (by decide) ?_
  refine wp_newaX (kd := 102) (t0 := 1) (N := 84) (ty := .int) (okk 29 1312 (Nat.le_of_ble_eq_true rfl) (Nat.le_of_ble_eq_true rfl)) (okk 30 1396 (Nat.le_of_ble_eq_true rfl) (Nat.le_of_ble_eq_true rfl)) al (by decide +kernel) rfl rfl (fun _ => rfl) (fun _ _ q => q) (by decide) (fun cA ad => cell_I (by decide) rfl cA ad) wk_103 (by decide) (by decide) (Nat.le_of_ble_eq_true rfl) rfl rfl dX10_init_243 ?_
  refine wp_nmR (v := 218) (by decide +kernel) ?_
  refine wp_nmH (v := zX10_init_60) rfl ?_
  refine wp_putRF (okk 30 1396 (Nat.le_of_ble_eq_true rfl) (Nat.le_of_ble_eq_true rfl)) ini flf_RX10_117 (show zX10_init_60.1[188]? = some (10, 48) from by decide +kernel) dX10_init_245 ?_
  refine wp_nmH (v := zX10_init_61) rfl ?_
  refine wp_aload_n (v := 188) (okk 30 1396 (Nat.le_of_ble_eq_true rfl) (Nat.le_of_ble_eq_true rfl)) dX10_init_248 rfl ?_
  refine wp_getR (b := 193) (okk 30 1396 (Nat.le_of_ble_eq_true rfl) (Nat.le_of_ble_eq_true rfl)) fl_RX10_41 (show zX10_init_61.1[188]? = some (10, 48) from by decide +kernel) (by decide +kernel) dX10_init_249 ?_
  refine wp_bipush (v := 24) (okk 30 1396 (Nat.le_of_ble_eq_true rfl) (Nat.le_of_ble_eq_true rfl)) dX10_init_252 (by decide) ?_
  refine wp_iconst (v := 2) (okk 30 1396 (Nat.le_of_ble_eq_true rfl) (Nat.le_of_ble_eq_true rfl)) dX10_init_254 (by decide) ?_
  refine wp_iast (okk 30 1396 (Nat.le_of_ble_eq_true rfl) (Nat.le_of_ble_eq_true rfl)) (show zX10_init_61.1[193]? = some (102, 28) from by decide +kernel) (ix_lit (by decide +kernel)) dX10_init_255 ?_
  refine wp_nmH (v := zX10_init_62) rfl ?_
  refine wp_aload_n (v := 188) (okk 30 1396 (Nat.le_of_ble_eq_true rfl) (Nat.le_of_ble_eq_true rfl)) dX10_init_256 rfl ?_
  refine wp_getR (b := 190) (okk 30 1396 (Nat.le_of_ble_eq_true rfl) (Nat.le_of_ble_eq_true rfl)) fl_RX10_31 (show zX10_init_62.1[188]? = some (10, 48) from by decide +kernel) (by decide +kernel) dX10_init_257 ?_
  refine wp_iconst (v := 0) (okk 30 1396 (Nat.le_of_ble_eq_true rfl) (Nat.le_of_ble_eq_true rfl)) dX10_init_260 (by decide) ?_
  refine wp_iconst (v := -1) (okk 30 1396 (Nat.le_of_ble_eq_true rfl) (Nat.le_of_ble_eq_true rfl)) dX10_init_261 (by decide) ?_
  refine wp_iast (okk 30 1396 (Nat.le_of_ble_eq_true rfl) (Nat.le_of_ble_eq_true rfl)) (show zX10_init_62.1[190]? = some (102, 8) from by decide +kernel) (ix_lit (by decide +kernel)) dX10_init_262 ?_
  refine wp_nmH (v := zX10_init_63) rfl ?_
  exact wp_vretA (okk 30 1396 (Nat.le_of_ble_eq_true rfl) (Nat.le_of_ble_eq_true rfl)) hF rfl dX10_init_263
