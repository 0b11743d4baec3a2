/-! ===== the three wrappers, walked ===== -/
theorem my_X9_market : MyV yX9_market cX9_market 3 (some (.int)) := ⟨gw_t 959 (by decide +kernel) (by decide +kernel), gw_t 960 (by decide +kernel) (by decide +kernel), gw_t 1 (by decide +kernel) (by decide +kernel), gw_t 961 (by decide +kernel) (by decide +kernel), by decide +kernel, by decide +kernel⟩
theorem pd_X9_market : (parseMethodDescriptor yX9_market.desc).map (fun d => d.parameters.length) = some 2 := by decide +kernel
theorem my_X9_load : MyV yX9_load cX9_load 3 (some (.int)) := ⟨gw_t 1027 (by decide +kernel) (by decide +kernel), gw_t 1028 (by decide +kernel) (by decide +kernel), gw_t 1 (by decide +kernel) (by decide +kernel), gw_t 1029 (by decide +kernel) (by decide +kernel), by decide +kernel, by decide +kernel⟩
theorem pd_X9_load : (parseMethodDescriptor yX9_load.desc).map (fun d => d.parameters.length) = some 2 := by decide +kernel
theorem my_X9_row : MyV yX9_row cX9_row 2 (some (.long)) := ⟨gw_t 1034 (by decide +kernel) (by decide +kernel), gw_t 1035 (by decide +kernel) (by decide +kernel), gw_t 1 (by decide +kernel) (by decide +kernel), gw_t 1036 (by decide +kernel) (by decide +kernel), by decide +kernel, by decide +kernel⟩
theorem pd_X9_row : (parseMethodDescriptor yX9_row.desc).map (fun d => d.parameters.length) = some 1 := by decide +kernel
theorem wk_957 : Cond.classLink RL 13 eNS ∈ gw := gw_t 957 (by decide +kernel) (by decide +kernel)
theorem lk_X9_market : Cond.methodLink RL 7 yX9_market ∈ gw := gw_t 958 (by decide +kernel) (by decide +kernel)
set_option maxHeartbeats 4000000 in
theorem m_L_market {l : Launch} {h : HP} {a o k : Nat} {x1 x2 : Int32} {rp : Option Int32 × HP} {f : Nat} (fa : h.1[a]? = some (9, k)) (fo : h.1[o]? = some (103, 1)) (hm : MtX l yX9_market cX9_market 3 (some .int) f (.ref a :: [.int x1, .int x2]) h (QXI rp) (QXt rp)) : MtH l yL_market cL_market 5 (some .int) [(0, 10, 13, 13)] (f + 1) [.ref a, .int x1, .int x2, .ref o] h (QI (rE h o rp).1 (rE h o rp).2) := by
  refine MtH.of (by decide +kernel) (Nat.le_of_ble_eq_true rfl) (fun x hl okk hF tab th => ?_)
  subst hl
  show wp (cs x 0 0) 0 [(0, .ref a), (1, .int x1), (2, .int x2), (3, .ref o)] [] h
  refine wp_aload_n (v := o) (okk 0 0 (by omega) (by omega)) dL_market_0 rfl ?_
  refine wp_iconst (v := 0) (okk 0 0 (by omega) (by omega)) dL_market_1 (by decide) ?_
  refine wp_aload_n (v := a) (okk 0 0 (by omega) (by omega)) dL_market_2 rfl ?_
  refine wp_iload_n (v := x1) (okk 0 0 (by omega) (by omega)) dL_market_3 rfl ?_
  refine wp_iload_n (v := x2) (okk 0 0 (by omega) (by omega)) dL_market_4 rfl ?_
  refine wp_callVX (ci := 9) (As := [.int x1, .int x2]) (rest := [.int 0, .ref o]) (ka := 4) (ph2 := 15) (okk 0 0 (by omega) (by omega)) (okk 1 6 (by omega) (by omega)) tab th hm my_X9_market lk_X9_market pd_X9_market (by omega) rfl rfl (by decide) fa rfl rfl rfl dL_market_5 (by decide) (by decide) wk_957 (by decide) rfl (Or.inl ⟨dL_market_13, rfl⟩) (fun r h1 hQ e1 => ?_) (fun h1 hQ e1 => ?_)
  · obtain ⟨v, rfl, hv⟩ := hQ
    subst hv
    refine wp_i2l (okk 1 6 (by omega) (by omega)) dL_market_8 ?_
    refine wp_last (okk 1 6 (by omega) (by omega)) (sh_of e1 fo) (ix_lit (by decide)) dL_market_9 ?_
    refine wp_goto (tgt := 17) (okk 1 6 (by omega) (by omega)) dL_market_10 (by decide) ?_
    refine wp_iconst (v := 0) (okk 1 6 (by omega) (by omega)) dL_market_17 (by decide) ?_
    exact wp_iret (okk 1 6 (by omega) (by omega)) hF rfl e1 ⟨rfl, rfl⟩ dL_market_18
  · have hv : rp = (none, h1) := hQ
    subst hv
    refine wp_iconst (v := 1) (okk 1 6 (by omega) (by omega)) dL_market_15 (by decide) ?_
    exact wp_iret (okk 1 6 (by omega) (by omega)) hF rfl e1 ⟨rfl, rfl⟩ dL_market_16
theorem lk_X9_load : Cond.methodLink RL 15 yX9_load ∈ gw := gw_t 1026 (by decide +kernel) (by decide +kernel)
set_option maxHeartbeats 4000000 in
theorem m_L_load {l : Launch} {h : HP} {a o k : Nat} {x1 x2 : Int32} {rp : Option Int32 × HP} {f : Nat} (fa : h.1[a]? = some (9, k)) (fo : h.1[o]? = some (103, 1)) (hm : MtX l yX9_load cX9_load 3 (some .int) f (.ref a :: [.int x1, .int x2]) h (QXI rp) (QXt rp)) : MtH l yL_load cL_load 5 (some .int) [(0, 10, 13, 13)] (f + 1) [.ref a, .int x1, .int x2, .ref o] h (QI (rE h o rp).1 (rE h o rp).2) := by
  refine MtH.of (by decide +kernel) (Nat.le_of_ble_eq_true rfl) (fun x hl okk hF tab th => ?_)
  subst hl
  show wp (cs x 0 0) 0 [(0, .ref a), (1, .int x1), (2, .int x2), (3, .ref o)] [] h
  refine wp_aload_n (v := o) (okk 0 0 (by omega) (by omega)) dL_load_0 rfl ?_
  refine wp_iconst (v := 0) (okk 0 0 (by omega) (by omega)) dL_load_1 (by decide) ?_
  refine wp_aload_n (v := a) (okk 0 0 (by omega) (by omega)) dL_load_2 rfl ?_
  refine wp_iload_n (v := x1) (okk 0 0 (by omega) (by omega)) dL_load_3 rfl ?_
  refine wp_iload_n (v := x2) (okk 0 0 (by omega) (by omega)) dL_load_4 rfl ?_
  refine wp_callVX (ci := 9) (As := [.int x1, .int x2]) (rest := [.int 0, .ref o]) (ka := 4) (ph2 := 15) (okk 0 0 (by omega) (by omega)) (okk 1 6 (by omega) (by omega)) tab th hm my_X9_load lk_X9_load pd_X9_load (by omega) rfl rfl (by decide) fa rfl rfl rfl dL_load_5 (by decide) (by decide) wk_957 (by decide) rfl (Or.inl ⟨dL_load_13, rfl⟩) (fun r h1 hQ e1 => ?_) (fun h1 hQ e1 => ?_)
  · obtain ⟨v, rfl, hv⟩ := hQ
    subst hv
    refine wp_i2l (okk 1 6 (by omega) (by omega)) dL_load_8 ?_
    refine wp_last (okk 1 6 (by omega) (by omega)) (sh_of e1 fo) (ix_lit (by decide)) dL_load_9 ?_
    refine wp_goto (tgt := 17) (okk 1 6 (by omega) (by omega)) dL_load_10 (by decide) ?_
    refine wp_iconst (v := 0) (okk 1 6 (by omega) (by omega)) dL_load_17 (by decide) ?_
    exact wp_iret (okk 1 6 (by omega) (by omega)) hF rfl e1 ⟨rfl, rfl⟩ dL_load_18
  · have hv : rp = (none, h1) := hQ
    subst hv
    refine wp_iconst (v := 1) (okk 1 6 (by omega) (by omega)) dL_load_15 (by decide) ?_
    exact wp_iret (okk 1 6 (by omega) (by omega)) hF rfl e1 ⟨rfl, rfl⟩ dL_load_16
theorem lk_X9_row : Cond.methodLink RL 18 yX9_row ∈ gw := gw_t 1033 (by decide +kernel) (by decide +kernel)
set_option maxHeartbeats 4000000 in
theorem m_L_row {l : Launch} {h : HP} {a o k : Nat} {x1 : Int32} {rp : Option Int64 × HP} {f : Nat} (fa : h.1[a]? = some (9, k)) (fo : h.1[o]? = some (103, 1)) (hm : MtX l yX9_row cX9_row 2 (some .long) f (.ref a :: [.int x1]) h (QXJ rp) (QXt rp)) : MtH l yL_row cL_row 4 (some .int) [(0, 8, 11, 13)] (f + 1) [.ref a, .int x1, .ref o] h (QI (rEJ h o rp).1 (rEJ h o rp).2) := by
  refine MtH.of (by decide +kernel) (Nat.le_of_ble_eq_true rfl) (fun x hl okk hF tab th => ?_)
  subst hl
  show wp (cs x 0 0) 0 [(0, .ref a), (1, .int x1), (2, .ref o)] [] h
  refine wp_aload_n (v := o) (okk 0 0 (by omega) (by omega)) dL_row_0 rfl ?_
  refine wp_iconst (v := 0) (okk 0 0 (by omega) (by omega)) dL_row_1 (by decide) ?_
  refine wp_aload_n (v := a) (okk 0 0 (by omega) (by omega)) dL_row_2 rfl ?_
  refine wp_iload_n (v := x1) (okk 0 0 (by omega) (by omega)) dL_row_3 rfl ?_
  refine wp_callVX (ci := 9) (As := [.int x1]) (rest := [.int 0, .ref o]) (ka := 3) (ph2 := 12) (okk 0 0 (by omega) (by omega)) (okk 1 6 (by omega) (by omega)) tab th hm my_X9_row lk_X9_row pd_X9_row (by omega) rfl rfl (by decide) fa rfl rfl rfl dL_row_4 (by decide) (by decide) wk_957 (by decide) rfl (Or.inr ⟨3, rfl, dL_row_11, rfl⟩) (fun r h1 hQ e1 => ?_) (fun h1 hQ e1 => ?_)
  · obtain ⟨v, rfl, hv⟩ := hQ
    subst hv
    refine wp_last (okk 1 6 (by omega) (by omega)) (sh_of e1 fo) (ix_lit (by decide)) dL_row_7 ?_
    refine wp_goto (tgt := 14) (okk 1 6 (by omega) (by omega)) dL_row_8 (by decide) ?_
    refine wp_iconst (v := 0) (okk 1 6 (by omega) (by omega)) dL_row_14 (by decide) ?_
    exact wp_iret (okk 1 6 (by omega) (by omega)) hF rfl e1 ⟨rfl, rfl⟩ dL_row_15
  · have hv : rp = (none, h1) := hQ
    subst hv
    refine wp_iconst (v := 1) (okk 1 6 (by omega) (by omega)) dL_row_12 (by decide) ?_
    exact wp_iret (okk 1 6 (by omega) (by omega)) hF rfl e1 ⟨rfl, rfl⟩ dL_row_13
