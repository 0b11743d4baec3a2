/-! ===== walks ===== -/
set_option maxHeartbeats 4000000 in
set_option maxRecDepth 100000 in
theorem l_X10_taxesOf_B25 {x : Cx} {h0 : HP} {N fr : Nat} {rr : (Int32 × HP)} (ok : Okx x cX10_taxesOf yX10_taxesOf.cls 6 fr) (hfr : 2 ≤ fr)  {x1 : Nat} {x2 : Int32} {x3 : Int32} {n_x1 : Nat} (f_x1 : h0.1[x1]? = some (102, n_x1)) (hF : Fend x h0 (some (.int)) (QI rr.1 rr.2)) : ∀ (n : Nat) (x4 : Int32) (h : HP), lp (fun _ _ => none) (f_X10_taxesOf_B25 N x1 x2 x3) n x4 h = some rr → h.1 = h0.1 → wp x 25 [(4, .int x4), (1, .ref x1), (2, .int x2), (3, .int x3)] [] h := by
  intro n
  induction n with
  | zero => intro x4 h hq e; exact (Option.some_ne_none _ hq.symm).elim
  | succ n ih => exact s_X10_taxesOf_B25 ok hfr f_x1 hF  ih
set_option maxHeartbeats 4000000 in
set_option maxRecDepth 100000 in
theorem m_X10_taxesOf {l : Launch} {h : HP} {N : Nat} {x0 : Nat} {x1 : Nat} {x2 : Int32} {x3 : Int32} {rr : Int32} {rh : HP} {fr : Nat} (hq : f_X10_taxesOf N h x0 x1 x2 x3 = some (rr, rh)) (hfr : 2 ≤ fr) : Mt l yX10_taxesOf cX10_taxesOf 6 (some (.int)) fr [.ref x0, .ref x1, .int x2, .int x3] h (QI rr rh) := by
  obtain ⟨rp, ep⟩ : ∃ rp : (Int32 × HP), rp = (rr, rh) := ⟨_, rfl⟩
  have e1p : rr = rp.1 := (congrArg Prod.fst ep).symm
  have e2p : rh = rp.2 := (congrArg Prod.snd ep).symm
  rw [← ep] at hq
  rw [e1p, e2p]
  clear e1p e2p ep
  refine Mt.of (by decide +kernel) (Nat.le_of_ble_eq_true rfl) (fun x hl ok hF => ?_)
  subst hl
  show wp x 0 [(0, .ref x0), (1, .ref x1), (2, .int x2), (3, .int x3)] [] h
  unfold f_X10_taxesOf at hq
  obtain ⟨h0, eh0⟩ : ∃ h0 : HP, h = h0 := ⟨h, rfl⟩
  have e : h.1 = h0.1 := by rw [eh0]
  rw [eh0] at hF
  obtain ⟨g_x0, hq⟩ := gP_some hq
  obtain ⟨n_x0, f_x0⟩ := kO_some g_x0
  replace f_x0 := sh_of e.symm f_x0
  obtain ⟨g_x1, hq⟩ := gP_some hq
  obtain ⟨n_x1, f_x1⟩ := kO_some g_x1
  replace f_x1 := sh_of e.symm f_x1
  refine wp_aload_n (v := x0) ok dX10_taxesOf_0 rfl ?_
  refine wp_iload_n (v := x2) ok dX10_taxesOf_1 rfl ?_
  obtain ⟨v1, e2, hq⟩ := bnd_some hq
  refine wp_callVI (As := [.int x2]) (rest := []) (h1 := h) ok (m_X10_isMarket e2 (Nat.le_refl _)) my_X10_isMarket (w_1288) pd_X10_isMarket (Nat.le_trans (by decide) hfr) rfl (ci := 10) rfl (by decide) (sh_of e f_x0) rfl rfl rfl dX10_taxesOf_2 (fun e3 => ?_)
  refine wp_if_eq (tgt := 20) ok dX10_taxesOf_5 (by decide) (fun c4 => ?_) (fun c4 => ?_)
  · have hq := ite_t c4 hq
    refine wp_iconst (v := -1) ok dX10_taxesOf_20 (by decide) ?_
    exact wp_iret ok hF rfl e (re2I hq) dX10_taxesOf_21
  · have hq := ite_f c4 hq
    refine wp_iload_n (v := x3) ok dX10_taxesOf_8 rfl ?_
    refine wp_i2l ok dX10_taxesOf_9 ?_
    refine wp_lconst (v := 1) ok dX10_taxesOf_10 (by decide) ?_
    refine wp_ldc2 (v := 9) ok (w_1394) dX10_taxesOf_11 ?_
    obtain ⟨v5, e6, hq⟩ := bnd_some hq
    refine wp_callSI (As := [.long (x3.toInt64), .long 1, .long 9]) (rest := []) (h1 := h) ok (m_X10_in e6 (Nat.le_refl _)) my_X10_in (w_1200) pd_X10_in (Nat.le_trans (by decide) hfr) rfl rfl rfl rfl dX10_taxesOf_14 (fun e7 => ?_)
    refine wp_if_ne (tgt := 22) ok dX10_taxesOf_17 (by decide) (fun c8 => ?_) (fun c8 => ?_)
    · have hq := ite_f c8 hq
      refine wp_iconst (v := 0) ok dX10_taxesOf_22 (by decide) ?_
      refine wp_istore (L' := [(4, .int 0), (0, .ref x0), (1, .ref x1), (2, .int x2), (3, .int x3)]) ok dX10_taxesOf_23 rfl rfl ?_
      refine wp_sub (L' := [(4, .int 0), (1, .ref x1), (2, .int x2), (3, .int x3)]) [0, 2, 3, 4] rfl ?_
      refine l_X10_taxesOf_B25 ok hfr f_x1 hF  N 0 h hq e
    · have hq := ite_t c8 hq
      refine wp_iconst (v := -1) ok dX10_taxesOf_20 (by decide) ?_
      exact wp_iret ok hF rfl e (re2I hq) dX10_taxesOf_21
set_option maxHeartbeats 4000000 in
set_option maxRecDepth 100000 in
theorem m_X10_burnsAt {l : Launch} {h : HP} {x0 : Nat} {x1 : Int32} {rr : Int32} {rh : HP} {fr : Nat} (hq : f_X10_burnsAt h x0 x1 = some (rr, rh)) (hfr : 2 ≤ fr) : Mt l yX10_burnsAt cX10_burnsAt 3 (some (.int)) fr [.ref x0, .int x1] h (QI rr rh) := by
  obtain ⟨rp, ep⟩ : ∃ rp : (Int32 × HP), rp = (rr, rh) := ⟨_, rfl⟩
  have e1p : rr = rp.1 := (congrArg Prod.fst ep).symm
  have e2p : rh = rp.2 := (congrArg Prod.snd ep).symm
  rw [← ep] at hq
  rw [e1p, e2p]
  clear e1p e2p ep
  refine Mt.of (by decide +kernel) (Nat.le_of_ble_eq_true rfl) (fun x hl ok hF => ?_)
  subst hl
  show wp x 0 [(0, .ref x0), (1, .int x1)] [] h
  unfold f_X10_burnsAt at hq
  obtain ⟨h0, eh0⟩ : ∃ h0 : HP, h = h0 := ⟨h, rfl⟩
  have e : h.1 = h0.1 := by rw [eh0]
  rw [eh0] at hF
  obtain ⟨g_x0, hq⟩ := gP_some hq
  obtain ⟨n_x0, f_x0⟩ := kO_some g_x0
  replace f_x0 := sh_of e.symm f_x0
  refine wp_aload_n (v := x0) ok dX10_burnsAt_0 rfl ?_
  refine wp_iload_n (v := x1) ok dX10_burnsAt_1 rfl ?_
  obtain ⟨v1, e2, hq⟩ := bnd_some hq
  refine wp_callVI (As := [.int x1]) (rest := []) (h1 := h) ok (m_X10_isMarket e2 (Nat.le_refl _)) my_X10_isMarket (w_1288) pd_X10_isMarket (Nat.le_trans (by decide) hfr) rfl (ci := 10) rfl (by decide) (sh_of e f_x0) rfl rfl rfl dX10_burnsAt_2 (fun e3 => ?_)
  refine wp_if_ne (tgt := 10) ok dX10_burnsAt_5 (by decide) (fun c4 => ?_) (fun c4 => ?_)
  · have hq := ite_f c4 hq
    refine wp_aload_n (v := x0) ok dX10_burnsAt_10 rfl ?_
    obtain ⟨t5, e6, hq⟩ := bnd_some hq
    obtain ⟨e7, n8, f9⟩ := rK_some e6
    replace f9 := sh_of (e).symm f9
    refine wp_getR ok fl_RX10_41 (sh_of e f_x0) e7 dX10_burnsAt_11 ?_
    refine wp_iconst (v := 1) ok dX10_burnsAt_14 (by decide) ?_
    refine wp_iload_n (v := x1) ok dX10_burnsAt_15 rfl ?_
    obtain ⟨v10, e11, hq⟩ := bnd_some hq
    refine wp_callSI (As := [.int 1, .int x1]) (rest := [.ref t5]) (h1 := h) ok (m_X10_at e11 (Nat.le_refl _)) my_X10_at (w_1301) pd_X10_at (Nat.le_trans (by decide) hfr) rfl rfl rfl rfl dX10_burnsAt_16 (fun e12 => ?_)
    obtain ⟨g13, hq⟩ := gP_some hq
    refine wp_iald ok (sh_of e f9) (ix_of (sh_of e f9) g13) dX10_burnsAt_19 ?_
    obtain ⟨v14, e15, hq⟩ := lt_some hq
    refine wp_nmI e15 ?_
    refine wp_istore_n (L' := [(2, .int v14), (0, .ref x0), (1, .int x1)]) ok dX10_burnsAt_20 rfl rfl ?_
    refine wp_aload_n (v := x0) ok dX10_burnsAt_21 rfl ?_
    obtain ⟨t16, e17, hq⟩ := bnd_some hq
    obtain ⟨e18, n19, f20⟩ := rK_some e17
    replace f20 := sh_of (e).symm f20
    refine wp_getR ok fl_RX10_41 (sh_of e f_x0) e18 dX10_burnsAt_22 ?_
    refine wp_iconst (v := 1) ok dX10_burnsAt_25 (by decide) ?_
    refine wp_iload_n (v := x1) ok dX10_burnsAt_26 rfl ?_
    obtain ⟨v21, e22, hq⟩ := bnd_some hq
    refine wp_callSI (As := [.int 1, .int x1]) (rest := [.ref t16]) (h1 := h) ok (m_X10_at e22 (Nat.le_refl _)) my_X10_at (w_1301) pd_X10_at (Nat.le_trans (by decide) hfr) rfl rfl rfl rfl dX10_burnsAt_27 (fun e23 => ?_)
    refine wp_iconst (v := 0) ok dX10_burnsAt_30 (by decide) ?_
    obtain ⟨g24, hq⟩ := gP_some hq
    refine wp_iast ok (sh_of e f20) (ix_of (sh_of e f20) g24) dX10_burnsAt_31 ?_
    obtain ⟨h25, e26, hq⟩ := lt_some hq
    refine wp_nmH e26 ?_
    have e27 : h25.1 = h0.1 := (congrArg Prod.fst e26).trans e
    refine wp_iload_n (v := v14) ok dX10_burnsAt_32 rfl ?_
    refine wp_if_ne (tgt := 41) ok dX10_burnsAt_33 (by decide) (fun c28 => ?_) (fun c28 => ?_)
    · have hq := ite_f c28 hq
      refine wp_iload_n (v := v14) ok dX10_burnsAt_41 rfl ?_
      exact wp_iret ok hF rfl e27 (re2I hq) dX10_burnsAt_42
    · have hq := ite_t c28 hq
      refine wp_bipush (v := -2) ok dX10_burnsAt_36 (by decide) ?_
      refine wp_goto (tgt := 42) ok dX10_burnsAt_38 (by decide) ?_
      exact wp_iret ok hF rfl e27 (re2I hq) dX10_burnsAt_42
  · have hq := ite_t c4 hq
    refine wp_iconst (v := -1) ok dX10_burnsAt_8 (by decide) ?_
    exact wp_iret ok hF rfl e (re2I hq) dX10_burnsAt_9
set_option maxHeartbeats 4000000 in
set_option maxRecDepth 100000 in
theorem m_X10_flowsBy {l : Launch} {h : HP} {x0 : Nat} {x1 : Int32} {rr : Int32} {rh : HP} {fr : Nat} (hq : f_X10_flowsBy h x0 x1 = some (rr, rh)) (hfr : 1 ≤ fr) : Mt l yX10_flowsBy cX10_flowsBy 3 (some (.int)) fr [.ref x0, .int x1] h (QI rr rh) := by
  obtain ⟨rp, ep⟩ : ∃ rp : (Int32 × HP), rp = (rr, rh) := ⟨_, rfl⟩
  have e1p : rr = rp.1 := (congrArg Prod.fst ep).symm
  have e2p : rh = rp.2 := (congrArg Prod.snd ep).symm
  rw [← ep] at hq
  rw [e1p, e2p]
  clear e1p e2p ep
  refine Mt.of (by decide +kernel) (Nat.le_of_ble_eq_true rfl) (fun x hl ok hF => ?_)
  subst hl
  show wp x 0 [(0, .ref x0), (1, .int x1)] [] h
  unfold f_X10_flowsBy at hq
  obtain ⟨h0, eh0⟩ : ∃ h0 : HP, h = h0 := ⟨h, rfl⟩
  have e : h.1 = h0.1 := by rw [eh0]
  rw [eh0] at hF
  obtain ⟨g_x0, hq⟩ := gP_some hq
  obtain ⟨n_x0, f_x0⟩ := kO_some g_x0
  replace f_x0 := sh_of e.symm f_x0
  refine wp_iload_n (v := x1) ok dX10_flowsBy_0 rfl ?_
  refine wp_i2l ok dX10_flowsBy_1 ?_
  refine wp_lconst (v := 0) ok dX10_flowsBy_2 (by decide) ?_
  refine wp_ldc2 (v := 9) ok (w_1394) dX10_flowsBy_3 ?_
  obtain ⟨v1, e2, hq⟩ := bnd_some hq
  refine wp_callSI (As := [.long (x1.toInt64), .long 0, .long 9]) (rest := []) (h1 := h) ok (m_X10_in e2 (Nat.le_refl _)) my_X10_in (w_1200) pd_X10_in (Nat.le_trans (by decide) hfr) rfl rfl rfl rfl dX10_flowsBy_6 (fun e3 => ?_)
  refine wp_if_ne (tgt := 14) ok dX10_flowsBy_9 (by decide) (fun c4 => ?_) (fun c4 => ?_)
  · have hq := ite_f c4 hq
    refine wp_aload_n (v := x0) ok dX10_flowsBy_14 rfl ?_
    obtain ⟨t5, e6, hq⟩ := bnd_some hq
    obtain ⟨e7, n8, f9⟩ := rK_some e6
    replace f9 := sh_of (e).symm f9
    refine wp_getR ok fl_RX10_41 (sh_of e f_x0) e7 dX10_flowsBy_15 ?_
    refine wp_bipush (v := 24) ok dX10_flowsBy_18 (by decide) ?_
    obtain ⟨g10, hq⟩ := gP_some hq
    refine wp_iald ok (sh_of e f9) (ix_of (sh_of e f9) g10) dX10_flowsBy_20 ?_
    obtain ⟨v11, e12, hq⟩ := lt_some hq
    refine wp_nmI e12 ?_
    refine wp_istore_n (L' := [(2, .int v11), (0, .ref x0), (1, .int x1)]) ok dX10_flowsBy_21 rfl rfl ?_
    refine wp_aload_n (v := x0) ok dX10_flowsBy_22 rfl ?_
    obtain ⟨t13, e14, hq⟩ := bnd_some hq
    obtain ⟨e15, n16, f17⟩ := rK_some e14
    replace f17 := sh_of (e).symm f17
    refine wp_getR ok fl_RX10_41 (sh_of e f_x0) e15 dX10_flowsBy_23 ?_
    refine wp_bipush (v := 24) ok dX10_flowsBy_26 (by decide) ?_
    refine wp_iload_n (v := x1) ok dX10_flowsBy_28 rfl ?_
    obtain ⟨g18, hq⟩ := gP_some hq
    refine wp_iast ok (sh_of e f17) (ix_of (sh_of e f17) g18) dX10_flowsBy_29 ?_
    obtain ⟨h19, e20, hq⟩ := lt_some hq
    refine wp_nmH e20 ?_
    have e21 : h19.1 = h0.1 := (congrArg Prod.fst e20).trans e
    refine wp_iload_n (v := v11) ok dX10_flowsBy_30 rfl ?_
    exact wp_iret ok hF rfl e21 (re2I hq) dX10_flowsBy_31
  · have hq := ite_t c4 hq
    refine wp_iconst (v := -1) ok dX10_flowsBy_12 (by decide) ?_
    exact wp_iret ok hF rfl e (re2I hq) dX10_flowsBy_13
set_option maxHeartbeats 4000000 in
set_option maxRecDepth 100000 in
theorem m_X10_months {l : Launch} {h : HP} {N : Nat} {x0 : Nat} {x1 : Int32} {rr : Int32} {rh : HP} {fr : Nat} (hq : f_X10_months N h x0 x1 = some (rr, rh)) (hfr : 5 ≤ fr) : Mt l yX10_months cX10_months 2 (some (.int)) fr [.ref x0, .int x1] h (QI rr rh) := by
  obtain ⟨rp, ep⟩ : ∃ rp : (Int32 × HP), rp = (rr, rh) := ⟨_, rfl⟩
  have e1p : rr = rp.1 := (congrArg Prod.fst ep).symm
  have e2p : rh = rp.2 := (congrArg Prod.snd ep).symm
  rw [← ep] at hq
  rw [e1p, e2p]
  clear e1p e2p ep
  refine Mt.of (by decide +kernel) (Nat.le_of_ble_eq_true rfl) (fun x hl ok hF => ?_)
  subst hl
  show wp x 0 [(0, .ref x0), (1, .int x1)] [] h
  unfold f_X10_months at hq
  obtain ⟨h0, eh0⟩ : ∃ h0 : HP, h = h0 := ⟨h, rfl⟩
  have e : h.1 = h0.1 := by rw [eh0]
  rw [eh0] at hF
  obtain ⟨g_x0, hq⟩ := gP_some hq
  obtain ⟨n_x0, f_x0⟩ := kO_some g_x0
  replace f_x0 := sh_of e.symm f_x0
  refine wp_aload_n (v := x0) ok dX10_months_0 rfl ?_
  refine wp_iconst (v := 0) ok dX10_months_1 (by decide) ?_
  refine wp_putI ok flw_RX10_3 (nr_10_0 _) (sh_of e f_x0) dX10_months_2 ?_
  obtain ⟨h1, e2, hq⟩ := lt_some hq
  refine wp_nmH e2 ?_
  have e3 : h1.1 = h0.1 := (congrArg Prod.fst e2).trans e
  refine wp_iload_n (v := x1) ok dX10_months_5 rfl ?_
  refine wp_i2l ok dX10_months_6 ?_
  refine wp_lconst (v := 0) ok dX10_months_7 (by decide) ?_
  refine wp_ldc2 (v := 60) ok (w_1334) dX10_months_8 ?_
  obtain ⟨v4, e5, hq⟩ := bnd_some hq
  refine wp_callSI (As := [.long (x1.toInt64), .long 0, .long 60]) (rest := []) (h1 := h1) ok (m_X10_in e5 (Nat.le_refl _)) my_X10_in (w_1200) pd_X10_in (Nat.le_trans (by decide) hfr) rfl rfl rfl rfl dX10_months_11 (fun e6 => ?_)
  refine wp_if_ne (tgt := 19) ok dX10_months_14 (by decide) (fun c7 => ?_) (fun c7 => ?_)
  · have hq := ite_f c7 hq
    refine wp_aload_n (v := x0) ok dX10_months_19 rfl ?_
    obtain ⟨h8, e9, hq⟩ := bnd_some hq
    refine wp_callVV (As := []) (rest := []) (h1 := h8) ok (m_X10_putsBy e9 (Nat.le_refl _)) my_X10_putsBy (w_1335) pd_X10_putsBy (Nat.le_trans (by decide) hfr) rfl (ci := 10) rfl (by decide) (sh_of e3 f_x0) rfl rfl rfl dX10_months_20 (fun e10 => ?_)
    have e11 : h8.1 = h0.1 := (e10).trans e3
    refine wp_aload_n (v := x0) ok dX10_months_23 rfl ?_
    refine wp_iconst (v := 0) ok dX10_months_24 (by decide) ?_
    refine wp_putI ok flw_RX10_271 (nr_10_27 _) (sh_of e11 f_x0) dX10_months_25 ?_
    obtain ⟨h12, e13, hq⟩ := lt_some hq
    refine wp_nmH e13 ?_
    have e14 : h12.1 = h0.1 := (congrArg Prod.fst e13).trans e11
    refine wp_aload_n (v := x0) ok dX10_months_28 rfl ?_
    refine wp_aload_n (v := x0) ok dX10_months_29 rfl ?_
    obtain ⟨t15, e16, hq⟩ := bnd_some hq
    obtain ⟨e17, n18, f19⟩ := rK_some e16
    replace f19 := sh_of (e14).symm f19
    refine wp_getR ok fl_RX10_41 (sh_of e14 f_x0) e17 dX10_months_30 ?_
    refine wp_iload_n (v := x1) ok dX10_months_33 rfl ?_
    obtain ⟨h20, e21, hq⟩ := bnd_some hq
    refine wp_callVV (As := [.ref t15, .int x1]) (rest := []) (h1 := h20) ok (m_X10_goesOn e21 (Nat.le_refl _)) my_X10_goesOn (w_1339) pd_X10_goesOn (Nat.le_trans (by decide) hfr) rfl (ci := 10) rfl (by decide) (sh_of e14 f_x0) rfl rfl rfl dX10_months_34 (fun e22 => ?_)
    have e23 : h20.1 = h0.1 := (e22).trans e14
    refine wp_aload_n (v := x0) ok dX10_months_37 rfl ?_
    refine wp_iconst (v := 0) ok dX10_months_38 (by decide) ?_
    refine wp_putI ok flw_RX10_15 (nr_10_1 _) (sh_of e23 f_x0) dX10_months_39 ?_
    obtain ⟨h24, e25, hq⟩ := lt_some hq
    refine wp_nmH e25 ?_
    have e26 : h24.1 = h0.1 := (congrArg Prod.fst e25).trans e23
    refine wp_aload_n (v := x0) ok dX10_months_42 rfl ?_
    refine wp_aload_n (v := x0) ok dX10_months_43 rfl ?_
    refine wp_getI ok fl_RX10_271 (sh_of e26 f_x0) dX10_months_44 ?_
    refine wp_i2l ok dX10_months_47 ?_
    obtain ⟨h27, e28, hq⟩ := bnd_some hq
    refine wp_callVV (As := [.long ((h24.2.1 x0 27).toInt64)]) (rest := []) (h1 := h27) ok (m_X10_enters e28 (Nat.le_refl _)) my_X10_enters (w_1347) pd_X10_enters (Nat.le_trans (by decide) hfr) rfl (ci := 10) rfl (by decide) (sh_of e26 f_x0) rfl rfl rfl dX10_months_48 (fun e29 => ?_)
    have e30 : h27.1 = h0.1 := (e29).trans e26
    refine wp_aload_n (v := x0) ok dX10_months_51 rfl ?_
    refine wp_aload_n (v := x0) ok dX10_months_52 rfl ?_
    refine wp_getI ok fl_RX10_120 (sh_of e30 f_x0) dX10_months_53 ?_
    obtain ⟨k31, ek31, hq⟩ := jn2_some hq
    have kk31 : ∀ (y32 : Int64) (h33 : HP), k31 y32 h33 = some rp → h33.1 = h0.1 → wp x 78 [(0, .ref x0)] [.long y32, .ref x0] h33 := by
      intro y32 h33 hq e34
      have hq := (ek31 y32 h33).symm.trans hq
      obtain ⟨h35, e36, hq⟩ := bnd_some hq
      refine wp_callVV (As := [.long y32]) (rest := []) (h1 := h35) ok (m_X10_enters e36 (Nat.le_refl _)) my_X10_enters (w_1347) pd_X10_enters (Nat.le_trans (by decide) hfr) rfl (ci := 10) rfl (by decide) (sh_of e34 f_x0) rfl rfl rfl dX10_months_78 (fun e37 => ?_)
      have e38 : h35.1 = h0.1 := (e37).trans e34
      refine wp_aload_n (v := x0) ok dX10_months_81 rfl ?_
      refine wp_aload_n (v := x0) ok dX10_months_82 rfl ?_
      refine wp_getI ok fl_RX10_120 (sh_of e38 f_x0) dX10_months_83 ?_
      obtain ⟨k39, ek39, hq⟩ := jn2_some hq
      have kk39 : ∀ (y40 : Int32) (h41 : HP), k39 y40 h41 = some rp → h41.1 = h0.1 → wp x 102 [] [.int y40, .ref x0] h41 := by
        intro y40 h41 hq e42
        have hq := (ek39 y40 h41).symm.trans hq
        obtain ⟨v43, h45, e44, hq⟩ := bnd2_some hq
        refine wp_callVI (As := [.int y40]) (rest := []) (h1 := h45) ok (m_X10_adds e44 (Nat.le_refl _)) my_X10_adds (w_1351) pd_X10_adds (Nat.le_trans (by decide) hfr) rfl (ci := 10) rfl (by decide) (sh_of e42 f_x0) rfl rfl rfl dX10_months_102 (fun e46 => ?_)
        have e47 : h45.1 = h0.1 := (e46).trans e42
        exact wp_iret ok hF rfl e47 (re2I hq) dX10_months_105
      refine wp_if_ne (tgt := 93) ok dX10_months_86 (by decide) (fun c48 => ?_) (fun c48 => ?_)
      · have hq := ite_f c48 hq
        refine wp_aload_n (v := x0) ok dX10_months_93 rfl ?_
        refine wp_aload_n (v := x0) ok dX10_months_94 rfl ?_
        obtain ⟨t49, e50, hq⟩ := bnd_some hq
        obtain ⟨e51, n52, f53⟩ := rK_some e50
        replace f53 := sh_of (e38).symm f53
        refine wp_getR ok fl_RX10_41 (sh_of e38 f_x0) e51 dX10_months_95 ?_
        refine wp_iconst (v := 0) ok dX10_months_98 (by decide) ?_
        obtain ⟨v54, h56, e55, hq⟩ := bnd2_some hq
        refine wp_callVI (As := [.ref t49, .int 0]) (rest := [.ref x0]) (h1 := h56) ok (m_X10_priceOf e55 (Nat.le_refl _)) my_X10_priceOf (w_1297) pd_X10_priceOf (Nat.le_trans (by decide) hfr) rfl (ci := 10) rfl (by decide) (sh_of e38 f_x0) rfl rfl rfl dX10_months_99 (fun e57 => ?_)
        have e58 : h56.1 = h0.1 := (e57).trans e38
        refine wp_sub (L' := []) [] rfl ?_
        exact kk39 v54 h56 hq e58
      · have hq := ite_t c48 hq
        refine wp_iconst (v := 0) ok dX10_months_89 (by decide) ?_
        refine wp_goto (tgt := 102) ok dX10_months_90 (by decide) ?_
        refine wp_sub (L' := []) [] rfl ?_
        exact kk39 0 h35 hq e38
    refine wp_if_ne (tgt := 63) ok dX10_months_56 (by decide) (fun c59 => ?_) (fun c59 => ?_)
    · have hq := ite_f c59 hq
      refine wp_aload_n (v := x0) ok dX10_months_63 rfl ?_
      refine wp_aload_n (v := x0) ok dX10_months_64 rfl ?_
      obtain ⟨t60, e61, hq⟩ := bnd_some hq
      obtain ⟨e62, n63, f64⟩ := rK_some e61
      replace f64 := sh_of (e30).symm f64
      refine wp_getR ok fl_RX10_41 (sh_of e30 f_x0) e62 dX10_months_65 ?_
      refine wp_aload_n (v := x0) ok dX10_months_68 rfl ?_
      refine wp_getI ok fl_RX10_120 (sh_of e30 f_x0) dX10_months_69 ?_
      refine wp_iconst (v := 1) ok dX10_months_72 (by decide) ?_
      refine wp_isub ok dX10_months_73 ?_
      obtain ⟨v65, h67, e66, hq⟩ := bnd2_some hq
      refine wp_callVI (As := [.ref t60, .int ((h27.2.1 x0 3) - 1)]) (rest := [.ref x0]) (h1 := h67) ok (m_X10_priceOf e66 (Nat.le_refl _)) my_X10_priceOf (w_1297) pd_X10_priceOf (Nat.le_trans (by decide) hfr) rfl (ci := 10) rfl (by decide) (sh_of e30 f_x0) rfl rfl rfl dX10_months_74 (fun e68 => ?_)
      have e69 : h67.1 = h0.1 := (e68).trans e30
      refine wp_i2l ok dX10_months_77 ?_
      refine wp_sub (L' := [(0, .ref x0)]) [0] rfl ?_
      exact kk31 (v65.toInt64) h67 hq e69
    · have hq := ite_t c59 hq
      refine wp_lconst (v := 0) ok dX10_months_59 (by decide) ?_
      refine wp_goto (tgt := 78) ok dX10_months_60 (by decide) ?_
      refine wp_sub (L' := [(0, .ref x0)]) [0] rfl ?_
      exact kk31 0 h27 hq e30
  · have hq := ite_t c7 hq
    refine wp_iconst (v := -1) ok dX10_months_17 (by decide) ?_
    exact wp_iret ok hF rfl e3 (re2I hq) dX10_months_18
set_option maxHeartbeats 4000000 in
set_option maxRecDepth 100000 in
theorem m_X10_brings {l : Launch} {h : HP} {N : Nat} {x0 : Nat} {x1 : Int32} {x2 : Int32} {x3 : Int32} {rr : Int32} {rh : HP} {fr : Nat} (hq : f_X10_brings N h x0 x1 x2 x3 = some (rr, rh)) (hfr : 2 ≤ fr) : Mt l yX10_brings cX10_brings 5 (some (.int)) fr [.ref x0, .int x1, .int x2, .int x3] h (QI rr rh) := by
  obtain ⟨rp, ep⟩ : ∃ rp : (Int32 × HP), rp = (rr, rh) := ⟨_, rfl⟩
  have e1p : rr = rp.1 := (congrArg Prod.fst ep).symm
  have e2p : rh = rp.2 := (congrArg Prod.snd ep).symm
  rw [← ep] at hq
  rw [e1p, e2p]
  clear e1p e2p ep
  refine Mt.of (by decide +kernel) (Nat.le_of_ble_eq_true rfl) (fun x hl ok hF => ?_)
  subst hl
  show wp x 0 [(0, .ref x0), (1, .int x1), (2, .int x2), (3, .int x3)] [] h
  unfold f_X10_brings at hq
  obtain ⟨h0, eh0⟩ : ∃ h0 : HP, h = h0 := ⟨h, rfl⟩
  have e : h.1 = h0.1 := by rw [eh0]
  rw [eh0] at hF
  obtain ⟨g_x0, hq⟩ := gP_some hq
  obtain ⟨n_x0, f_x0⟩ := kO_some g_x0
  replace f_x0 := sh_of e.symm f_x0
  refine wp_aload_n (v := x0) ok dX10_brings_0 rfl ?_
  refine wp_iconst (v := 0) ok dX10_brings_1 (by decide) ?_
  refine wp_putI ok flw_RX10_3 (nr_10_0 _) (sh_of e f_x0) dX10_brings_2 ?_
  obtain ⟨h1, e2, hq⟩ := lt_some hq
  refine wp_nmH e2 ?_
  have e3 : h1.1 = h0.1 := (congrArg Prod.fst e2).trans e
  refine wp_aload_n (v := x0) ok dX10_brings_5 rfl ?_
  refine wp_iload_n (v := x1) ok dX10_brings_6 rfl ?_
  obtain ⟨v4, e5, hq⟩ := bnd_some hq
  refine wp_callVI (As := [.int x1]) (rest := []) (h1 := h1) ok (m_X10_isMarket e5 (Nat.le_refl _)) my_X10_isMarket (w_1288) pd_X10_isMarket (Nat.le_trans (by decide) hfr) rfl (ci := 10) rfl (by decide) (sh_of e3 f_x0) rfl rfl rfl dX10_brings_7 (fun e6 => ?_)
  refine wp_if_eq (tgt := 27) ok dX10_brings_10 (by decide) (fun c7 => ?_) (fun c7 => ?_)
  · have hq := ite_t c7 hq
    refine wp_iconst (v := -1) ok dX10_brings_27 (by decide) ?_
    exact wp_iret ok hF rfl e3 (re2I hq) dX10_brings_28
  · have hq := ite_f c7 hq
    refine wp_iload_n (v := x2) ok dX10_brings_13 rfl ?_
    obtain ⟨v8, e9, hq⟩ := bnd_some hq
    refine wp_callSI (As := [.int x2]) (rest := []) (h1 := h1) ok (m_X10_isKind e9 (Nat.le_refl _)) my_X10_isKind (w_1359) pd_X10_isKind (Nat.le_trans (by decide) hfr) rfl rfl rfl rfl dX10_brings_14 (fun e10 => ?_)
    refine wp_if_eq (tgt := 27) ok dX10_brings_17 (by decide) (fun c11 => ?_) (fun c11 => ?_)
    · have hq := ite_t c11 hq
      refine wp_iconst (v := -1) ok dX10_brings_27 (by decide) ?_
      exact wp_iret ok hF rfl e3 (re2I hq) dX10_brings_28
    · have hq := ite_f c11 hq
      refine wp_iload_n (v := x3) ok dX10_brings_20 rfl ?_
      obtain ⟨v12, e13, hq⟩ := bnd_some hq
      refine wp_callSI (As := [.int x3]) (rest := []) (h1 := h1) ok (m_X10_isSome e13 (Nat.le_refl _)) my_X10_isSome (w_1362) pd_X10_isSome (Nat.le_trans (by decide) hfr) rfl rfl rfl rfl dX10_brings_21 (fun e14 => ?_)
      refine wp_if_ne (tgt := 29) ok dX10_brings_24 (by decide) (fun c15 => ?_) (fun c15 => ?_)
      · have hq := ite_f c15 hq
        refine wp_aload_n (v := x0) ok dX10_brings_29 rfl ?_
        obtain ⟨h16, e17, hq⟩ := bnd_some hq
        refine wp_callVV (As := []) (rest := []) (h1 := h16) ok (m_X10_putsBy e17 (Nat.le_refl _)) my_X10_putsBy (w_1335) pd_X10_putsBy (Nat.le_trans (by decide) hfr) rfl (ci := 10) rfl (by decide) (sh_of e3 f_x0) rfl rfl rfl dX10_brings_30 (fun e18 => ?_)
        have e19 : h16.1 = h0.1 := (e18).trans e3
        refine wp_iload_n (v := x2) ok dX10_brings_33 rfl ?_
        refine wp_iload_n (v := x1) ok dX10_brings_34 rfl ?_
        obtain ⟨v20, e21, hq⟩ := bnd_some hq
        refine wp_callSI (As := [.int x2, .int x1]) (rest := []) (h1 := h16) ok (m_X10_at e21 (Nat.le_refl _)) my_X10_at (w_1301) pd_X10_at (Nat.le_trans (by decide) hfr) rfl rfl rfl rfl dX10_brings_35 (fun e22 => ?_)
        refine wp_istore (L' := [(4, .int v20), (0, .ref x0), (1, .int x1), (2, .int x2), (3, .int x3)]) ok dX10_brings_38 rfl rfl ?_
        refine wp_aload_n (v := x0) ok dX10_brings_40 rfl ?_
        obtain ⟨t23, e24, hq⟩ := bnd_some hq
        obtain ⟨e25, n26, f27⟩ := rK_some e24
        replace f27 := sh_of (e19).symm f27
        refine wp_getR ok fl_RX10_41 (sh_of e19 f_x0) e25 dX10_brings_41 ?_
        refine wp_iload (v := v20) ok dX10_brings_44 rfl ?_
        refine wp_ldc (v := 99999) ok (w_1308) dX10_brings_46 ?_
        refine wp_aload_n (v := x0) ok dX10_brings_48 rfl ?_
        obtain ⟨t28, e29, hq⟩ := bnd_some hq
        obtain ⟨e30, n31, f32⟩ := rK_some e29
        replace f32 := sh_of (e19).symm f32
        refine wp_getR ok fl_RX10_41 (sh_of e19 f_x0) e30 dX10_brings_49 ?_
        refine wp_iload (v := v20) ok dX10_brings_52 rfl ?_
        obtain ⟨g33, hq⟩ := gP_some hq
        refine wp_iald ok (sh_of e19 f32) (ix_of (sh_of e19 f32) g33) dX10_brings_54 ?_
        refine wp_iload_n (v := x3) ok dX10_brings_55 rfl ?_
        refine wp_iadd ok dX10_brings_56 ?_
        obtain ⟨v34, e35, hq⟩ := bnd_some hq
        refine wp_callSI (As := [.int 99999, .int ((h16.2.1 t28 v20.toNatClampNeg) + x3)]) (rest := [.int v20, .ref t23]) (h1 := h16) ok (m_J9_min_7cf53 e35 (Nat.le_refl _)) my_J9_min_7cf53 (w_1211) pd_J9_min_7cf53 (Nat.le_trans (by decide) hfr) rfl rfl rfl rfl dX10_brings_57 (fun e36 => ?_)
        obtain ⟨g37, hq⟩ := gP_some hq
        refine wp_iast ok (sh_of e19 f27) (ix_of (sh_of e19 f27) g37) dX10_brings_60 ?_
        obtain ⟨h38, e39, hq⟩ := lt_some hq
        refine wp_nmH e39 ?_
        have e40 : h38.1 = h0.1 := (congrArg Prod.fst e39).trans e19
        refine wp_aload_n (v := x0) ok dX10_brings_61 rfl ?_
        refine wp_aload_n (v := x0) ok dX10_brings_62 rfl ?_
        obtain ⟨t41, e42, hq⟩ := bnd_some hq
        obtain ⟨e43, n44, f45⟩ := rK_some e42
        replace f45 := sh_of (e40).symm f45
        refine wp_getR ok fl_RX10_41 (sh_of e40 f_x0) e43 dX10_brings_63 ?_
        refine wp_iload (v := v20) ok dX10_brings_66 rfl ?_
        obtain ⟨g46, hq⟩ := gP_some hq
        refine wp_iald ok (sh_of e40 f45) (ix_of (sh_of e40 f45) g46) dX10_brings_68 ?_
        obtain ⟨v47, h49, e48, hq⟩ := bnd2_some hq
        refine wp_callVI (As := [.int (h38.2.1 t41 v20.toNatClampNeg)]) (rest := []) (h1 := h49) ok (m_X10_adds e48 (Nat.le_refl _)) my_X10_adds (w_1351) pd_X10_adds (Nat.le_trans (by decide) hfr) rfl (ci := 10) rfl (by decide) (sh_of e40 f_x0) rfl rfl rfl dX10_brings_69 (fun e50 => ?_)
        have e51 : h49.1 = h0.1 := (e50).trans e40
        exact wp_iret ok hF rfl e51 (re2I hq) dX10_brings_72
      · have hq := ite_t c15 hq
        refine wp_iconst (v := -1) ok dX10_brings_27 (by decide) ?_
        exact wp_iret ok hF rfl e3 (re2I hq) dX10_brings_28
set_option maxHeartbeats 4000000 in
set_option maxRecDepth 100000 in
theorem m_X10_lays {l : Launch} {h : HP} {N : Nat} {x0 : Nat} {x1 : Int32} {x2 : Int32} {x3 : Int32} {rr : Int32} {rh : HP} {fr : Nat} (hq : f_X10_lays N h x0 x1 x2 x3 = some (rr, rh)) (hfr : 3 ≤ fr) : Mt l yX10_lays cX10_lays 4 (some (.int)) fr [.ref x0, .int x1, .int x2, .int x3] h (QI rr rh) := by
  obtain ⟨rp, ep⟩ : ∃ rp : (Int32 × HP), rp = (rr, rh) := ⟨_, rfl⟩
  have e1p : rr = rp.1 := (congrArg Prod.fst ep).symm
  have e2p : rh = rp.2 := (congrArg Prod.snd ep).symm
  rw [← ep] at hq
  rw [e1p, e2p]
  clear e1p e2p ep
  refine Mt.of (by decide +kernel) (Nat.le_of_ble_eq_true rfl) (fun x hl ok hF => ?_)
  subst hl
  show wp x 0 [(0, .ref x0), (1, .int x1), (2, .int x2), (3, .int x3)] [] h
  unfold f_X10_lays at hq
  obtain ⟨h0, eh0⟩ : ∃ h0 : HP, h = h0 := ⟨h, rfl⟩
  have e : h.1 = h0.1 := by rw [eh0]
  rw [eh0] at hF
  obtain ⟨g_x0, hq⟩ := gP_some hq
  obtain ⟨n_x0, f_x0⟩ := kO_some g_x0
  replace f_x0 := sh_of e.symm f_x0
  refine wp_aload_n (v := x0) ok dX10_lays_0 rfl ?_
  refine wp_iconst (v := 0) ok dX10_lays_1 (by decide) ?_
  refine wp_putI ok flw_RX10_3 (nr_10_0 _) (sh_of e f_x0) dX10_lays_2 ?_
  obtain ⟨h1, e2, hq⟩ := lt_some hq
  refine wp_nmH e2 ?_
  have e3 : h1.1 = h0.1 := (congrArg Prod.fst e2).trans e
  refine wp_aload_n (v := x0) ok dX10_lays_5 rfl ?_
  obtain ⟨h4, e5, hq⟩ := bnd_some hq
  refine wp_callVV (As := []) (rest := []) (h1 := h4) ok (m_X10_putsBy e5 (Nat.le_refl _)) my_X10_putsBy (w_1335) pd_X10_putsBy (Nat.le_trans (by decide) hfr) rfl (ci := 10) rfl (by decide) (sh_of e3 f_x0) rfl rfl rfl dX10_lays_6 (fun e6 => ?_)
  have e7 : h4.1 = h0.1 := (e6).trans e3
  refine wp_aload_n (v := x0) ok dX10_lays_9 rfl ?_
  refine wp_aload_n (v := x0) ok dX10_lays_10 rfl ?_
  refine wp_iload_n (v := x1) ok dX10_lays_11 rfl ?_
  refine wp_iload_n (v := x2) ok dX10_lays_12 rfl ?_
  refine wp_iload_n (v := x3) ok dX10_lays_13 rfl ?_
  obtain ⟨v8, h10, e9, hq⟩ := bnd2_some hq
  refine wp_callVI (As := [.int x1, .int x2, .int x3]) (rest := [.ref x0]) (h1 := h10) ok (m_X10_laysBy e9 (Nat.le_refl _)) my_X10_laysBy (w_1370) pd_X10_laysBy (Nat.le_trans (by decide) hfr) rfl (ci := 10) rfl (by decide) (sh_of e7 f_x0) rfl rfl rfl dX10_lays_14 (fun e11 => ?_)
  have e12 : h10.1 = h0.1 := (e11).trans e7
  obtain ⟨v13, h15, e14, hq⟩ := bnd2_some hq
  refine wp_callVI (As := [.int v8]) (rest := []) (h1 := h15) ok (m_X10_counted e14 (Nat.le_refl _)) my_X10_counted (w_1374) pd_X10_counted (Nat.le_trans (by decide) hfr) rfl (ci := 10) rfl (by decide) (sh_of e12 f_x0) rfl rfl rfl dX10_lays_17 (fun e16 => ?_)
  have e17 : h15.1 = h0.1 := (e16).trans e12
  exact wp_iret ok hF rfl e17 (re2I hq) dX10_lays_20
set_option maxHeartbeats 4000000 in
set_option maxRecDepth 100000 in
theorem m_X10_spends {l : Launch} {h : HP} {N : Nat} {x0 : Nat} {x1 : Int32} {x2 : Int32} {x3 : Int32} {rr : Int32} {rh : HP} {fr : Nat} (hq : f_X10_spends N h x0 x1 x2 x3 = some (rr, rh)) (hfr : 3 ≤ fr) : Mt l yX10_spends cX10_spends 4 (some (.int)) fr [.ref x0, .int x1, .int x2, .int x3] h (QI rr rh) := by
  obtain ⟨rp, ep⟩ : ∃ rp : (Int32 × HP), rp = (rr, rh) := ⟨_, rfl⟩
  have e1p : rr = rp.1 := (congrArg Prod.fst ep).symm
  have e2p : rh = rp.2 := (congrArg Prod.snd ep).symm
  rw [← ep] at hq
  rw [e1p, e2p]
  clear e1p e2p ep
  refine Mt.of (by decide +kernel) (Nat.le_of_ble_eq_true rfl) (fun x hl ok hF => ?_)
  subst hl
  show wp x 0 [(0, .ref x0), (1, .int x1), (2, .int x2), (3, .int x3)] [] h
  unfold f_X10_spends at hq
  obtain ⟨h0, eh0⟩ : ∃ h0 : HP, h = h0 := ⟨h, rfl⟩
  have e : h.1 = h0.1 := by rw [eh0]
  rw [eh0] at hF
  obtain ⟨g_x0, hq⟩ := gP_some hq
  obtain ⟨n_x0, f_x0⟩ := kO_some g_x0
  replace f_x0 := sh_of e.symm f_x0
  refine wp_aload_n (v := x0) ok dX10_spends_0 rfl ?_
  refine wp_iconst (v := 0) ok dX10_spends_1 (by decide) ?_
  refine wp_putI ok flw_RX10_3 (nr_10_0 _) (sh_of e f_x0) dX10_spends_2 ?_
  obtain ⟨h1, e2, hq⟩ := lt_some hq
  refine wp_nmH e2 ?_
  have e3 : h1.1 = h0.1 := (congrArg Prod.fst e2).trans e
  refine wp_aload_n (v := x0) ok dX10_spends_5 rfl ?_
  obtain ⟨h4, e5, hq⟩ := bnd_some hq
  refine wp_callVV (As := []) (rest := []) (h1 := h4) ok (m_X10_putsBy e5 (Nat.le_refl _)) my_X10_putsBy (w_1335) pd_X10_putsBy (Nat.le_trans (by decide) hfr) rfl (ci := 10) rfl (by decide) (sh_of e3 f_x0) rfl rfl rfl dX10_spends_6 (fun e6 => ?_)
  have e7 : h4.1 = h0.1 := (e6).trans e3
  refine wp_aload_n (v := x0) ok dX10_spends_9 rfl ?_
  refine wp_aload_n (v := x0) ok dX10_spends_10 rfl ?_
  refine wp_iload_n (v := x1) ok dX10_spends_11 rfl ?_
  refine wp_iload_n (v := x2) ok dX10_spends_12 rfl ?_
  refine wp_iload_n (v := x3) ok dX10_spends_13 rfl ?_
  obtain ⟨v8, h10, e9, hq⟩ := bnd2_some hq
  refine wp_callVI (As := [.int x1, .int x2, .int x3]) (rest := [.ref x0]) (h1 := h10) ok (m_X10_spendsOf e9 (Nat.le_refl _)) my_X10_spendsOf (w_1382) pd_X10_spendsOf (Nat.le_trans (by decide) hfr) rfl (ci := 10) rfl (by decide) (sh_of e7 f_x0) rfl rfl rfl dX10_spends_14 (fun e11 => ?_)
  have e12 : h10.1 = h0.1 := (e11).trans e7
  obtain ⟨v13, h15, e14, hq⟩ := bnd2_some hq
  refine wp_callVI (As := [.int v8]) (rest := []) (h1 := h15) ok (m_X10_counted e14 (Nat.le_refl _)) my_X10_counted (w_1374) pd_X10_counted (Nat.le_trans (by decide) hfr) rfl (ci := 10) rfl (by decide) (sh_of e12 f_x0) rfl rfl rfl dX10_spends_17 (fun e16 => ?_)
  have e17 : h15.1 = h0.1 := (e16).trans e12
  exact wp_iret ok hF rfl e17 (re2I hq) dX10_spends_20
set_option maxHeartbeats 4000000 in
set_option maxRecDepth 100000 in
theorem m_X10_taxes {l : Launch} {h : HP} {N : Nat} {x0 : Nat} {x1 : Int32} {x2 : Int32} {rr : Int32} {rh : HP} {fr : Nat} (hq : f_X10_taxes N h x0 x1 x2 = some (rr, rh)) (hfr : 3 ≤ fr) : Mt l yX10_taxes cX10_taxes 3 (some (.int)) fr [.ref x0, .int x1, .int x2] h (QI rr rh) := by
  obtain ⟨rp, ep⟩ : ∃ rp : (Int32 × HP), rp = (rr, rh) := ⟨_, rfl⟩
  have e1p : rr = rp.1 := (congrArg Prod.fst ep).symm
  have e2p : rh = rp.2 := (congrArg Prod.snd ep).symm
  rw [← ep] at hq
  rw [e1p, e2p]
  clear e1p e2p ep
  refine Mt.of (by decide +kernel) (Nat.le_of_ble_eq_true rfl) (fun x hl ok hF => ?_)
  subst hl
  show wp x 0 [(0, .ref x0), (1, .int x1), (2, .int x2)] [] h
  unfold f_X10_taxes at hq
  obtain ⟨h0, eh0⟩ : ∃ h0 : HP, h = h0 := ⟨h, rfl⟩
  have e : h.1 = h0.1 := by rw [eh0]
  rw [eh0] at hF
  obtain ⟨g_x0, hq⟩ := gP_some hq
  obtain ⟨n_x0, f_x0⟩ := kO_some g_x0
  replace f_x0 := sh_of e.symm f_x0
  refine wp_aload_n (v := x0) ok dX10_taxes_0 rfl ?_
  refine wp_iconst (v := 0) ok dX10_taxes_1 (by decide) ?_
  refine wp_putI ok flw_RX10_3 (nr_10_0 _) (sh_of e f_x0) dX10_taxes_2 ?_
  obtain ⟨h1, e2, hq⟩ := lt_some hq
  refine wp_nmH e2 ?_
  have e3 : h1.1 = h0.1 := (congrArg Prod.fst e2).trans e
  refine wp_aload_n (v := x0) ok dX10_taxes_5 rfl ?_
  obtain ⟨h4, e5, hq⟩ := bnd_some hq
  refine wp_callVV (As := []) (rest := []) (h1 := h4) ok (m_X10_putsBy e5 (Nat.le_refl _)) my_X10_putsBy (w_1335) pd_X10_putsBy (Nat.le_trans (by decide) hfr) rfl (ci := 10) rfl (by decide) (sh_of e3 f_x0) rfl rfl rfl dX10_taxes_6 (fun e6 => ?_)
  have e7 : h4.1 = h0.1 := (e6).trans e3
  refine wp_aload_n (v := x0) ok dX10_taxes_9 rfl ?_
  refine wp_aload_n (v := x0) ok dX10_taxes_10 rfl ?_
  refine wp_aload_n (v := x0) ok dX10_taxes_11 rfl ?_
  obtain ⟨t8, e9, hq⟩ := bnd_some hq
  obtain ⟨e10, n11, f12⟩ := rK_some e9
  replace f12 := sh_of (e7).symm f12
  refine wp_getR ok fl_RX10_41 (sh_of e7 f_x0) e10 dX10_taxes_12 ?_
  refine wp_iload_n (v := x1) ok dX10_taxes_15 rfl ?_
  refine wp_iload_n (v := x2) ok dX10_taxes_16 rfl ?_
  obtain ⟨v13, h15, e14, hq⟩ := bnd2_some hq
  refine wp_callVI (As := [.ref t8, .int x1, .int x2]) (rest := [.ref x0]) (h1 := h15) ok (m_X10_taxesOf e14 (Nat.le_refl _)) my_X10_taxesOf (w_1390) pd_X10_taxesOf (Nat.le_trans (by decide) hfr) rfl (ci := 10) rfl (by decide) (sh_of e7 f_x0) rfl rfl rfl dX10_taxes_17 (fun e16 => ?_)
  have e17 : h15.1 = h0.1 := (e16).trans e7
  obtain ⟨v18, h20, e19, hq⟩ := bnd2_some hq
  refine wp_callVI (As := [.int v13]) (rest := []) (h1 := h20) ok (m_X10_counted e19 (Nat.le_refl _)) my_X10_counted (w_1374) pd_X10_counted (Nat.le_trans (by decide) hfr) rfl (ci := 10) rfl (by decide) (sh_of e17 f_x0) rfl rfl rfl dX10_taxes_20 (fun e21 => ?_)
  have e22 : h20.1 = h0.1 := (e21).trans e17
  exact wp_iret ok hF rfl e22 (re2I hq) dX10_taxes_23
set_option maxHeartbeats 4000000 in
set_option maxRecDepth 100000 in
theorem m_X10_burns {l : Launch} {h : HP} {N : Nat} {x0 : Nat} {x1 : Int32} {rr : Int32} {rh : HP} {fr : Nat} (hq : f_X10_burns N h x0 x1 = some (rr, rh)) (hfr : 3 ≤ fr) : Mt l yX10_burns cX10_burns 2 (some (.int)) fr [.ref x0, .int x1] h (QI rr rh) := by
  obtain ⟨rp, ep⟩ : ∃ rp : (Int32 × HP), rp = (rr, rh) := ⟨_, rfl⟩
  have e1p : rr = rp.1 := (congrArg Prod.fst ep).symm
  have e2p : rh = rp.2 := (congrArg Prod.snd ep).symm
  rw [← ep] at hq
  rw [e1p, e2p]
  clear e1p e2p ep
  refine Mt.of (by decide +kernel) (Nat.le_of_ble_eq_true rfl) (fun x hl ok hF => ?_)
  subst hl
  show wp x 0 [(0, .ref x0), (1, .int x1)] [] h
  unfold f_X10_burns at hq
  obtain ⟨h0, eh0⟩ : ∃ h0 : HP, h = h0 := ⟨h, rfl⟩
  have e : h.1 = h0.1 := by rw [eh0]
  rw [eh0] at hF
  obtain ⟨g_x0, hq⟩ := gP_some hq
  obtain ⟨n_x0, f_x0⟩ := kO_some g_x0
  replace f_x0 := sh_of e.symm f_x0
  refine wp_aload_n (v := x0) ok dX10_burns_0 rfl ?_
  refine wp_iconst (v := 0) ok dX10_burns_1 (by decide) ?_
  refine wp_putI ok flw_RX10_3 (nr_10_0 _) (sh_of e f_x0) dX10_burns_2 ?_
  obtain ⟨h1, e2, hq⟩ := lt_some hq
  refine wp_nmH e2 ?_
  have e3 : h1.1 = h0.1 := (congrArg Prod.fst e2).trans e
  refine wp_aload_n (v := x0) ok dX10_burns_5 rfl ?_
  obtain ⟨h4, e5, hq⟩ := bnd_some hq
  refine wp_callVV (As := []) (rest := []) (h1 := h4) ok (m_X10_putsBy e5 (Nat.le_refl _)) my_X10_putsBy (w_1335) pd_X10_putsBy (Nat.le_trans (by decide) hfr) rfl (ci := 10) rfl (by decide) (sh_of e3 f_x0) rfl rfl rfl dX10_burns_6 (fun e6 => ?_)
  have e7 : h4.1 = h0.1 := (e6).trans e3
  refine wp_aload_n (v := x0) ok dX10_burns_9 rfl ?_
  refine wp_aload_n (v := x0) ok dX10_burns_10 rfl ?_
  refine wp_iload_n (v := x1) ok dX10_burns_11 rfl ?_
  obtain ⟨v8, h10, e9, hq⟩ := bnd2_some hq
  refine wp_callVI (As := [.int x1]) (rest := [.ref x0]) (h1 := h10) ok (m_X10_burnsAt e9 (Nat.le_refl _)) my_X10_burnsAt (w_1400) pd_X10_burnsAt (Nat.le_trans (by decide) hfr) rfl (ci := 10) rfl (by decide) (sh_of e7 f_x0) rfl rfl rfl dX10_burns_12 (fun e11 => ?_)
  have e12 : h10.1 = h0.1 := (e11).trans e7
  obtain ⟨v13, h15, e14, hq⟩ := bnd2_some hq
  refine wp_callVI (As := [.int v8]) (rest := []) (h1 := h15) ok (m_X10_counted e14 (Nat.le_refl _)) my_X10_counted (w_1374) pd_X10_counted (Nat.le_trans (by decide) hfr) rfl (ci := 10) rfl (by decide) (sh_of e12 f_x0) rfl rfl rfl dX10_burns_15 (fun e16 => ?_)
  have e17 : h15.1 = h0.1 := (e16).trans e12
  exact wp_iret ok hF rfl e17 (re2I hq) dX10_burns_18
set_option maxHeartbeats 4000000 in
set_option maxRecDepth 100000 in
theorem m_X10_port {l : Launch} {h : HP} {N : Nat} {x0 : Nat} {rr : Int32} {rh : HP} {fr : Nat} (hq : f_X10_port N h x0 = some (rr, rh)) (hfr : 1 ≤ fr) : Mt l yX10_port cX10_port 1 (some (.int)) fr [.ref x0] h (QI rr rh) := by
  obtain ⟨rp, ep⟩ : ∃ rp : (Int32 × HP), rp = (rr, rh) := ⟨_, rfl⟩
  have e1p : rr = rp.1 := (congrArg Prod.fst ep).symm
  have e2p : rh = rp.2 := (congrArg Prod.snd ep).symm
  rw [← ep] at hq
  rw [e1p, e2p]
  clear e1p e2p ep
  refine Mt.of (by decide +kernel) (Nat.le_of_ble_eq_true rfl) (fun x hl ok hF => ?_)
  subst hl
  show wp x 0 [(0, .ref x0)] [] h
  unfold f_X10_port at hq
  obtain ⟨h0, eh0⟩ : ∃ h0 : HP, h = h0 := ⟨h, rfl⟩
  have e : h.1 = h0.1 := by rw [eh0]
  rw [eh0] at hF
  obtain ⟨g_x0, hq⟩ := gP_some hq
  obtain ⟨n_x0, f_x0⟩ := kO_some g_x0
  replace f_x0 := sh_of e.symm f_x0
  refine wp_aload_n (v := x0) ok dX10_port_0 rfl ?_
  refine wp_iconst (v := 0) ok dX10_port_1 (by decide) ?_
  refine wp_putI ok flw_RX10_3 (nr_10_0 _) (sh_of e f_x0) dX10_port_2 ?_
  obtain ⟨h1, e2, hq⟩ := lt_some hq
  refine wp_nmH e2 ?_
  have e3 : h1.1 = h0.1 := (congrArg Prod.fst e2).trans e
  refine wp_aload_n (v := x0) ok dX10_port_5 rfl ?_
  obtain ⟨h4, e5, hq⟩ := bnd_some hq
  refine wp_callVV (As := []) (rest := []) (h1 := h4) ok (m_X10_putsBy e5 (Nat.le_refl _)) my_X10_putsBy (w_1335) pd_X10_putsBy (Nat.le_trans (by decide) hfr) rfl (ci := 10) rfl (by decide) (sh_of e3 f_x0) rfl rfl rfl dX10_port_6 (fun e6 => ?_)
  have e7 : h4.1 = h0.1 := (e6).trans e3
  refine wp_aload_n (v := x0) ok dX10_port_9 rfl ?_
  obtain ⟨t8, e9, hq⟩ := bnd_some hq
  obtain ⟨e10, n11, f12⟩ := rK_some e9
  replace f12 := sh_of (e7).symm f12
  refine wp_getR ok fl_RX10_41 (sh_of e7 f_x0) e10 dX10_port_10 ?_
  refine wp_bipush (v := 27) ok dX10_port_13 (by decide) ?_
  refine wp_iconst (v := 1) ok dX10_port_15 (by decide) ?_
  refine wp_aload_n (v := x0) ok dX10_port_16 rfl ?_
  obtain ⟨t13, e14, hq⟩ := bnd_some hq
  obtain ⟨e15, n16, f17⟩ := rK_some e14
  replace f17 := sh_of (e7).symm f17
  refine wp_getR ok fl_RX10_41 (sh_of e7 f_x0) e15 dX10_port_17 ?_
  refine wp_bipush (v := 27) ok dX10_port_20 (by decide) ?_
  obtain ⟨g18, hq⟩ := gP_some hq
  refine wp_iald ok (sh_of e7 f17) (ix_of (sh_of e7 f17) g18) dX10_port_22 ?_
  refine wp_isub ok dX10_port_23 ?_
  obtain ⟨g19, hq⟩ := gP_some hq
  refine wp_iast ok (sh_of e7 f12) (ix_of (sh_of e7 f12) g19) dX10_port_24 ?_
  obtain ⟨h20, e21, hq⟩ := lt_some hq
  refine wp_nmH e21 ?_
  have e22 : h20.1 = h0.1 := (congrArg Prod.fst e21).trans e7
  refine wp_aload_n (v := x0) ok dX10_port_25 rfl ?_
  refine wp_aload_n (v := x0) ok dX10_port_26 rfl ?_
  obtain ⟨t23, e24, hq⟩ := bnd_some hq
  obtain ⟨e25, n26, f27⟩ := rK_some e24
  replace f27 := sh_of (e22).symm f27
  refine wp_getR ok fl_RX10_41 (sh_of e22 f_x0) e25 dX10_port_27 ?_
  refine wp_bipush (v := 27) ok dX10_port_30 (by decide) ?_
  obtain ⟨g28, hq⟩ := gP_some hq
  refine wp_iald ok (sh_of e22 f27) (ix_of (sh_of e22 f27) g28) dX10_port_32 ?_
  obtain ⟨v29, h31, e30, hq⟩ := bnd2_some hq
  refine wp_callVI (As := [.int (h20.2.1 t23 (27 : Int32).toNatClampNeg)]) (rest := []) (h1 := h31) ok (m_X10_adds e30 (Nat.le_refl _)) my_X10_adds (w_1351) pd_X10_adds (Nat.le_trans (by decide) hfr) rfl (ci := 10) rfl (by decide) (sh_of e22 f_x0) rfl rfl rfl dX10_port_33 (fun e32 => ?_)
  have e33 : h31.1 = h0.1 := (e32).trans e22
  exact wp_iret ok hF rfl e33 (re2I hq) dX10_port_36
set_option maxHeartbeats 4000000 in
set_option maxRecDepth 100000 in
theorem m_X10_flow {l : Launch} {h : HP} {N : Nat} {x0 : Nat} {x1 : Int32} {rr : Int32} {rh : HP} {fr : Nat} (hq : f_X10_flow N h x0 x1 = some (rr, rh)) (hfr : 2 ≤ fr) : Mt l yX10_flow cX10_flow 2 (some (.int)) fr [.ref x0, .int x1] h (QI rr rh) := by
  obtain ⟨rp, ep⟩ : ∃ rp : (Int32 × HP), rp = (rr, rh) := ⟨_, rfl⟩
  have e1p : rr = rp.1 := (congrArg Prod.fst ep).symm
  have e2p : rh = rp.2 := (congrArg Prod.snd ep).symm
  rw [← ep] at hq
  rw [e1p, e2p]
  clear e1p e2p ep
  refine Mt.of (by decide +kernel) (Nat.le_of_ble_eq_true rfl) (fun x hl ok hF => ?_)
  subst hl
  show wp x 0 [(0, .ref x0), (1, .int x1)] [] h
  unfold f_X10_flow at hq
  obtain ⟨h0, eh0⟩ : ∃ h0 : HP, h = h0 := ⟨h, rfl⟩
  have e : h.1 = h0.1 := by rw [eh0]
  rw [eh0] at hF
  obtain ⟨g_x0, hq⟩ := gP_some hq
  obtain ⟨n_x0, f_x0⟩ := kO_some g_x0
  replace f_x0 := sh_of e.symm f_x0
  refine wp_aload_n (v := x0) ok dX10_flow_0 rfl ?_
  refine wp_iconst (v := 0) ok dX10_flow_1 (by decide) ?_
  refine wp_putI ok flw_RX10_3 (nr_10_0 _) (sh_of e f_x0) dX10_flow_2 ?_
  obtain ⟨h1, e2, hq⟩ := lt_some hq
  refine wp_nmH e2 ?_
  have e3 : h1.1 = h0.1 := (congrArg Prod.fst e2).trans e
  refine wp_aload_n (v := x0) ok dX10_flow_5 rfl ?_
  obtain ⟨h4, e5, hq⟩ := bnd_some hq
  refine wp_callVV (As := []) (rest := []) (h1 := h4) ok (m_X10_putsBy e5 (Nat.le_refl _)) my_X10_putsBy (w_1335) pd_X10_putsBy (Nat.le_trans (by decide) hfr) rfl (ci := 10) rfl (by decide) (sh_of e3 f_x0) rfl rfl rfl dX10_flow_6 (fun e6 => ?_)
  have e7 : h4.1 = h0.1 := (e6).trans e3
  refine wp_aload_n (v := x0) ok dX10_flow_9 rfl ?_
  refine wp_aload_n (v := x0) ok dX10_flow_10 rfl ?_
  refine wp_iload_n (v := x1) ok dX10_flow_11 rfl ?_
  obtain ⟨v8, h10, e9, hq⟩ := bnd2_some hq
  refine wp_callVI (As := [.int x1]) (rest := [.ref x0]) (h1 := h10) ok (m_X10_flowsBy e9 (Nat.le_refl _)) my_X10_flowsBy (w_1412) pd_X10_flowsBy (Nat.le_trans (by decide) hfr) rfl (ci := 10) rfl (by decide) (sh_of e7 f_x0) rfl rfl rfl dX10_flow_12 (fun e11 => ?_)
  have e12 : h10.1 = h0.1 := (e11).trans e7
  obtain ⟨v13, h15, e14, hq⟩ := bnd2_some hq
  refine wp_callVI (As := [.int v8]) (rest := []) (h1 := h15) ok (m_X10_counted e14 (Nat.le_refl _)) my_X10_counted (w_1374) pd_X10_counted (Nat.le_trans (by decide) hfr) rfl (ci := 10) rfl (by decide) (sh_of e12 f_x0) rfl rfl rfl dX10_flow_15 (fun e16 => ?_)
  have e17 : h15.1 = h0.1 := (e16).trans e12
  exact wp_iret ok hF rfl e17 (re2I hq) dX10_flow_18
set_option maxHeartbeats 4000000 in
set_option maxRecDepth 100000 in
theorem m_X10_readsAct {l : Launch} {h : HP} {N : Nat} {x0 : Nat} {rr : Int32} {rh : HP} {fr : Nat} (hq : f_X10_readsAct N h x0 = some (rr, rh)) (hfr : 5 ≤ fr) : Mt l yX10_readsAct cX10_readsAct 2 (some (.boolean)) fr [.ref x0] h (QI rr rh) := by
  obtain ⟨rp, ep⟩ : ∃ rp : (Int32 × HP), rp = (rr, rh) := ⟨_, rfl⟩
  have e1p : rr = rp.1 := (congrArg Prod.fst ep).symm
  have e2p : rh = rp.2 := (congrArg Prod.snd ep).symm
  rw [← ep] at hq
  rw [e1p, e2p]
  clear e1p e2p ep
  refine Mt.of (by decide +kernel) (Nat.le_of_ble_eq_true rfl) (fun x hl ok hF => ?_)
  subst hl
  show wp x 0 [(0, .ref x0)] [] h
  unfold f_X10_readsAct at hq
  obtain ⟨h0, eh0⟩ : ∃ h0 : HP, h = h0 := ⟨h, rfl⟩
  have e : h.1 = h0.1 := by rw [eh0]
  rw [eh0] at hF
  obtain ⟨g_x0, hq⟩ := gP_some hq
  obtain ⟨n_x0, f_x0⟩ := kO_some g_x0
  replace f_x0 := sh_of e.symm f_x0
  refine wp_aload_n (v := x0) ok dX10_readsAct_0 rfl ?_
  refine wp_getI ok fl_RX10_316 (sh_of e f_x0) dX10_readsAct_1 ?_
  obtain ⟨v1, e2, hq⟩ := lt_some hq
  refine wp_nmI e2 ?_
  refine wp_istore_n (L' := [(1, .int v1), (0, .ref x0)]) ok dX10_readsAct_4 rfl rfl ?_
  refine wp_aload_n (v := x0) ok dX10_readsAct_5 rfl ?_
  obtain ⟨t3, e4, hq⟩ := bnd_some hq
  obtain ⟨e5, n6, f7⟩ := rK_some e4
  replace f7 := sh_of (e).symm f7
  refine wp_getR ok fl_RX10_74 (sh_of e f_x0) e5 dX10_readsAct_6 ?_
  refine wp_iload_n (v := v1) ok dX10_readsAct_9 rfl ?_
  refine wp_aload_n (v := x0) ok dX10_readsAct_10 rfl ?_
  refine wp_ldcSw (i := 15) ok rfl rfl rfl dX10_readsAct_11 ?_
  obtain ⟨v8, h10, e9, hq⟩ := bnd2_some hq
  refine wp_callVI (As := [.ref (SB + 15)]) (rest := [.int v1, .ref t3]) (h1 := h10) ok (m_X10_takesOf e9 (Nat.le_refl _)) my_X10_takesOf (w_1250) pd_X10_takesOf (Nat.le_trans (by decide) hfr) rfl (ci := 10) rfl (by decide) (sh_of e f_x0) rfl rfl rfl dX10_readsAct_14 (fun e11 => ?_)
  have e12 : h10.1 = h0.1 := (e11).trans e
  obtain ⟨g13, hq⟩ := gP_some hq
  refine wp_iast ok (sh_of e12 f7) (ix_of (sh_of e12 f7) g13) dX10_readsAct_17 ?_
  obtain ⟨h14, e15, hq⟩ := lt_some hq
  refine wp_nmH e15 ?_
  have e16 : h14.1 = h0.1 := (congrArg Prod.fst e15).trans e12
  refine wp_aload_n (v := x0) ok dX10_readsAct_18 rfl ?_
  refine wp_dup ok dX10_readsAct_19 rfl ?_
  refine wp_getI ok fl_RX10_316 (sh_of e16 f_x0) dX10_readsAct_20 ?_
  refine wp_iconst (v := 1) ok dX10_readsAct_23 (by decide) ?_
  refine wp_iadd ok dX10_readsAct_24 ?_
  refine wp_putI ok flw_RX10_316 (nr_10_33 _) (sh_of e16 f_x0) dX10_readsAct_25 ?_
  obtain ⟨h17, e18, hq⟩ := lt_some hq
  refine wp_nmH e18 ?_
  have e19 : h17.1 = h0.1 := (congrArg Prod.fst e18).trans e16
  refine wp_aload_n (v := x0) ok dX10_readsAct_28 rfl ?_
  obtain ⟨t20, e21, hq⟩ := bnd_some hq
  obtain ⟨e22, n23, f24⟩ := rK_some e21
  replace f24 := sh_of (e19).symm f24
  refine wp_getR ok fl_RX10_74 (sh_of e19 f_x0) e22 dX10_readsAct_29 ?_
  refine wp_iload_n (v := v1) ok dX10_readsAct_32 rfl ?_
  obtain ⟨g25, hq⟩ := gP_some hq
  refine wp_iald ok (sh_of e19 f24) (ix_of (sh_of e19 f24) g25) dX10_readsAct_33 ?_
  obtain ⟨k26, ek26, hq⟩ := jn0_some hq
  have kk26 : k26 = some rp → wp x 47 [(1, .int v1), (0, .ref x0)] [] h17 := by
    intro hq
    rw [ek26] at hq
    refine wp_aload_n (v := x0) ok dX10_readsAct_47 rfl ?_
    obtain ⟨t27, e28, hq⟩ := bnd_some hq
    obtain ⟨e29, n30, f31⟩ := rK_some e28
    replace f31 := sh_of (e19).symm f31
    refine wp_getR ok fl_RX10_74 (sh_of e19 f_x0) e29 dX10_readsAct_48 ?_
    refine wp_iload_n (v := v1) ok dX10_readsAct_51 rfl ?_
    obtain ⟨g32, hq⟩ := gP_some hq
    refine wp_iald ok (sh_of e19 f31) (ix_of (sh_of e19 f31) g32) dX10_readsAct_52 ?_
    refine wp_if_lt (tgt := 60) ok dX10_readsAct_53 (by decide) (fun c33 => ?_) (fun c33 => ?_)
    · have hq := ite_t c33 hq
      refine wp_iconst (v := 0) ok dX10_readsAct_60 (by decide) ?_
      exact wp_iret ok hF (nb_z (Or.inl rfl)) e19 (re2I hq) dX10_readsAct_61
    · have hq := ite_f c33 hq
      refine wp_iconst (v := 1) ok dX10_readsAct_56 (by decide) ?_
      refine wp_goto (tgt := 61) ok dX10_readsAct_57 (by decide) ?_
      exact wp_iret ok hF (nb_z (Or.inr rfl)) e19 (re2I hq) dX10_readsAct_61
  refine wp_if_lt (tgt := 47) ok dX10_readsAct_34 (by decide) (fun c34 => ?_) (fun c34 => ?_)
  · have hq := ite_t c34 hq
    refine wp_sub (L' := [(1, .int v1), (0, .ref x0)]) [0, 1] rfl ?_
    exact kk26 hq
  · have hq := ite_f c34 hq
    refine wp_aload_n (v := x0) ok dX10_readsAct_37 rfl ?_
    obtain ⟨t35, e36, hq⟩ := bnd_some hq
    obtain ⟨e37, n38, f39⟩ := rK_some e36
    replace f39 := sh_of (e19).symm f39
    refine wp_getR ok fl_RX10_74 (sh_of e19 f_x0) e37 dX10_readsAct_38 ?_
    refine wp_iload_n (v := v1) ok dX10_readsAct_41 rfl ?_
    obtain ⟨g40, hq⟩ := gP_some hq
    refine wp_iald ok (sh_of e19 f39) (ix_of (sh_of e19 f39) g40) dX10_readsAct_42 ?_
    refine wp_iconst (v := 3) ok dX10_readsAct_43 (by decide) ?_
    refine wp_icmp_ne (tgt := 62) ok dX10_readsAct_44 (by decide) (fun c41 => ?_) (fun c41 => ?_)
    · have hq := ite_f c41 hq
      refine wp_aload_n (v := x0) ok dX10_readsAct_62 rfl ?_
      obtain ⟨t42, e43, hq⟩ := bnd_some hq
      obtain ⟨e44, n45, f46⟩ := rK_some e43
      replace f46 := sh_of (e19).symm f46
      refine wp_getR ok fl_RX10_77 (sh_of e19 f_x0) e44 dX10_readsAct_63 ?_
      refine wp_iload_n (v := v1) ok dX10_readsAct_66 rfl ?_
      refine wp_aload_n (v := x0) ok dX10_readsAct_67 rfl ?_
      refine wp_iconst (v := 1) ok dX10_readsAct_68 (by decide) ?_
      obtain ⟨v47, h49, e48, hq⟩ := bnd2_some hq
      refine wp_callVI (As := [.int 1]) (rest := [.int v1, .ref t42]) (h1 := h49) ok (m_X10_number e48 (Nat.le_refl _)) my_X10_number (w_1220) pd_X10_number (Nat.le_trans (by decide) hfr) rfl (ci := 10) rfl (by decide) (sh_of e19 f_x0) rfl rfl rfl dX10_readsAct_69 (fun e50 => ?_)
      have e51 : h49.1 = h0.1 := (e50).trans e19
      obtain ⟨g52, hq⟩ := gP_some hq
      refine wp_iast ok (sh_of e51 f46) (ix_of (sh_of e51 f46) g52) dX10_readsAct_72 ?_
      obtain ⟨h53, e54, hq⟩ := lt_some hq
      refine wp_nmH e54 ?_
      have e55 : h53.1 = h0.1 := (congrArg Prod.fst e54).trans e51
      refine wp_aload_n (v := x0) ok dX10_readsAct_73 rfl ?_
      obtain ⟨t56, e57, hq⟩ := bnd_some hq
      obtain ⟨e58, n59, f60⟩ := rK_some e57
      replace f60 := sh_of (e55).symm f60
      refine wp_getR ok fl_RX10_77 (sh_of e55 f_x0) e58 dX10_readsAct_74 ?_
      refine wp_iload_n (v := v1) ok dX10_readsAct_77 rfl ?_
      obtain ⟨g61, hq⟩ := gP_some hq
      refine wp_iald ok (sh_of e55 f60) (ix_of (sh_of e55 f60) g61) dX10_readsAct_78 ?_
      obtain ⟨k62, ek62, hq⟩ := jn0_some hq
      have kk62 : k62 = some rp → wp x 111 [(1, .int v1), (0, .ref x0)] [] h53 := by
        intro hq
        rw [ek62] at hq
        refine wp_aload_n (v := x0) ok dX10_readsAct_111 rfl ?_
        obtain ⟨t63, e64, hq⟩ := bnd_some hq
        obtain ⟨e65, n66, f67⟩ := rK_some e64
        replace f67 := sh_of (e55).symm f67
        refine wp_getR ok fl_RX10_77 (sh_of e55 f_x0) e65 dX10_readsAct_112 ?_
        refine wp_iload_n (v := v1) ok dX10_readsAct_115 rfl ?_
        obtain ⟨g68, hq⟩ := gP_some hq
        refine wp_iald ok (sh_of e55 f67) (ix_of (sh_of e55 f67) g68) dX10_readsAct_116 ?_
        refine wp_if_lt (tgt := 124) ok dX10_readsAct_117 (by decide) (fun c69 => ?_) (fun c69 => ?_)
        · have hq := ite_t c69 hq
          refine wp_iconst (v := 0) ok dX10_readsAct_124 (by decide) ?_
          exact wp_iret ok hF (nb_z (Or.inl rfl)) e55 (re2I hq) dX10_readsAct_125
        · have hq := ite_f c69 hq
          refine wp_iconst (v := 1) ok dX10_readsAct_120 (by decide) ?_
          refine wp_goto (tgt := 125) ok dX10_readsAct_121 (by decide) ?_
          exact wp_iret ok hF (nb_z (Or.inr rfl)) e55 (re2I hq) dX10_readsAct_125
      refine wp_if_lt (tgt := 111) ok dX10_readsAct_79 (by decide) (fun c70 => ?_) (fun c70 => ?_)
      · have hq := ite_t c70 hq
        refine wp_sub (L' := [(1, .int v1), (0, .ref x0)]) [0, 1] rfl ?_
        exact kk62 hq
      · have hq := ite_f c70 hq
        refine wp_aload_n (v := x0) ok dX10_readsAct_82 rfl ?_
        obtain ⟨t71, e72, hq⟩ := bnd_some hq
        obtain ⟨e73, n74, f75⟩ := rK_some e72
        replace f75 := sh_of (e55).symm f75
        refine wp_getR ok fl_RX10_74 (sh_of e55 f_x0) e73 dX10_readsAct_83 ?_
        refine wp_iload_n (v := v1) ok dX10_readsAct_86 rfl ?_
        obtain ⟨g76, hq⟩ := gP_some hq
        refine wp_iald ok (sh_of e55 f75) (ix_of (sh_of e55 f75) g76) dX10_readsAct_87 ?_
        refine wp_if_eq (tgt := 111) ok dX10_readsAct_88 (by decide) (fun c77 => ?_) (fun c77 => ?_)
        · have hq := ite_t c77 hq
          refine wp_sub (L' := [(1, .int v1), (0, .ref x0)]) [0, 1] rfl ?_
          exact kk62 hq
        · have hq := ite_f c77 hq
          refine wp_aload_n (v := x0) ok dX10_readsAct_91 rfl ?_
          obtain ⟨t78, e79, hq⟩ := bnd_some hq
          obtain ⟨e80, n81, f82⟩ := rK_some e79
          replace f82 := sh_of (e55).symm f82
          refine wp_getR ok fl_RX10_74 (sh_of e55 f_x0) e80 dX10_readsAct_92 ?_
          refine wp_iload_n (v := v1) ok dX10_readsAct_95 rfl ?_
          obtain ⟨g83, hq⟩ := gP_some hq
          refine wp_iald ok (sh_of e55 f82) (ix_of (sh_of e55 f82) g83) dX10_readsAct_96 ?_
          refine wp_iconst (v := 2) ok dX10_readsAct_97 (by decide) ?_
          refine wp_icmp_eq (tgt := 111) ok dX10_readsAct_98 (by decide) (fun c84 => ?_) (fun c84 => ?_)
          · have hq := ite_t c84 hq
            refine wp_sub (L' := [(1, .int v1), (0, .ref x0)]) [0, 1] rfl ?_
            exact kk62 hq
          · have hq := ite_f c84 hq
            refine wp_aload_n (v := x0) ok dX10_readsAct_101 rfl ?_
            obtain ⟨t85, e86, hq⟩ := bnd_some hq
            obtain ⟨e87, n88, f89⟩ := rK_some e86
            replace f89 := sh_of (e55).symm f89
            refine wp_getR ok fl_RX10_74 (sh_of e55 f_x0) e87 dX10_readsAct_102 ?_
            refine wp_iload_n (v := v1) ok dX10_readsAct_105 rfl ?_
            obtain ⟨g90, hq⟩ := gP_some hq
            refine wp_iald ok (sh_of e55 f89) (ix_of (sh_of e55 f89) g90) dX10_readsAct_106 ?_
            refine wp_iconst (v := 4) ok dX10_readsAct_107 (by decide) ?_
            refine wp_icmp_ne (tgt := 126) ok dX10_readsAct_108 (by decide) (fun c91 => ?_) (fun c91 => ?_)
            · have hq := ite_f c91 hq
              refine wp_aload_n (v := x0) ok dX10_readsAct_126 rfl ?_
              obtain ⟨t92, e93, hq⟩ := bnd_some hq
              obtain ⟨e94, n95, f96⟩ := rK_some e93
              replace f96 := sh_of (e55).symm f96
              refine wp_getR ok fl_RX10_74 (sh_of e55 f_x0) e94 dX10_readsAct_127 ?_
              refine wp_iload_n (v := v1) ok dX10_readsAct_130 rfl ?_
              obtain ⟨g97, hq⟩ := gP_some hq
              refine wp_iald ok (sh_of e55 f96) (ix_of (sh_of e55 f96) g97) dX10_readsAct_131 ?_
              refine wp_iconst (v := 1) ok dX10_readsAct_132 (by decide) ?_
              refine wp_icmp_ne (tgt := 164) ok dX10_readsAct_133 (by decide) (fun c98 => ?_) (fun c98 => ?_)
              · have hq := ite_f c98 hq
                refine wp_aload_n (v := x0) ok dX10_readsAct_164 rfl ?_
                obtain ⟨t99, e100, hq⟩ := bnd_some hq
                obtain ⟨e101, n102, f103⟩ := rK_some e100
                replace f103 := sh_of (e55).symm f103
                refine wp_getR ok fl_RX10_80 (sh_of e55 f_x0) e101 dX10_readsAct_165 ?_
                refine wp_iload_n (v := v1) ok dX10_readsAct_168 rfl ?_
                refine wp_aload_n (v := x0) ok dX10_readsAct_169 rfl ?_
                refine wp_ldcS (i := 10) ok rfl rfl rfl dX10_readsAct_170 ?_
                obtain ⟨v104, h106, e105, hq⟩ := bnd2_some hq
                refine wp_callVI (As := [.ref (SB + 10)]) (rest := [.int v1, .ref t99]) (h1 := h106) ok (m_X10_takesOf e105 (Nat.le_refl _)) my_X10_takesOf (w_1250) pd_X10_takesOf (Nat.le_trans (by decide) hfr) rfl (ci := 10) rfl (by decide) (sh_of e55 f_x0) rfl rfl rfl dX10_readsAct_172 (fun e107 => ?_)
                have e108 : h106.1 = h0.1 := (e107).trans e55
                obtain ⟨g109, hq⟩ := gP_some hq
                refine wp_iast ok (sh_of e108 f103) (ix_of (sh_of e108 f103) g109) dX10_readsAct_175 ?_
                obtain ⟨h110, e111, hq⟩ := lt_some hq
                refine wp_nmH e111 ?_
                have e112 : h110.1 = h0.1 := (congrArg Prod.fst e111).trans e108
                refine wp_aload_n (v := x0) ok dX10_readsAct_176 rfl ?_
                obtain ⟨t113, e114, hq⟩ := bnd_some hq
                obtain ⟨e115, n116, f117⟩ := rK_some e114
                replace f117 := sh_of (e112).symm f117
                refine wp_getR ok fl_RX10_83 (sh_of e112 f_x0) e115 dX10_readsAct_177 ?_
                refine wp_iload_n (v := v1) ok dX10_readsAct_180 rfl ?_
                refine wp_aload_n (v := x0) ok dX10_readsAct_181 rfl ?_
                obtain ⟨t118, e119, hq⟩ := bnd_some hq
                obtain ⟨e120, n121, f122⟩ := rK_some e119
                replace f122 := sh_of (e112).symm f122
                refine wp_getR ok fl_RX10_80 (sh_of e112 f_x0) e120 dX10_readsAct_182 ?_
                refine wp_iload_n (v := v1) ok dX10_readsAct_185 rfl ?_
                obtain ⟨g123, hq⟩ := gP_some hq
                refine wp_iald ok (sh_of e112 f122) (ix_of (sh_of e112 f122) g123) dX10_readsAct_186 ?_
                obtain ⟨k124, ek124, hq⟩ := jn2_some hq
                have kk124 : ∀ (y125 : Int32) (h126 : HP), k124 y125 h126 = some rp → h126.1 = h0.1 → wp x 201 [(1, .int v1), (0, .ref x0)] [.int y125, .int v1, .ref t113] h126 := by
                  intro y125 h126 hq e127
                  have hq := (ek124 y125 h126).symm.trans hq
                  obtain ⟨g128, hq⟩ := gP_some hq
                  refine wp_iast ok (sh_of e127 f117) (ix_of (sh_of e127 f117) g128) dX10_readsAct_201 ?_
                  obtain ⟨h129, e130, hq⟩ := lt_some hq
                  refine wp_nmH e130 ?_
                  have e131 : h129.1 = h0.1 := (congrArg Prod.fst e130).trans e127
                  refine wp_aload_n (v := x0) ok dX10_readsAct_202 rfl ?_
                  obtain ⟨t132, e133, hq⟩ := bnd_some hq
                  obtain ⟨e134, n135, f136⟩ := rK_some e133
                  replace f136 := sh_of (e131).symm f136
                  refine wp_getR ok fl_RX10_83 (sh_of e131 f_x0) e134 dX10_readsAct_203 ?_
                  refine wp_iload_n (v := v1) ok dX10_readsAct_206 rfl ?_
                  obtain ⟨g137, hq⟩ := gP_some hq
                  refine wp_iald ok (sh_of e131 f136) (ix_of (sh_of e131 f136) g137) dX10_readsAct_207 ?_
                  refine wp_if_lt (tgt := 215) ok dX10_readsAct_208 (by decide) (fun c138 => ?_) (fun c138 => ?_)
                  · have hq := ite_t c138 hq
                    refine wp_iconst (v := 0) ok dX10_readsAct_215 (by decide) ?_
                    exact wp_iret ok hF (nb_z (Or.inl rfl)) e131 (re2I hq) dX10_readsAct_216
                  · have hq := ite_f c138 hq
                    refine wp_iconst (v := 1) ok dX10_readsAct_211 (by decide) ?_
                    refine wp_goto (tgt := 216) ok dX10_readsAct_212 (by decide) ?_
                    exact wp_iret ok hF (nb_z (Or.inr rfl)) e131 (re2I hq) dX10_readsAct_216
                refine wp_if_ge (tgt := 194) ok dX10_readsAct_187 (by decide) (fun c139 => ?_) (fun c139 => ?_)
                · have hq := ite_t c139 hq
                  refine wp_aload_n (v := x0) ok dX10_readsAct_194 rfl ?_
                  refine wp_iconst (v := 1) ok dX10_readsAct_195 (by decide) ?_
                  refine wp_bipush (v := 9) ok dX10_readsAct_196 (by decide) ?_
                  obtain ⟨v140, h142, e141, hq⟩ := bnd2_some hq
                  refine wp_callVI (As := [.int 1, .int 9]) (rest := [.int v1, .ref t113]) (h1 := h142) ok (m_X10_digitIn e141 (Nat.le_refl _)) my_X10_digitIn (w_1425) pd_X10_digitIn (Nat.le_trans (by decide) hfr) rfl (ci := 10) rfl (by decide) (sh_of e112 f_x0) rfl rfl rfl dX10_readsAct_198 (fun e143 => ?_)
                  have e144 : h142.1 = h0.1 := (e143).trans e112
                  refine wp_sub (L' := [(1, .int v1), (0, .ref x0)]) [0, 1] rfl ?_
                  exact kk124 v140 h142 hq e144
                · have hq := ite_f c139 hq
                  refine wp_iconst (v := -1) ok dX10_readsAct_190 (by decide) ?_
                  refine wp_goto (tgt := 201) ok dX10_readsAct_191 (by decide) ?_
                  refine wp_sub (L' := [(1, .int v1), (0, .ref x0)]) [0, 1] rfl ?_
                  exact kk124 (-1) h110 hq e112
              · have hq := ite_t c98 hq
                refine wp_aload_n (v := x0) ok dX10_readsAct_136 rfl ?_
                obtain ⟨t145, e146, hq⟩ := bnd_some hq
                obtain ⟨e147, n148, f149⟩ := rK_some e146
                replace f149 := sh_of (e55).symm f149
                refine wp_getR ok fl_RX10_80 (sh_of e55 f_x0) e147 dX10_readsAct_137 ?_
                refine wp_iload_n (v := v1) ok dX10_readsAct_140 rfl ?_
                refine wp_aload_n (v := x0) ok dX10_readsAct_141 rfl ?_
                refine wp_iconst (v := 1) ok dX10_readsAct_142 (by decide) ?_
                refine wp_bipush (v := 9) ok dX10_readsAct_143 (by decide) ?_
                obtain ⟨v150, h152, e151, hq⟩ := bnd2_some hq
                refine wp_callVI (As := [.int 1, .int 9]) (rest := [.int v1, .ref t145]) (h1 := h152) ok (m_X10_digitIn e151 (Nat.le_refl _)) my_X10_digitIn (w_1425) pd_X10_digitIn (Nat.le_trans (by decide) hfr) rfl (ci := 10) rfl (by decide) (sh_of e55 f_x0) rfl rfl rfl dX10_readsAct_145 (fun e153 => ?_)
                have e154 : h152.1 = h0.1 := (e153).trans e55
                obtain ⟨g155, hq⟩ := gP_some hq
                refine wp_iast ok (sh_of e154 f149) (ix_of (sh_of e154 f149) g155) dX10_readsAct_148 ?_
                obtain ⟨h156, e157, hq⟩ := lt_some hq
                refine wp_nmH e157 ?_
                have e158 : h156.1 = h0.1 := (congrArg Prod.fst e157).trans e154
                refine wp_aload_n (v := x0) ok dX10_readsAct_149 rfl ?_
                obtain ⟨t159, e160, hq⟩ := bnd_some hq
                obtain ⟨e161, n162, f163⟩ := rK_some e160
                replace f163 := sh_of (e158).symm f163
                refine wp_getR ok fl_RX10_80 (sh_of e158 f_x0) e161 dX10_readsAct_150 ?_
                refine wp_iload_n (v := v1) ok dX10_readsAct_153 rfl ?_
                obtain ⟨g164, hq⟩ := gP_some hq
                refine wp_iald ok (sh_of e158 f163) (ix_of (sh_of e158 f163) g164) dX10_readsAct_154 ?_
                refine wp_if_lt (tgt := 162) ok dX10_readsAct_155 (by decide) (fun c165 => ?_) (fun c165 => ?_)
                · have hq := ite_t c165 hq
                  refine wp_iconst (v := 0) ok dX10_readsAct_162 (by decide) ?_
                  exact wp_iret ok hF (nb_z (Or.inl rfl)) e158 (re2I hq) dX10_readsAct_163
                · have hq := ite_f c165 hq
                  refine wp_iconst (v := 1) ok dX10_readsAct_158 (by decide) ?_
                  refine wp_goto (tgt := 163) ok dX10_readsAct_159 (by decide) ?_
                  exact wp_iret ok hF (nb_z (Or.inr rfl)) e158 (re2I hq) dX10_readsAct_163
            · have hq := ite_t c91 hq
              refine wp_sub (L' := [(1, .int v1), (0, .ref x0)]) [0, 1] rfl ?_
              exact kk62 hq
    · have hq := ite_t c41 hq
      refine wp_sub (L' := [(1, .int v1), (0, .ref x0)]) [0, 1] rfl ?_
      exact kk26 hq
set_option maxHeartbeats 4000000 in
set_option maxRecDepth 100000 in
theorem m_X10_does {l : Launch} {h : HP} {N : Nat} {x0 : Nat} {x1 : Int32} {rr : Int32} {rh : HP} {fr : Nat} (hq : f_X10_does N h x0 x1 = some (rr, rh)) (hfr : 3 ≤ fr) : Mt l yX10_does cX10_does 3 (some (.boolean)) fr [.ref x0, .int x1] h (QI rr rh) := by
  obtain ⟨rp, ep⟩ : ∃ rp : (Int32 × HP), rp = (rr, rh) := ⟨_, rfl⟩
  have e1p : rr = rp.1 := (congrArg Prod.fst ep).symm
  have e2p : rh = rp.2 := (congrArg Prod.snd ep).symm
  rw [← ep] at hq
  rw [e1p, e2p]
  clear e1p e2p ep
  refine Mt.of (by decide +kernel) (Nat.le_of_ble_eq_true rfl) (fun x hl ok hF => ?_)
  subst hl
  show wp x 0 [(0, .ref x0), (1, .int x1)] [] h
  unfold f_X10_does at hq
  obtain ⟨h0, eh0⟩ : ∃ h0 : HP, h = h0 := ⟨h, rfl⟩
  have e : h.1 = h0.1 := by rw [eh0]
  rw [eh0] at hF
  obtain ⟨g_x0, hq⟩ := gP_some hq
  obtain ⟨n_x0, f_x0⟩ := kO_some g_x0
  replace f_x0 := sh_of e.symm f_x0
  refine wp_aload_n (v := x0) ok dX10_does_0 rfl ?_
  obtain ⟨t1, e2, hq⟩ := bnd_some hq
  obtain ⟨e3, n4, f5⟩ := rK_some e2
  replace f5 := sh_of (e).symm f5
  refine wp_getR ok fl_RX10_77 (sh_of e f_x0) e3 dX10_does_1 ?_
  refine wp_iload_n (v := x1) ok dX10_does_4 rfl ?_
  obtain ⟨g6, hq⟩ := gP_some hq
  refine wp_iald ok (sh_of e f5) (ix_of (sh_of e f5) g6) dX10_does_5 ?_
  obtain ⟨v7, e8, hq⟩ := lt_some hq
  refine wp_nmI e8 ?_
  refine wp_istore_n (L' := [(2, .int v7), (0, .ref x0), (1, .int x1)]) ok dX10_does_6 rfl rfl ?_
  refine wp_aload_n (v := x0) ok dX10_does_7 rfl ?_
  obtain ⟨t9, e10, hq⟩ := bnd_some hq
  obtain ⟨e11, n12, f13⟩ := rK_some e10
  replace f13 := sh_of (e).symm f13
  refine wp_getR ok fl_RX10_74 (sh_of e f_x0) e11 dX10_does_8 ?_
  refine wp_iload_n (v := x1) ok dX10_does_11 rfl ?_
  obtain ⟨g14, hq⟩ := gP_some hq
  refine wp_iald ok (sh_of e f13) (ix_of (sh_of e f13) g14) dX10_does_12 ?_
  obtain ⟨v15, e16, hq⟩ := lt_some hq
  refine wp_nmI e16 ?_
  by_cases c17 : v15 = 0
  · have hq := ite_t c17 hq
    refine wp_tabIn (v := 0) (tgt := 52) ok dX10_does_13 c17 (by decide) (by decide) rfl (by decide) ?_
    refine wp_aload_n (v := x0) ok dX10_does_52 rfl ?_
    refine wp_aload_n (v := x0) ok dX10_does_53 rfl ?_
    obtain ⟨t18, e19, hq⟩ := bnd_some hq
    obtain ⟨e20, n21, f22⟩ := rK_some e19
    replace f22 := sh_of (e).symm f22
    refine wp_getR ok fl_RX10_41 (sh_of e f_x0) e20 dX10_does_54 ?_
    refine wp_iload_n (v := v7) ok dX10_does_57 rfl ?_
    obtain ⟨h23, e24, hq⟩ := bnd_some hq
    refine wp_callVV (As := [.ref t18, .int v7]) (rest := []) (h1 := h23) ok (m_X10_goesOn e24 (Nat.le_refl _)) my_X10_goesOn (w_1339) pd_X10_goesOn (Nat.le_trans (by decide) hfr) rfl (ci := 10) rfl (by decide) (sh_of e f_x0) rfl rfl rfl dX10_does_58 (fun e25 => ?_)
    have e26 : h23.1 = h0.1 := (e25).trans e
    refine wp_iconst (v := 1) ok dX10_does_61 (by decide) ?_
    exact wp_iret ok hF (nb_z (Or.inr rfl)) e26 (re2I hq) dX10_does_62
  · have hq := ite_f c17 hq
    by_cases c27 : v15 = 1
    · have hq := ite_t c27 hq
      refine wp_tabIn (v := 1) (tgt := 63) ok dX10_does_13 c27 (by decide) (by decide) rfl (by decide) ?_
      refine wp_aload_n (v := x0) ok dX10_does_63 rfl ?_
      refine wp_aload_n (v := x0) ok dX10_does_64 rfl ?_
      obtain ⟨t28, e29, hq⟩ := bnd_some hq
      obtain ⟨e30, n31, f32⟩ := rK_some e29
      replace f32 := sh_of (e).symm f32
      refine wp_getR ok fl_RX10_41 (sh_of e f_x0) e30 dX10_does_65 ?_
      refine wp_iload_n (v := v7) ok dX10_does_68 rfl ?_
      refine wp_aload_n (v := x0) ok dX10_does_69 rfl ?_
      obtain ⟨t33, e34, hq⟩ := bnd_some hq
      obtain ⟨e35, n36, f37⟩ := rK_some e34
      replace f37 := sh_of (e).symm f37
      refine wp_getR ok fl_RX10_80 (sh_of e f_x0) e35 dX10_does_70 ?_
      refine wp_iload_n (v := x1) ok dX10_does_73 rfl ?_
      obtain ⟨g38, hq⟩ := gP_some hq
      refine wp_iald ok (sh_of e f37) (ix_of (sh_of e f37) g38) dX10_does_74 ?_
      obtain ⟨v39, h41, e40, hq⟩ := bnd2_some hq
      refine wp_callVI (As := [.ref t28, .int v7, .int (h.2.1 t33 x1.toNatClampNeg)]) (rest := []) (h1 := h41) ok (m_X10_taxesOf e40 (Nat.le_refl _)) my_X10_taxesOf (w_1390) pd_X10_taxesOf (Nat.le_trans (by decide) hfr) rfl (ci := 10) rfl (by decide) (sh_of e f_x0) rfl rfl rfl dX10_does_75 (fun e42 => ?_)
      have e43 : h41.1 = h0.1 := (e42).trans e
      refine wp_if_lt (tgt := 85) ok dX10_does_78 (by decide) (fun c44 => ?_) (fun c44 => ?_)
      · have hq := ite_t c44 hq
        refine wp_iconst (v := 0) ok dX10_does_85 (by decide) ?_
        exact wp_iret ok hF (nb_z (Or.inl rfl)) e43 (re2I hq) dX10_does_86
      · have hq := ite_f c44 hq
        refine wp_iconst (v := 1) ok dX10_does_81 (by decide) ?_
        refine wp_goto (tgt := 86) ok dX10_does_82 (by decide) ?_
        exact wp_iret ok hF (nb_z (Or.inr rfl)) e43 (re2I hq) dX10_does_86
    · have hq := ite_f c27 hq
      by_cases c45 : v15 = 2
      · have hq := ite_t c45 hq
        refine wp_tabIn (v := 2) (tgt := 87) ok dX10_does_13 c45 (by decide) (by decide) rfl (by decide) ?_
        refine wp_aload_n (v := x0) ok dX10_does_87 rfl ?_
        refine wp_iload_n (v := v7) ok dX10_does_88 rfl ?_
        obtain ⟨v46, h48, e47, hq⟩ := bnd2_some hq
        refine wp_callVI (As := [.int v7]) (rest := []) (h1 := h48) ok (m_X10_burnsAt e47 (Nat.le_refl _)) my_X10_burnsAt (w_1400) pd_X10_burnsAt (Nat.le_trans (by decide) hfr) rfl (ci := 10) rfl (by decide) (sh_of e f_x0) rfl rfl rfl dX10_does_89 (fun e49 => ?_)
        have e50 : h48.1 = h0.1 := (e49).trans e
        refine wp_if_lt (tgt := 99) ok dX10_does_92 (by decide) (fun c51 => ?_) (fun c51 => ?_)
        · have hq := ite_t c51 hq
          refine wp_iconst (v := 0) ok dX10_does_99 (by decide) ?_
          exact wp_iret ok hF (nb_z (Or.inl rfl)) e50 (re2I hq) dX10_does_100
        · have hq := ite_f c51 hq
          refine wp_iconst (v := 1) ok dX10_does_95 (by decide) ?_
          refine wp_goto (tgt := 100) ok dX10_does_96 (by decide) ?_
          exact wp_iret ok hF (nb_z (Or.inr rfl)) e50 (re2I hq) dX10_does_100
      · have hq := ite_f c45 hq
        by_cases c52 : v15 = 3
        · have hq := ite_t c52 hq
          refine wp_tabIn (v := 3) (tgt := 101) ok dX10_does_13 c52 (by decide) (by decide) rfl (by decide) ?_
          refine wp_aload_n (v := x0) ok dX10_does_101 rfl ?_
          obtain ⟨t53, e54, hq⟩ := bnd_some hq
          obtain ⟨e55, n56, f57⟩ := rK_some e54
          replace f57 := sh_of (e).symm f57
          refine wp_getR ok fl_RX10_41 (sh_of e f_x0) e55 dX10_does_102 ?_
          refine wp_bipush (v := 27) ok dX10_does_105 (by decide) ?_
          refine wp_iconst (v := 1) ok dX10_does_107 (by decide) ?_
          refine wp_aload_n (v := x0) ok dX10_does_108 rfl ?_
          obtain ⟨t58, e59, hq⟩ := bnd_some hq
          obtain ⟨e60, n61, f62⟩ := rK_some e59
          replace f62 := sh_of (e).symm f62
          refine wp_getR ok fl_RX10_41 (sh_of e f_x0) e60 dX10_does_109 ?_
          refine wp_bipush (v := 27) ok dX10_does_112 (by decide) ?_
          obtain ⟨g63, hq⟩ := gP_some hq
          refine wp_iald ok (sh_of e f62) (ix_of (sh_of e f62) g63) dX10_does_114 ?_
          refine wp_isub ok dX10_does_115 ?_
          obtain ⟨g64, hq⟩ := gP_some hq
          refine wp_iast ok (sh_of e f57) (ix_of (sh_of e f57) g64) dX10_does_116 ?_
          obtain ⟨h65, e66, hq⟩ := lt_some hq
          refine wp_nmH e66 ?_
          have e67 : h65.1 = h0.1 := (congrArg Prod.fst e66).trans e
          refine wp_iconst (v := 1) ok dX10_does_117 (by decide) ?_
          exact wp_iret ok hF (nb_z (Or.inr rfl)) e67 (re2I hq) dX10_does_118
        · have hq := ite_f c52 hq
          by_cases c68 : v15 = 4
          · have hq := ite_t c68 hq
            refine wp_tabIn (v := 4) (tgt := 119) ok dX10_does_13 c68 (by decide) (by decide) rfl (by decide) ?_
            refine wp_aload_n (v := x0) ok dX10_does_119 rfl ?_
            refine wp_iload_n (v := v7) ok dX10_does_120 rfl ?_
            obtain ⟨v69, h71, e70, hq⟩ := bnd2_some hq
            refine wp_callVI (As := [.int v7]) (rest := []) (h1 := h71) ok (m_X10_flowsBy e70 (Nat.le_refl _)) my_X10_flowsBy (w_1412) pd_X10_flowsBy (Nat.le_trans (by decide) hfr) rfl (ci := 10) rfl (by decide) (sh_of e f_x0) rfl rfl rfl dX10_does_121 (fun e72 => ?_)
            have e73 : h71.1 = h0.1 := (e72).trans e
            refine wp_if_lt (tgt := 131) ok dX10_does_124 (by decide) (fun c74 => ?_) (fun c74 => ?_)
            · have hq := ite_t c74 hq
              refine wp_iconst (v := 0) ok dX10_does_131 (by decide) ?_
              exact wp_iret ok hF (nb_z (Or.inl rfl)) e73 (re2I hq) dX10_does_132
            · have hq := ite_f c74 hq
              refine wp_iconst (v := 1) ok dX10_does_127 (by decide) ?_
              refine wp_goto (tgt := 132) ok dX10_does_128 (by decide) ?_
              exact wp_iret ok hF (nb_z (Or.inr rfl)) e73 (re2I hq) dX10_does_132
          · have hq := ite_f c68 hq
            by_cases c75 : v15 = 5
            · have hq := ite_t c75 hq
              refine wp_tabIn (v := 5) (tgt := 133) ok dX10_does_13 c75 (by decide) (by decide) rfl (by decide) ?_
              refine wp_aload_n (v := x0) ok dX10_does_133 rfl ?_
              refine wp_iload_n (v := v7) ok dX10_does_134 rfl ?_
              refine wp_aload_n (v := x0) ok dX10_does_135 rfl ?_
              obtain ⟨t76, e77, hq⟩ := bnd_some hq
              obtain ⟨e78, n79, f80⟩ := rK_some e77
              replace f80 := sh_of (e).symm f80
              refine wp_getR ok fl_RX10_80 (sh_of e f_x0) e78 dX10_does_136 ?_
              refine wp_iload_n (v := x1) ok dX10_does_139 rfl ?_
              obtain ⟨g81, hq⟩ := gP_some hq
              refine wp_iald ok (sh_of e f80) (ix_of (sh_of e f80) g81) dX10_does_140 ?_
              refine wp_bipush (v := 100) ok dX10_does_141 (by decide) ?_
              refine wp_aload_n (v := x0) ok dX10_does_143 rfl ?_
              obtain ⟨t82, e83, hq⟩ := bnd_some hq
              obtain ⟨e84, n85, f86⟩ := rK_some e83
              replace f86 := sh_of (e).symm f86
              refine wp_getR ok fl_RX10_83 (sh_of e f_x0) e84 dX10_does_144 ?_
              refine wp_iload_n (v := x1) ok dX10_does_147 rfl ?_
              obtain ⟨g87, hq⟩ := gP_some hq
              refine wp_iald ok (sh_of e f86) (ix_of (sh_of e f86) g87) dX10_does_148 ?_
              refine wp_imul ok dX10_does_149 ?_
              obtain ⟨v88, h90, e89, hq⟩ := bnd2_some hq
              refine wp_callVI (As := [.int v7, .int (h.2.1 t76 x1.toNatClampNeg), .int (100 * (h.2.1 t82 x1.toNatClampNeg))]) (rest := []) (h1 := h90) ok (m_X10_laysBy e89 (Nat.le_refl _)) my_X10_laysBy (w_1370) pd_X10_laysBy (Nat.le_trans (by decide) hfr) rfl (ci := 10) rfl (by decide) (sh_of e f_x0) rfl rfl rfl dX10_does_150 (fun e91 => ?_)
              have e92 : h90.1 = h0.1 := (e91).trans e
              refine wp_if_lt (tgt := 160) ok dX10_does_153 (by decide) (fun c93 => ?_) (fun c93 => ?_)
              · have hq := ite_t c93 hq
                refine wp_iconst (v := 0) ok dX10_does_160 (by decide) ?_
                exact wp_iret ok hF (nb_z (Or.inl rfl)) e92 (re2I hq) dX10_does_161
              · have hq := ite_f c93 hq
                refine wp_iconst (v := 1) ok dX10_does_156 (by decide) ?_
                refine wp_goto (tgt := 161) ok dX10_does_157 (by decide) ?_
                exact wp_iret ok hF (nb_z (Or.inr rfl)) e92 (re2I hq) dX10_does_161
            · have hq := ite_f c75 hq
              refine wp_tabOut (tgt := 162) ok dX10_does_13 (tab_out [0, 1, 2, 3, 4, 5] (by decide) (fun w hw => by simp only [List.mem_cons, List.not_mem_nil, or_false] at hw; rcases hw with rfl | rfl | rfl | rfl | rfl | rfl <;> assumption)) (by decide) ?_
              refine wp_aload_n (v := x0) ok dX10_does_162 rfl ?_
              refine wp_iload_n (v := v7) ok dX10_does_163 rfl ?_
              refine wp_aload_n (v := x0) ok dX10_does_164 rfl ?_
              obtain ⟨t94, e95, hq⟩ := bnd_some hq
              obtain ⟨e96, n97, f98⟩ := rK_some e95
              replace f98 := sh_of (e).symm f98
              refine wp_getR ok fl_RX10_80 (sh_of e f_x0) e96 dX10_does_165 ?_
              refine wp_iload_n (v := x1) ok dX10_does_168 rfl ?_
              obtain ⟨g99, hq⟩ := gP_some hq
              refine wp_iald ok (sh_of e f98) (ix_of (sh_of e f98) g99) dX10_does_169 ?_
              refine wp_bipush (v := 100) ok dX10_does_170 (by decide) ?_
              refine wp_aload_n (v := x0) ok dX10_does_172 rfl ?_
              obtain ⟨t100, e101, hq⟩ := bnd_some hq
              obtain ⟨e102, n103, f104⟩ := rK_some e101
              replace f104 := sh_of (e).symm f104
              refine wp_getR ok fl_RX10_83 (sh_of e f_x0) e102 dX10_does_173 ?_
              refine wp_iload_n (v := x1) ok dX10_does_176 rfl ?_
              obtain ⟨g105, hq⟩ := gP_some hq
              refine wp_iald ok (sh_of e f104) (ix_of (sh_of e f104) g105) dX10_does_177 ?_
              refine wp_imul ok dX10_does_178 ?_
              obtain ⟨v106, h108, e107, hq⟩ := bnd2_some hq
              refine wp_callVI (As := [.int v7, .int (h.2.1 t94 x1.toNatClampNeg), .int (100 * (h.2.1 t100 x1.toNatClampNeg))]) (rest := []) (h1 := h108) ok (m_X10_spendsOf e107 (Nat.le_refl _)) my_X10_spendsOf (w_1382) pd_X10_spendsOf (Nat.le_trans (by decide) hfr) rfl (ci := 10) rfl (by decide) (sh_of e f_x0) rfl rfl rfl dX10_does_179 (fun e109 => ?_)
              have e110 : h108.1 = h0.1 := (e109).trans e
              refine wp_if_lt (tgt := 189) ok dX10_does_182 (by decide) (fun c111 => ?_) (fun c111 => ?_)
              · have hq := ite_t c111 hq
                refine wp_iconst (v := 0) ok dX10_does_189 (by decide) ?_
                exact wp_iret ok hF (nb_z (Or.inl rfl)) e110 (re2I hq) dX10_does_190
              · have hq := ite_f c111 hq
                refine wp_iconst (v := 1) ok dX10_does_185 (by decide) ?_
                refine wp_goto (tgt := 190) ok dX10_does_186 (by decide) ?_
                exact wp_iret ok hF (nb_z (Or.inr rfl)) e110 (re2I hq) dX10_does_190
set_option maxHeartbeats 4000000 in
set_option maxRecDepth 100000 in
theorem s_X10_year_B19 {x : Cx} {h0 : HP} {N fr : Nat} {rr : (Int32 × HP)} (ok : Okx x cX10_year yX10_year.cls 5 fr) (hfr : 6 ≤ fr)  {x0 : Nat} {x1 : Int32} {n_x0 : Nat} (f_x0 : h0.1[x0]? = some (10, n_x0)) (hF : Fend x h0 (some (.int)) (QI rr.1 rr.2)) {k42 : Int32 → HP → Option (Int32 × HP)} (hk42 : ∀ (x2 : Int32) (h : HP), k42 x2 h = some rr → h.1 = h0.1 → wp x 42 [(2, .int x2), (0, .ref x0), (1, .int x1)] [] h) {rc : Int32 → HP → Option (Int32 × HP)} (ih : ∀ (x2 : Int32) (h : HP), rc x2 h = some rr → h.1 = h0.1 → wp x 19 [(2, .int x2), (0, .ref x0), (1, .int x1)] [] h) : ∀ (x2 : Int32) (h : HP), f_X10_year_B19 N x0 x1 k42 rc x2 h = some rr → h.1 = h0.1 → wp x 19 [(2, .int x2), (0, .ref x0), (1, .int x1)] [] h := by
  intro x2 h hq e
  unfold f_X10_year_B19 at hq
  refine wp_iload_n (v := x2) ok dX10_year_19 rfl ?_
  refine wp_if_eq (tgt := 42) ok dX10_year_20 (by decide) (fun c12 => ?_) (fun c12 => ?_)
  · have hq := ite_t c12 hq
    refine wp_sub (L' := [(2, .int x2), (0, .ref x0), (1, .int x1)]) [0, 1, 2] rfl ?_
    exact hk42 x2 h hq e
  · have hq := ite_f c12 hq
    refine wp_aload_n (v := x0) ok dX10_year_23 rfl ?_
    refine wp_getI ok fl_RX10_130 (sh_of e f_x0) dX10_year_24 ?_
    refine wp_aload_n (v := x0) ok dX10_year_27 rfl ?_
    refine wp_getI ok fl_RX10_142 (sh_of e f_x0) dX10_year_28 ?_
    refine wp_icmp_ge (tgt := 42) ok dX10_year_31 (by decide) (fun c13 => ?_) (fun c13 => ?_)
    · have hq := ite_t c13 hq
      refine wp_sub (L' := [(2, .int x2), (0, .ref x0), (1, .int x1)]) [0, 1, 2] rfl ?_
      exact hk42 x2 h hq e
    · have hq := ite_f c13 hq
      refine wp_aload_n (v := x0) ok dX10_year_34 rfl ?_
      obtain ⟨v14, h16, e15, hq⟩ := bnd2_some hq
      refine wp_callVI (As := []) (rest := []) (h1 := h16) ok (m_X10_readsAct e15 (Nat.le_refl _)) my_X10_readsAct (w_1420) pd_X10_readsAct (Nat.le_trans (by decide) hfr) rfl (ci := 10) rfl (by decide) (sh_of e f_x0) rfl rfl rfl dX10_year_35 (fun e17 => ?_)
      have e18 : h16.1 = h0.1 := (e17).trans e
      refine wp_istore_n (L' := [(2, .int v14), (0, .ref x0), (1, .int x1)]) ok dX10_year_38 rfl rfl ?_
      refine wp_goto (tgt := 19) ok dX10_year_39 (by decide) ?_
      refine wp_sub (L' := [(2, .int v14), (0, .ref x0), (1, .int x1)]) [0, 1, 2] rfl ?_
      exact ih v14 h16 hq e18
set_option maxHeartbeats 4000000 in
set_option maxRecDepth 100000 in
theorem l_X10_year_B19 {x : Cx} {h0 : HP} {N fr : Nat} {rr : (Int32 × HP)} (ok : Okx x cX10_year yX10_year.cls 5 fr) (hfr : 6 ≤ fr)  {x0 : Nat} {x1 : Int32} {n_x0 : Nat} (f_x0 : h0.1[x0]? = some (10, n_x0)) (hF : Fend x h0 (some (.int)) (QI rr.1 rr.2)) {k42 : Int32 → HP → Option (Int32 × HP)} (hk42 : ∀ (x2 : Int32) (h : HP), k42 x2 h = some rr → h.1 = h0.1 → wp x 42 [(2, .int x2), (0, .ref x0), (1, .int x1)] [] h) : ∀ (n : Nat) (x2 : Int32) (h : HP), lp (fun _ _ => none) (f_X10_year_B19 N x0 x1 k42) n x2 h = some rr → h.1 = h0.1 → wp x 19 [(2, .int x2), (0, .ref x0), (1, .int x1)] [] h := by
  intro n
  induction n with
  | zero => intro x2 h hq e; exact (Option.some_ne_none _ hq.symm).elim
  | succ n ih => exact s_X10_year_B19 ok hfr f_x0 hF hk42 ih
set_option maxHeartbeats 4000000 in
set_option maxRecDepth 100000 in
theorem s_X10_year_B64 {x : Cx} {h0 : HP} {N fr : Nat} {rr : (Int32 × HP)} (ok : Okx x cX10_year yX10_year.cls 5 fr) (hfr : 6 ≤ fr)  {x0 : Nat} {n_x0 : Nat} (f_x0 : h0.1[x0]? = some (10, n_x0)) (hF : Fend x h0 (some (.int)) (QI rr.1 rr.2)) {k88 : Int32 → HP → Option (Int32 × HP)} (hk88 : ∀ (x4 : Int32) (h : HP), k88 x4 h = some rr → h.1 = h0.1 → wp x 88 [(4, .int x4), (0, .ref x0)] [] h) {rc : Int32 → HP → Option (Int32 × HP)} (ih : ∀ (x4 : Int32) (h : HP), rc x4 h = some rr → h.1 = h0.1 → wp x 64 [(4, .int x4), (0, .ref x0)] [] h) : ∀ (x4 : Int32) (h : HP), f_X10_year_B64 N x0 k88 rc x4 h = some rr → h.1 = h0.1 → wp x 64 [(4, .int x4), (0, .ref x0)] [] h := by
  intro x4 h hq e
  unfold f_X10_year_B64 at hq
  refine wp_iload (v := x4) ok dX10_year_64 rfl ?_
  refine wp_aload_n (v := x0) ok dX10_year_66 rfl ?_
  refine wp_getI ok fl_RX10_316 (sh_of e f_x0) dX10_year_67 ?_
  refine wp_icmp_ge (tgt := 88) ok dX10_year_70 (by decide) (fun c30 => ?_) (fun c30 => ?_)
  · have hq := ite_t c30 hq
    refine wp_sub (L' := [(4, .int x4), (0, .ref x0)]) [0, 1] rfl ?_
    exact hk88 x4 h hq e
  · have hq := ite_f c30 hq
    refine wp_aload_n (v := x0) ok dX10_year_73 rfl ?_
    refine wp_iload (v := x4) ok dX10_year_74 rfl ?_
    obtain ⟨v31, h33, e32, hq⟩ := bnd2_some hq
    refine wp_callVI (As := [.int x4]) (rest := []) (h1 := h33) ok (m_X10_does e32 (Nat.le_refl _)) my_X10_does (w_1429) pd_X10_does (Nat.le_trans (by decide) hfr) rfl (ci := 10) rfl (by decide) (sh_of e f_x0) rfl rfl rfl dX10_year_76 (fun e34 => ?_)
    have e35 : h33.1 = h0.1 := (e34).trans e
    refine wp_if_eq (tgt := 88) ok dX10_year_79 (by decide) (fun c36 => ?_) (fun c36 => ?_)
    · have hq := ite_t c36 hq
      refine wp_sub (L' := [(4, .int x4), (0, .ref x0)]) [0, 1] rfl ?_
      exact hk88 x4 h33 hq e35
    · have hq := ite_f c36 hq
      obtain ⟨v37, e38, hq⟩ := lt_some hq
      refine wp_iinc (v := x4) (w := 1) (L' := [(4, .int v37), (0, .ref x0)]) ok dX10_year_82 rfl (by decide) rfl (by rw [← e38]; rfl) ?_
      refine wp_goto (tgt := 64) ok dX10_year_85 (by decide) ?_
      refine wp_sub (L' := [(4, .int v37), (0, .ref x0)]) [0, 1] rfl ?_
      exact ih v37 h33 hq e35
set_option maxHeartbeats 4000000 in
set_option maxRecDepth 100000 in
theorem l_X10_year_B64 {x : Cx} {h0 : HP} {N fr : Nat} {rr : (Int32 × HP)} (ok : Okx x cX10_year yX10_year.cls 5 fr) (hfr : 6 ≤ fr)  {x0 : Nat} {n_x0 : Nat} (f_x0 : h0.1[x0]? = some (10, n_x0)) (hF : Fend x h0 (some (.int)) (QI rr.1 rr.2)) {k88 : Int32 → HP → Option (Int32 × HP)} (hk88 : ∀ (x4 : Int32) (h : HP), k88 x4 h = some rr → h.1 = h0.1 → wp x 88 [(4, .int x4), (0, .ref x0)] [] h) : ∀ (n : Nat) (x4 : Int32) (h : HP), lp (fun _ _ => none) (f_X10_year_B64 N x0 k88) n x4 h = some rr → h.1 = h0.1 → wp x 64 [(4, .int x4), (0, .ref x0)] [] h := by
  intro n
  induction n with
  | zero => intro x4 h hq e; exact (Option.some_ne_none _ hq.symm).elim
  | succ n ih => exact s_X10_year_B64 ok hfr f_x0 hF hk88 ih
set_option maxHeartbeats 4000000 in
set_option maxRecDepth 100000 in
theorem m_X10_year {l : Launch} {h : HP} {N : Nat} {x0 : Nat} {rr : Int32} {rh : HP} {fr : Nat} (hq : f_X10_year N h x0 = some (rr, rh)) (hfr : 6 ≤ fr) : Mt l yX10_year cX10_year 5 (some (.int)) fr [.ref x0] h (QI rr rh) := by
  obtain ⟨rp, ep⟩ : ∃ rp : (Int32 × HP), rp = (rr, rh) := ⟨_, rfl⟩
  have e1p : rr = rp.1 := (congrArg Prod.fst ep).symm
  have e2p : rh = rp.2 := (congrArg Prod.snd ep).symm
  rw [← ep] at hq
  rw [e1p, e2p]
  clear e1p e2p ep
  refine Mt.of (by decide +kernel) (Nat.le_of_ble_eq_true rfl) (fun x hl ok hF => ?_)
  subst hl
  show wp x 0 [(0, .ref x0)] [] h
  unfold f_X10_year at hq
  obtain ⟨h0, eh0⟩ : ∃ h0 : HP, h = h0 := ⟨h, rfl⟩
  have e : h.1 = h0.1 := by rw [eh0]
  rw [eh0] at hF
  obtain ⟨g_x0, hq⟩ := gP_some hq
  obtain ⟨n_x0, f_x0⟩ := kO_some g_x0
  replace f_x0 := sh_of e.symm f_x0
  refine wp_aload_n (v := x0) ok dX10_year_0 rfl ?_
  refine wp_iconst (v := 0) ok dX10_year_1 (by decide) ?_
  refine wp_putI ok flw_RX10_3 (nr_10_0 _) (sh_of e f_x0) dX10_year_2 ?_
  obtain ⟨h1, e2, hq⟩ := lt_some hq
  refine wp_nmH e2 ?_
  have e3 : h1.1 = h0.1 := (congrArg Prod.fst e2).trans e
  refine wp_aload_n (v := x0) ok dX10_year_5 rfl ?_
  refine wp_bipush (v := 60) ok dX10_year_6 (by decide) ?_
  obtain ⟨v4, h6, e5, hq⟩ := bnd2_some hq
  refine wp_callVI (As := [.int 60]) (rest := []) (h1 := h6) ok (m_X10_begins e5 (Nat.le_refl _)) my_X10_begins (w_1207) pd_X10_begins (Nat.le_trans (by decide) hfr) rfl (ci := 10) rfl (by decide) (sh_of e3 f_x0) rfl rfl rfl dX10_year_8 (fun e7 => ?_)
  have e8 : h6.1 = h0.1 := (e7).trans e3
  refine wp_istore_n (L' := [(1, .int v4), (0, .ref x0)]) ok dX10_year_11 rfl rfl ?_
  refine wp_aload_n (v := x0) ok dX10_year_12 rfl ?_
  refine wp_iconst (v := 0) ok dX10_year_13 (by decide) ?_
  refine wp_putI ok flw_RX10_316 (nr_10_33 _) (sh_of e8 f_x0) dX10_year_14 ?_
  obtain ⟨h9, e10, hq⟩ := lt_some hq
  refine wp_nmH e10 ?_
  have e11 : h9.1 = h0.1 := (congrArg Prod.fst e10).trans e8
  refine wp_iconst (v := 1) ok dX10_year_17 (by decide) ?_
  refine wp_istore_n (L' := [(2, .int 1), (1, .int v4), (0, .ref x0)]) ok dX10_year_18 rfl rfl ?_
  refine wp_sub (L' := [(2, .int 1), (0, .ref x0), (1, .int v4)]) [0, 2, 1] rfl ?_
  refine l_X10_year_B19 ok hfr f_x0 hF ?_ N 1 h9 hq e11
  · intro x19 h20 hq e21
    refine wp_aload_n (v := x0) ok dX10_year_42 rfl ?_
    refine wp_iload_n (v := v4) ok dX10_year_43 rfl ?_
    refine wp_bipush (v := 60) ok dX10_year_44 (by decide) ?_
    refine wp_iload_n (v := x19) ok dX10_year_46 rfl ?_
    obtain ⟨v22, e23, hq⟩ := bnd_some hq
    refine wp_callVI (As := [.int v4, .int 60, .int x19]) (rest := []) (h1 := h20) ok (m_X10_faultOf e23 (Nat.le_refl _)) my_X10_faultOf (w_1237) pd_X10_faultOf (Nat.le_trans (by decide) hfr) rfl (ci := 10) rfl (by decide) (sh_of e21 f_x0) rfl rfl rfl dX10_year_47 (fun e24 => ?_)
    refine wp_istore_n (L' := [(3, .int v22), (2, .int x19), (0, .ref x0), (1, .int v4)]) ok dX10_year_50 rfl rfl ?_
    refine wp_iload_n (v := v22) ok dX10_year_51 rfl ?_
    refine wp_if_ge (tgt := 57) ok dX10_year_52 (by decide) (fun c25 => ?_) (fun c25 => ?_)
    · have hq := ite_t c25 hq
      refine wp_aload_n (v := x0) ok dX10_year_57 rfl ?_
      obtain ⟨h26, e27, hq⟩ := bnd_some hq
      refine wp_callVV (As := []) (rest := []) (h1 := h26) ok (m_X10_putsBy e27 (Nat.le_refl _)) my_X10_putsBy (w_1335) pd_X10_putsBy (Nat.le_trans (by decide) hfr) rfl (ci := 10) rfl (by decide) (sh_of e21 f_x0) rfl rfl rfl dX10_year_58 (fun e28 => ?_)
      have e29 : h26.1 = h0.1 := (e28).trans e21
      refine wp_iconst (v := 0) ok dX10_year_61 (by decide) ?_
      refine wp_istore (L' := [(4, .int 0), (3, .int v22), (2, .int x19), (0, .ref x0), (1, .int v4)]) ok dX10_year_62 rfl rfl ?_
      refine wp_sub (L' := [(4, .int 0), (0, .ref x0)]) [0, 3] rfl ?_
      refine l_X10_year_B64 ok hfr f_x0 hF ?_ N 0 h26 hq e29
      · intro x39 h40 hq e41
        refine wp_aload_n (v := x0) ok dX10_year_88 rfl ?_
        refine wp_iconst (v := 0) ok dX10_year_89 (by decide) ?_
        refine wp_putI ok flw_RX10_15 (nr_10_1 _) (sh_of e41 f_x0) dX10_year_90 ?_
        obtain ⟨h42, e43, hq⟩ := lt_some hq
        refine wp_nmH e43 ?_
        have e44 : h42.1 = h0.1 := (congrArg Prod.fst e43).trans e41
        refine wp_aload_n (v := x0) ok dX10_year_93 rfl ?_
        refine wp_iload (v := x39) ok dX10_year_94 rfl ?_
        refine wp_aload_n (v := x0) ok dX10_year_96 rfl ?_
        refine wp_getI ok fl_RX10_316 (sh_of e44 f_x0) dX10_year_97 ?_
        obtain ⟨k45, ek45, hq⟩ := jn1_some hq
        have kk45 : ∀ (y46 : Int32), k45 y46 = some rp → wp x 108 [(4, .int x39), (0, .ref x0)] [.int y46, .ref x0] h42 := by
          intro y46 hq
          have hq := (ek45 y46).symm.trans hq
          obtain ⟨v47, e48, hq⟩ := bnd_some hq
          refine wp_callSI (As := [.int y46]) (rest := [.ref x0]) (h1 := h42) ok (m_X10_flag e48 (Nat.le_refl _)) my_X10_flag (w_1230) pd_X10_flag (Nat.le_trans (by decide) hfr) rfl rfl rfl rfl dX10_year_108 (fun e49 => ?_)
          refine wp_i2l ok dX10_year_111 ?_
          obtain ⟨h50, e51, hq⟩ := bnd_some hq
          refine wp_callVV (As := [.long (v47.toInt64)]) (rest := []) (h1 := h50) ok (m_X10_enters e51 (Nat.le_refl _)) my_X10_enters (w_1347) pd_X10_enters (Nat.le_trans (by decide) hfr) rfl (ci := 10) rfl (by decide) (sh_of e44 f_x0) rfl rfl rfl dX10_year_112 (fun e52 => ?_)
          have e53 : h50.1 = h0.1 := (e52).trans e44
          refine wp_aload_n (v := x0) ok dX10_year_115 rfl ?_
          refine wp_aload_n (v := x0) ok dX10_year_116 rfl ?_
          obtain ⟨t54, e55, hq⟩ := bnd_some hq
          obtain ⟨e56, n57, f58⟩ := rK_some e55
          replace f58 := sh_of (e53).symm f58
          refine wp_getR ok fl_RX10_41 (sh_of e53 f_x0) e56 dX10_year_117 ?_
          refine wp_bipush (v := 26) ok dX10_year_120 (by decide) ?_
          obtain ⟨g59, hq⟩ := gP_some hq
          refine wp_iald ok (sh_of e53 f58) (ix_of (sh_of e53 f58) g59) dX10_year_122 ?_
          refine wp_i2l ok dX10_year_123 ?_
          obtain ⟨h60, e61, hq⟩ := bnd_some hq
          refine wp_callVV (As := [.long ((h50.2.1 t54 (26 : Int32).toNatClampNeg).toInt64)]) (rest := []) (h1 := h60) ok (m_X10_enters e61 (Nat.le_refl _)) my_X10_enters (w_1347) pd_X10_enters (Nat.le_trans (by decide) hfr) rfl (ci := 10) rfl (by decide) (sh_of e53 f_x0) rfl rfl rfl dX10_year_124 (fun e62 => ?_)
          have e63 : h60.1 = h0.1 := (e62).trans e53
          refine wp_iload (v := x39) ok dX10_year_127 rfl ?_
          refine wp_if_le (tgt := 141) ok dX10_year_129 (by decide) (fun c64 => ?_) (fun c64 => ?_)
          · have hq := ite_t c64 hq
            refine wp_iconst (v := 0) ok dX10_year_141 (by decide) ?_
            exact wp_iret ok hF rfl e63 (re2I hq) dX10_year_142
          · have hq := ite_f c64 hq
            refine wp_aload_n (v := x0) ok dX10_year_132 rfl ?_
            refine wp_iload (v := x39) ok dX10_year_133 rfl ?_
            obtain ⟨v65, h67, e66, hq⟩ := bnd2_some hq
            refine wp_callVI (As := [.int x39]) (rest := []) (h1 := h67) ok (m_X10_adds e66 (Nat.le_refl _)) my_X10_adds (w_1351) pd_X10_adds (Nat.le_trans (by decide) hfr) rfl (ci := 10) rfl (by decide) (sh_of e63 f_x0) rfl rfl rfl dX10_year_135 (fun e68 => ?_)
            have e69 : h67.1 = h0.1 := (e68).trans e63
            refine wp_goto (tgt := 142) ok dX10_year_138 (by decide) ?_
            exact wp_iret ok hF rfl e69 (re2I hq) dX10_year_142
        refine wp_icmp_ge (tgt := 107) ok dX10_year_100 (by decide) (fun c70 => ?_) (fun c70 => ?_)
        · have hq := ite_t c70 hq
          refine wp_iconst (v := 0) ok dX10_year_107 (by decide) ?_
          refine wp_sub (L' := [(4, .int x39), (0, .ref x0)]) [0, 1] rfl ?_
          exact kk45 0 hq
        · have hq := ite_f c70 hq
          refine wp_iconst (v := 1) ok dX10_year_103 (by decide) ?_
          refine wp_goto (tgt := 108) ok dX10_year_104 (by decide) ?_
          refine wp_sub (L' := [(4, .int x39), (0, .ref x0)]) [0, 1] rfl ?_
          exact kk45 1 hq
    · have hq := ite_f c25 hq
      refine wp_iload_n (v := v22) ok dX10_year_55 rfl ?_
      exact wp_iret ok hF rfl e21 (re2I hq) dX10_year_56
set_option maxHeartbeats 4000000 in
set_option maxRecDepth 100000 in
theorem s_X10_copies_B2 {x : Cx} {h0 : HP} {N fr : Nat} {rr : HP} (ok : Okx x cX10_copies yX10_copies.cls 2 fr) (hfr : 0 ≤ fr)  {x0 : Nat} {n_x0 : Nat} (f_x0 : h0.1[x0]? = some (10, n_x0)) (hF : Fend x h0 none (QV rr)) {rc : Int32 → HP → Option HP} (ih : ∀ (x1 : Int32) (h : HP), rc x1 h = some rr → h.1 = h0.1 → wp x 2 [(1, .int x1), (0, .ref x0)] [] h) : ∀ (x1 : Int32) (h : HP), f_X10_copies_B2 N x0 rc x1 h = some rr → h.1 = h0.1 → wp x 2 [(1, .int x1), (0, .ref x0)] [] h := by
  intro x1 h hq e
  unfold f_X10_copies_B2 at hq
  refine wp_iload_n (v := x1) ok dX10_copies_2 rfl ?_
  refine wp_bipush (v := 28) ok dX10_copies_3 (by decide) ?_
  refine wp_icmp_ge (tgt := 26) ok dX10_copies_5 (by decide) (fun c1 => ?_) (fun c1 => ?_)
  · have hq := ite_t c1 hq
    exact wp_vret ok hF e (reV hq) dX10_copies_26
  · have hq := ite_f c1 hq
    refine wp_aload_n (v := x0) ok dX10_copies_8 rfl ?_
    obtain ⟨t2, e3, hq⟩ := bnd_some hq
    obtain ⟨e4, n5, f6⟩ := rK_some e3
    replace f6 := sh_of (e).symm f6
    refine wp_getR ok fl_RX10_44 (sh_of e f_x0) e4 dX10_copies_9 ?_
    refine wp_iload_n (v := x1) ok dX10_copies_12 rfl ?_
    refine wp_aload_n (v := x0) ok dX10_copies_13 rfl ?_
    obtain ⟨t7, e8, hq⟩ := bnd_some hq
    obtain ⟨e9, n10, f11⟩ := rK_some e8
    replace f11 := sh_of (e).symm f11
    refine wp_getR ok fl_RX10_41 (sh_of e f_x0) e9 dX10_copies_14 ?_
    refine wp_iload_n (v := x1) ok dX10_copies_17 rfl ?_
    obtain ⟨g12, hq⟩ := gP_some hq
    refine wp_iald ok (sh_of e f11) (ix_of (sh_of e f11) g12) dX10_copies_18 ?_
    obtain ⟨g13, hq⟩ := gP_some hq
    refine wp_iast ok (sh_of e f6) (ix_of (sh_of e f6) g13) dX10_copies_19 ?_
    obtain ⟨h14, e15, hq⟩ := lt_some hq
    refine wp_nmH e15 ?_
    have e16 : h14.1 = h0.1 := (congrArg Prod.fst e15).trans e
    obtain ⟨v17, e18, hq⟩ := lt_some hq
    refine wp_iinc (v := x1) (w := 1) (L' := [(1, .int v17), (0, .ref x0)]) ok dX10_copies_20 rfl (by decide) rfl (by rw [← e18]; rfl) ?_
    refine wp_goto (tgt := 2) ok dX10_copies_23 (by decide) ?_
    refine wp_sub (L' := [(1, .int v17), (0, .ref x0)]) [0, 1] rfl ?_
    exact ih v17 h14 hq e16
set_option maxHeartbeats 4000000 in
set_option maxRecDepth 100000 in
theorem l_X10_copies_B2 {x : Cx} {h0 : HP} {N fr : Nat} {rr : HP} (ok : Okx x cX10_copies yX10_copies.cls 2 fr) (hfr : 0 ≤ fr)  {x0 : Nat} {n_x0 : Nat} (f_x0 : h0.1[x0]? = some (10, n_x0)) (hF : Fend x h0 none (QV rr)) : ∀ (n : Nat) (x1 : Int32) (h : HP), lp (fun _ _ => none) (f_X10_copies_B2 N x0) n x1 h = some rr → h.1 = h0.1 → wp x 2 [(1, .int x1), (0, .ref x0)] [] h := by
  intro n
  induction n with
  | zero => intro x1 h hq e; exact (Option.some_ne_none _ hq.symm).elim
  | succ n ih => exact s_X10_copies_B2 ok hfr f_x0 hF  ih
set_option maxHeartbeats 4000000 in
set_option maxRecDepth 100000 in
theorem m_X10_copies {l : Launch} {h : HP} {N : Nat} {x0 : Nat} {rr : HP} {fr : Nat} (hq : f_X10_copies N h x0 = some rr) (hfr : 0 ≤ fr) : Mt l yX10_copies cX10_copies 2 none fr [.ref x0] h (QV rr) := by
  refine Mt.of (by decide +kernel) (Nat.le_of_ble_eq_true rfl) (fun x hl ok hF => ?_)
  subst hl
  show wp x 0 [(0, .ref x0)] [] h
  unfold f_X10_copies at hq
  obtain ⟨h0, eh0⟩ : ∃ h0 : HP, h = h0 := ⟨h, rfl⟩
  have e : h.1 = h0.1 := by rw [eh0]
  rw [eh0] at hF
  obtain ⟨g_x0, hq⟩ := gP_some hq
  obtain ⟨n_x0, f_x0⟩ := kO_some g_x0
  replace f_x0 := sh_of e.symm f_x0
  refine wp_iconst (v := 0) ok dX10_copies_0 (by decide) ?_
  refine wp_istore_n (L' := [(1, .int 0), (0, .ref x0)]) ok dX10_copies_1 rfl rfl ?_
  refine wp_sub (L' := [(1, .int 0), (0, .ref x0)]) [0, 1] rfl ?_
  refine l_X10_copies_B2 ok hfr f_x0 hF  N 0 h hq e
set_option maxHeartbeats 4000000 in
set_option maxRecDepth 100000 in
theorem m_X10_ahead {l : Launch} {h : HP} {N : Nat} {x0 : Nat} {x1 : Int32} {x2 : Int32} {rr : Int32} {rh : HP} {fr : Nat} (hq : f_X10_ahead N h x0 x1 x2 = some (rr, rh)) (hfr : 5 ≤ fr) : Mt l yX10_ahead cX10_ahead 3 (some (.int)) fr [.ref x0, .int x1, .int x2] h (QI rr rh) := by
  obtain ⟨rp, ep⟩ : ∃ rp : (Int32 × HP), rp = (rr, rh) := ⟨_, rfl⟩
  have e1p : rr = rp.1 := (congrArg Prod.fst ep).symm
  have e2p : rh = rp.2 := (congrArg Prod.snd ep).symm
  rw [← ep] at hq
  rw [e1p, e2p]
  clear e1p e2p ep
  refine Mt.of (by decide +kernel) (Nat.le_of_ble_eq_true rfl) (fun x hl ok hF => ?_)
  subst hl
  show wp x 0 [(0, .ref x0), (1, .int x1), (2, .int x2)] [] h
  unfold f_X10_ahead at hq
  obtain ⟨h0, eh0⟩ : ∃ h0 : HP, h = h0 := ⟨h, rfl⟩
  have e : h.1 = h0.1 := by rw [eh0]
  rw [eh0] at hF
  obtain ⟨g_x0, hq⟩ := gP_some hq
  obtain ⟨n_x0, f_x0⟩ := kO_some g_x0
  replace f_x0 := sh_of e.symm f_x0
  refine wp_aload_n (v := x0) ok dX10_ahead_0 rfl ?_
  refine wp_iconst (v := 0) ok dX10_ahead_1 (by decide) ?_
  refine wp_putI ok flw_RX10_3 (nr_10_0 _) (sh_of e f_x0) dX10_ahead_2 ?_
  obtain ⟨h1, e2, hq⟩ := lt_some hq
  refine wp_nmH e2 ?_
  have e3 : h1.1 = h0.1 := (congrArg Prod.fst e2).trans e
  refine wp_aload_n (v := x0) ok dX10_ahead_5 rfl ?_
  refine wp_iload_n (v := x1) ok dX10_ahead_6 rfl ?_
  obtain ⟨v4, e5, hq⟩ := bnd_some hq
  refine wp_callVI (As := [.int x1]) (rest := []) (h1 := h1) ok (m_X10_isMarket e5 (Nat.le_refl _)) my_X10_isMarket (w_1288) pd_X10_isMarket (Nat.le_trans (by decide) hfr) rfl (ci := 10) rfl (by decide) (sh_of e3 f_x0) rfl rfl rfl dX10_ahead_7 (fun e6 => ?_)
  refine wp_if_eq (tgt := 25) ok dX10_ahead_10 (by decide) (fun c7 => ?_) (fun c7 => ?_)
  · have hq := ite_t c7 hq
    refine wp_iconst (v := -1) ok dX10_ahead_25 (by decide) ?_
    exact wp_iret ok hF rfl e3 (re2I hq) dX10_ahead_26
  · have hq := ite_f c7 hq
    refine wp_iload_n (v := x2) ok dX10_ahead_13 rfl ?_
    refine wp_i2l ok dX10_ahead_14 ?_
    refine wp_lconst (v := 0) ok dX10_ahead_15 (by decide) ?_
    refine wp_ldc2 (v := 99) ok (w_1437) dX10_ahead_16 ?_
    obtain ⟨v8, e9, hq⟩ := bnd_some hq
    refine wp_callSI (As := [.long (x2.toInt64), .long 0, .long 99]) (rest := []) (h1 := h1) ok (m_X10_in e9 (Nat.le_refl _)) my_X10_in (w_1200) pd_X10_in (Nat.le_trans (by decide) hfr) rfl rfl rfl rfl dX10_ahead_19 (fun e10 => ?_)
    refine wp_if_ne (tgt := 27) ok dX10_ahead_22 (by decide) (fun c11 => ?_) (fun c11 => ?_)
    · have hq := ite_f c11 hq
      refine wp_aload_n (v := x0) ok dX10_ahead_27 rfl ?_
      obtain ⟨h12, e13, hq⟩ := bnd_some hq
      refine wp_callVV (As := []) (rest := []) (h1 := h12) ok (m_X10_copies e13 (Nat.le_refl _)) my_X10_copies (w_1438) pd_X10_copies (Nat.le_trans (by decide) hfr) rfl (ci := 10) rfl (by decide) (sh_of e3 f_x0) rfl rfl rfl dX10_ahead_28 (fun e14 => ?_)
      have e15 : h12.1 = h0.1 := (e14).trans e3
      refine wp_aload_n (v := x0) ok dX10_ahead_31 rfl ?_
      refine wp_aload_n (v := x0) ok dX10_ahead_32 rfl ?_
      obtain ⟨t16, e17, hq⟩ := bnd_some hq
      obtain ⟨e18, n19, f20⟩ := rK_some e17
      replace f20 := sh_of (e15).symm f20
      refine wp_getR ok fl_RX10_44 (sh_of e15 f_x0) e18 dX10_ahead_33 ?_
      refine wp_iload_n (v := x2) ok dX10_ahead_36 rfl ?_
      obtain ⟨h21, e22, hq⟩ := bnd_some hq
      refine wp_callVV (As := [.ref t16, .int x2]) (rest := []) (h1 := h21) ok (m_X10_goesOn e22 (Nat.le_refl _)) my_X10_goesOn (w_1339) pd_X10_goesOn (Nat.le_trans (by decide) hfr) rfl (ci := 10) rfl (by decide) (sh_of e15 f_x0) rfl rfl rfl dX10_ahead_37 (fun e23 => ?_)
      have e24 : h21.1 = h0.1 := (e23).trans e15
      refine wp_aload_n (v := x0) ok dX10_ahead_40 rfl ?_
      refine wp_iconst (v := 0) ok dX10_ahead_41 (by decide) ?_
      refine wp_putI ok flw_RX10_15 (nr_10_1 _) (sh_of e24 f_x0) dX10_ahead_42 ?_
      obtain ⟨h25, e26, hq⟩ := lt_some hq
      refine wp_nmH e26 ?_
      have e27 : h25.1 = h0.1 := (congrArg Prod.fst e26).trans e24
      refine wp_aload_n (v := x0) ok dX10_ahead_45 rfl ?_
      refine wp_aload_n (v := x0) ok dX10_ahead_46 rfl ?_
      obtain ⟨t28, e29, hq⟩ := bnd_some hq
      obtain ⟨e30, n31, f32⟩ := rK_some e29
      replace f32 := sh_of (e27).symm f32
      refine wp_getR ok fl_RX10_44 (sh_of e27 f_x0) e30 dX10_ahead_47 ?_
      refine wp_iconst (v := 0) ok dX10_ahead_50 (by decide) ?_
      refine wp_iload_n (v := x1) ok dX10_ahead_51 rfl ?_
      obtain ⟨v33, e34, hq⟩ := bnd_some hq
      refine wp_callSI (As := [.int 0, .int x1]) (rest := [.ref t28, .ref x0]) (h1 := h25) ok (m_X10_at e34 (Nat.le_refl _)) my_X10_at (w_1301) pd_X10_at (Nat.le_trans (by decide) hfr) rfl rfl rfl rfl dX10_ahead_52 (fun e35 => ?_)
      obtain ⟨g36, hq⟩ := gP_some hq
      refine wp_iald ok (sh_of e27 f32) (ix_of (sh_of e27 f32) g36) dX10_ahead_55 ?_
      refine wp_i2l ok dX10_ahead_56 ?_
      obtain ⟨h37, e38, hq⟩ := bnd_some hq
      refine wp_callVV (As := [.long ((h25.2.1 t28 v33.toNatClampNeg).toInt64)]) (rest := []) (h1 := h37) ok (m_X10_enters e38 (Nat.le_refl _)) my_X10_enters (w_1347) pd_X10_enters (Nat.le_trans (by decide) hfr) rfl (ci := 10) rfl (by decide) (sh_of e27 f_x0) rfl rfl rfl dX10_ahead_57 (fun e39 => ?_)
      have e40 : h37.1 = h0.1 := (e39).trans e27
      refine wp_aload_n (v := x0) ok dX10_ahead_60 rfl ?_
      refine wp_aload_n (v := x0) ok dX10_ahead_61 rfl ?_
      obtain ⟨t41, e42, hq⟩ := bnd_some hq
      obtain ⟨e43, n44, f45⟩ := rK_some e42
      replace f45 := sh_of (e40).symm f45
      refine wp_getR ok fl_RX10_44 (sh_of e40 f_x0) e43 dX10_ahead_62 ?_
      refine wp_iconst (v := 1) ok dX10_ahead_65 (by decide) ?_
      refine wp_iload_n (v := x1) ok dX10_ahead_66 rfl ?_
      obtain ⟨v46, e47, hq⟩ := bnd_some hq
      refine wp_callSI (As := [.int 1, .int x1]) (rest := [.ref t41, .ref x0]) (h1 := h37) ok (m_X10_at e47 (Nat.le_refl _)) my_X10_at (w_1301) pd_X10_at (Nat.le_trans (by decide) hfr) rfl rfl rfl rfl dX10_ahead_67 (fun e48 => ?_)
      obtain ⟨g49, hq⟩ := gP_some hq
      refine wp_iald ok (sh_of e40 f45) (ix_of (sh_of e40 f45) g49) dX10_ahead_70 ?_
      refine wp_i2l ok dX10_ahead_71 ?_
      obtain ⟨h50, e51, hq⟩ := bnd_some hq
      refine wp_callVV (As := [.long ((h37.2.1 t41 v46.toNatClampNeg).toInt64)]) (rest := []) (h1 := h50) ok (m_X10_enters e51 (Nat.le_refl _)) my_X10_enters (w_1347) pd_X10_enters (Nat.le_trans (by decide) hfr) rfl (ci := 10) rfl (by decide) (sh_of e40 f_x0) rfl rfl rfl dX10_ahead_72 (fun e52 => ?_)
      have e53 : h50.1 = h0.1 := (e52).trans e40
      refine wp_aload_n (v := x0) ok dX10_ahead_75 rfl ?_
      refine wp_aload_n (v := x0) ok dX10_ahead_76 rfl ?_
      obtain ⟨t54, e55, hq⟩ := bnd_some hq
      obtain ⟨e56, n57, f58⟩ := rK_some e55
      replace f58 := sh_of (e53).symm f58
      refine wp_getR ok fl_RX10_44 (sh_of e53 f_x0) e56 dX10_ahead_77 ?_
      refine wp_iload_n (v := x1) ok dX10_ahead_80 rfl ?_
      obtain ⟨v59, h61, e60, hq⟩ := bnd2_some hq
      refine wp_callVI (As := [.ref t54, .int x1]) (rest := []) (h1 := h61) ok (m_X10_priceOf e60 (Nat.le_refl _)) my_X10_priceOf (w_1297) pd_X10_priceOf (Nat.le_trans (by decide) hfr) rfl (ci := 10) rfl (by decide) (sh_of e53 f_x0) rfl rfl rfl dX10_ahead_81 (fun e62 => ?_)
      have e63 : h61.1 = h0.1 := (e62).trans e53
      exact wp_iret ok hF rfl e63 (re2I hq) dX10_ahead_84
    · have hq := ite_t c11 hq
      refine wp_iconst (v := -1) ok dX10_ahead_25 (by decide) ?_
      exact wp_iret ok hF rfl e3 (re2I hq) dX10_ahead_26
set_option maxHeartbeats 4000000 in
set_option maxRecDepth 100000 in
theorem s_X10_doubles_B31 {x : Cx} {h0 : HP} {N fr : Nat} {rr : (Int32 × HP)} (ok : Okx x cX10_doubles yX10_doubles.cls 5 fr) (hfr : 5 ≤ fr)  {x0 : Nat} {x1 : Int32} {x2 : Int32} {n_x0 : Nat} (f_x0 : h0.1[x0]? = some (10, n_x0)) (hF : Fend x h0 (some (.int)) (QI rr.1 rr.2)) {k69 : Int32 → Int32 → HP → Option (Int32 × HP)} (hk69 : ∀ (x3 : Int32) (x4 : Int32) (h : HP), k69 x3 x4 h = some rr → h.1 = h0.1 → wp x 69 [(3, .int x3), (4, .int x4), (0, .ref x0)] [] h) {rc : Int32 → HP → Option (Int32 × HP)} (ih : ∀ (x3 : Int32) (h : HP), rc x3 h = some rr → h.1 = h0.1 → wp x 31 [(3, .int x3), (0, .ref x0), (1, .int x1), (2, .int x2)] [] h) : ∀ (x3 : Int32) (h : HP), f_X10_doubles_B31 N x0 x1 x2 k69 rc x3 h = some rr → h.1 = h0.1 → wp x 31 [(3, .int x3), (0, .ref x0), (1, .int x1), (2, .int x2)] [] h := by
  intro x3 h hq e
  unfold f_X10_doubles_B31 at hq
  refine wp_iload_n (v := x3) ok dX10_doubles_31 rfl ?_
  refine wp_bipush (v := 99) ok dX10_doubles_32 (by decide) ?_
  refine wp_icmp_gt (tgt := 89) ok dX10_doubles_34 (by decide) (fun c22 => ?_) (fun c22 => ?_)
  · have hq := ite_t c22 hq
    refine wp_bipush (v := -2) ok dX10_doubles_89 (by decide) ?_
    exact wp_iret ok hF rfl e (re2I hq) dX10_doubles_91
  · have hq := ite_f c22 hq
    refine wp_aload_n (v := x0) ok dX10_doubles_37 rfl ?_
    refine wp_aload_n (v := x0) ok dX10_doubles_38 rfl ?_
    obtain ⟨t23, e24, hq⟩ := bnd_some hq
    obtain ⟨e25, n26, f27⟩ := rK_some e24
    replace f27 := sh_of (e).symm f27
    refine wp_getR ok fl_RX10_44 (sh_of e f_x0) e25 dX10_doubles_39 ?_
    obtain ⟨h28, e29, hq⟩ := bnd_some hq
    refine wp_callVV (As := [.ref t23]) (rest := []) (h1 := h28) ok (m_X10_monthGoes e29 (Nat.le_refl _)) my_X10_monthGoes (w_1343) pd_X10_monthGoes (Nat.le_trans (by decide) hfr) rfl (ci := 10) rfl (by decide) (sh_of e f_x0) rfl rfl rfl dX10_doubles_42 (fun e30 => ?_)
    have e31 : h28.1 = h0.1 := (e30).trans e
    refine wp_aload_n (v := x0) ok dX10_doubles_45 rfl ?_
    refine wp_aload_n (v := x0) ok dX10_doubles_46 rfl ?_
    obtain ⟨t32, e33, hq⟩ := bnd_some hq
    obtain ⟨e34, n35, f36⟩ := rK_some e33
    replace f36 := sh_of (e31).symm f36
    refine wp_getR ok fl_RX10_44 (sh_of e31 f_x0) e34 dX10_doubles_47 ?_
    refine wp_iload_n (v := x1) ok dX10_doubles_50 rfl ?_
    obtain ⟨v37, h39, e38, hq⟩ := bnd2_some hq
    refine wp_callVI (As := [.ref t32, .int x1]) (rest := []) (h1 := h39) ok (m_X10_priceOf e38 (Nat.le_refl _)) my_X10_priceOf (w_1297) pd_X10_priceOf (Nat.le_trans (by decide) hfr) rfl (ci := 10) rfl (by decide) (sh_of e31 f_x0) rfl rfl rfl dX10_doubles_51 (fun e40 => ?_)
    have e41 : h39.1 = h0.1 := (e40).trans e31
    refine wp_istore (L' := [(4, .int v37), (3, .int x3), (0, .ref x0), (1, .int x1), (2, .int x2)]) ok dX10_doubles_54 rfl rfl ?_
    refine wp_iload (v := v37) ok dX10_doubles_56 rfl ?_
    refine wp_if_le (tgt := 83) ok dX10_doubles_58 (by decide) (fun c42 => ?_) (fun c42 => ?_)
    · have hq := ite_t c42 hq
      obtain ⟨v43, e44, hq⟩ := lt_some hq
      refine wp_iinc (v := x3) (w := 1) (L' := [(3, .int v43), (4, .int v37), (0, .ref x0), (1, .int x1), (2, .int x2)]) ok dX10_doubles_83 rfl (by decide) rfl (by rw [← e44]; rfl) ?_
      refine wp_goto (tgt := 31) ok dX10_doubles_86 (by decide) ?_
      refine wp_sub (L' := [(3, .int v43), (0, .ref x0), (1, .int x1), (2, .int x2)]) [0, 2, 3, 4] rfl ?_
      exact ih v43 h39 hq e41
    · have hq := ite_f c42 hq
      refine wp_iload (v := v37) ok dX10_doubles_61 rfl ?_
      refine wp_iconst (v := 2) ok dX10_doubles_63 (by decide) ?_
      refine wp_iload_n (v := x2) ok dX10_doubles_64 rfl ?_
      refine wp_imul ok dX10_doubles_65 ?_
      refine wp_icmp_lt (tgt := 83) ok dX10_doubles_66 (by decide) (fun c45 => ?_) (fun c45 => ?_)
      · have hq := ite_t c45 hq
        obtain ⟨v46, e47, hq⟩ := lt_some hq
        refine wp_iinc (v := x3) (w := 1) (L' := [(3, .int v46), (4, .int v37), (0, .ref x0), (1, .int x1), (2, .int x2)]) ok dX10_doubles_83 rfl (by decide) rfl (by rw [← e47]; rfl) ?_
        refine wp_goto (tgt := 31) ok dX10_doubles_86 (by decide) ?_
        refine wp_sub (L' := [(3, .int v46), (0, .ref x0), (1, .int x1), (2, .int x2)]) [0, 2, 3, 4] rfl ?_
        exact ih v46 h39 hq e41
      · have hq := ite_f c45 hq
        refine wp_sub (L' := [(3, .int x3), (4, .int v37), (0, .ref x0)]) [1, 0, 2] rfl ?_
        exact hk69 x3 v37 h39 hq e41
set_option maxHeartbeats 4000000 in
set_option maxRecDepth 100000 in
theorem l_X10_doubles_B31 {x : Cx} {h0 : HP} {N fr : Nat} {rr : (Int32 × HP)} (ok : Okx x cX10_doubles yX10_doubles.cls 5 fr) (hfr : 5 ≤ fr)  {x0 : Nat} {x1 : Int32} {x2 : Int32} {n_x0 : Nat} (f_x0 : h0.1[x0]? = some (10, n_x0)) (hF : Fend x h0 (some (.int)) (QI rr.1 rr.2)) {k69 : Int32 → Int32 → HP → Option (Int32 × HP)} (hk69 : ∀ (x3 : Int32) (x4 : Int32) (h : HP), k69 x3 x4 h = some rr → h.1 = h0.1 → wp x 69 [(3, .int x3), (4, .int x4), (0, .ref x0)] [] h) : ∀ (n : Nat) (x3 : Int32) (h : HP), lp (fun _ _ => none) (f_X10_doubles_B31 N x0 x1 x2 k69) n x3 h = some rr → h.1 = h0.1 → wp x 31 [(3, .int x3), (0, .ref x0), (1, .int x1), (2, .int x2)] [] h := by
  intro n
  induction n with
  | zero => intro x3 h hq e; exact (Option.some_ne_none _ hq.symm).elim
  | succ n ih => exact s_X10_doubles_B31 ok hfr f_x0 hF hk69 ih
set_option maxHeartbeats 4000000 in
set_option maxRecDepth 100000 in
theorem m_X10_doubles {l : Launch} {h : HP} {N : Nat} {x0 : Nat} {x1 : Int32} {rr : Int32} {rh : HP} {fr : Nat} (hq : f_X10_doubles N h x0 x1 = some (rr, rh)) (hfr : 5 ≤ fr) : Mt l yX10_doubles cX10_doubles 5 (some (.int)) fr [.ref x0, .int x1] h (QI rr rh) := by
  obtain ⟨rp, ep⟩ : ∃ rp : (Int32 × HP), rp = (rr, rh) := ⟨_, rfl⟩
  have e1p : rr = rp.1 := (congrArg Prod.fst ep).symm
  have e2p : rh = rp.2 := (congrArg Prod.snd ep).symm
  rw [← ep] at hq
  rw [e1p, e2p]
  clear e1p e2p ep
  refine Mt.of (by decide +kernel) (Nat.le_of_ble_eq_true rfl) (fun x hl ok hF => ?_)
  subst hl
  show wp x 0 [(0, .ref x0), (1, .int x1)] [] h
  unfold f_X10_doubles at hq
  obtain ⟨h0, eh0⟩ : ∃ h0 : HP, h = h0 := ⟨h, rfl⟩
  have e : h.1 = h0.1 := by rw [eh0]
  rw [eh0] at hF
  obtain ⟨g_x0, hq⟩ := gP_some hq
  obtain ⟨n_x0, f_x0⟩ := kO_some g_x0
  replace f_x0 := sh_of e.symm f_x0
  refine wp_aload_n (v := x0) ok dX10_doubles_0 rfl ?_
  refine wp_iconst (v := 0) ok dX10_doubles_1 (by decide) ?_
  refine wp_putI ok flw_RX10_3 (nr_10_0 _) (sh_of e f_x0) dX10_doubles_2 ?_
  obtain ⟨h1, e2, hq⟩ := lt_some hq
  refine wp_nmH e2 ?_
  have e3 : h1.1 = h0.1 := (congrArg Prod.fst e2).trans e
  refine wp_aload_n (v := x0) ok dX10_doubles_5 rfl ?_
  refine wp_iload_n (v := x1) ok dX10_doubles_6 rfl ?_
  obtain ⟨v4, e5, hq⟩ := bnd_some hq
  refine wp_callVI (As := [.int x1]) (rest := []) (h1 := h1) ok (m_X10_isMarket e5 (Nat.le_refl _)) my_X10_isMarket (w_1288) pd_X10_isMarket (Nat.le_trans (by decide) hfr) rfl (ci := 10) rfl (by decide) (sh_of e3 f_x0) rfl rfl rfl dX10_doubles_7 (fun e6 => ?_)
  refine wp_if_ne (tgt := 15) ok dX10_doubles_10 (by decide) (fun c7 => ?_) (fun c7 => ?_)
  · have hq := ite_f c7 hq
    refine wp_aload_n (v := x0) ok dX10_doubles_15 rfl ?_
    obtain ⟨h8, e9, hq⟩ := bnd_some hq
    refine wp_callVV (As := []) (rest := []) (h1 := h8) ok (m_X10_copies e9 (Nat.le_refl _)) my_X10_copies (w_1438) pd_X10_copies (Nat.le_trans (by decide) hfr) rfl (ci := 10) rfl (by decide) (sh_of e3 f_x0) rfl rfl rfl dX10_doubles_16 (fun e10 => ?_)
    have e11 : h8.1 = h0.1 := (e10).trans e3
    refine wp_aload_n (v := x0) ok dX10_doubles_19 rfl ?_
    refine wp_aload_n (v := x0) ok dX10_doubles_20 rfl ?_
    obtain ⟨t12, e13, hq⟩ := bnd_some hq
    obtain ⟨e14, n15, f16⟩ := rK_some e13
    replace f16 := sh_of (e11).symm f16
    refine wp_getR ok fl_RX10_41 (sh_of e11 f_x0) e14 dX10_doubles_21 ?_
    refine wp_iload_n (v := x1) ok dX10_doubles_24 rfl ?_
    obtain ⟨v17, h19, e18, hq⟩ := bnd2_some hq
    refine wp_callVI (As := [.ref t12, .int x1]) (rest := []) (h1 := h19) ok (m_X10_priceOf e18 (Nat.le_refl _)) my_X10_priceOf (w_1297) pd_X10_priceOf (Nat.le_trans (by decide) hfr) rfl (ci := 10) rfl (by decide) (sh_of e11 f_x0) rfl rfl rfl dX10_doubles_25 (fun e20 => ?_)
    have e21 : h19.1 = h0.1 := (e20).trans e11
    refine wp_istore_n (L' := [(2, .int v17), (0, .ref x0), (1, .int x1)]) ok dX10_doubles_28 rfl rfl ?_
    refine wp_iconst (v := 1) ok dX10_doubles_29 (by decide) ?_
    refine wp_istore_n (L' := [(3, .int 1), (2, .int v17), (0, .ref x0), (1, .int x1)]) ok dX10_doubles_30 rfl rfl ?_
    refine wp_sub (L' := [(3, .int 1), (0, .ref x0), (1, .int x1), (2, .int v17)]) [0, 2, 3, 1] rfl ?_
    refine l_X10_doubles_B31 ok hfr f_x0 hF ?_ N 1 h19 hq e21
    · intro x48 x49 h50 hq e51
      refine wp_aload_n (v := x0) ok dX10_doubles_69 rfl ?_
      refine wp_iconst (v := 0) ok dX10_doubles_70 (by decide) ?_
      refine wp_putI ok flw_RX10_15 (nr_10_1 _) (sh_of e51 f_x0) dX10_doubles_71 ?_
      obtain ⟨h52, e53, hq⟩ := lt_some hq
      refine wp_nmH e53 ?_
      have e54 : h52.1 = h0.1 := (congrArg Prod.fst e53).trans e51
      refine wp_aload_n (v := x0) ok dX10_doubles_74 rfl ?_
      refine wp_iload (v := x49) ok dX10_doubles_75 rfl ?_
      refine wp_i2l ok dX10_doubles_77 ?_
      obtain ⟨h55, e56, hq⟩ := bnd_some hq
      refine wp_callVV (As := [.long (x49.toInt64)]) (rest := []) (h1 := h55) ok (m_X10_enters e56 (Nat.le_refl _)) my_X10_enters (w_1347) pd_X10_enters (Nat.le_trans (by decide) hfr) rfl (ci := 10) rfl (by decide) (sh_of e54 f_x0) rfl rfl rfl dX10_doubles_78 (fun e57 => ?_)
      have e58 : h55.1 = h0.1 := (e57).trans e54
      refine wp_iload_n (v := x48) ok dX10_doubles_81 rfl ?_
      exact wp_iret ok hF rfl e58 (re2I hq) dX10_doubles_82
  · have hq := ite_t c7 hq
    refine wp_iconst (v := -1) ok dX10_doubles_13 (by decide) ?_
    exact wp_iret ok hF rfl e3 (re2I hq) dX10_doubles_14
set_option maxHeartbeats 4000000 in
set_option maxRecDepth 100000 in
theorem m_J9_abs_0f7a4 {l : Launch} {h : HP} {x0 : Int32} {rr : Int32} {fr : Nat} (hq : f_J9_abs_0f7a4 x0 = some rr) (hfr : 0 ≤ fr) : Mt l yJ9_abs_0f7a4 cJ9_abs_0f7a4 1 (some (.int)) fr [.int x0] h (QI rr h) := by
  refine Mt.of (by decide +kernel) (Nat.le_of_ble_eq_true rfl) (fun x hl ok hF => ?_)
  subst hl
  show wp x 0 [(0, .int x0)] [] h
  unfold f_J9_abs_0f7a4 at hq
  refine wp_iload_n (v := x0) ok dJ9_abs_0f7a4_0 rfl ?_
  refine wp_if_ge (tgt := 9) ok dJ9_abs_0f7a4_1 (by decide) (fun c1 => ?_) (fun c1 => ?_)
  · have hq := ite_t c1 hq
    refine wp_iload_n (v := x0) ok dJ9_abs_0f7a4_9 rfl ?_
    exact wp_iret ok hF rfl rfl (re1I hq) dJ9_abs_0f7a4_10
  · have hq := ite_f c1 hq
    refine wp_iload_n (v := x0) ok dJ9_abs_0f7a4_4 rfl ?_
    refine wp_ineg ok dJ9_abs_0f7a4_5 ?_
    refine wp_goto (tgt := 10) ok dJ9_abs_0f7a4_6 (by decide) ?_
    exact wp_iret ok hF rfl rfl (re1I hq) dJ9_abs_0f7a4_10
set_option maxHeartbeats 4000000 in
set_option maxRecDepth 100000 in
theorem s_X10_trade_B68 {x : Cx} {h0 : HP} {N fr : Nat} {rr : (Int32 × HP)} (ok : Okx x cX10_trade yX10_trade.cls 10 fr) (hfr : 5 ≤ fr)  {x0 : Nat} {x1 : Int32} {x5 : Int32} {x6 : Int32} {x7 : Int32} {n_x0 : Nat} (f_x0 : h0.1[x0]? = some (10, n_x0)) (hF : Fend x h0 (some (.int)) (QI rr.1 rr.2)) {k149 : Int32 → Int32 → Int32 → HP → Option (Int32 × HP)} (hk149 : ∀ (x2 : Int32) (x3 : Int32) (x4 : Int32) (h : HP), k149 x2 x3 x4 h = some rr → h.1 = h0.1 → wp x 149 [(2, .int x2), (3, .int x3), (4, .int x4), (0, .ref x0), (1, .int x1), (5, .int x5)] [] h) {rc : Int32 → Int32 → Int32 → Int32 → HP → Option (Int32 × HP)} (ih : ∀ (x2 : Int32) (x3 : Int32) (x4 : Int32) (x8 : Int32) (h : HP), rc x2 x3 x4 x8 h = some rr → h.1 = h0.1 → wp x 68 [(2, .int x2), (3, .int x3), (4, .int x4), (8, .int x8), (0, .ref x0), (1, .int x1), (5, .int x5), (6, .int x6), (7, .int x7)] [] h) : ∀ (x2 : Int32) (x3 : Int32) (x4 : Int32) (x8 : Int32) (h : HP), f_X10_trade_B68 N x0 x1 x5 x6 x7 k149 rc x2 x3 x4 x8 h = some rr → h.1 = h0.1 → wp x 68 [(2, .int x2), (3, .int x3), (4, .int x4), (8, .int x8), (0, .ref x0), (1, .int x1), (5, .int x5), (6, .int x6), (7, .int x7)] [] h := by
  intro x2 x3 x4 x8 h hq e
  unfold f_X10_trade_B68 at hq
  refine wp_iload (v := x8) ok dX10_trade_68 rfl ?_
  refine wp_aload_n (v := x0) ok dX10_trade_70 rfl ?_
  refine wp_getI ok fl_RX10_120 (sh_of e f_x0) dX10_trade_71 ?_
  refine wp_icmp_ge (tgt := 149) ok dX10_trade_74 (by decide) (fun c24 => ?_) (fun c24 => ?_)
  · have hq := ite_t c24 hq
    refine wp_sub (L' := [(2, .int x2), (3, .int x3), (4, .int x4), (0, .ref x0), (1, .int x1), (5, .int x5)]) [0, 1, 2, 4, 5, 6] rfl ?_
    exact hk149 x2 x3 x4 h hq e
  · have hq := ite_f c24 hq
    refine wp_aload_n (v := x0) ok dX10_trade_77 rfl ?_
    obtain ⟨h25, e26, hq⟩ := bnd_some hq
    refine wp_callVV (As := []) (rest := []) (h1 := h25) ok (m_X10_copies e26 (Nat.le_refl _)) my_X10_copies (w_1438) pd_X10_copies (Nat.le_trans (by decide) hfr) rfl (ci := 10) rfl (by decide) (sh_of e f_x0) rfl rfl rfl dX10_trade_78 (fun e27 => ?_)
    have e28 : h25.1 = h0.1 := (e27).trans e
    refine wp_aload_n (v := x0) ok dX10_trade_81 rfl ?_
    refine wp_aload_n (v := x0) ok dX10_trade_82 rfl ?_
    obtain ⟨t29, e30, hq⟩ := bnd_some hq
    obtain ⟨e31, n32, f33⟩ := rK_some e30
    replace f33 := sh_of (e28).symm f33
    refine wp_getR ok fl_RX10_44 (sh_of e28 f_x0) e31 dX10_trade_83 ?_
    refine wp_iload (v := x5) ok dX10_trade_86 rfl ?_
    refine wp_iload (v := x8) ok dX10_trade_88 rfl ?_
    refine wp_isub ok dX10_trade_90 ?_
    obtain ⟨v34, e35, hq⟩ := bnd_some hq
    refine wp_callSI (As := [.int (x5 - x8)]) (rest := [.ref t29, .ref x0]) (h1 := h25) ok (m_J9_abs_0f7a4 e35 (Nat.le_refl _)) my_J9_abs_0f7a4 (w_1450) pd_J9_abs_0f7a4 (Nat.le_trans (by decide) hfr) rfl rfl rfl rfl dX10_trade_91 (fun e36 => ?_)
    obtain ⟨h37, e38, hq⟩ := bnd_some hq
    refine wp_callVV (As := [.ref t29, .int v34]) (rest := []) (h1 := h37) ok (m_X10_goesOn e38 (Nat.le_refl _)) my_X10_goesOn (w_1339) pd_X10_goesOn (Nat.le_trans (by decide) hfr) rfl (ci := 10) rfl (by decide) (sh_of e28 f_x0) rfl rfl rfl dX10_trade_94 (fun e39 => ?_)
    have e40 : h37.1 = h0.1 := (e39).trans e28
    refine wp_iload_n (v := x1) ok dX10_trade_97 rfl ?_
    refine wp_iload (v := x7) ok dX10_trade_98 rfl ?_
    refine wp_iload (v := x6) ok dX10_trade_100 rfl ?_
    refine wp_imul ok dX10_trade_102 ?_
    refine wp_isub ok dX10_trade_103 ?_
    refine wp_iload (v := x7) ok dX10_trade_104 rfl ?_
    refine wp_aload_n (v := x0) ok dX10_trade_106 rfl ?_
    refine wp_aload_n (v := x0) ok dX10_trade_107 rfl ?_
    obtain ⟨t41, e42, hq⟩ := bnd_some hq
    obtain ⟨e43, n44, f45⟩ := rK_some e42
    replace f45 := sh_of (e40).symm f45
    refine wp_getR ok fl_RX10_44 (sh_of e40 f_x0) e43 dX10_trade_108 ?_
    refine wp_iload (v := x8) ok dX10_trade_111 rfl ?_
    obtain ⟨v46, h48, e47, hq⟩ := bnd2_some hq
    refine wp_callVI (As := [.ref t41, .int x8]) (rest := [.int x7, .int (x1 - (x7 * x6))]) (h1 := h48) ok (m_X10_priceOf e47 (Nat.le_refl _)) my_X10_priceOf (w_1297) pd_X10_priceOf (Nat.le_trans (by decide) hfr) rfl (ci := 10) rfl (by decide) (sh_of e40 f_x0) rfl rfl rfl dX10_trade_113 (fun e49 => ?_)
    have e50 : h48.1 = h0.1 := (e49).trans e40
    refine wp_imul ok dX10_trade_116 ?_
    refine wp_iadd ok dX10_trade_117 ?_
    obtain ⟨v51, e52, hq⟩ := lt_some hq
    refine wp_nmI e52 ?_
    refine wp_istore (L' := [(9, .int v51), (2, .int x2), (3, .int x3), (4, .int x4), (8, .int x8), (0, .ref x0), (1, .int x1), (5, .int x5), (6, .int x6), (7, .int x7)]) ok dX10_trade_118 rfl rfl ?_
    refine wp_iload (v := x5) ok dX10_trade_120 rfl ?_
    refine wp_iload (v := x8) ok dX10_trade_122 rfl ?_
    refine wp_icmp_eq (tgt := 143) ok dX10_trade_124 (by decide) (fun c53 => ?_) (fun c53 => ?_)
    · have hq := ite_t c53 hq
      obtain ⟨v54, e55, hq⟩ := lt_some hq
      refine wp_iinc (v := x8) (w := 1) (L' := [(8, .int v54), (9, .int v51), (2, .int x2), (3, .int x3), (4, .int x4), (0, .ref x0), (1, .int x1), (5, .int x5), (6, .int x6), (7, .int x7)]) ok dX10_trade_143 rfl (by decide) rfl (by rw [← e55]; rfl) ?_
      refine wp_goto (tgt := 68) ok dX10_trade_146 (by decide) ?_
      refine wp_sub (L' := [(2, .int x2), (3, .int x3), (4, .int x4), (8, .int v54), (0, .ref x0), (1, .int x1), (5, .int x5), (6, .int x6), (7, .int x7)]) [2, 3, 4, 0, 5, 6, 7, 8, 9] rfl ?_
      exact ih x2 x3 x4 v54 h48 hq e50
    · have hq := ite_f c53 hq
      refine wp_iload (v := v51) ok dX10_trade_127 rfl ?_
      refine wp_iload_n (v := x2) ok dX10_trade_129 rfl ?_
      refine wp_icmp_le (tgt := 143) ok dX10_trade_130 (by decide) (fun c56 => ?_) (fun c56 => ?_)
      · have hq := ite_t c56 hq
        obtain ⟨v57, e58, hq⟩ := lt_some hq
        refine wp_iinc (v := x8) (w := 1) (L' := [(8, .int v57), (9, .int v51), (2, .int x2), (3, .int x3), (4, .int x4), (0, .ref x0), (1, .int x1), (5, .int x5), (6, .int x6), (7, .int x7)]) ok dX10_trade_143 rfl (by decide) rfl (by rw [← e58]; rfl) ?_
        refine wp_goto (tgt := 68) ok dX10_trade_146 (by decide) ?_
        refine wp_sub (L' := [(2, .int x2), (3, .int x3), (4, .int x4), (8, .int v57), (0, .ref x0), (1, .int x1), (5, .int x5), (6, .int x6), (7, .int x7)]) [2, 3, 4, 0, 5, 6, 7, 8, 9] rfl ?_
        exact ih x2 x3 x4 v57 h48 hq e50
      · have hq := ite_f c56 hq
        refine wp_iload (v := v51) ok dX10_trade_133 rfl ?_
        refine wp_istore_n (L' := [(2, .int v51), (9, .int v51), (3, .int x3), (4, .int x4), (8, .int x8), (0, .ref x0), (1, .int x1), (5, .int x5), (6, .int x6), (7, .int x7)]) ok dX10_trade_135 rfl rfl ?_
        refine wp_iload (v := x5) ok dX10_trade_136 rfl ?_
        refine wp_istore_n (L' := [(3, .int x5), (2, .int v51), (9, .int v51), (4, .int x4), (8, .int x8), (0, .ref x0), (1, .int x1), (5, .int x5), (6, .int x6), (7, .int x7)]) ok dX10_trade_138 rfl rfl ?_
        refine wp_iload (v := x8) ok dX10_trade_139 rfl ?_
        refine wp_istore (L' := [(4, .int x8), (3, .int x5), (2, .int v51), (9, .int v51), (8, .int x8), (0, .ref x0), (1, .int x1), (5, .int x5), (6, .int x6), (7, .int x7)]) ok dX10_trade_141 rfl rfl ?_
        obtain ⟨v59, e60, hq⟩ := lt_some hq
        refine wp_iinc (v := x8) (w := 1) (L' := [(8, .int v59), (4, .int x8), (3, .int x5), (2, .int v51), (9, .int v51), (0, .ref x0), (1, .int x1), (5, .int x5), (6, .int x6), (7, .int x7)]) ok dX10_trade_143 rfl (by decide) rfl (by rw [← e60]; rfl) ?_
        refine wp_goto (tgt := 68) ok dX10_trade_146 (by decide) ?_
        refine wp_sub (L' := [(2, .int v51), (3, .int x5), (4, .int x8), (8, .int v59), (0, .ref x0), (1, .int x1), (5, .int x5), (6, .int x6), (7, .int x7)]) [3, 2, 1, 0, 5, 6, 7, 8, 9] rfl ?_
        exact ih v51 x5 x8 v59 h48 hq e50
set_option maxHeartbeats 4000000 in
set_option maxRecDepth 100000 in
theorem l_X10_trade_B68 {x : Cx} {h0 : HP} {N fr : Nat} {rr : (Int32 × HP)} (ok : Okx x cX10_trade yX10_trade.cls 10 fr) (hfr : 5 ≤ fr)  {x0 : Nat} {x1 : Int32} {x5 : Int32} {x6 : Int32} {x7 : Int32} {n_x0 : Nat} (f_x0 : h0.1[x0]? = some (10, n_x0)) (hF : Fend x h0 (some (.int)) (QI rr.1 rr.2)) {k149 : Int32 → Int32 → Int32 → HP → Option (Int32 × HP)} (hk149 : ∀ (x2 : Int32) (x3 : Int32) (x4 : Int32) (h : HP), k149 x2 x3 x4 h = some rr → h.1 = h0.1 → wp x 149 [(2, .int x2), (3, .int x3), (4, .int x4), (0, .ref x0), (1, .int x1), (5, .int x5)] [] h) : ∀ (n : Nat) (x2 : Int32) (x3 : Int32) (x4 : Int32) (x8 : Int32) (h : HP), lp (fun _ _ _ _ _ => none) (f_X10_trade_B68 N x0 x1 x5 x6 x7 k149) n x2 x3 x4 x8 h = some rr → h.1 = h0.1 → wp x 68 [(2, .int x2), (3, .int x3), (4, .int x4), (8, .int x8), (0, .ref x0), (1, .int x1), (5, .int x5), (6, .int x6), (7, .int x7)] [] h := by
  intro n
  induction n with
  | zero => intro x2 x3 x4 x8 h hq e; exact (Option.some_ne_none _ hq.symm).elim
  | succ n ih => exact s_X10_trade_B68 ok hfr f_x0 hF hk149 ih
set_option maxHeartbeats 4000000 in
set_option maxRecDepth 100000 in
theorem s_X10_trade_B29 {x : Cx} {h0 : HP} {N fr : Nat} {rr : (Int32 × HP)} (ok : Okx x cX10_trade yX10_trade.cls 10 fr) (hfr : 5 ≤ fr)  {x0 : Nat} {x1 : Int32} {n_x0 : Nat} (f_x0 : h0.1[x0]? = some (10, n_x0)) (hF : Fend x h0 (some (.int)) (QI rr.1 rr.2)) {k155 : Int32 → Int32 → Int32 → HP → Option (Int32 × HP)} (hk155 : ∀ (x2 : Int32) (x3 : Int32) (x4 : Int32) (h : HP), k155 x2 x3 x4 h = some rr → h.1 = h0.1 → wp x 155 [(2, .int x2), (3, .int x3), (4, .int x4), (0, .ref x0), (1, .int x1)] [] h) {rc : Int32 → Int32 → Int32 → Int32 → HP → Option (Int32 × HP)} (ih : ∀ (x2 : Int32) (x3 : Int32) (x4 : Int32) (x5 : Int32) (h : HP), rc x2 x3 x4 x5 h = some rr → h.1 = h0.1 → wp x 29 [(2, .int x2), (3, .int x3), (4, .int x4), (5, .int x5), (0, .ref x0), (1, .int x1)] [] h) : ∀ (x2 : Int32) (x3 : Int32) (x4 : Int32) (x5 : Int32) (h : HP), f_X10_trade_B29 N x0 x1 k155 rc x2 x3 x4 x5 h = some rr → h.1 = h0.1 → wp x 29 [(2, .int x2), (3, .int x3), (4, .int x4), (5, .int x5), (0, .ref x0), (1, .int x1)] [] h := by
  intro x2 x3 x4 x5 h hq e
  unfold f_X10_trade_B29 at hq
  refine wp_iload (v := x5) ok dX10_trade_29 rfl ?_
  refine wp_aload_n (v := x0) ok dX10_trade_31 rfl ?_
  refine wp_getI ok fl_RX10_120 (sh_of e f_x0) dX10_trade_32 ?_
  refine wp_icmp_ge (tgt := 155) ok dX10_trade_35 (by decide) (fun c11 => ?_) (fun c11 => ?_)
  · have hq := ite_t c11 hq
    refine wp_sub (L' := [(2, .int x2), (3, .int x3), (4, .int x4), (0, .ref x0), (1, .int x1)]) [0, 1, 2, 4, 5] rfl ?_
    exact hk155 x2 x3 x4 h hq e
  · have hq := ite_f c11 hq
    refine wp_aload_n (v := x0) ok dX10_trade_38 rfl ?_
    refine wp_aload_n (v := x0) ok dX10_trade_39 rfl ?_
    obtain ⟨t12, e13, hq⟩ := bnd_some hq
    obtain ⟨e14, n15, f16⟩ := rK_some e13
    replace f16 := sh_of (e).symm f16
    refine wp_getR ok fl_RX10_41 (sh_of e f_x0) e14 dX10_trade_40 ?_
    refine wp_iload (v := x5) ok dX10_trade_43 rfl ?_
    obtain ⟨v17, h19, e18, hq⟩ := bnd2_some hq
    refine wp_callVI (As := [.ref t12, .int x5]) (rest := []) (h1 := h19) ok (m_X10_priceOf e18 (Nat.le_refl _)) my_X10_priceOf (w_1297) pd_X10_priceOf (Nat.le_trans (by decide) hfr) rfl (ci := 10) rfl (by decide) (sh_of e f_x0) rfl rfl rfl dX10_trade_45 (fun e20 => ?_)
    have e21 : h19.1 = h0.1 := (e20).trans e
    refine wp_istore (L' := [(6, .int v17), (2, .int x2), (3, .int x3), (4, .int x4), (5, .int x5), (0, .ref x0), (1, .int x1)]) ok dX10_trade_48 rfl rfl ?_
    refine wp_iload (v := v17) ok dX10_trade_50 rfl ?_
    obtain ⟨k22, ek22, hq⟩ := jn1_some hq
    have kk22 : ∀ (y23 : Int32), k22 y23 = some rr → wp x 63 [(6, .int v17), (2, .int x2), (3, .int x3), (4, .int x4), (5, .int x5), (0, .ref x0), (1, .int x1)] [.int y23] h19 := by
      intro y23 hq
      have hq := (ek22 y23).symm.trans hq
      refine wp_istore (L' := [(7, .int y23), (6, .int v17), (2, .int x2), (3, .int x3), (4, .int x4), (5, .int x5), (0, .ref x0), (1, .int x1)]) ok dX10_trade_63 rfl rfl ?_
      refine wp_iconst (v := 0) ok dX10_trade_65 (by decide) ?_
      refine wp_istore (L' := [(8, .int 0), (7, .int y23), (6, .int v17), (2, .int x2), (3, .int x3), (4, .int x4), (5, .int x5), (0, .ref x0), (1, .int x1)]) ok dX10_trade_66 rfl rfl ?_
      refine wp_sub (L' := [(2, .int x2), (3, .int x3), (4, .int x4), (8, .int 0), (0, .ref x0), (1, .int x1), (5, .int x5), (6, .int v17), (7, .int y23)]) [3, 4, 5, 0, 7, 8, 6, 2, 1] rfl ?_
      refine l_X10_trade_B68 ok hfr f_x0 hF ?_ N x2 x3 x4 0 h19 hq e21
      · intro x61 x62 x63 h64 hq e65
        obtain ⟨v66, e67, hq⟩ := lt_some hq
        refine wp_iinc (v := x5) (w := 1) (L' := [(5, .int v66), (2, .int x61), (3, .int x62), (4, .int x63), (0, .ref x0), (1, .int x1)]) ok dX10_trade_149 rfl (by decide) rfl (by rw [← e67]; rfl) ?_
        refine wp_goto (tgt := 29) ok dX10_trade_152 (by decide) ?_
        refine wp_sub (L' := [(2, .int x61), (3, .int x62), (4, .int x63), (5, .int v66), (0, .ref x0), (1, .int x1)]) [1, 2, 3, 0, 4, 5] rfl ?_
        exact ih x61 x62 x63 v66 h64 hq e65
    refine wp_if_ne (tgt := 59) ok dX10_trade_52 (by decide) (fun c68 => ?_) (fun c68 => ?_)
    · have hq := ite_f c68 hq
      refine wp_iload_n (v := x1) ok dX10_trade_59 rfl ?_
      refine wp_iload (v := v17) ok dX10_trade_60 rfl ?_
      obtain ⟨g69, hq⟩ := gP_some hq
      refine wp_idiv ok dX10_trade_62 g69 ?_
      refine wp_sub (L' := [(6, .int v17), (2, .int x2), (3, .int x3), (4, .int x4), (5, .int x5), (0, .ref x0), (1, .int x1)]) [0, 1, 2, 3, 4, 5, 6] rfl ?_
      exact kk22 (x1 / v17) hq
    · have hq := ite_t c68 hq
      refine wp_iconst (v := 0) ok dX10_trade_55 (by decide) ?_
      refine wp_goto (tgt := 63) ok dX10_trade_56 (by decide) ?_
      refine wp_sub (L' := [(6, .int v17), (2, .int x2), (3, .int x3), (4, .int x4), (5, .int x5), (0, .ref x0), (1, .int x1)]) [0, 1, 2, 3, 4, 5, 6] rfl ?_
      exact kk22 0 hq
set_option maxHeartbeats 4000000 in
set_option maxRecDepth 100000 in
theorem l_X10_trade_B29 {x : Cx} {h0 : HP} {N fr : Nat} {rr : (Int32 × HP)} (ok : Okx x cX10_trade yX10_trade.cls 10 fr) (hfr : 5 ≤ fr)  {x0 : Nat} {x1 : Int32} {n_x0 : Nat} (f_x0 : h0.1[x0]? = some (10, n_x0)) (hF : Fend x h0 (some (.int)) (QI rr.1 rr.2)) {k155 : Int32 → Int32 → Int32 → HP → Option (Int32 × HP)} (hk155 : ∀ (x2 : Int32) (x3 : Int32) (x4 : Int32) (h : HP), k155 x2 x3 x4 h = some rr → h.1 = h0.1 → wp x 155 [(2, .int x2), (3, .int x3), (4, .int x4), (0, .ref x0), (1, .int x1)] [] h) : ∀ (n : Nat) (x2 : Int32) (x3 : Int32) (x4 : Int32) (x5 : Int32) (h : HP), lp (fun _ _ _ _ _ => none) (f_X10_trade_B29 N x0 x1 k155) n x2 x3 x4 x5 h = some rr → h.1 = h0.1 → wp x 29 [(2, .int x2), (3, .int x3), (4, .int x4), (5, .int x5), (0, .ref x0), (1, .int x1)] [] h := by
  intro n
  induction n with
  | zero => intro x2 x3 x4 x5 h hq e; exact (Option.some_ne_none _ hq.symm).elim
  | succ n ih => exact s_X10_trade_B29 ok hfr f_x0 hF hk155 ih
set_option maxHeartbeats 4000000 in
set_option maxRecDepth 100000 in
theorem m_X10_trade {l : Launch} {h : HP} {N : Nat} {x0 : Nat} {x1 : Int32} {rr : Int32} {rh : HP} {fr : Nat} (hq : f_X10_trade N h x0 x1 = some (rr, rh)) (hfr : 5 ≤ fr) : Mt l yX10_trade cX10_trade 10 (some (.int)) fr [.ref x0, .int x1] h (QI rr rh) := by
  obtain ⟨rp, ep⟩ : ∃ rp : (Int32 × HP), rp = (rr, rh) := ⟨_, rfl⟩
  have e1p : rr = rp.1 := (congrArg Prod.fst ep).symm
  have e2p : rh = rp.2 := (congrArg Prod.snd ep).symm
  rw [← ep] at hq
  rw [e1p, e2p]
  clear e1p e2p ep
  refine Mt.of (by decide +kernel) (Nat.le_of_ble_eq_true rfl) (fun x hl ok hF => ?_)
  subst hl
  show wp x 0 [(0, .ref x0), (1, .int x1)] [] h
  unfold f_X10_trade at hq
  obtain ⟨h0, eh0⟩ : ∃ h0 : HP, h = h0 := ⟨h, rfl⟩
  have e : h.1 = h0.1 := by rw [eh0]
  rw [eh0] at hF
  obtain ⟨g_x0, hq⟩ := gP_some hq
  obtain ⟨n_x0, f_x0⟩ := kO_some g_x0
  replace f_x0 := sh_of e.symm f_x0
  refine wp_aload_n (v := x0) ok dX10_trade_0 rfl ?_
  refine wp_iconst (v := 0) ok dX10_trade_1 (by decide) ?_
  refine wp_putI ok flw_RX10_3 (nr_10_0 _) (sh_of e f_x0) dX10_trade_2 ?_
  obtain ⟨h1, e2, hq⟩ := lt_some hq
  refine wp_nmH e2 ?_
  have e3 : h1.1 = h0.1 := (congrArg Prod.fst e2).trans e
  refine wp_iload_n (v := x1) ok dX10_trade_5 rfl ?_
  obtain ⟨v4, e5, hq⟩ := bnd_some hq
  refine wp_callSI (As := [.int x1]) (rest := []) (h1 := h1) ok (m_X10_isSome e5 (Nat.le_refl _)) my_X10_isSome (w_1362) pd_X10_isSome (Nat.le_trans (by decide) hfr) rfl rfl rfl rfl dX10_trade_6 (fun e6 => ?_)
  refine wp_if_ne (tgt := 14) ok dX10_trade_9 (by decide) (fun c7 => ?_) (fun c7 => ?_)
  · have hq := ite_f c7 hq
    refine wp_aload_n (v := x0) ok dX10_trade_14 rfl ?_
    refine wp_iconst (v := 0) ok dX10_trade_15 (by decide) ?_
    refine wp_putI ok flw_RX10_15 (nr_10_1 _) (sh_of e3 f_x0) dX10_trade_16 ?_
    obtain ⟨h8, e9, hq⟩ := lt_some hq
    refine wp_nmH e9 ?_
    have e10 : h8.1 = h0.1 := (congrArg Prod.fst e9).trans e3
    refine wp_iconst (v := -1) ok dX10_trade_19 (by decide) ?_
    refine wp_istore_n (L' := [(2, .int (-1)), (0, .ref x0), (1, .int x1)]) ok dX10_trade_20 rfl rfl ?_
    refine wp_iconst (v := -1) ok dX10_trade_21 (by decide) ?_
    refine wp_istore_n (L' := [(3, .int (-1)), (2, .int (-1)), (0, .ref x0), (1, .int x1)]) ok dX10_trade_22 rfl rfl ?_
    refine wp_iconst (v := -1) ok dX10_trade_23 (by decide) ?_
    refine wp_istore (L' := [(4, .int (-1)), (3, .int (-1)), (2, .int (-1)), (0, .ref x0), (1, .int x1)]) ok dX10_trade_24 rfl rfl ?_
    refine wp_iconst (v := 0) ok dX10_trade_26 (by decide) ?_
    refine wp_istore (L' := [(5, .int 0), (4, .int (-1)), (3, .int (-1)), (2, .int (-1)), (0, .ref x0), (1, .int x1)]) ok dX10_trade_27 rfl rfl ?_
    refine wp_sub (L' := [(2, .int (-1)), (3, .int (-1)), (4, .int (-1)), (5, .int 0), (0, .ref x0), (1, .int x1)]) [3, 2, 1, 0, 4, 5] rfl ?_
    refine l_X10_trade_B29 ok hfr f_x0 hF ?_ N (-1) (-1) (-1) 0 h8 hq e10
    · intro x70 x71 x72 h73 hq e74
      refine wp_iload_n (v := x71) ok dX10_trade_155 rfl ?_
      refine wp_if_ge (tgt := 161) ok dX10_trade_156 (by decide) (fun c75 => ?_) (fun c75 => ?_)
      · have hq := ite_t c75 hq
        refine wp_aload_n (v := x0) ok dX10_trade_161 rfl ?_
        refine wp_iload_n (v := x71) ok dX10_trade_162 rfl ?_
        refine wp_i2l ok dX10_trade_163 ?_
        obtain ⟨h76, e77, hq⟩ := bnd_some hq
        refine wp_callVV (As := [.long (x71.toInt64)]) (rest := []) (h1 := h76) ok (m_X10_enters e77 (Nat.le_refl _)) my_X10_enters (w_1347) pd_X10_enters (Nat.le_trans (by decide) hfr) rfl (ci := 10) rfl (by decide) (sh_of e74 f_x0) rfl rfl rfl dX10_trade_164 (fun e78 => ?_)
        have e79 : h76.1 = h0.1 := (e78).trans e74
        refine wp_aload_n (v := x0) ok dX10_trade_167 rfl ?_
        refine wp_iload (v := x72) ok dX10_trade_168 rfl ?_
        refine wp_i2l ok dX10_trade_170 ?_
        obtain ⟨h80, e81, hq⟩ := bnd_some hq
        refine wp_callVV (As := [.long (x72.toInt64)]) (rest := []) (h1 := h80) ok (m_X10_enters e81 (Nat.le_refl _)) my_X10_enters (w_1347) pd_X10_enters (Nat.le_trans (by decide) hfr) rfl (ci := 10) rfl (by decide) (sh_of e79 f_x0) rfl rfl rfl dX10_trade_171 (fun e82 => ?_)
        have e83 : h80.1 = h0.1 := (e82).trans e79
        refine wp_iload_n (v := x70) ok dX10_trade_174 rfl ?_
        exact wp_iret ok hF rfl e83 (re2I hq) dX10_trade_175
      · have hq := ite_f c75 hq
        refine wp_iload_n (v := x1) ok dX10_trade_159 rfl ?_
        exact wp_iret ok hF rfl e74 (re2I hq) dX10_trade_160
  · have hq := ite_t c7 hq
    refine wp_iconst (v := -1) ok dX10_trade_12 (by decide) ?_
    exact wp_iret ok hF rfl e3 (re2I hq) dX10_trade_13
set_option maxHeartbeats 4000000 in
set_option maxRecDepth 100000 in
theorem m_X10_buysBy {l : Launch} {h : HP} {x0 : Int32} {x1 : Int32} {rr : Int32} {fr : Nat} (hq : f_X10_buysBy x0 x1 = some rr) (hfr : 0 ≤ fr) : Mt l yX10_buysBy cX10_buysBy 2 (some (.int)) fr [.int x0, .int x1] h (QI rr h) := by
  refine Mt.of (by decide +kernel) (Nat.le_of_ble_eq_true rfl) (fun x hl ok hF => ?_)
  subst hl
  show wp x 0 [(0, .int x0), (1, .int x1)] [] h
  unfold f_X10_buysBy at hq
  refine wp_iload_n (v := x1) ok dX10_buysBy_0 rfl ?_
  refine wp_if_ne (tgt := 10) ok dX10_buysBy_1 (by decide) (fun c1 => ?_) (fun c1 => ?_)
  · have hq := ite_f c1 hq
    refine wp_iload_n (v := x0) ok dX10_buysBy_10 rfl ?_
    refine wp_iload_n (v := x1) ok dX10_buysBy_11 rfl ?_
    obtain ⟨g2, hq⟩ := gP_some hq
    refine wp_idiv ok dX10_buysBy_12 g2 ?_
    exact wp_iret ok hF rfl rfl (re1I hq) dX10_buysBy_13
  · have hq := ite_t c1 hq
    refine wp_sipush (v := 9999) ok dX10_buysBy_4 (by decide) ?_
    refine wp_goto (tgt := 13) ok dX10_buysBy_7 (by decide) ?_
    exact wp_iret ok hF rfl rfl (re1I hq) dX10_buysBy_13
set_option maxHeartbeats 4000000 in
set_option maxRecDepth 100000 in
theorem m_X10_boughtBy {l : Launch} {h : HP} {N : Nat} {x0 : Nat} {x1 : Int32} {x2 : Int32} {x3 : Int32} {x4 : Int32} {rr : Int32} {rh : HP} {fr : Nat} (hq : f_X10_boughtBy N h x0 x1 x2 x3 x4 = some (rr, rh)) (hfr : 5 ≤ fr) : Mt l yX10_boughtBy cX10_boughtBy 5 (some (.int)) fr [.ref x0, .int x1, .int x2, .int x3, .int x4] h (QI rr rh) := by
  obtain ⟨rp, ep⟩ : ∃ rp : (Int32 × HP), rp = (rr, rh) := ⟨_, rfl⟩
  have e1p : rr = rp.1 := (congrArg Prod.fst ep).symm
  have e2p : rh = rp.2 := (congrArg Prod.snd ep).symm
  rw [← ep] at hq
  rw [e1p, e2p]
  clear e1p e2p ep
  refine Mt.of (by decide +kernel) (Nat.le_of_ble_eq_true rfl) (fun x hl ok hF => ?_)
  subst hl
  show wp x 0 [(0, .ref x0), (1, .int x1), (2, .int x2), (3, .int x3), (4, .int x4)] [] h
  unfold f_X10_boughtBy at hq
  obtain ⟨h0, eh0⟩ : ∃ h0 : HP, h = h0 := ⟨h, rfl⟩
  have e : h.1 = h0.1 := by rw [eh0]
  rw [eh0] at hF
  obtain ⟨g_x0, hq⟩ := gP_some hq
  obtain ⟨n_x0, f_x0⟩ := kO_some g_x0
  replace f_x0 := sh_of e.symm f_x0
  refine wp_iload_n (v := x1) ok dX10_boughtBy_0 rfl ?_
  by_cases c1 : x1 = 0
  · have hq := ite_t c1 hq
    refine wp_tabIn (v := 0) (tgt := 32) ok dX10_boughtBy_1 c1 (by decide) (by decide) rfl (by decide) ?_
    refine wp_iload_n (v := x3) ok dX10_boughtBy_32 rfl ?_
    refine wp_aload_n (v := x0) ok dX10_boughtBy_33 rfl ?_
    refine wp_aload_n (v := x0) ok dX10_boughtBy_34 rfl ?_
    obtain ⟨t2, e3, hq⟩ := bnd_some hq
    obtain ⟨e4, n5, f6⟩ := rK_some e3
    replace f6 := sh_of (e).symm f6
    refine wp_getR ok fl_RX10_41 (sh_of e f_x0) e4 dX10_boughtBy_35 ?_
    refine wp_iload_n (v := x2) ok dX10_boughtBy_38 rfl ?_
    obtain ⟨v7, h9, e8, hq⟩ := bnd2_some hq
    refine wp_callVI (As := [.ref t2, .int x2]) (rest := [.int x3]) (h1 := h9) ok (m_X10_priceOf e8 (Nat.le_refl _)) my_X10_priceOf (w_1297) pd_X10_priceOf (Nat.le_trans (by decide) hfr) rfl (ci := 10) rfl (by decide) (sh_of e f_x0) rfl rfl rfl dX10_boughtBy_39 (fun e10 => ?_)
    have e11 : h9.1 = h0.1 := (e10).trans e
    obtain ⟨v12, e13, hq⟩ := bnd_some hq
    refine wp_callSI (As := [.int x3, .int v7]) (rest := []) (h1 := h9) ok (m_X10_buysBy e13 (Nat.le_refl _)) my_X10_buysBy (w_1466) pd_X10_buysBy (Nat.le_trans (by decide) hfr) rfl rfl rfl rfl dX10_boughtBy_42 (fun e14 => ?_)
    exact wp_iret ok hF rfl e11 (re2I hq) dX10_boughtBy_45
  · have hq := ite_f c1 hq
    by_cases c15 : x1 = 1
    · have hq := ite_t c15 hq
      refine wp_tabIn (v := 1) (tgt := 46) ok dX10_boughtBy_1 c15 (by decide) (by decide) rfl (by decide) ?_
      refine wp_iload_n (v := x3) ok dX10_boughtBy_46 rfl ?_
      refine wp_aload_n (v := x0) ok dX10_boughtBy_47 rfl ?_
      refine wp_iload_n (v := x2) ok dX10_boughtBy_48 rfl ?_
      refine wp_iconst (v := 0) ok dX10_boughtBy_49 (by decide) ?_
      refine wp_iconst (v := 0) ok dX10_boughtBy_50 (by decide) ?_
      refine wp_iconst (v := 0) ok dX10_boughtBy_51 (by decide) ?_
      refine wp_iconst (v := 0) ok dX10_boughtBy_52 (by decide) ?_
      obtain ⟨v16, h18, e17, hq⟩ := bnd2_some hq
      refine wp_callVI (As := [.int x2, .int 0, .int 0, .int 0, .int 0]) (rest := [.int x3]) (h1 := h18) ok (m_X10_priceBy e17 (Nat.le_refl _)) my_X10_priceBy (w_1304) pd_X10_priceBy (Nat.le_trans (by decide) hfr) rfl (ci := 10) rfl (by decide) (sh_of e f_x0) rfl rfl rfl dX10_boughtBy_53 (fun e19 => ?_)
      have e20 : h18.1 = h0.1 := (e19).trans e
      obtain ⟨v21, e22, hq⟩ := bnd_some hq
      refine wp_callSI (As := [.int x3, .int v16]) (rest := []) (h1 := h18) ok (m_X10_buysBy e22 (Nat.le_refl _)) my_X10_buysBy (w_1466) pd_X10_buysBy (Nat.le_trans (by decide) hfr) rfl rfl rfl rfl dX10_boughtBy_56 (fun e23 => ?_)
      exact wp_iret ok hF rfl e20 (re2I hq) dX10_boughtBy_59
    · have hq := ite_f c15 hq
      by_cases c24 : x1 = 2
      · have hq := ite_t c24 hq
        refine wp_tabIn (v := 2) (tgt := 60) ok dX10_boughtBy_1 c24 (by decide) (by decide) rfl (by decide) ?_
        refine wp_iload_n (v := x3) ok dX10_boughtBy_60 rfl ?_
        refine wp_aload_n (v := x0) ok dX10_boughtBy_61 rfl ?_
        refine wp_aload_n (v := x0) ok dX10_boughtBy_62 rfl ?_
        obtain ⟨t25, e26, hq⟩ := bnd_some hq
        obtain ⟨e27, n28, f29⟩ := rK_some e26
        replace f29 := sh_of (e).symm f29
        refine wp_getR ok fl_RX10_41 (sh_of e f_x0) e27 dX10_boughtBy_63 ?_
        refine wp_iload_n (v := x2) ok dX10_boughtBy_66 rfl ?_
        obtain ⟨v30, h32, e31, hq⟩ := bnd2_some hq
        refine wp_callVI (As := [.ref t25, .int x2]) (rest := [.int x3]) (h1 := h32) ok (m_X10_priceOf e31 (Nat.le_refl _)) my_X10_priceOf (w_1297) pd_X10_priceOf (Nat.le_trans (by decide) hfr) rfl (ci := 10) rfl (by decide) (sh_of e f_x0) rfl rfl rfl dX10_boughtBy_67 (fun e33 => ?_)
        have e34 : h32.1 = h0.1 := (e33).trans e
        refine wp_iconst (v := 2) ok dX10_boughtBy_70 (by decide) ?_
        refine wp_idiv ok dX10_boughtBy_71 (by decide) ?_
        obtain ⟨v35, e36, hq⟩ := bnd_some hq
        refine wp_callSI (As := [.int x3, .int (v30 / 2)]) (rest := []) (h1 := h32) ok (m_X10_buysBy e36 (Nat.le_refl _)) my_X10_buysBy (w_1466) pd_X10_buysBy (Nat.le_trans (by decide) hfr) rfl rfl rfl rfl dX10_boughtBy_72 (fun e37 => ?_)
        exact wp_iret ok hF rfl e34 (re2I hq) dX10_boughtBy_75
      · have hq := ite_f c24 hq
        by_cases c38 : x1 = 3
        · have hq := ite_t c38 hq
          refine wp_tabIn (v := 3) (tgt := 76) ok dX10_boughtBy_1 c38 (by decide) (by decide) rfl (by decide) ?_
          refine wp_aload_n (v := x0) ok dX10_boughtBy_76 rfl ?_
          obtain ⟨h39, e40, hq⟩ := bnd_some hq
          refine wp_callVV (As := []) (rest := []) (h1 := h39) ok (m_X10_copies e40 (Nat.le_refl _)) my_X10_copies (w_1438) pd_X10_copies (Nat.le_trans (by decide) hfr) rfl (ci := 10) rfl (by decide) (sh_of e f_x0) rfl rfl rfl dX10_boughtBy_77 (fun e41 => ?_)
          have e42 : h39.1 = h0.1 := (e41).trans e
          refine wp_aload_n (v := x0) ok dX10_boughtBy_80 rfl ?_
          refine wp_aload_n (v := x0) ok dX10_boughtBy_81 rfl ?_
          obtain ⟨t43, e44, hq⟩ := bnd_some hq
          obtain ⟨e45, n46, f47⟩ := rK_some e44
          replace f47 := sh_of (e42).symm f47
          refine wp_getR ok fl_RX10_44 (sh_of e42 f_x0) e45 dX10_boughtBy_82 ?_
          refine wp_iload (v := x4) ok dX10_boughtBy_85 rfl ?_
          obtain ⟨h48, e49, hq⟩ := bnd_some hq
          refine wp_callVV (As := [.ref t43, .int x4]) (rest := []) (h1 := h48) ok (m_X10_goesOn e49 (Nat.le_refl _)) my_X10_goesOn (w_1339) pd_X10_goesOn (Nat.le_trans (by decide) hfr) rfl (ci := 10) rfl (by decide) (sh_of e42 f_x0) rfl rfl rfl dX10_boughtBy_87 (fun e50 => ?_)
          have e51 : h48.1 = h0.1 := (e50).trans e42
          refine wp_iload_n (v := x3) ok dX10_boughtBy_90 rfl ?_
          refine wp_aload_n (v := x0) ok dX10_boughtBy_91 rfl ?_
          refine wp_aload_n (v := x0) ok dX10_boughtBy_92 rfl ?_
          obtain ⟨t52, e53, hq⟩ := bnd_some hq
          obtain ⟨e54, n55, f56⟩ := rK_some e53
          replace f56 := sh_of (e51).symm f56
          refine wp_getR ok fl_RX10_44 (sh_of e51 f_x0) e54 dX10_boughtBy_93 ?_
          refine wp_iload_n (v := x2) ok dX10_boughtBy_96 rfl ?_
          obtain ⟨v57, h59, e58, hq⟩ := bnd2_some hq
          refine wp_callVI (As := [.ref t52, .int x2]) (rest := [.int x3]) (h1 := h59) ok (m_X10_priceOf e58 (Nat.le_refl _)) my_X10_priceOf (w_1297) pd_X10_priceOf (Nat.le_trans (by decide) hfr) rfl (ci := 10) rfl (by decide) (sh_of e51 f_x0) rfl rfl rfl dX10_boughtBy_97 (fun e60 => ?_)
          have e61 : h59.1 = h0.1 := (e60).trans e51
          obtain ⟨v62, e63, hq⟩ := bnd_some hq
          refine wp_callSI (As := [.int x3, .int v57]) (rest := []) (h1 := h59) ok (m_X10_buysBy e63 (Nat.le_refl _)) my_X10_buysBy (w_1466) pd_X10_buysBy (Nat.le_trans (by decide) hfr) rfl rfl rfl rfl dX10_boughtBy_100 (fun e64 => ?_)
          exact wp_iret ok hF rfl e61 (re2I hq) dX10_boughtBy_103
        · have hq := ite_f c38 hq
          refine wp_tabOut (tgt := 104) ok dX10_boughtBy_1 (tab_out [0, 1, 2, 3] (by decide) (fun w hw => by simp only [List.mem_cons, List.not_mem_nil, or_false] at hw; rcases hw with rfl | rfl | rfl | rfl <;> assumption)) (by decide) ?_
          refine wp_iload_n (v := x3) ok dX10_boughtBy_104 rfl ?_
          refine wp_iconst (v := 2) ok dX10_boughtBy_105 (by decide) ?_
          refine wp_idiv ok dX10_boughtBy_106 (by decide) ?_
          refine wp_aload_n (v := x0) ok dX10_boughtBy_107 rfl ?_
          refine wp_aload_n (v := x0) ok dX10_boughtBy_108 rfl ?_
          obtain ⟨t65, e66, hq⟩ := bnd_some hq
          obtain ⟨e67, n68, f69⟩ := rK_some e66
          replace f69 := sh_of (e).symm f69
          refine wp_getR ok fl_RX10_41 (sh_of e f_x0) e67 dX10_boughtBy_109 ?_
          refine wp_iload_n (v := x2) ok dX10_boughtBy_112 rfl ?_
          obtain ⟨v70, h72, e71, hq⟩ := bnd2_some hq
          refine wp_callVI (As := [.ref t65, .int x2]) (rest := [.int (x3 / 2)]) (h1 := h72) ok (m_X10_priceOf e71 (Nat.le_refl _)) my_X10_priceOf (w_1297) pd_X10_priceOf (Nat.le_trans (by decide) hfr) rfl (ci := 10) rfl (by decide) (sh_of e f_x0) rfl rfl rfl dX10_boughtBy_113 (fun e73 => ?_)
          have e74 : h72.1 = h0.1 := (e73).trans e
          obtain ⟨v75, e76, hq⟩ := bnd_some hq
          refine wp_callSI (As := [.int (x3 / 2), .int v70]) (rest := []) (h1 := h72) ok (m_X10_buysBy e76 (Nat.le_refl _)) my_X10_buysBy (w_1466) pd_X10_buysBy (Nat.le_trans (by decide) hfr) rfl rfl rfl rfl dX10_boughtBy_116 (fun e77 => ?_)
          exact wp_iret ok hF rfl e74 (re2I hq) dX10_boughtBy_119
set_option maxHeartbeats 4000000 in
set_option maxRecDepth 100000 in
theorem m_X10_canBuy {l : Launch} {h : HP} {x0 : Nat} {x1 : Int32} {x2 : Int32} {x3 : Int32} {rr : Int32} {fr : Nat} (hq : f_X10_canBuy h x0 x1 x2 x3 = some rr) (hfr : 2 ≤ fr) : Mt l yX10_canBuy cX10_canBuy 4 (some (.boolean)) fr [.ref x0, .int x1, .int x2, .int x3] h (QI rr h) := by
  refine Mt.of (by decide +kernel) (Nat.le_of_ble_eq_true rfl) (fun x hl ok hF => ?_)
  subst hl
  show wp x 0 [(0, .ref x0), (1, .int x1), (2, .int x2), (3, .int x3)] [] h
  unfold f_X10_canBuy at hq
  obtain ⟨g_x0, hq⟩ := gP_some hq
  obtain ⟨n_x0, f_x0⟩ := kO_some g_x0
  refine wp_aload_n (v := x0) ok dX10_canBuy_0 rfl ?_
  refine wp_iload_n (v := x1) ok dX10_canBuy_1 rfl ?_
  obtain ⟨v1, e2, hq⟩ := bnd_some hq
  refine wp_callVI (As := [.int x1]) (rest := []) (h1 := h) ok (m_X10_isMarket e2 (Nat.le_refl _)) my_X10_isMarket (w_1288) pd_X10_isMarket (Nat.le_trans (by decide) hfr) rfl (ci := 10) rfl (by decide) (sh_of rfl f_x0) rfl rfl rfl dX10_canBuy_2 (fun e3 => ?_)
  refine wp_if_eq (tgt := 36) ok dX10_canBuy_5 (by decide) (fun c4 => ?_) (fun c4 => ?_)
  · have hq := ite_t c4 hq
    refine wp_iconst (v := 0) ok dX10_canBuy_36 (by decide) ?_
    exact wp_iret ok hF (nb_z (Or.inl rfl)) rfl (re1I hq) dX10_canBuy_37
  · have hq := ite_f c4 hq
    refine wp_iload_n (v := x2) ok dX10_canBuy_8 rfl ?_
    refine wp_i2l ok dX10_canBuy_9 ?_
    refine wp_lconst (v := 0) ok dX10_canBuy_10 (by decide) ?_
    refine wp_ldc2 (v := 9999) ok (w_1365) dX10_canBuy_11 ?_
    obtain ⟨v5, e6, hq⟩ := bnd_some hq
    refine wp_callSI (As := [.long (x2.toInt64), .long 0, .long 9999]) (rest := []) (h1 := h) ok (m_X10_in e6 (Nat.le_refl _)) my_X10_in (w_1200) pd_X10_in (Nat.le_trans (by decide) hfr) rfl rfl rfl rfl dX10_canBuy_14 (fun e7 => ?_)
    refine wp_if_eq (tgt := 36) ok dX10_canBuy_17 (by decide) (fun c8 => ?_) (fun c8 => ?_)
    · have hq := ite_t c8 hq
      refine wp_iconst (v := 0) ok dX10_canBuy_36 (by decide) ?_
      exact wp_iret ok hF (nb_z (Or.inl rfl)) rfl (re1I hq) dX10_canBuy_37
    · have hq := ite_f c8 hq
      refine wp_iload_n (v := x3) ok dX10_canBuy_20 rfl ?_
      refine wp_i2l ok dX10_canBuy_21 ?_
      refine wp_lconst (v := 0) ok dX10_canBuy_22 (by decide) ?_
      refine wp_ldc2 (v := 60) ok (w_1334) dX10_canBuy_23 ?_
      obtain ⟨v9, e10, hq⟩ := bnd_some hq
      refine wp_callSI (As := [.long (x3.toInt64), .long 0, .long 60]) (rest := []) (h1 := h) ok (m_X10_in e10 (Nat.le_refl _)) my_X10_in (w_1200) pd_X10_in (Nat.le_trans (by decide) hfr) rfl rfl rfl rfl dX10_canBuy_26 (fun e11 => ?_)
      refine wp_if_eq (tgt := 36) ok dX10_canBuy_29 (by decide) (fun c12 => ?_) (fun c12 => ?_)
      · have hq := ite_t c12 hq
        refine wp_iconst (v := 0) ok dX10_canBuy_36 (by decide) ?_
        exact wp_iret ok hF (nb_z (Or.inl rfl)) rfl (re1I hq) dX10_canBuy_37
      · have hq := ite_f c12 hq
        refine wp_iconst (v := 1) ok dX10_canBuy_32 (by decide) ?_
        refine wp_goto (tgt := 37) ok dX10_canBuy_33 (by decide) ?_
        exact wp_iret ok hF (nb_z (Or.inr rfl)) rfl (re1I hq) dX10_canBuy_37
set_option maxHeartbeats 4000000 in
set_option maxRecDepth 100000 in
theorem m_X10_buys {l : Launch} {h : HP} {N : Nat} {x0 : Nat} {x1 : Int32} {x2 : Int32} {x3 : Int32} {x4 : Int32} {rr : Int32} {rh : HP} {fr : Nat} (hq : f_X10_buys N h x0 x1 x2 x3 x4 = some (rr, rh)) (hfr : 6 ≤ fr) : Mt l yX10_buys cX10_buys 5 (some (.int)) fr [.ref x0, .int x1, .int x2, .int x3, .int x4] h (QI rr rh) := by
  obtain ⟨rp, ep⟩ : ∃ rp : (Int32 × HP), rp = (rr, rh) := ⟨_, rfl⟩
  have e1p : rr = rp.1 := (congrArg Prod.fst ep).symm
  have e2p : rh = rp.2 := (congrArg Prod.snd ep).symm
  rw [← ep] at hq
  rw [e1p, e2p]
  clear e1p e2p ep
  refine Mt.of (by decide +kernel) (Nat.le_of_ble_eq_true rfl) (fun x hl ok hF => ?_)
  subst hl
  show wp x 0 [(0, .ref x0), (1, .int x1), (2, .int x2), (3, .int x3), (4, .int x4)] [] h
  unfold f_X10_buys at hq
  obtain ⟨h0, eh0⟩ : ∃ h0 : HP, h = h0 := ⟨h, rfl⟩
  have e : h.1 = h0.1 := by rw [eh0]
  rw [eh0] at hF
  obtain ⟨g_x0, hq⟩ := gP_some hq
  obtain ⟨n_x0, f_x0⟩ := kO_some g_x0
  replace f_x0 := sh_of e.symm f_x0
  refine wp_aload_n (v := x0) ok dX10_buys_0 rfl ?_
  refine wp_iconst (v := 0) ok dX10_buys_1 (by decide) ?_
  refine wp_putI ok flw_RX10_3 (nr_10_0 _) (sh_of e f_x0) dX10_buys_2 ?_
  obtain ⟨h1, e2, hq⟩ := lt_some hq
  refine wp_nmH e2 ?_
  have e3 : h1.1 = h0.1 := (congrArg Prod.fst e2).trans e
  refine wp_iload_n (v := x1) ok dX10_buys_5 rfl ?_
  refine wp_i2l ok dX10_buys_6 ?_
  refine wp_lconst (v := 0) ok dX10_buys_7 (by decide) ?_
  refine wp_ldc2 (v := 4) ok (w_1457) dX10_buys_8 ?_
  obtain ⟨v4, e5, hq⟩ := bnd_some hq
  refine wp_callSI (As := [.long (x1.toInt64), .long 0, .long 4]) (rest := []) (h1 := h1) ok (m_X10_in e5 (Nat.le_refl _)) my_X10_in (w_1200) pd_X10_in (Nat.le_trans (by decide) hfr) rfl rfl rfl rfl dX10_buys_11 (fun e6 => ?_)
  refine wp_if_eq (tgt := 40) ok dX10_buys_14 (by decide) (fun c7 => ?_) (fun c7 => ?_)
  · have hq := ite_t c7 hq
    refine wp_iconst (v := -1) ok dX10_buys_40 (by decide) ?_
    exact wp_iret ok hF rfl e3 (re2I hq) dX10_buys_41
  · have hq := ite_f c7 hq
    refine wp_aload_n (v := x0) ok dX10_buys_17 rfl ?_
    refine wp_iload_n (v := x2) ok dX10_buys_18 rfl ?_
    refine wp_iload_n (v := x3) ok dX10_buys_19 rfl ?_
    refine wp_iload (v := x4) ok dX10_buys_20 rfl ?_
    obtain ⟨v8, e9, hq⟩ := bnd_some hq
    refine wp_callVI (As := [.int x2, .int x3, .int x4]) (rest := []) (h1 := h1) ok (m_X10_canBuy e9 (Nat.le_refl _)) my_X10_canBuy (w_1458) pd_X10_canBuy (Nat.le_trans (by decide) hfr) rfl (ci := 10) rfl (by decide) (sh_of e3 f_x0) rfl rfl rfl dX10_buys_22 (fun e10 => ?_)
    refine wp_if_eq (tgt := 40) ok dX10_buys_25 (by decide) (fun c11 => ?_) (fun c11 => ?_)
    · have hq := ite_t c11 hq
      refine wp_iconst (v := -1) ok dX10_buys_40 (by decide) ?_
      exact wp_iret ok hF rfl e3 (re2I hq) dX10_buys_41
    · have hq := ite_f c11 hq
      refine wp_aload_n (v := x0) ok dX10_buys_28 rfl ?_
      refine wp_iload_n (v := x1) ok dX10_buys_29 rfl ?_
      refine wp_iload_n (v := x2) ok dX10_buys_30 rfl ?_
      refine wp_iload_n (v := x3) ok dX10_buys_31 rfl ?_
      refine wp_iload (v := x4) ok dX10_buys_32 rfl ?_
      obtain ⟨v12, h14, e13, hq⟩ := bnd2_some hq
      refine wp_callVI (As := [.int x1, .int x2, .int x3, .int x4]) (rest := []) (h1 := h14) ok (m_X10_boughtBy e13 (Nat.le_refl _)) my_X10_boughtBy (w_1462) pd_X10_boughtBy (Nat.le_trans (by decide) hfr) rfl (ci := 10) rfl (by decide) (sh_of e3 f_x0) rfl rfl rfl dX10_buys_34 (fun e15 => ?_)
      have e16 : h14.1 = h0.1 := (e15).trans e3
      refine wp_goto (tgt := 41) ok dX10_buys_37 (by decide) ?_
      exact wp_iret ok hF rfl e16 (re2I hq) dX10_buys_41
set_option maxHeartbeats 4000000 in
set_option maxRecDepth 100000 in
theorem s_X10_best_B26 {x : Cx} {h0 : HP} {N fr : Nat} {rr : (Int32 × HP)} (ok : Okx x cX10_best yX10_best.cls 8 fr) (hfr : 6 ≤ fr)  {x0 : Nat} {x1 : Int32} {x2 : Int32} {x3 : Int32} {n_x0 : Nat} (f_x0 : h0.1[x0]? = some (10, n_x0)) (hF : Fend x h0 (some (.int)) (QI rr.1 rr.2)) {k74 : Int32 → Int32 → HP → Option (Int32 × HP)} (hk74 : ∀ (x4 : Int32) (x5 : Int32) (h : HP), k74 x4 x5 h = some rr → h.1 = h0.1 → wp x 74 [(4, .int x4), (5, .int x5), (0, .ref x0)] [] h) {rc : Int32 → Int32 → Int32 → HP → Option (Int32 × HP)} (ih : ∀ (x4 : Int32) (x5 : Int32) (x6 : Int32) (h : HP), rc x4 x5 x6 h = some rr → h.1 = h0.1 → wp x 26 [(4, .int x4), (5, .int x5), (6, .int x6), (0, .ref x0), (1, .int x1), (2, .int x2), (3, .int x3)] [] h) : ∀ (x4 : Int32) (x5 : Int32) (x6 : Int32) (h : HP), f_X10_best_B26 N x0 x1 x2 x3 k74 rc x4 x5 x6 h = some rr → h.1 = h0.1 → wp x 26 [(4, .int x4), (5, .int x5), (6, .int x6), (0, .ref x0), (1, .int x1), (2, .int x2), (3, .int x3)] [] h := by
  intro x4 x5 x6 h hq e
  unfold f_X10_best_B26 at hq
  refine wp_iload (v := x6) ok dX10_best_26 rfl ?_
  refine wp_iconst (v := 4) ok dX10_best_28 (by decide) ?_
  refine wp_icmp_gt (tgt := 74) ok dX10_best_29 (by decide) (fun c8 => ?_) (fun c8 => ?_)
  · have hq := ite_t c8 hq
    refine wp_sub (L' := [(4, .int x4), (5, .int x5), (0, .ref x0)]) [0, 1, 3] rfl ?_
    exact hk74 x4 x5 h hq e
  · have hq := ite_f c8 hq
    refine wp_aload_n (v := x0) ok dX10_best_32 rfl ?_
    refine wp_iload (v := x6) ok dX10_best_33 rfl ?_
    refine wp_iload_n (v := x1) ok dX10_best_35 rfl ?_
    refine wp_iload_n (v := x2) ok dX10_best_36 rfl ?_
    refine wp_iload_n (v := x3) ok dX10_best_37 rfl ?_
    obtain ⟨v9, h11, e10, hq⟩ := bnd2_some hq
    refine wp_callVI (As := [.int x6, .int x1, .int x2, .int x3]) (rest := []) (h1 := h11) ok (m_X10_boughtBy e10 (Nat.le_refl _)) my_X10_boughtBy (w_1462) pd_X10_boughtBy (Nat.le_trans (by decide) hfr) rfl (ci := 10) rfl (by decide) (sh_of e f_x0) rfl rfl rfl dX10_best_38 (fun e12 => ?_)
    have e13 : h11.1 = h0.1 := (e12).trans e
    refine wp_istore (L' := [(7, .int v9), (4, .int x4), (5, .int x5), (6, .int x6), (0, .ref x0), (1, .int x1), (2, .int x2), (3, .int x3)]) ok dX10_best_41 rfl rfl ?_
    refine wp_iload (v := v9) ok dX10_best_43 rfl ?_
    refine wp_iload (v := x5) ok dX10_best_45 rfl ?_
    obtain ⟨k14, ek14, hq⟩ := jn1_some hq
    have kk14 : ∀ (y15 : Int32), k14 y15 = some rr → wp x 57 [(7, .int v9), (5, .int x5), (6, .int x6), (0, .ref x0), (1, .int x1), (2, .int x2), (3, .int x3)] [.int y15] h11 := by
      intro y15 hq
      have hq := (ek14 y15).symm.trans hq
      refine wp_istore (L' := [(4, .int y15), (7, .int v9), (5, .int x5), (6, .int x6), (0, .ref x0), (1, .int x1), (2, .int x2), (3, .int x3)]) ok dX10_best_57 rfl rfl ?_
      refine wp_iload (v := x5) ok dX10_best_59 rfl ?_
      refine wp_iload (v := v9) ok dX10_best_61 rfl ?_
      obtain ⟨v16, e17, hq⟩ := bnd_some hq
      refine wp_callSI (As := [.int x5, .int v9]) (rest := []) (h1 := h11) ok (m_J9_max_7cf53 e17 (Nat.le_refl _)) my_J9_max_7cf53 (w_1316) pd_J9_max_7cf53 (Nat.le_trans (by decide) hfr) rfl rfl rfl rfl dX10_best_63 (fun e18 => ?_)
      refine wp_istore (L' := [(5, .int v16), (4, .int y15), (7, .int v9), (6, .int x6), (0, .ref x0), (1, .int x1), (2, .int x2), (3, .int x3)]) ok dX10_best_66 rfl rfl ?_
      obtain ⟨v19, e20, hq⟩ := lt_some hq
      refine wp_iinc (v := x6) (w := 1) (L' := [(6, .int v19), (5, .int v16), (4, .int y15), (7, .int v9), (0, .ref x0), (1, .int x1), (2, .int x2), (3, .int x3)]) ok dX10_best_68 rfl (by decide) rfl (by rw [← e20]; rfl) ?_
      refine wp_goto (tgt := 26) ok dX10_best_71 (by decide) ?_
      refine wp_sub (L' := [(4, .int y15), (5, .int v16), (6, .int v19), (0, .ref x0), (1, .int x1), (2, .int x2), (3, .int x3)]) [2, 1, 0, 4, 5, 6, 7] rfl ?_
      exact ih y15 v16 v19 h11 hq e13
    refine wp_icmp_le (tgt := 55) ok dX10_best_47 (by decide) (fun c21 => ?_) (fun c21 => ?_)
    · have hq := ite_t c21 hq
      refine wp_iload (v := x4) ok dX10_best_55 rfl ?_
      refine wp_sub (L' := [(7, .int v9), (5, .int x5), (6, .int x6), (0, .ref x0), (1, .int x1), (2, .int x2), (3, .int x3)]) [0, 2, 3, 4, 5, 6, 7] rfl ?_
      exact kk14 x4 hq
    · have hq := ite_f c21 hq
      refine wp_iload (v := x6) ok dX10_best_50 rfl ?_
      refine wp_goto (tgt := 57) ok dX10_best_52 (by decide) ?_
      refine wp_sub (L' := [(7, .int v9), (5, .int x5), (6, .int x6), (0, .ref x0), (1, .int x1), (2, .int x2), (3, .int x3)]) [0, 2, 3, 4, 5, 6, 7] rfl ?_
      exact kk14 x6 hq
set_option maxHeartbeats 4000000 in
set_option maxRecDepth 100000 in
theorem l_X10_best_B26 {x : Cx} {h0 : HP} {N fr : Nat} {rr : (Int32 × HP)} (ok : Okx x cX10_best yX10_best.cls 8 fr) (hfr : 6 ≤ fr)  {x0 : Nat} {x1 : Int32} {x2 : Int32} {x3 : Int32} {n_x0 : Nat} (f_x0 : h0.1[x0]? = some (10, n_x0)) (hF : Fend x h0 (some (.int)) (QI rr.1 rr.2)) {k74 : Int32 → Int32 → HP → Option (Int32 × HP)} (hk74 : ∀ (x4 : Int32) (x5 : Int32) (h : HP), k74 x4 x5 h = some rr → h.1 = h0.1 → wp x 74 [(4, .int x4), (5, .int x5), (0, .ref x0)] [] h) : ∀ (n : Nat) (x4 : Int32) (x5 : Int32) (x6 : Int32) (h : HP), lp (fun _ _ _ _ => none) (f_X10_best_B26 N x0 x1 x2 x3 k74) n x4 x5 x6 h = some rr → h.1 = h0.1 → wp x 26 [(4, .int x4), (5, .int x5), (6, .int x6), (0, .ref x0), (1, .int x1), (2, .int x2), (3, .int x3)] [] h := by
  intro n
  induction n with
  | zero => intro x4 x5 x6 h hq e; exact (Option.some_ne_none _ hq.symm).elim
  | succ n ih => exact s_X10_best_B26 ok hfr f_x0 hF hk74 ih
set_option maxHeartbeats 4000000 in
set_option maxRecDepth 100000 in
theorem m_X10_best {l : Launch} {h : HP} {N : Nat} {x0 : Nat} {x1 : Int32} {x2 : Int32} {x3 : Int32} {rr : Int32} {rh : HP} {fr : Nat} (hq : f_X10_best N h x0 x1 x2 x3 = some (rr, rh)) (hfr : 6 ≤ fr) : Mt l yX10_best cX10_best 8 (some (.int)) fr [.ref x0, .int x1, .int x2, .int x3] h (QI rr rh) := by
  obtain ⟨rp, ep⟩ : ∃ rp : (Int32 × HP), rp = (rr, rh) := ⟨_, rfl⟩
  have e1p : rr = rp.1 := (congrArg Prod.fst ep).symm
  have e2p : rh = rp.2 := (congrArg Prod.snd ep).symm
  rw [← ep] at hq
  rw [e1p, e2p]
  clear e1p e2p ep
  refine Mt.of (by decide +kernel) (Nat.le_of_ble_eq_true rfl) (fun x hl ok hF => ?_)
  subst hl
  show wp x 0 [(0, .ref x0), (1, .int x1), (2, .int x2), (3, .int x3)] [] h
  unfold f_X10_best at hq
  obtain ⟨h0, eh0⟩ : ∃ h0 : HP, h = h0 := ⟨h, rfl⟩
  have e : h.1 = h0.1 := by rw [eh0]
  rw [eh0] at hF
  obtain ⟨g_x0, hq⟩ := gP_some hq
  obtain ⟨n_x0, f_x0⟩ := kO_some g_x0
  replace f_x0 := sh_of e.symm f_x0
  refine wp_aload_n (v := x0) ok dX10_best_0 rfl ?_
  refine wp_iconst (v := 0) ok dX10_best_1 (by decide) ?_
  refine wp_putI ok flw_RX10_3 (nr_10_0 _) (sh_of e f_x0) dX10_best_2 ?_
  obtain ⟨h1, e2, hq⟩ := lt_some hq
  refine wp_nmH e2 ?_
  have e3 : h1.1 = h0.1 := (congrArg Prod.fst e2).trans e
  refine wp_aload_n (v := x0) ok dX10_best_5 rfl ?_
  refine wp_iload_n (v := x1) ok dX10_best_6 rfl ?_
  refine wp_iload_n (v := x2) ok dX10_best_7 rfl ?_
  refine wp_iload_n (v := x3) ok dX10_best_8 rfl ?_
  obtain ⟨v4, e5, hq⟩ := bnd_some hq
  refine wp_callVI (As := [.int x1, .int x2, .int x3]) (rest := []) (h1 := h1) ok (m_X10_canBuy e5 (Nat.le_refl _)) my_X10_canBuy (w_1458) pd_X10_canBuy (Nat.le_trans (by decide) hfr) rfl (ci := 10) rfl (by decide) (sh_of e3 f_x0) rfl rfl rfl dX10_best_9 (fun e6 => ?_)
  refine wp_if_ne (tgt := 17) ok dX10_best_12 (by decide) (fun c7 => ?_) (fun c7 => ?_)
  · have hq := ite_f c7 hq
    refine wp_iconst (v := -1) ok dX10_best_17 (by decide) ?_
    refine wp_istore (L' := [(4, .int (-1)), (0, .ref x0), (1, .int x1), (2, .int x2), (3, .int x3)]) ok dX10_best_18 rfl rfl ?_
    refine wp_iconst (v := -1) ok dX10_best_20 (by decide) ?_
    refine wp_istore (L' := [(5, .int (-1)), (4, .int (-1)), (0, .ref x0), (1, .int x1), (2, .int x2), (3, .int x3)]) ok dX10_best_21 rfl rfl ?_
    refine wp_iconst (v := 0) ok dX10_best_23 (by decide) ?_
    refine wp_istore (L' := [(6, .int 0), (5, .int (-1)), (4, .int (-1)), (0, .ref x0), (1, .int x1), (2, .int x2), (3, .int x3)]) ok dX10_best_24 rfl rfl ?_
    refine wp_sub (L' := [(4, .int (-1)), (5, .int (-1)), (6, .int 0), (0, .ref x0), (1, .int x1), (2, .int x2), (3, .int x3)]) [2, 1, 0, 3, 4, 5, 6] rfl ?_
    refine l_X10_best_B26 ok hfr f_x0 hF ?_ N (-1) (-1) 0 h1 hq e3
    · intro x22 x23 h24 hq e25
      refine wp_aload_n (v := x0) ok dX10_best_74 rfl ?_
      refine wp_iconst (v := 0) ok dX10_best_75 (by decide) ?_
      refine wp_putI ok flw_RX10_15 (nr_10_1 _) (sh_of e25 f_x0) dX10_best_76 ?_
      obtain ⟨h26, e27, hq⟩ := lt_some hq
      refine wp_nmH e27 ?_
      have e28 : h26.1 = h0.1 := (congrArg Prod.fst e27).trans e25
      refine wp_aload_n (v := x0) ok dX10_best_79 rfl ?_
      refine wp_iload (v := x23) ok dX10_best_80 rfl ?_
      refine wp_i2l ok dX10_best_82 ?_
      obtain ⟨h29, e30, hq⟩ := bnd_some hq
      refine wp_callVV (As := [.long (x23.toInt64)]) (rest := []) (h1 := h29) ok (m_X10_enters e30 (Nat.le_refl _)) my_X10_enters (w_1347) pd_X10_enters (Nat.le_trans (by decide) hfr) rfl (ci := 10) rfl (by decide) (sh_of e28 f_x0) rfl rfl rfl dX10_best_83 (fun e31 => ?_)
      have e32 : h29.1 = h0.1 := (e31).trans e28
      refine wp_iload (v := x22) ok dX10_best_86 rfl ?_
      exact wp_iret ok hF rfl e32 (re2I hq) dX10_best_88
  · have hq := ite_t c7 hq
    refine wp_iconst (v := -1) ok dX10_best_15 (by decide) ?_
    exact wp_iret ok hF rfl e3 (re2I hq) dX10_best_16
set_option maxHeartbeats 4000000 in
set_option maxRecDepth 100000 in
theorem s_X10_closes_B74 {x : Cx} {h0 : HP} {N fr : Nat} {rr : (Int32 × HP)} (ok : Okx x cX10_closes yX10_closes.cls 9 fr) (hfr : 5 ≤ fr)  {x0 : Nat} {x1 : Int32} {x2 : Int32} {x3 : Int32} {x4 : Int32} {x5 : Int32} {x6 : Int32} {n_x0 : Nat} (f_x0 : h0.1[x0]? = some (10, n_x0)) (hF : Fend x h0 (some (.int)) (QI rr.1 rr.2)) {k111 : HP → Option (Int32 × HP)} (hk111 : ∀ (h : HP), k111 h = some rr → h.1 = h0.1 → wp x 111 [(0, .ref x0), (1, .int x1), (2, .int x2), (3, .int x3), (4, .int x4), (5, .int x5), (6, .int x6)] [] h) {rc : Int32 → HP → Option (Int32 × HP)} (ih : ∀ (x7 : Int32) (h : HP), rc x7 h = some rr → h.1 = h0.1 → wp x 74 [(7, .int x7), (0, .ref x0), (1, .int x1), (2, .int x2), (3, .int x3), (4, .int x4), (5, .int x5), (6, .int x6)] [] h) : ∀ (x7 : Int32) (h : HP), f_X10_closes_B74 N x0 x1 x2 x3 x4 x5 x6 k111 rc x7 h = some rr → h.1 = h0.1 → wp x 74 [(7, .int x7), (0, .ref x0), (1, .int x1), (2, .int x2), (3, .int x3), (4, .int x4), (5, .int x5), (6, .int x6)] [] h := by
  intro x7 h hq e
  unfold f_X10_closes_B74 at hq
  refine wp_iload (v := x7) ok dX10_closes_74 rfl ?_
  refine wp_iload_n (v := x2) ok dX10_closes_76 rfl ?_
  refine wp_icmp_ge (tgt := 111) ok dX10_closes_77 (by decide) (fun c27 => ?_) (fun c27 => ?_)
  · have hq := ite_t c27 hq
    refine wp_sub (L' := [(0, .ref x0), (1, .int x1), (2, .int x2), (3, .int x3), (4, .int x4), (5, .int x5), (6, .int x6)]) [1, 2, 3, 4, 5, 6, 7] rfl ?_
    exact hk111 h hq e
  · have hq := ite_f c27 hq
    refine wp_aload_n (v := x0) ok dX10_closes_80 rfl ?_
    obtain ⟨t28, e29, hq⟩ := bnd_some hq
    obtain ⟨e30, n31, f32⟩ := rK_some e29
    replace f32 := sh_of (e).symm f32
    refine wp_getR ok fl_RX10_44 (sh_of e f_x0) e30 dX10_closes_81 ?_
    refine wp_bipush (v := 27) ok dX10_closes_84 (by decide) ?_
    refine wp_iload (v := x6) ok dX10_closes_86 rfl ?_
    refine wp_iload (v := x7) ok dX10_closes_88 rfl ?_
    obtain ⟨v33, e34, hq⟩ := bnd_some hq
    refine wp_callSI (As := [.int x6, .int x7]) (rest := [.int 27, .ref t28]) (h1 := h) ok (m_X10_has e34 (Nat.le_refl _)) my_X10_has (w_1480) pd_X10_has (Nat.le_trans (by decide) hfr) rfl rfl rfl rfl dX10_closes_90 (fun e35 => ?_)
    obtain ⟨v36, e37, hq⟩ := bnd_some hq
    refine wp_callSI (As := [.int v33]) (rest := [.int 27, .ref t28]) (h1 := h) ok (m_X10_flag e37 (Nat.le_refl _)) my_X10_flag (w_1230) pd_X10_flag (Nat.le_trans (by decide) hfr) rfl rfl rfl rfl dX10_closes_93 (fun e38 => ?_)
    obtain ⟨g39, hq⟩ := gP_some hq
    refine wp_iast ok (sh_of e f32) (ix_of (sh_of e f32) g39) dX10_closes_96 ?_
    obtain ⟨h40, e41, hq⟩ := lt_some hq
    refine wp_nmH e41 ?_
    have e42 : h40.1 = h0.1 := (congrArg Prod.fst e41).trans e
    refine wp_aload_n (v := x0) ok dX10_closes_97 rfl ?_
    refine wp_aload_n (v := x0) ok dX10_closes_98 rfl ?_
    obtain ⟨t43, e44, hq⟩ := bnd_some hq
    obtain ⟨e45, n46, f47⟩ := rK_some e44
    replace f47 := sh_of (e42).symm f47
    refine wp_getR ok fl_RX10_44 (sh_of e42 f_x0) e45 dX10_closes_99 ?_
    obtain ⟨h48, e49, hq⟩ := bnd_some hq
    refine wp_callVV (As := [.ref t43]) (rest := []) (h1 := h48) ok (m_X10_monthGoes e49 (Nat.le_refl _)) my_X10_monthGoes (w_1343) pd_X10_monthGoes (Nat.le_trans (by decide) hfr) rfl (ci := 10) rfl (by decide) (sh_of e42 f_x0) rfl rfl rfl dX10_closes_102 (fun e50 => ?_)
    have e51 : h48.1 = h0.1 := (e50).trans e42
    obtain ⟨v52, e53, hq⟩ := lt_some hq
    refine wp_iinc (v := x7) (w := 1) (L' := [(7, .int v52), (0, .ref x0), (1, .int x1), (2, .int x2), (3, .int x3), (4, .int x4), (5, .int x5), (6, .int x6)]) ok dX10_closes_105 rfl (by decide) rfl (by rw [← e53]; rfl) ?_
    refine wp_goto (tgt := 74) ok dX10_closes_108 (by decide) ?_
    refine wp_sub (L' := [(7, .int v52), (0, .ref x0), (1, .int x1), (2, .int x2), (3, .int x3), (4, .int x4), (5, .int x5), (6, .int x6)]) [0, 1, 2, 3, 4, 5, 6, 7] rfl ?_
    exact ih v52 h48 hq e51
set_option maxHeartbeats 4000000 in
set_option maxRecDepth 100000 in
theorem l_X10_closes_B74 {x : Cx} {h0 : HP} {N fr : Nat} {rr : (Int32 × HP)} (ok : Okx x cX10_closes yX10_closes.cls 9 fr) (hfr : 5 ≤ fr)  {x0 : Nat} {x1 : Int32} {x2 : Int32} {x3 : Int32} {x4 : Int32} {x5 : Int32} {x6 : Int32} {n_x0 : Nat} (f_x0 : h0.1[x0]? = some (10, n_x0)) (hF : Fend x h0 (some (.int)) (QI rr.1 rr.2)) {k111 : HP → Option (Int32 × HP)} (hk111 : ∀ (h : HP), k111 h = some rr → h.1 = h0.1 → wp x 111 [(0, .ref x0), (1, .int x1), (2, .int x2), (3, .int x3), (4, .int x4), (5, .int x5), (6, .int x6)] [] h) : ∀ (n : Nat) (x7 : Int32) (h : HP), lp (fun _ _ => none) (f_X10_closes_B74 N x0 x1 x2 x3 x4 x5 x6 k111) n x7 h = some rr → h.1 = h0.1 → wp x 74 [(7, .int x7), (0, .ref x0), (1, .int x1), (2, .int x2), (3, .int x3), (4, .int x4), (5, .int x5), (6, .int x6)] [] h := by
  intro n
  induction n with
  | zero => intro x7 h hq e; exact (Option.some_ne_none _ hq.symm).elim
  | succ n ih => exact s_X10_closes_B74 ok hfr f_x0 hF hk111 ih
set_option maxHeartbeats 4000000 in
set_option maxRecDepth 100000 in
theorem s_X10_closes_B50 {x : Cx} {h0 : HP} {N fr : Nat} {rr : (Int32 × HP)} (ok : Okx x cX10_closes yX10_closes.cls 9 fr) (hfr : 5 ≤ fr)  {x0 : Nat} {x1 : Int32} {x2 : Int32} {x3 : Int32} {n_x0 : Nat} (f_x0 : h0.1[x0]? = some (10, n_x0)) (hF : Fend x h0 (some (.int)) (QI rr.1 rr.2)) {k185 : Int32 → Int32 → HP → Option (Int32 × HP)} (hk185 : ∀ (x4 : Int32) (x5 : Int32) (h : HP), k185 x4 x5 h = some rr → h.1 = h0.1 → wp x 185 [(4, .int x4), (5, .int x5), (0, .ref x0)] [] h) {rc : Int32 → Int32 → Int32 → HP → Option (Int32 × HP)} (ih : ∀ (x4 : Int32) (x5 : Int32) (x6 : Int32) (h : HP), rc x4 x5 x6 h = some rr → h.1 = h0.1 → wp x 50 [(4, .int x4), (5, .int x5), (6, .int x6), (0, .ref x0), (1, .int x1), (2, .int x2), (3, .int x3)] [] h) : ∀ (x4 : Int32) (x5 : Int32) (x6 : Int32) (h : HP), f_X10_closes_B50 N x0 x1 x2 x3 k185 rc x4 x5 x6 h = some rr → h.1 = h0.1 → wp x 50 [(4, .int x4), (5, .int x5), (6, .int x6), (0, .ref x0), (1, .int x1), (2, .int x2), (3, .int x3)] [] h := by
  intro x4 x5 x6 h hq e
  unfold f_X10_closes_B50 at hq
  refine wp_iload (v := x6) ok dX10_closes_50 rfl ?_
  refine wp_iconst (v := 1) ok dX10_closes_52 (by decide) ?_
  refine wp_iload_n (v := x2) ok dX10_closes_53 rfl ?_
  refine wp_ishl ok dX10_closes_54 ?_
  refine wp_icmp_ge (tgt := 185) ok dX10_closes_55 (by decide) (fun c16 => ?_) (fun c16 => ?_)
  · have hq := ite_t c16 hq
    refine wp_sub (L' := [(4, .int x4), (5, .int x5), (0, .ref x0)]) [0, 1, 3] rfl ?_
    exact hk185 x4 x5 h hq e
  · have hq := ite_f c16 hq
    refine wp_iload (v := x6) ok dX10_closes_58 rfl ?_
    obtain ⟨v17, e18, hq⟩ := bnd_some hq
    refine wp_callSI (As := [.int x6]) (rest := []) (h1 := h) ok (m_J6_bitCount_0f7a4 e18 (Nat.le_refl _)) my_J6_bitCount_0f7a4 (w_1479) pd_J6_bitCount_0f7a4 (Nat.le_trans (by decide) hfr) rfl rfl rfl rfl dX10_closes_60 (fun e19 => ?_)
    refine wp_iload_n (v := x3) ok dX10_closes_63 rfl ?_
    refine wp_icmp_gt (tgt := 179) ok dX10_closes_64 (by decide) (fun c20 => ?_) (fun c20 => ?_)
    · have hq := ite_t c20 hq
      obtain ⟨v21, e22, hq⟩ := lt_some hq
      refine wp_iinc (v := x6) (w := 1) (L' := [(6, .int v21), (4, .int x4), (5, .int x5), (0, .ref x0), (1, .int x1), (2, .int x2), (3, .int x3)]) ok dX10_closes_179 rfl (by decide) rfl (by rw [← e22]; rfl) ?_
      refine wp_goto (tgt := 50) ok dX10_closes_182 (by decide) ?_
      refine wp_sub (L' := [(4, .int x4), (5, .int x5), (6, .int v21), (0, .ref x0), (1, .int x1), (2, .int x2), (3, .int x3)]) [1, 2, 0, 3, 4, 5, 6] rfl ?_
      exact ih x4 x5 v21 h hq e
    · have hq := ite_f c20 hq
      refine wp_aload_n (v := x0) ok dX10_closes_67 rfl ?_
      obtain ⟨h23, e24, hq⟩ := bnd_some hq
      refine wp_callVV (As := []) (rest := []) (h1 := h23) ok (m_X10_copies e24 (Nat.le_refl _)) my_X10_copies (w_1438) pd_X10_copies (Nat.le_trans (by decide) hfr) rfl (ci := 10) rfl (by decide) (sh_of e f_x0) rfl rfl rfl dX10_closes_68 (fun e25 => ?_)
      have e26 : h23.1 = h0.1 := (e25).trans e
      refine wp_iconst (v := 0) ok dX10_closes_71 (by decide) ?_
      refine wp_istore (L' := [(7, .int 0), (4, .int x4), (5, .int x5), (6, .int x6), (0, .ref x0), (1, .int x1), (2, .int x2), (3, .int x3)]) ok dX10_closes_72 rfl rfl ?_
      refine wp_sub (L' := [(7, .int 0), (0, .ref x0), (1, .int x1), (2, .int x2), (3, .int x3), (4, .int x4), (5, .int x5), (6, .int x6)]) [0, 4, 5, 6, 7, 1, 2, 3] rfl ?_
      refine l_X10_closes_B74 ok hfr f_x0 hF ?_ N 0 h23 hq e26
      · intro h54 hq e55
        refine wp_aload_n (v := x0) ok dX10_closes_111 rfl ?_
        refine wp_aload_n (v := x0) ok dX10_closes_112 rfl ?_
        obtain ⟨t56, e57, hq⟩ := bnd_some hq
        obtain ⟨e58, n59, f60⟩ := rK_some e57
        replace f60 := sh_of (e55).symm f60
        refine wp_getR ok fl_RX10_44 (sh_of e55 f_x0) e58 dX10_closes_113 ?_
        refine wp_iload_n (v := x1) ok dX10_closes_116 rfl ?_
        obtain ⟨v61, h63, e62, hq⟩ := bnd2_some hq
        refine wp_callVI (As := [.ref t56, .int x1]) (rest := []) (h1 := h63) ok (m_X10_priceOf e62 (Nat.le_refl _)) my_X10_priceOf (w_1297) pd_X10_priceOf (Nat.le_trans (by decide) hfr) rfl (ci := 10) rfl (by decide) (sh_of e55 f_x0) rfl rfl rfl dX10_closes_117 (fun e64 => ?_)
        have e65 : h63.1 = h0.1 := (e64).trans e55
        refine wp_istore (L' := [(7, .int v61), (0, .ref x0), (1, .int x1), (2, .int x2), (3, .int x3), (4, .int x4), (5, .int x5), (6, .int x6)]) ok dX10_closes_120 rfl rfl ?_
        refine wp_iload (v := v61) ok dX10_closes_122 rfl ?_
        refine wp_iload (v := x5) ok dX10_closes_124 rfl ?_
        obtain ⟨k66, ek66, hq⟩ := jn1_some hq
        have kk66 : ∀ (y67 : Int32), k66 y67 = some rr → wp x 154 [(7, .int v61), (0, .ref x0), (1, .int x1), (2, .int x2), (3, .int x3), (4, .int x4), (5, .int x5), (6, .int x6)] [.int y67] h63 := by
          intro y67 hq
          have hq := (ek66 y67).symm.trans hq
          refine wp_istore (L' := [(8, .int y67), (7, .int v61), (0, .ref x0), (1, .int x1), (2, .int x2), (3, .int x3), (4, .int x4), (5, .int x5), (6, .int x6)]) ok dX10_closes_154 rfl rfl ?_
          refine wp_iload (v := y67) ok dX10_closes_156 rfl ?_
          obtain ⟨k68, ek68, hq⟩ := jn1_some hq
          have kk68 : ∀ (y69 : Int32), k68 y69 = some rr → wp x 168 [(7, .int v61), (0, .ref x0), (1, .int x1), (2, .int x2), (3, .int x3), (5, .int x5), (6, .int x6)] [.int y69] h63 := by
            intro y69 hq
            have hq := (ek68 y69).symm.trans hq
            refine wp_istore (L' := [(4, .int y69), (7, .int v61), (0, .ref x0), (1, .int x1), (2, .int x2), (3, .int x3), (5, .int x5), (6, .int x6)]) ok dX10_closes_168 rfl rfl ?_
            refine wp_iload (v := x5) ok dX10_closes_170 rfl ?_
            refine wp_iload (v := v61) ok dX10_closes_172 rfl ?_
            obtain ⟨v70, e71, hq⟩ := bnd_some hq
            refine wp_callSI (As := [.int x5, .int v61]) (rest := []) (h1 := h63) ok (m_J9_min_7cf53 e71 (Nat.le_refl _)) my_J9_min_7cf53 (w_1211) pd_J9_min_7cf53 (Nat.le_trans (by decide) hfr) rfl rfl rfl rfl dX10_closes_174 (fun e72 => ?_)
            refine wp_istore (L' := [(5, .int v70), (4, .int y69), (7, .int v61), (0, .ref x0), (1, .int x1), (2, .int x2), (3, .int x3), (6, .int x6)]) ok dX10_closes_177 rfl rfl ?_
            obtain ⟨v73, e74, hq⟩ := lt_some hq
            refine wp_iinc (v := x6) (w := 1) (L' := [(6, .int v73), (5, .int v70), (4, .int y69), (7, .int v61), (0, .ref x0), (1, .int x1), (2, .int x2), (3, .int x3)]) ok dX10_closes_179 rfl (by decide) rfl (by rw [← e74]; rfl) ?_
            refine wp_goto (tgt := 50) ok dX10_closes_182 (by decide) ?_
            refine wp_sub (L' := [(4, .int y69), (5, .int v70), (6, .int v73), (0, .ref x0), (1, .int x1), (2, .int x2), (3, .int x3)]) [2, 1, 0, 4, 5, 6, 7] rfl ?_
            exact ih y69 v70 v73 h63 hq e65
          refine wp_if_eq (tgt := 166) ok dX10_closes_158 (by decide) (fun c75 => ?_) (fun c75 => ?_)
          · have hq := ite_t c75 hq
            refine wp_iload (v := x4) ok dX10_closes_166 rfl ?_
            refine wp_sub (L' := [(7, .int v61), (0, .ref x0), (1, .int x1), (2, .int x2), (3, .int x3), (5, .int x5), (6, .int x6)]) [1, 2, 3, 4, 5, 7, 8] rfl ?_
            exact kk68 x4 hq
          · have hq := ite_f c75 hq
            refine wp_iload (v := x6) ok dX10_closes_161 rfl ?_
            refine wp_goto (tgt := 168) ok dX10_closes_163 (by decide) ?_
            refine wp_sub (L' := [(7, .int v61), (0, .ref x0), (1, .int x1), (2, .int x2), (3, .int x3), (5, .int x5), (6, .int x6)]) [1, 2, 3, 4, 5, 7, 8] rfl ?_
            exact kk68 x6 hq
        obtain ⟨k76, ek76, hq⟩ := jn0_some hq
        have kk76 : k76 = some rr → wp x 149 [(7, .int v61), (0, .ref x0), (1, .int x1), (2, .int x2), (3, .int x3), (4, .int x4), (5, .int x5), (6, .int x6)] [] h63 := by
          intro hq
          rw [ek76] at hq
          refine wp_iconst (v := 1) ok dX10_closes_149 (by decide) ?_
          refine wp_goto (tgt := 154) ok dX10_closes_150 (by decide) ?_
          refine wp_sub (L' := [(7, .int v61), (0, .ref x0), (1, .int x1), (2, .int x2), (3, .int x3), (4, .int x4), (5, .int x5), (6, .int x6)]) [0, 1, 2, 3, 4, 5, 6, 7] rfl ?_
          exact kk66 1 hq
        refine wp_icmp_lt (tgt := 149) ok dX10_closes_126 (by decide) (fun c77 => ?_) (fun c77 => ?_)
        · have hq := ite_t c77 hq
          refine wp_sub (L' := [(7, .int v61), (0, .ref x0), (1, .int x1), (2, .int x2), (3, .int x3), (4, .int x4), (5, .int x5), (6, .int x6)]) [0, 1, 2, 3, 4, 5, 6, 7] rfl ?_
          exact kk76 hq
        · have hq := ite_f c77 hq
          refine wp_iload (v := v61) ok dX10_closes_129 rfl ?_
          refine wp_iload (v := x5) ok dX10_closes_131 rfl ?_
          refine wp_icmp_ne (tgt := 153) ok dX10_closes_133 (by decide) (fun c78 => ?_) (fun c78 => ?_)
          · have hq := ite_f c78 hq
            refine wp_iconst (v := 0) ok dX10_closes_153 (by decide) ?_
            refine wp_sub (L' := [(7, .int v61), (0, .ref x0), (1, .int x1), (2, .int x2), (3, .int x3), (4, .int x4), (5, .int x5), (6, .int x6)]) [0, 1, 2, 3, 4, 5, 6, 7] rfl ?_
            exact kk66 0 hq
          · have hq := ite_t c78 hq
            refine wp_iload (v := x6) ok dX10_closes_136 rfl ?_
            obtain ⟨v79, e80, hq⟩ := bnd_some hq
            refine wp_callSI (As := [.int x6]) (rest := []) (h1 := h63) ok (m_J6_bitCount_0f7a4 e80 (Nat.le_refl _)) my_J6_bitCount_0f7a4 (w_1479) pd_J6_bitCount_0f7a4 (Nat.le_trans (by decide) hfr) rfl rfl rfl rfl dX10_closes_138 (fun e81 => ?_)
            refine wp_iload (v := x4) ok dX10_closes_141 rfl ?_
            obtain ⟨v82, e83, hq⟩ := bnd_some hq
            refine wp_callSI (As := [.int x4]) (rest := [.int v79]) (h1 := h63) ok (m_J6_bitCount_0f7a4 e83 (Nat.le_refl _)) my_J6_bitCount_0f7a4 (w_1479) pd_J6_bitCount_0f7a4 (Nat.le_trans (by decide) hfr) rfl rfl rfl rfl dX10_closes_143 (fun e84 => ?_)
            refine wp_icmp_ge (tgt := 153) ok dX10_closes_146 (by decide) (fun c85 => ?_) (fun c85 => ?_)
            · have hq := ite_t c85 hq
              refine wp_iconst (v := 0) ok dX10_closes_153 (by decide) ?_
              refine wp_sub (L' := [(7, .int v61), (0, .ref x0), (1, .int x1), (2, .int x2), (3, .int x3), (4, .int x4), (5, .int x5), (6, .int x6)]) [0, 1, 2, 3, 4, 5, 6, 7] rfl ?_
              exact kk66 0 hq
            · have hq := ite_f c85 hq
              refine wp_sub (L' := [(7, .int v61), (0, .ref x0), (1, .int x1), (2, .int x2), (3, .int x3), (4, .int x4), (5, .int x5), (6, .int x6)]) [0, 1, 2, 3, 4, 5, 6, 7] rfl ?_
              exact kk76 hq
set_option maxHeartbeats 4000000 in
set_option maxRecDepth 100000 in
theorem l_X10_closes_B50 {x : Cx} {h0 : HP} {N fr : Nat} {rr : (Int32 × HP)} (ok : Okx x cX10_closes yX10_closes.cls 9 fr) (hfr : 5 ≤ fr)  {x0 : Nat} {x1 : Int32} {x2 : Int32} {x3 : Int32} {n_x0 : Nat} (f_x0 : h0.1[x0]? = some (10, n_x0)) (hF : Fend x h0 (some (.int)) (QI rr.1 rr.2)) {k185 : Int32 → Int32 → HP → Option (Int32 × HP)} (hk185 : ∀ (x4 : Int32) (x5 : Int32) (h : HP), k185 x4 x5 h = some rr → h.1 = h0.1 → wp x 185 [(4, .int x4), (5, .int x5), (0, .ref x0)] [] h) : ∀ (n : Nat) (x4 : Int32) (x5 : Int32) (x6 : Int32) (h : HP), lp (fun _ _ _ _ => none) (f_X10_closes_B50 N x0 x1 x2 x3 k185) n x4 x5 x6 h = some rr → h.1 = h0.1 → wp x 50 [(4, .int x4), (5, .int x5), (6, .int x6), (0, .ref x0), (1, .int x1), (2, .int x2), (3, .int x3)] [] h := by
  intro n
  induction n with
  | zero => intro x4 x5 x6 h hq e; exact (Option.some_ne_none _ hq.symm).elim
  | succ n ih => exact s_X10_closes_B50 ok hfr f_x0 hF hk185 ih
set_option maxHeartbeats 4000000 in
set_option maxRecDepth 100000 in
theorem m_X10_closes {l : Launch} {h : HP} {N : Nat} {x0 : Nat} {x1 : Int32} {x2 : Int32} {x3 : Int32} {rr : Int32} {rh : HP} {fr : Nat} (hq : f_X10_closes N h x0 x1 x2 x3 = some (rr, rh)) (hfr : 5 ≤ fr) : Mt l yX10_closes cX10_closes 9 (some (.int)) fr [.ref x0, .int x1, .int x2, .int x3] h (QI rr rh) := by
  obtain ⟨rp, ep⟩ : ∃ rp : (Int32 × HP), rp = (rr, rh) := ⟨_, rfl⟩
  have e1p : rr = rp.1 := (congrArg Prod.fst ep).symm
  have e2p : rh = rp.2 := (congrArg Prod.snd ep).symm
  rw [← ep] at hq
  rw [e1p, e2p]
  clear e1p e2p ep
  refine Mt.of (by decide +kernel) (Nat.le_of_ble_eq_true rfl) (fun x hl ok hF => ?_)
  subst hl
  show wp x 0 [(0, .ref x0), (1, .int x1), (2, .int x2), (3, .int x3)] [] h
  unfold f_X10_closes at hq
  obtain ⟨h0, eh0⟩ : ∃ h0 : HP, h = h0 := ⟨h, rfl⟩
  have e : h.1 = h0.1 := by rw [eh0]
  rw [eh0] at hF
  obtain ⟨g_x0, hq⟩ := gP_some hq
  obtain ⟨n_x0, f_x0⟩ := kO_some g_x0
  replace f_x0 := sh_of e.symm f_x0
  refine wp_aload_n (v := x0) ok dX10_closes_0 rfl ?_
  refine wp_iconst (v := 0) ok dX10_closes_1 (by decide) ?_
  refine wp_putI ok flw_RX10_3 (nr_10_0 _) (sh_of e f_x0) dX10_closes_2 ?_
  obtain ⟨h1, e2, hq⟩ := lt_some hq
  refine wp_nmH e2 ?_
  have e3 : h1.1 = h0.1 := (congrArg Prod.fst e2).trans e
  refine wp_aload_n (v := x0) ok dX10_closes_5 rfl ?_
  refine wp_iload_n (v := x1) ok dX10_closes_6 rfl ?_
  obtain ⟨v4, e5, hq⟩ := bnd_some hq
  refine wp_callVI (As := [.int x1]) (rest := []) (h1 := h1) ok (m_X10_isMarket e5 (Nat.le_refl _)) my_X10_isMarket (w_1288) pd_X10_isMarket (Nat.le_trans (by decide) hfr) rfl (ci := 10) rfl (by decide) (sh_of e3 f_x0) rfl rfl rfl dX10_closes_7 (fun e6 => ?_)
  refine wp_if_eq (tgt := 37) ok dX10_closes_10 (by decide) (fun c7 => ?_) (fun c7 => ?_)
  · have hq := ite_t c7 hq
    refine wp_iconst (v := -1) ok dX10_closes_37 (by decide) ?_
    exact wp_iret ok hF rfl e3 (re2I hq) dX10_closes_38
  · have hq := ite_f c7 hq
    refine wp_iload_n (v := x2) ok dX10_closes_13 rfl ?_
    refine wp_i2l ok dX10_closes_14 ?_
    refine wp_lconst (v := 1) ok dX10_closes_15 (by decide) ?_
    refine wp_ldc2 (v := 8) ok (w_1477) dX10_closes_16 ?_
    obtain ⟨v8, e9, hq⟩ := bnd_some hq
    refine wp_callSI (As := [.long (x2.toInt64), .long 1, .long 8]) (rest := []) (h1 := h1) ok (m_X10_in e9 (Nat.le_refl _)) my_X10_in (w_1200) pd_X10_in (Nat.le_trans (by decide) hfr) rfl rfl rfl rfl dX10_closes_19 (fun e10 => ?_)
    refine wp_if_eq (tgt := 37) ok dX10_closes_22 (by decide) (fun c11 => ?_) (fun c11 => ?_)
    · have hq := ite_t c11 hq
      refine wp_iconst (v := -1) ok dX10_closes_37 (by decide) ?_
      exact wp_iret ok hF rfl e3 (re2I hq) dX10_closes_38
    · have hq := ite_f c11 hq
      refine wp_iload_n (v := x3) ok dX10_closes_25 rfl ?_
      refine wp_i2l ok dX10_closes_26 ?_
      refine wp_lconst (v := 0) ok dX10_closes_27 (by decide) ?_
      refine wp_ldc2 (v := 8) ok (w_1477) dX10_closes_28 ?_
      obtain ⟨v12, e13, hq⟩ := bnd_some hq
      refine wp_callSI (As := [.long (x3.toInt64), .long 0, .long 8]) (rest := []) (h1 := h1) ok (m_X10_in e13 (Nat.le_refl _)) my_X10_in (w_1200) pd_X10_in (Nat.le_trans (by decide) hfr) rfl rfl rfl rfl dX10_closes_31 (fun e14 => ?_)
      refine wp_if_ne (tgt := 39) ok dX10_closes_34 (by decide) (fun c15 => ?_) (fun c15 => ?_)
      · have hq := ite_f c15 hq
        refine wp_iconst (v := 0) ok dX10_closes_39 (by decide) ?_
        refine wp_istore (L' := [(4, .int 0), (0, .ref x0), (1, .int x1), (2, .int x2), (3, .int x3)]) ok dX10_closes_40 rfl rfl ?_
        refine wp_ldcw (v := 2000000000) ok (w_1478) dX10_closes_42 ?_
        refine wp_istore (L' := [(5, .int 2000000000), (4, .int 0), (0, .ref x0), (1, .int x1), (2, .int x2), (3, .int x3)]) ok dX10_closes_45 rfl rfl ?_
        refine wp_iconst (v := 0) ok dX10_closes_47 (by decide) ?_
        refine wp_istore (L' := [(6, .int 0), (5, .int 2000000000), (4, .int 0), (0, .ref x0), (1, .int x1), (2, .int x2), (3, .int x3)]) ok dX10_closes_48 rfl rfl ?_
        refine wp_sub (L' := [(4, .int 0), (5, .int 2000000000), (6, .int 0), (0, .ref x0), (1, .int x1), (2, .int x2), (3, .int x3)]) [2, 1, 0, 3, 4, 5, 6] rfl ?_
        refine l_X10_closes_B50 ok hfr f_x0 hF ?_ N 0 2000000000 0 h1 hq e3
        · intro x86 x87 h88 hq e89
          refine wp_aload_n (v := x0) ok dX10_closes_185 rfl ?_
          refine wp_iconst (v := 0) ok dX10_closes_186 (by decide) ?_
          refine wp_putI ok flw_RX10_15 (nr_10_1 _) (sh_of e89 f_x0) dX10_closes_187 ?_
          obtain ⟨h90, e91, hq⟩ := lt_some hq
          refine wp_nmH e91 ?_
          have e92 : h90.1 = h0.1 := (congrArg Prod.fst e91).trans e89
          refine wp_aload_n (v := x0) ok dX10_closes_190 rfl ?_
          refine wp_iload (v := x86) ok dX10_closes_191 rfl ?_
          refine wp_i2l ok dX10_closes_193 ?_
          obtain ⟨h93, e94, hq⟩ := bnd_some hq
          refine wp_callVV (As := [.long (x86.toInt64)]) (rest := []) (h1 := h93) ok (m_X10_enters e94 (Nat.le_refl _)) my_X10_enters (w_1347) pd_X10_enters (Nat.le_trans (by decide) hfr) rfl (ci := 10) rfl (by decide) (sh_of e92 f_x0) rfl rfl rfl dX10_closes_194 (fun e95 => ?_)
          have e96 : h93.1 = h0.1 := (e95).trans e92
          refine wp_iload (v := x87) ok dX10_closes_197 rfl ?_
          exact wp_iret ok hF rfl e96 (re2I hq) dX10_closes_199
      · have hq := ite_t c15 hq
        refine wp_iconst (v := -1) ok dX10_closes_37 (by decide) ?_
        exact wp_iret ok hF rfl e3 (re2I hq) dX10_closes_38
set_option maxHeartbeats 4000000 in
set_option maxRecDepth 100000 in
theorem s_X10_grows_B42 {x : Cx} {h0 : HP} {N fr : Nat} {rr : (Int32 × HP)} (ok : Okx x cX10_grows yX10_grows.cls 6 fr) (hfr : 5 ≤ fr)  {x0 : Nat} {n_x0 : Nat} (f_x0 : h0.1[x0]? = some (10, n_x0)) (hF : Fend x h0 (some (.int)) (QI rr.1 rr.2)) {k100 : Int32 → Int32 → HP → Option (Int32 × HP)} (hk100 : ∀ (x2 : Int32) (x3 : Int32) (h : HP), k100 x2 x3 h = some rr → h.1 = h0.1 → wp x 100 [(2, .int x2), (3, .int x3), (0, .ref x0)] [] h) {rc : Int32 → Int32 → Int32 → HP → Option (Int32 × HP)} (ih : ∀ (x2 : Int32) (x3 : Int32) (x4 : Int32) (h : HP), rc x2 x3 x4 h = some rr → h.1 = h0.1 → wp x 42 [(2, .int x2), (3, .int x3), (4, .int x4), (0, .ref x0)] [] h) : ∀ (x2 : Int32) (x3 : Int32) (x4 : Int32) (h : HP), f_X10_grows_B42 N x0 k100 rc x2 x3 x4 h = some rr → h.1 = h0.1 → wp x 42 [(2, .int x2), (3, .int x3), (4, .int x4), (0, .ref x0)] [] h := by
  intro x2 x3 x4 h hq e
  unfold f_X10_grows_B42 at hq
  refine wp_iload (v := x4) ok dX10_grows_42 rfl ?_
  refine wp_aload_n (v := x0) ok dX10_grows_44 rfl ?_
  refine wp_getI ok fl_RX10_120 (sh_of e f_x0) dX10_grows_45 ?_
  refine wp_icmp_ge (tgt := 100) ok dX10_grows_48 (by decide) (fun c21 => ?_) (fun c21 => ?_)
  · have hq := ite_t c21 hq
    refine wp_sub (L' := [(2, .int x2), (3, .int x3), (0, .ref x0)]) [0, 1, 3] rfl ?_
    exact hk100 x2 x3 h hq e
  · have hq := ite_f c21 hq
    refine wp_aload_n (v := x0) ok dX10_grows_51 rfl ?_
    refine wp_aload_n (v := x0) ok dX10_grows_52 rfl ?_
    obtain ⟨t22, e23, hq⟩ := bnd_some hq
    obtain ⟨e24, n25, f26⟩ := rK_some e23
    replace f26 := sh_of (e).symm f26
    refine wp_getR ok fl_RX10_44 (sh_of e f_x0) e24 dX10_grows_53 ?_
    refine wp_iload (v := x4) ok dX10_grows_56 rfl ?_
    obtain ⟨v27, h29, e28, hq⟩ := bnd2_some hq
    refine wp_callVI (As := [.ref t22, .int x4]) (rest := []) (h1 := h29) ok (m_X10_priceOf e28 (Nat.le_refl _)) my_X10_priceOf (w_1297) pd_X10_priceOf (Nat.le_trans (by decide) hfr) rfl (ci := 10) rfl (by decide) (sh_of e f_x0) rfl rfl rfl dX10_grows_58 (fun e30 => ?_)
    have e31 : h29.1 = h0.1 := (e30).trans e
    refine wp_aload_n (v := x0) ok dX10_grows_61 rfl ?_
    refine wp_aload_n (v := x0) ok dX10_grows_62 rfl ?_
    obtain ⟨t32, e33, hq⟩ := bnd_some hq
    obtain ⟨e34, n35, f36⟩ := rK_some e33
    replace f36 := sh_of (e31).symm f36
    refine wp_getR ok fl_RX10_41 (sh_of e31 f_x0) e34 dX10_grows_63 ?_
    refine wp_iload (v := x4) ok dX10_grows_66 rfl ?_
    obtain ⟨v37, h39, e38, hq⟩ := bnd2_some hq
    refine wp_callVI (As := [.ref t32, .int x4]) (rest := [.int v27]) (h1 := h39) ok (m_X10_priceOf e38 (Nat.le_refl _)) my_X10_priceOf (w_1297) pd_X10_priceOf (Nat.le_trans (by decide) hfr) rfl (ci := 10) rfl (by decide) (sh_of e31 f_x0) rfl rfl rfl dX10_grows_68 (fun e40 => ?_)
    have e41 : h39.1 = h0.1 := (e40).trans e31
    refine wp_isub ok dX10_grows_71 ?_
    obtain ⟨v42, e43, hq⟩ := lt_some hq
    refine wp_nmI e43 ?_
    refine wp_istore (L' := [(5, .int v42), (2, .int x2), (3, .int x3), (4, .int x4), (0, .ref x0)]) ok dX10_grows_72 rfl rfl ?_
    refine wp_iload (v := v42) ok dX10_grows_74 rfl ?_
    refine wp_iload_n (v := x3) ok dX10_grows_76 rfl ?_
    obtain ⟨k44, ek44, hq⟩ := jn1_some hq
    have kk44 : ∀ (y45 : Int32), k44 y45 = some rr → wp x 86 [(5, .int v42), (3, .int x3), (4, .int x4), (0, .ref x0)] [.int y45] h39 := by
      intro y45 hq
      have hq := (ek44 y45).symm.trans hq
      refine wp_istore_n (L' := [(2, .int y45), (5, .int v42), (3, .int x3), (4, .int x4), (0, .ref x0)]) ok dX10_grows_86 rfl rfl ?_
      refine wp_iload_n (v := x3) ok dX10_grows_87 rfl ?_
      refine wp_iload (v := v42) ok dX10_grows_88 rfl ?_
      obtain ⟨v46, e47, hq⟩ := bnd_some hq
      refine wp_callSI (As := [.int x3, .int v42]) (rest := []) (h1 := h39) ok (m_J9_max_7cf53 e47 (Nat.le_refl _)) my_J9_max_7cf53 (w_1316) pd_J9_max_7cf53 (Nat.le_trans (by decide) hfr) rfl rfl rfl rfl dX10_grows_90 (fun e48 => ?_)
      refine wp_istore_n (L' := [(3, .int v46), (2, .int y45), (5, .int v42), (4, .int x4), (0, .ref x0)]) ok dX10_grows_93 rfl rfl ?_
      obtain ⟨v49, e50, hq⟩ := lt_some hq
      refine wp_iinc (v := x4) (w := 1) (L' := [(4, .int v49), (3, .int v46), (2, .int y45), (5, .int v42), (0, .ref x0)]) ok dX10_grows_94 rfl (by decide) rfl (by rw [← e50]; rfl) ?_
      refine wp_goto (tgt := 42) ok dX10_grows_97 (by decide) ?_
      refine wp_sub (L' := [(2, .int y45), (3, .int v46), (4, .int v49), (0, .ref x0)]) [2, 1, 0, 4] rfl ?_
      exact ih y45 v46 v49 h39 hq e41
    refine wp_icmp_le (tgt := 85) ok dX10_grows_77 (by decide) (fun c51 => ?_) (fun c51 => ?_)
    · have hq := ite_t c51 hq
      refine wp_iload_n (v := x2) ok dX10_grows_85 rfl ?_
      refine wp_sub (L' := [(5, .int v42), (3, .int x3), (4, .int x4), (0, .ref x0)]) [0, 2, 3, 4] rfl ?_
      exact kk44 x2 hq
    · have hq := ite_f c51 hq
      refine wp_iload (v := x4) ok dX10_grows_80 rfl ?_
      refine wp_goto (tgt := 86) ok dX10_grows_82 (by decide) ?_
      refine wp_sub (L' := [(5, .int v42), (3, .int x3), (4, .int x4), (0, .ref x0)]) [0, 2, 3, 4] rfl ?_
      exact kk44 x4 hq
set_option maxHeartbeats 4000000 in
set_option maxRecDepth 100000 in
theorem l_X10_grows_B42 {x : Cx} {h0 : HP} {N fr : Nat} {rr : (Int32 × HP)} (ok : Okx x cX10_grows yX10_grows.cls 6 fr) (hfr : 5 ≤ fr)  {x0 : Nat} {n_x0 : Nat} (f_x0 : h0.1[x0]? = some (10, n_x0)) (hF : Fend x h0 (some (.int)) (QI rr.1 rr.2)) {k100 : Int32 → Int32 → HP → Option (Int32 × HP)} (hk100 : ∀ (x2 : Int32) (x3 : Int32) (h : HP), k100 x2 x3 h = some rr → h.1 = h0.1 → wp x 100 [(2, .int x2), (3, .int x3), (0, .ref x0)] [] h) : ∀ (n : Nat) (x2 : Int32) (x3 : Int32) (x4 : Int32) (h : HP), lp (fun _ _ _ _ => none) (f_X10_grows_B42 N x0 k100) n x2 x3 x4 h = some rr → h.1 = h0.1 → wp x 42 [(2, .int x2), (3, .int x3), (4, .int x4), (0, .ref x0)] [] h := by
  intro n
  induction n with
  | zero => intro x2 x3 x4 h hq e; exact (Option.some_ne_none _ hq.symm).elim
  | succ n ih => exact s_X10_grows_B42 ok hfr f_x0 hF hk100 ih
set_option maxHeartbeats 4000000 in
set_option maxRecDepth 100000 in
theorem m_X10_grows {l : Launch} {h : HP} {N : Nat} {x0 : Nat} {x1 : Int32} {rr : Int32} {rh : HP} {fr : Nat} (hq : f_X10_grows N h x0 x1 = some (rr, rh)) (hfr : 5 ≤ fr) : Mt l yX10_grows cX10_grows 6 (some (.int)) fr [.ref x0, .int x1] h (QI rr rh) := by
  obtain ⟨rp, ep⟩ : ∃ rp : (Int32 × HP), rp = (rr, rh) := ⟨_, rfl⟩
  have e1p : rr = rp.1 := (congrArg Prod.fst ep).symm
  have e2p : rh = rp.2 := (congrArg Prod.snd ep).symm
  rw [← ep] at hq
  rw [e1p, e2p]
  clear e1p e2p ep
  refine Mt.of (by decide +kernel) (Nat.le_of_ble_eq_true rfl) (fun x hl ok hF => ?_)
  subst hl
  show wp x 0 [(0, .ref x0), (1, .int x1)] [] h
  unfold f_X10_grows at hq
  obtain ⟨h0, eh0⟩ : ∃ h0 : HP, h = h0 := ⟨h, rfl⟩
  have e : h.1 = h0.1 := by rw [eh0]
  rw [eh0] at hF
  obtain ⟨g_x0, hq⟩ := gP_some hq
  obtain ⟨n_x0, f_x0⟩ := kO_some g_x0
  replace f_x0 := sh_of e.symm f_x0
  refine wp_aload_n (v := x0) ok dX10_grows_0 rfl ?_
  refine wp_iconst (v := 0) ok dX10_grows_1 (by decide) ?_
  refine wp_putI ok flw_RX10_3 (nr_10_0 _) (sh_of e f_x0) dX10_grows_2 ?_
  obtain ⟨h1, e2, hq⟩ := lt_some hq
  refine wp_nmH e2 ?_
  have e3 : h1.1 = h0.1 := (congrArg Prod.fst e2).trans e
  refine wp_iload_n (v := x1) ok dX10_grows_5 rfl ?_
  refine wp_i2l ok dX10_grows_6 ?_
  refine wp_lconst (v := 1) ok dX10_grows_7 (by decide) ?_
  refine wp_ldc2 (v := 60) ok (w_1334) dX10_grows_8 ?_
  obtain ⟨v4, e5, hq⟩ := bnd_some hq
  refine wp_callSI (As := [.long (x1.toInt64), .long 1, .long 60]) (rest := []) (h1 := h1) ok (m_X10_in e5 (Nat.le_refl _)) my_X10_in (w_1200) pd_X10_in (Nat.le_trans (by decide) hfr) rfl rfl rfl rfl dX10_grows_11 (fun e6 => ?_)
  refine wp_if_ne (tgt := 19) ok dX10_grows_14 (by decide) (fun c7 => ?_) (fun c7 => ?_)
  · have hq := ite_f c7 hq
    refine wp_aload_n (v := x0) ok dX10_grows_19 rfl ?_
    obtain ⟨h8, e9, hq⟩ := bnd_some hq
    refine wp_callVV (As := []) (rest := []) (h1 := h8) ok (m_X10_copies e9 (Nat.le_refl _)) my_X10_copies (w_1438) pd_X10_copies (Nat.le_trans (by decide) hfr) rfl (ci := 10) rfl (by decide) (sh_of e3 f_x0) rfl rfl rfl dX10_grows_20 (fun e10 => ?_)
    have e11 : h8.1 = h0.1 := (e10).trans e3
    refine wp_aload_n (v := x0) ok dX10_grows_23 rfl ?_
    refine wp_aload_n (v := x0) ok dX10_grows_24 rfl ?_
    obtain ⟨t12, e13, hq⟩ := bnd_some hq
    obtain ⟨e14, n15, f16⟩ := rK_some e13
    replace f16 := sh_of (e11).symm f16
    refine wp_getR ok fl_RX10_44 (sh_of e11 f_x0) e14 dX10_grows_25 ?_
    refine wp_iload_n (v := x1) ok dX10_grows_28 rfl ?_
    obtain ⟨h17, e18, hq⟩ := bnd_some hq
    refine wp_callVV (As := [.ref t12, .int x1]) (rest := []) (h1 := h17) ok (m_X10_goesOn e18 (Nat.le_refl _)) my_X10_goesOn (w_1339) pd_X10_goesOn (Nat.le_trans (by decide) hfr) rfl (ci := 10) rfl (by decide) (sh_of e11 f_x0) rfl rfl rfl dX10_grows_29 (fun e19 => ?_)
    have e20 : h17.1 = h0.1 := (e19).trans e11
    refine wp_bipush (v := -2) ok dX10_grows_32 (by decide) ?_
    refine wp_istore_n (L' := [(2, .int (-2)), (0, .ref x0), (1, .int x1)]) ok dX10_grows_34 rfl rfl ?_
    refine wp_ldcw (v := -2000000000) ok (w_1487) dX10_grows_35 ?_
    refine wp_istore_n (L' := [(3, .int (-2000000000)), (2, .int (-2)), (0, .ref x0), (1, .int x1)]) ok dX10_grows_38 rfl rfl ?_
    refine wp_iconst (v := 0) ok dX10_grows_39 (by decide) ?_
    refine wp_istore (L' := [(4, .int 0), (3, .int (-2000000000)), (2, .int (-2)), (0, .ref x0), (1, .int x1)]) ok dX10_grows_40 rfl rfl ?_
    refine wp_sub (L' := [(2, .int (-2)), (3, .int (-2000000000)), (4, .int 0), (0, .ref x0)]) [2, 1, 0, 3] rfl ?_
    refine l_X10_grows_B42 ok hfr f_x0 hF ?_ N (-2) (-2000000000) 0 h17 hq e20
    · intro x52 x53 h54 hq e55
      refine wp_iload_n (v := x52) ok dX10_grows_100 rfl ?_
      refine wp_if_lt (tgt := 115) ok dX10_grows_101 (by decide) (fun c56 => ?_) (fun c56 => ?_)
      · have hq := ite_t c56 hq
        refine wp_iload_n (v := x52) ok dX10_grows_115 rfl ?_
        exact wp_iret ok hF rfl e55 (re2I hq) dX10_grows_116
      · have hq := ite_f c56 hq
        refine wp_aload_n (v := x0) ok dX10_grows_104 rfl ?_
        refine wp_iconst (v := 0) ok dX10_grows_105 (by decide) ?_
        refine wp_putI ok flw_RX10_15 (nr_10_1 _) (sh_of e55 f_x0) dX10_grows_106 ?_
        obtain ⟨h57, e58, hq⟩ := lt_some hq
        refine wp_nmH e58 ?_
        have e59 : h57.1 = h0.1 := (congrArg Prod.fst e58).trans e55
        refine wp_aload_n (v := x0) ok dX10_grows_109 rfl ?_
        refine wp_iload_n (v := x53) ok dX10_grows_110 rfl ?_
        refine wp_i2l ok dX10_grows_111 ?_
        obtain ⟨h60, e61, hq⟩ := bnd_some hq
        refine wp_callVV (As := [.long (x53.toInt64)]) (rest := []) (h1 := h60) ok (m_X10_enters e61 (Nat.le_refl _)) my_X10_enters (w_1347) pd_X10_enters (Nat.le_trans (by decide) hfr) rfl (ci := 10) rfl (by decide) (sh_of e59 f_x0) rfl rfl rfl dX10_grows_112 (fun e62 => ?_)
        have e63 : h60.1 = h0.1 := (e62).trans e59
        refine wp_iload_n (v := x52) ok dX10_grows_115 rfl ?_
        exact wp_iret ok hF rfl e63 (re2I hq) dX10_grows_116
  · have hq := ite_t c7 hq
    refine wp_iconst (v := -1) ok dX10_grows_17 (by decide) ?_
    exact wp_iret ok hF rfl e3 (re2I hq) dX10_grows_18
set_option maxHeartbeats 4000000 in
set_option maxRecDepth 100000 in
theorem s_X10_reign_B74 {x : Cx} {h0 : HP} {N fr : Nat} {rr : (Int32 × HP)} (ok : Okx x cX10_reign yX10_reign.cls 9 fr) (hfr : 5 ≤ fr)  {x0 : Nat} {x1 : Int32} {x2 : Int32} {x3 : Int32} {x4 : Int32} {x5 : Int32} {x6 : Int32} {n_x0 : Nat} (f_x0 : h0.1[x0]? = some (10, n_x0)) (hF : Fend x h0 (some (.int)) (QI rr.1 rr.2)) {k115 : HP → Option (Int32 × HP)} (hk115 : ∀ (h : HP), k115 h = some rr → h.1 = h0.1 → wp x 115 [(0, .ref x0), (1, .int x1), (2, .int x2), (3, .int x3), (4, .int x4), (5, .int x5), (6, .int x6)] [] h) {rc : Int32 → HP → Option (Int32 × HP)} (ih : ∀ (x7 : Int32) (h : HP), rc x7 h = some rr → h.1 = h0.1 → wp x 74 [(7, .int x7), (0, .ref x0), (1, .int x1), (2, .int x2), (3, .int x3), (4, .int x4), (5, .int x5), (6, .int x6)] [] h) : ∀ (x7 : Int32) (h : HP), f_X10_reign_B74 N x0 x1 x2 x3 x4 x5 x6 k115 rc x7 h = some rr → h.1 = h0.1 → wp x 74 [(7, .int x7), (0, .ref x0), (1, .int x1), (2, .int x2), (3, .int x3), (4, .int x4), (5, .int x5), (6, .int x6)] [] h := by
  intro x7 h hq e
  unfold f_X10_reign_B74 at hq
  refine wp_iload (v := x7) ok dX10_reign_74 rfl ?_
  refine wp_iload_n (v := x1) ok dX10_reign_76 rfl ?_
  refine wp_icmp_ge (tgt := 115) ok dX10_reign_77 (by decide) (fun c22 => ?_) (fun c22 => ?_)
  · have hq := ite_t c22 hq
    refine wp_sub (L' := [(0, .ref x0), (1, .int x1), (2, .int x2), (3, .int x3), (4, .int x4), (5, .int x5), (6, .int x6)]) [1, 2, 3, 4, 5, 6, 7] rfl ?_
    exact hk115 h hq e
  · have hq := ite_f c22 hq
    refine wp_aload_n (v := x0) ok dX10_reign_80 rfl ?_
    refine wp_aload_n (v := x0) ok dX10_reign_81 rfl ?_
    obtain ⟨t23, e24, hq⟩ := bnd_some hq
    obtain ⟨e25, n26, f27⟩ := rK_some e24
    replace f27 := sh_of (e).symm f27
    refine wp_getR ok fl_RX10_44 (sh_of e f_x0) e25 dX10_reign_82 ?_
    obtain ⟨h28, e29, hq⟩ := bnd_some hq
    refine wp_callVV (As := [.ref t23]) (rest := []) (h1 := h28) ok (m_X10_monthGoes e29 (Nat.le_refl _)) my_X10_monthGoes (w_1343) pd_X10_monthGoes (Nat.le_trans (by decide) hfr) rfl (ci := 10) rfl (by decide) (sh_of e f_x0) rfl rfl rfl dX10_reign_85 (fun e30 => ?_)
    have e31 : h28.1 = h0.1 := (e30).trans e
    refine wp_iload (v := x6) ok dX10_reign_88 rfl ?_
    refine wp_iload (v := x7) ok dX10_reign_90 rfl ?_
    obtain ⟨v32, e33, hq⟩ := bnd_some hq
    refine wp_callSI (As := [.int x6, .int x7]) (rest := []) (h1 := h28) ok (m_X10_has e33 (Nat.le_refl _)) my_X10_has (w_1480) pd_X10_has (Nat.le_trans (by decide) hfr) rfl rfl rfl rfl dX10_reign_92 (fun e34 => ?_)
    refine wp_if_eq (tgt := 109) ok dX10_reign_95 (by decide) (fun c35 => ?_) (fun c35 => ?_)
    · have hq := ite_t c35 hq
      obtain ⟨v36, e37, hq⟩ := lt_some hq
      refine wp_iinc (v := x7) (w := 1) (L' := [(7, .int v36), (0, .ref x0), (1, .int x1), (2, .int x2), (3, .int x3), (4, .int x4), (5, .int x5), (6, .int x6)]) ok dX10_reign_109 rfl (by decide) rfl (by rw [← e37]; rfl) ?_
      refine wp_goto (tgt := 74) ok dX10_reign_112 (by decide) ?_
      refine wp_sub (L' := [(7, .int v36), (0, .ref x0), (1, .int x1), (2, .int x2), (3, .int x3), (4, .int x4), (5, .int x5), (6, .int x6)]) [0, 1, 2, 3, 4, 5, 6, 7] rfl ?_
      exact ih v36 h28 hq e31
    · have hq := ite_f c35 hq
      refine wp_aload_n (v := x0) ok dX10_reign_98 rfl ?_
      refine wp_aload_n (v := x0) ok dX10_reign_99 rfl ?_
      obtain ⟨t38, e39, hq⟩ := bnd_some hq
      obtain ⟨e40, n41, f42⟩ := rK_some e39
      replace f42 := sh_of (e31).symm f42
      refine wp_getR ok fl_RX10_44 (sh_of e31 f_x0) e40 dX10_reign_100 ?_
      refine wp_iconst (v := 0) ok dX10_reign_103 (by decide) ?_
      refine wp_iload_n (v := x2) ok dX10_reign_104 rfl ?_
      obtain ⟨v43, h45, e44, hq⟩ := bnd2_some hq
      refine wp_callVI (As := [.ref t38, .int 0, .int x2]) (rest := []) (h1 := h45) ok (m_X10_taxesOf e44 (Nat.le_refl _)) my_X10_taxesOf (w_1390) pd_X10_taxesOf (Nat.le_trans (by decide) hfr) rfl (ci := 10) rfl (by decide) (sh_of e31 f_x0) rfl rfl rfl dX10_reign_105 (fun e46 => ?_)
      have e47 : h45.1 = h0.1 := (e46).trans e31
      refine wp_pop ok dX10_reign_108 rfl ?_
      obtain ⟨v48, e49, hq⟩ := lt_some hq
      refine wp_iinc (v := x7) (w := 1) (L' := [(7, .int v48), (0, .ref x0), (1, .int x1), (2, .int x2), (3, .int x3), (4, .int x4), (5, .int x5), (6, .int x6)]) ok dX10_reign_109 rfl (by decide) rfl (by rw [← e49]; rfl) ?_
      refine wp_goto (tgt := 74) ok dX10_reign_112 (by decide) ?_
      refine wp_sub (L' := [(7, .int v48), (0, .ref x0), (1, .int x1), (2, .int x2), (3, .int x3), (4, .int x4), (5, .int x5), (6, .int x6)]) [0, 1, 2, 3, 4, 5, 6, 7] rfl ?_
      exact ih v48 h45 hq e47
set_option maxHeartbeats 4000000 in
set_option maxRecDepth 100000 in
theorem l_X10_reign_B74 {x : Cx} {h0 : HP} {N fr : Nat} {rr : (Int32 × HP)} (ok : Okx x cX10_reign yX10_reign.cls 9 fr) (hfr : 5 ≤ fr)  {x0 : Nat} {x1 : Int32} {x2 : Int32} {x3 : Int32} {x4 : Int32} {x5 : Int32} {x6 : Int32} {n_x0 : Nat} (f_x0 : h0.1[x0]? = some (10, n_x0)) (hF : Fend x h0 (some (.int)) (QI rr.1 rr.2)) {k115 : HP → Option (Int32 × HP)} (hk115 : ∀ (h : HP), k115 h = some rr → h.1 = h0.1 → wp x 115 [(0, .ref x0), (1, .int x1), (2, .int x2), (3, .int x3), (4, .int x4), (5, .int x5), (6, .int x6)] [] h) : ∀ (n : Nat) (x7 : Int32) (h : HP), lp (fun _ _ => none) (f_X10_reign_B74 N x0 x1 x2 x3 x4 x5 x6 k115) n x7 h = some rr → h.1 = h0.1 → wp x 74 [(7, .int x7), (0, .ref x0), (1, .int x1), (2, .int x2), (3, .int x3), (4, .int x4), (5, .int x5), (6, .int x6)] [] h := by
  intro n
  induction n with
  | zero => intro x7 h hq e; exact (Option.some_ne_none _ hq.symm).elim
  | succ n ih => exact s_X10_reign_B74 ok hfr f_x0 hF hk115 ih
set_option maxHeartbeats 4000000 in
set_option maxRecDepth 100000 in
theorem s_X10_reign_B52 {x : Cx} {h0 : HP} {N fr : Nat} {rr : (Int32 × HP)} (ok : Okx x cX10_reign yX10_reign.cls 9 fr) (hfr : 5 ≤ fr)  {x0 : Nat} {x1 : Int32} {x2 : Int32} {x3 : Int32} {n_x0 : Nat} (f_x0 : h0.1[x0]? = some (10, n_x0)) (hF : Fend x h0 (some (.int)) (QI rr.1 rr.2)) {k209 : Int32 → Int32 → HP → Option (Int32 × HP)} (hk209 : ∀ (x4 : Int32) (x5 : Int32) (h : HP), k209 x4 x5 h = some rr → h.1 = h0.1 → wp x 209 [(4, .int x4), (5, .int x5), (0, .ref x0)] [] h) {rc : Int32 → Int32 → Int32 → HP → Option (Int32 × HP)} (ih : ∀ (x4 : Int32) (x5 : Int32) (x6 : Int32) (h : HP), rc x4 x5 x6 h = some rr → h.1 = h0.1 → wp x 52 [(4, .int x4), (5, .int x5), (6, .int x6), (0, .ref x0), (1, .int x1), (2, .int x2), (3, .int x3)] [] h) : ∀ (x4 : Int32) (x5 : Int32) (x6 : Int32) (h : HP), f_X10_reign_B52 N x0 x1 x2 x3 k209 rc x4 x5 x6 h = some rr → h.1 = h0.1 → wp x 52 [(4, .int x4), (5, .int x5), (6, .int x6), (0, .ref x0), (1, .int x1), (2, .int x2), (3, .int x3)] [] h := by
  intro x4 x5 x6 h hq e
  unfold f_X10_reign_B52 at hq
  refine wp_iload (v := x6) ok dX10_reign_52 rfl ?_
  refine wp_iconst (v := 1) ok dX10_reign_54 (by decide) ?_
  refine wp_iload_n (v := x1) ok dX10_reign_55 rfl ?_
  refine wp_ishl ok dX10_reign_56 ?_
  refine wp_icmp_ge (tgt := 209) ok dX10_reign_57 (by decide) (fun c16 => ?_) (fun c16 => ?_)
  · have hq := ite_t c16 hq
    refine wp_sub (L' := [(4, .int x4), (5, .int x5), (0, .ref x0)]) [0, 1, 3] rfl ?_
    exact hk209 x4 x5 h hq e
  · have hq := ite_f c16 hq
    refine wp_aload_n (v := x0) ok dX10_reign_60 rfl ?_
    refine wp_getI ok fl_RX10_120 (sh_of e f_x0) dX10_reign_61 ?_
    refine wp_if_le (tgt := 209) ok dX10_reign_64 (by decide) (fun c17 => ?_) (fun c17 => ?_)
    · have hq := ite_t c17 hq
      refine wp_sub (L' := [(4, .int x4), (5, .int x5), (0, .ref x0)]) [0, 1, 3] rfl ?_
      exact hk209 x4 x5 h hq e
    · have hq := ite_f c17 hq
      refine wp_aload_n (v := x0) ok dX10_reign_67 rfl ?_
      obtain ⟨h18, e19, hq⟩ := bnd_some hq
      refine wp_callVV (As := []) (rest := []) (h1 := h18) ok (m_X10_copies e19 (Nat.le_refl _)) my_X10_copies (w_1438) pd_X10_copies (Nat.le_trans (by decide) hfr) rfl (ci := 10) rfl (by decide) (sh_of e f_x0) rfl rfl rfl dX10_reign_68 (fun e20 => ?_)
      have e21 : h18.1 = h0.1 := (e20).trans e
      refine wp_iconst (v := 0) ok dX10_reign_71 (by decide) ?_
      refine wp_istore (L' := [(7, .int 0), (4, .int x4), (5, .int x5), (6, .int x6), (0, .ref x0), (1, .int x1), (2, .int x2), (3, .int x3)]) ok dX10_reign_72 rfl rfl ?_
      refine wp_sub (L' := [(7, .int 0), (0, .ref x0), (1, .int x1), (2, .int x2), (3, .int x3), (4, .int x4), (5, .int x5), (6, .int x6)]) [0, 4, 5, 6, 7, 1, 2, 3] rfl ?_
      refine l_X10_reign_B74 ok hfr f_x0 hF ?_ N 0 h18 hq e21
      · intro h50 hq e51
        refine wp_aload_n (v := x0) ok dX10_reign_115 rfl ?_
        refine wp_aload_n (v := x0) ok dX10_reign_116 rfl ?_
        obtain ⟨t52, e53, hq⟩ := bnd_some hq
        obtain ⟨e54, n55, f56⟩ := rK_some e53
        replace f56 := sh_of (e51).symm f56
        refine wp_getR ok fl_RX10_44 (sh_of e51 f_x0) e54 dX10_reign_117 ?_
        refine wp_iconst (v := 0) ok dX10_reign_120 (by decide) ?_
        obtain ⟨v57, h59, e58, hq⟩ := bnd2_some hq
        refine wp_callVI (As := [.ref t52, .int 0]) (rest := []) (h1 := h59) ok (m_X10_priceOf e58 (Nat.le_refl _)) my_X10_priceOf (w_1297) pd_X10_priceOf (Nat.le_trans (by decide) hfr) rfl (ci := 10) rfl (by decide) (sh_of e51 f_x0) rfl rfl rfl dX10_reign_121 (fun e60 => ?_)
        have e61 : h59.1 = h0.1 := (e60).trans e51
        refine wp_iload_n (v := x3) ok dX10_reign_124 rfl ?_
        obtain ⟨k62, ek62, hq⟩ := jn1_some hq
        have kk62 : ∀ (y63 : Int32), k62 y63 = some rr → wp x 139 [(0, .ref x0), (1, .int x1), (2, .int x2), (3, .int x3), (4, .int x4), (5, .int x5), (6, .int x6)] [.int y63] h59 := by
          intro y63 hq
          have hq := (ek62 y63).symm.trans hq
          refine wp_istore (L' := [(7, .int y63), (0, .ref x0), (1, .int x1), (2, .int x2), (3, .int x3), (4, .int x4), (5, .int x5), (6, .int x6)]) ok dX10_reign_139 rfl rfl ?_
          refine wp_iload (v := y63) ok dX10_reign_141 rfl ?_
          refine wp_iload (v := x5) ok dX10_reign_143 rfl ?_
          obtain ⟨k64, ek64, hq⟩ := jn1_some hq
          have kk64 : ∀ (y65 : Int32), k64 y65 = some rr → wp x 178 [(7, .int y63), (0, .ref x0), (1, .int x1), (2, .int x2), (3, .int x3), (4, .int x4), (5, .int x5), (6, .int x6)] [.int y65] h59 := by
            intro y65 hq
            have hq := (ek64 y65).symm.trans hq
            refine wp_istore (L' := [(8, .int y65), (7, .int y63), (0, .ref x0), (1, .int x1), (2, .int x2), (3, .int x3), (4, .int x4), (5, .int x5), (6, .int x6)]) ok dX10_reign_178 rfl rfl ?_
            refine wp_iload (v := y65) ok dX10_reign_180 rfl ?_
            obtain ⟨k66, ek66, hq⟩ := jn1_some hq
            have kk66 : ∀ (y67 : Int32), k66 y67 = some rr → wp x 192 [(7, .int y63), (0, .ref x0), (1, .int x1), (2, .int x2), (3, .int x3), (5, .int x5), (6, .int x6)] [.int y67] h59 := by
              intro y67 hq
              have hq := (ek66 y67).symm.trans hq
              refine wp_istore (L' := [(4, .int y67), (7, .int y63), (0, .ref x0), (1, .int x1), (2, .int x2), (3, .int x3), (5, .int x5), (6, .int x6)]) ok dX10_reign_192 rfl rfl ?_
              refine wp_iload (v := x5) ok dX10_reign_194 rfl ?_
              refine wp_iload (v := y63) ok dX10_reign_196 rfl ?_
              obtain ⟨v68, e69, hq⟩ := bnd_some hq
              refine wp_callSI (As := [.int x5, .int y63]) (rest := []) (h1 := h59) ok (m_J9_max_7cf53 e69 (Nat.le_refl _)) my_J9_max_7cf53 (w_1316) pd_J9_max_7cf53 (Nat.le_trans (by decide) hfr) rfl rfl rfl rfl dX10_reign_198 (fun e70 => ?_)
              refine wp_istore (L' := [(5, .int v68), (4, .int y67), (7, .int y63), (0, .ref x0), (1, .int x1), (2, .int x2), (3, .int x3), (6, .int x6)]) ok dX10_reign_201 rfl rfl ?_
              obtain ⟨v71, e72, hq⟩ := lt_some hq
              refine wp_iinc (v := x6) (w := 1) (L' := [(6, .int v71), (5, .int v68), (4, .int y67), (7, .int y63), (0, .ref x0), (1, .int x1), (2, .int x2), (3, .int x3)]) ok dX10_reign_203 rfl (by decide) rfl (by rw [← e72]; rfl) ?_
              refine wp_goto (tgt := 52) ok dX10_reign_206 (by decide) ?_
              refine wp_sub (L' := [(4, .int y67), (5, .int v68), (6, .int v71), (0, .ref x0), (1, .int x1), (2, .int x2), (3, .int x3)]) [2, 1, 0, 4, 5, 6, 7] rfl ?_
              exact ih y67 v68 v71 h59 hq e61
            refine wp_if_eq (tgt := 190) ok dX10_reign_182 (by decide) (fun c73 => ?_) (fun c73 => ?_)
            · have hq := ite_t c73 hq
              refine wp_iload (v := x4) ok dX10_reign_190 rfl ?_
              refine wp_sub (L' := [(7, .int y63), (0, .ref x0), (1, .int x1), (2, .int x2), (3, .int x3), (5, .int x5), (6, .int x6)]) [1, 2, 3, 4, 5, 7, 8] rfl ?_
              exact kk66 x4 hq
            · have hq := ite_f c73 hq
              refine wp_iload (v := x6) ok dX10_reign_185 rfl ?_
              refine wp_goto (tgt := 192) ok dX10_reign_187 (by decide) ?_
              refine wp_sub (L' := [(7, .int y63), (0, .ref x0), (1, .int x1), (2, .int x2), (3, .int x3), (5, .int x5), (6, .int x6)]) [1, 2, 3, 4, 5, 7, 8] rfl ?_
              exact kk66 x6 hq
          obtain ⟨k74, ek74, hq⟩ := jn0_some hq
          have kk74 : k74 = some rr → wp x 173 [(7, .int y63), (0, .ref x0), (1, .int x1), (2, .int x2), (3, .int x3), (4, .int x4), (5, .int x5), (6, .int x6)] [] h59 := by
            intro hq
            rw [ek74] at hq
            refine wp_iconst (v := 1) ok dX10_reign_173 (by decide) ?_
            refine wp_goto (tgt := 178) ok dX10_reign_174 (by decide) ?_
            refine wp_sub (L' := [(7, .int y63), (0, .ref x0), (1, .int x1), (2, .int x2), (3, .int x3), (4, .int x4), (5, .int x5), (6, .int x6)]) [0, 1, 2, 3, 4, 5, 6, 7] rfl ?_
            exact kk64 1 hq
          refine wp_icmp_gt (tgt := 173) ok dX10_reign_145 (by decide) (fun c75 => ?_) (fun c75 => ?_)
          · have hq := ite_t c75 hq
            refine wp_sub (L' := [(7, .int y63), (0, .ref x0), (1, .int x1), (2, .int x2), (3, .int x3), (4, .int x4), (5, .int x5), (6, .int x6)]) [0, 1, 2, 3, 4, 5, 6, 7] rfl ?_
            exact kk74 hq
          · have hq := ite_f c75 hq
            refine wp_iload (v := y63) ok dX10_reign_148 rfl ?_
            refine wp_if_lt (tgt := 177) ok dX10_reign_150 (by decide) (fun c76 => ?_) (fun c76 => ?_)
            · have hq := ite_t c76 hq
              refine wp_iconst (v := 0) ok dX10_reign_177 (by decide) ?_
              refine wp_sub (L' := [(7, .int y63), (0, .ref x0), (1, .int x1), (2, .int x2), (3, .int x3), (4, .int x4), (5, .int x5), (6, .int x6)]) [0, 1, 2, 3, 4, 5, 6, 7] rfl ?_
              exact kk64 0 hq
            · have hq := ite_f c76 hq
              refine wp_iload (v := y63) ok dX10_reign_153 rfl ?_
              refine wp_iload (v := x5) ok dX10_reign_155 rfl ?_
              refine wp_icmp_ne (tgt := 177) ok dX10_reign_157 (by decide) (fun c77 => ?_) (fun c77 => ?_)
              · have hq := ite_f c77 hq
                refine wp_iconst (v := 0) ok dX10_reign_177 (by decide) ?_
                refine wp_sub (L' := [(7, .int y63), (0, .ref x0), (1, .int x1), (2, .int x2), (3, .int x3), (4, .int x4), (5, .int x5), (6, .int x6)]) [0, 1, 2, 3, 4, 5, 6, 7] rfl ?_
                exact kk64 0 hq
              · have hq := ite_t c77 hq
                refine wp_iload (v := x6) ok dX10_reign_160 rfl ?_
                obtain ⟨v78, e79, hq⟩ := bnd_some hq
                refine wp_callSI (As := [.int x6]) (rest := []) (h1 := h59) ok (m_J6_bitCount_0f7a4 e79 (Nat.le_refl _)) my_J6_bitCount_0f7a4 (w_1479) pd_J6_bitCount_0f7a4 (Nat.le_trans (by decide) hfr) rfl rfl rfl rfl dX10_reign_162 (fun e80 => ?_)
                refine wp_iload (v := x4) ok dX10_reign_165 rfl ?_
                obtain ⟨v81, e82, hq⟩ := bnd_some hq
                refine wp_callSI (As := [.int x4]) (rest := [.int v78]) (h1 := h59) ok (m_J6_bitCount_0f7a4 e82 (Nat.le_refl _)) my_J6_bitCount_0f7a4 (w_1479) pd_J6_bitCount_0f7a4 (Nat.le_trans (by decide) hfr) rfl rfl rfl rfl dX10_reign_167 (fun e83 => ?_)
                refine wp_icmp_ge (tgt := 177) ok dX10_reign_170 (by decide) (fun c84 => ?_) (fun c84 => ?_)
                · have hq := ite_t c84 hq
                  refine wp_iconst (v := 0) ok dX10_reign_177 (by decide) ?_
                  refine wp_sub (L' := [(7, .int y63), (0, .ref x0), (1, .int x1), (2, .int x2), (3, .int x3), (4, .int x4), (5, .int x5), (6, .int x6)]) [0, 1, 2, 3, 4, 5, 6, 7] rfl ?_
                  exact kk64 0 hq
                · have hq := ite_f c84 hq
                  refine wp_sub (L' := [(7, .int y63), (0, .ref x0), (1, .int x1), (2, .int x2), (3, .int x3), (4, .int x4), (5, .int x5), (6, .int x6)]) [0, 1, 2, 3, 4, 5, 6, 7] rfl ?_
                  exact kk74 hq
        refine wp_icmp_lt (tgt := 138) ok dX10_reign_125 (by decide) (fun c85 => ?_) (fun c85 => ?_)
        · have hq := ite_t c85 hq
          refine wp_iconst (v := -1) ok dX10_reign_138 (by decide) ?_
          refine wp_sub (L' := [(0, .ref x0), (1, .int x1), (2, .int x2), (3, .int x3), (4, .int x4), (5, .int x5), (6, .int x6)]) [0, 1, 2, 3, 4, 5, 6] rfl ?_
          exact kk62 (-1) hq
        · have hq := ite_f c85 hq
          refine wp_aload_n (v := x0) ok dX10_reign_128 rfl ?_
          obtain ⟨t86, e87, hq⟩ := bnd_some hq
          obtain ⟨e88, n89, f90⟩ := rK_some e87
          replace f90 := sh_of (e61).symm f90
          refine wp_getR ok fl_RX10_44 (sh_of e61 f_x0) e88 dX10_reign_129 ?_
          refine wp_bipush (v := 26) ok dX10_reign_132 (by decide) ?_
          obtain ⟨g91, hq⟩ := gP_some hq
          refine wp_iald ok (sh_of e61 f90) (ix_of (sh_of e61 f90) g91) dX10_reign_134 ?_
          refine wp_goto (tgt := 139) ok dX10_reign_135 (by decide) ?_
          refine wp_sub (L' := [(0, .ref x0), (1, .int x1), (2, .int x2), (3, .int x3), (4, .int x4), (5, .int x5), (6, .int x6)]) [0, 1, 2, 3, 4, 5, 6] rfl ?_
          exact kk62 (h59.2.1 t86 (26 : Int32).toNatClampNeg) hq
set_option maxHeartbeats 4000000 in
set_option maxRecDepth 100000 in
theorem l_X10_reign_B52 {x : Cx} {h0 : HP} {N fr : Nat} {rr : (Int32 × HP)} (ok : Okx x cX10_reign yX10_reign.cls 9 fr) (hfr : 5 ≤ fr)  {x0 : Nat} {x1 : Int32} {x2 : Int32} {x3 : Int32} {n_x0 : Nat} (f_x0 : h0.1[x0]? = some (10, n_x0)) (hF : Fend x h0 (some (.int)) (QI rr.1 rr.2)) {k209 : Int32 → Int32 → HP → Option (Int32 × HP)} (hk209 : ∀ (x4 : Int32) (x5 : Int32) (h : HP), k209 x4 x5 h = some rr → h.1 = h0.1 → wp x 209 [(4, .int x4), (5, .int x5), (0, .ref x0)] [] h) : ∀ (n : Nat) (x4 : Int32) (x5 : Int32) (x6 : Int32) (h : HP), lp (fun _ _ _ _ => none) (f_X10_reign_B52 N x0 x1 x2 x3 k209) n x4 x5 x6 h = some rr → h.1 = h0.1 → wp x 52 [(4, .int x4), (5, .int x5), (6, .int x6), (0, .ref x0), (1, .int x1), (2, .int x2), (3, .int x3)] [] h := by
  intro n
  induction n with
  | zero => intro x4 x5 x6 h hq e; exact (Option.some_ne_none _ hq.symm).elim
  | succ n ih => exact s_X10_reign_B52 ok hfr f_x0 hF hk209 ih
set_option maxHeartbeats 4000000 in
set_option maxRecDepth 100000 in
theorem m_X10_reign {l : Launch} {h : HP} {N : Nat} {x0 : Nat} {x1 : Int32} {x2 : Int32} {x3 : Int32} {rr : Int32} {rh : HP} {fr : Nat} (hq : f_X10_reign N h x0 x1 x2 x3 = some (rr, rh)) (hfr : 5 ≤ fr) : Mt l yX10_reign cX10_reign 9 (some (.int)) fr [.ref x0, .int x1, .int x2, .int x3] h (QI rr rh) := by
  obtain ⟨rp, ep⟩ : ∃ rp : (Int32 × HP), rp = (rr, rh) := ⟨_, rfl⟩
  have e1p : rr = rp.1 := (congrArg Prod.fst ep).symm
  have e2p : rh = rp.2 := (congrArg Prod.snd ep).symm
  rw [← ep] at hq
  rw [e1p, e2p]
  clear e1p e2p ep
  refine Mt.of (by decide +kernel) (Nat.le_of_ble_eq_true rfl) (fun x hl ok hF => ?_)
  subst hl
  show wp x 0 [(0, .ref x0), (1, .int x1), (2, .int x2), (3, .int x3)] [] h
  unfold f_X10_reign at hq
  obtain ⟨h0, eh0⟩ : ∃ h0 : HP, h = h0 := ⟨h, rfl⟩
  have e : h.1 = h0.1 := by rw [eh0]
  rw [eh0] at hF
  obtain ⟨g_x0, hq⟩ := gP_some hq
  obtain ⟨n_x0, f_x0⟩ := kO_some g_x0
  replace f_x0 := sh_of e.symm f_x0
  refine wp_aload_n (v := x0) ok dX10_reign_0 rfl ?_
  refine wp_iconst (v := 0) ok dX10_reign_1 (by decide) ?_
  refine wp_putI ok flw_RX10_3 (nr_10_0 _) (sh_of e f_x0) dX10_reign_2 ?_
  obtain ⟨h1, e2, hq⟩ := lt_some hq
  refine wp_nmH e2 ?_
  have e3 : h1.1 = h0.1 := (congrArg Prod.fst e2).trans e
  refine wp_iload_n (v := x1) ok dX10_reign_5 rfl ?_
  refine wp_i2l ok dX10_reign_6 ?_
  refine wp_lconst (v := 1) ok dX10_reign_7 (by decide) ?_
  refine wp_ldc2 (v := 8) ok (w_1477) dX10_reign_8 ?_
  obtain ⟨v4, e5, hq⟩ := bnd_some hq
  refine wp_callSI (As := [.long (x1.toInt64), .long 1, .long 8]) (rest := []) (h1 := h1) ok (m_X10_in e5 (Nat.le_refl _)) my_X10_in (w_1200) pd_X10_in (Nat.le_trans (by decide) hfr) rfl rfl rfl rfl dX10_reign_11 (fun e6 => ?_)
  refine wp_if_eq (tgt := 41) ok dX10_reign_14 (by decide) (fun c7 => ?_) (fun c7 => ?_)
  · have hq := ite_t c7 hq
    refine wp_iconst (v := -1) ok dX10_reign_41 (by decide) ?_
    exact wp_iret ok hF rfl e3 (re2I hq) dX10_reign_42
  · have hq := ite_f c7 hq
    refine wp_iload_n (v := x2) ok dX10_reign_17 rfl ?_
    refine wp_i2l ok dX10_reign_18 ?_
    refine wp_lconst (v := 1) ok dX10_reign_19 (by decide) ?_
    refine wp_ldc2 (v := 9) ok (w_1394) dX10_reign_20 ?_
    obtain ⟨v8, e9, hq⟩ := bnd_some hq
    refine wp_callSI (As := [.long (x2.toInt64), .long 1, .long 9]) (rest := []) (h1 := h1) ok (m_X10_in e9 (Nat.le_refl _)) my_X10_in (w_1200) pd_X10_in (Nat.le_trans (by decide) hfr) rfl rfl rfl rfl dX10_reign_23 (fun e10 => ?_)
    refine wp_if_eq (tgt := 41) ok dX10_reign_26 (by decide) (fun c11 => ?_) (fun c11 => ?_)
    · have hq := ite_t c11 hq
      refine wp_iconst (v := -1) ok dX10_reign_41 (by decide) ?_
      exact wp_iret ok hF rfl e3 (re2I hq) dX10_reign_42
    · have hq := ite_f c11 hq
      refine wp_iload_n (v := x3) ok dX10_reign_29 rfl ?_
      refine wp_i2l ok dX10_reign_30 ?_
      refine wp_lconst (v := 0) ok dX10_reign_31 (by decide) ?_
      refine wp_ldc2 (v := 99999) ok (w_1492) dX10_reign_32 ?_
      obtain ⟨v12, e13, hq⟩ := bnd_some hq
      refine wp_callSI (As := [.long (x3.toInt64), .long 0, .long 99999]) (rest := []) (h1 := h1) ok (m_X10_in e13 (Nat.le_refl _)) my_X10_in (w_1200) pd_X10_in (Nat.le_trans (by decide) hfr) rfl rfl rfl rfl dX10_reign_35 (fun e14 => ?_)
      refine wp_if_ne (tgt := 43) ok dX10_reign_38 (by decide) (fun c15 => ?_) (fun c15 => ?_)
      · have hq := ite_f c15 hq
        refine wp_iconst (v := -1) ok dX10_reign_43 (by decide) ?_
        refine wp_istore (L' := [(4, .int (-1)), (0, .ref x0), (1, .int x1), (2, .int x2), (3, .int x3)]) ok dX10_reign_44 rfl rfl ?_
        refine wp_iconst (v := -1) ok dX10_reign_46 (by decide) ?_
        refine wp_istore (L' := [(5, .int (-1)), (4, .int (-1)), (0, .ref x0), (1, .int x1), (2, .int x2), (3, .int x3)]) ok dX10_reign_47 rfl rfl ?_
        refine wp_iconst (v := 0) ok dX10_reign_49 (by decide) ?_
        refine wp_istore (L' := [(6, .int 0), (5, .int (-1)), (4, .int (-1)), (0, .ref x0), (1, .int x1), (2, .int x2), (3, .int x3)]) ok dX10_reign_50 rfl rfl ?_
        refine wp_sub (L' := [(4, .int (-1)), (5, .int (-1)), (6, .int 0), (0, .ref x0), (1, .int x1), (2, .int x2), (3, .int x3)]) [2, 1, 0, 3, 4, 5, 6] rfl ?_
        refine l_X10_reign_B52 ok hfr f_x0 hF ?_ N (-1) (-1) 0 h1 hq e3
        · intro x92 x93 h94 hq e95
          refine wp_iload (v := x92) ok dX10_reign_209 rfl ?_
          refine wp_if_ge (tgt := 217) ok dX10_reign_211 (by decide) (fun c96 => ?_) (fun c96 => ?_)
          · have hq := ite_t c96 hq
            refine wp_aload_n (v := x0) ok dX10_reign_217 rfl ?_
            refine wp_iconst (v := 0) ok dX10_reign_218 (by decide) ?_
            refine wp_putI ok flw_RX10_15 (nr_10_1 _) (sh_of e95 f_x0) dX10_reign_219 ?_
            obtain ⟨h97, e98, hq⟩ := lt_some hq
            refine wp_nmH e98 ?_
            have e99 : h97.1 = h0.1 := (congrArg Prod.fst e98).trans e95
            refine wp_aload_n (v := x0) ok dX10_reign_222 rfl ?_
            refine wp_iload (v := x92) ok dX10_reign_223 rfl ?_
            refine wp_i2l ok dX10_reign_225 ?_
            obtain ⟨h100, e101, hq⟩ := bnd_some hq
            refine wp_callVV (As := [.long (x92.toInt64)]) (rest := []) (h1 := h100) ok (m_X10_enters e101 (Nat.le_refl _)) my_X10_enters (w_1347) pd_X10_enters (Nat.le_trans (by decide) hfr) rfl (ci := 10) rfl (by decide) (sh_of e99 f_x0) rfl rfl rfl dX10_reign_226 (fun e102 => ?_)
            have e103 : h100.1 = h0.1 := (e102).trans e99
            refine wp_iload (v := x93) ok dX10_reign_229 rfl ?_
            exact wp_iret ok hF rfl e103 (re2I hq) dX10_reign_231
          · have hq := ite_f c96 hq
            refine wp_bipush (v := -2) ok dX10_reign_214 (by decide) ?_
            exact wp_iret ok hF rfl e95 (re2I hq) dX10_reign_216
      · have hq := ite_t c15 hq
        refine wp_iconst (v := -1) ok dX10_reign_41 (by decide) ?_
        exact wp_iret ok hF rfl e3 (re2I hq) dX10_reign_42
set_option maxHeartbeats 4000000 in
set_option maxRecDepth 100000 in
theorem s_X10_melts_B46 {x : Cx} {h0 : HP} {N fr : Nat} {rr : (Int32 × HP)} (ok : Okx x cX10_melts yX10_melts.cls 6 fr) (hfr : 5 ≤ fr)  {x0 : Nat} {x1 : Int32} {x2 : Int32} {x3 : Int32} {n_x0 : Nat} (f_x0 : h0.1[x0]? = some (10, n_x0)) (hF : Fend x h0 (some (.int)) (QI rr.1 rr.2)) {k74 : Int32 → Int32 → HP → Option (Int32 × HP)} (hk74 : ∀ (x4 : Int32) (x5 : Int32) (h : HP), k74 x4 x5 h = some rr → h.1 = h0.1 → wp x 74 [(4, .int x4), (5, .int x5), (0, .ref x0)] [] h) {rc : Int32 → HP → Option (Int32 × HP)} (ih : ∀ (x4 : Int32) (h : HP), rc x4 h = some rr → h.1 = h0.1 → wp x 46 [(4, .int x4), (0, .ref x0), (1, .int x1), (2, .int x2), (3, .int x3)] [] h) : ∀ (x4 : Int32) (h : HP), f_X10_melts_B46 N x0 x1 x2 x3 k74 rc x4 h = some rr → h.1 = h0.1 → wp x 46 [(4, .int x4), (0, .ref x0), (1, .int x1), (2, .int x2), (3, .int x3)] [] h := by
  intro x4 h hq e
  unfold f_X10_melts_B46 at hq
  refine wp_iload (v := x4) ok dX10_melts_46 rfl ?_
  refine wp_bipush (v := 99) ok dX10_melts_48 (by decide) ?_
  refine wp_icmp_gt (tgt := 103) ok dX10_melts_50 (by decide) (fun c20 => ?_) (fun c20 => ?_)
  · have hq := ite_t c20 hq
    refine wp_bipush (v := -2) ok dX10_melts_103 (by decide) ?_
    exact wp_iret ok hF rfl e (re2I hq) dX10_melts_105
  · have hq := ite_f c20 hq
    refine wp_iload_n (v := x2) ok dX10_melts_53 rfl ?_
    refine wp_aload_n (v := x0) ok dX10_melts_54 rfl ?_
    refine wp_aload_n (v := x0) ok dX10_melts_55 rfl ?_
    obtain ⟨t21, e22, hq⟩ := bnd_some hq
    obtain ⟨e23, n24, f25⟩ := rK_some e22
    replace f25 := sh_of (e).symm f25
    refine wp_getR ok fl_RX10_44 (sh_of e f_x0) e23 dX10_melts_56 ?_
    refine wp_iload_n (v := x1) ok dX10_melts_59 rfl ?_
    obtain ⟨v26, h28, e27, hq⟩ := bnd2_some hq
    refine wp_callVI (As := [.ref t21, .int x1]) (rest := [.int x2]) (h1 := h28) ok (m_X10_priceOf e27 (Nat.le_refl _)) my_X10_priceOf (w_1297) pd_X10_priceOf (Nat.le_trans (by decide) hfr) rfl (ci := 10) rfl (by decide) (sh_of e f_x0) rfl rfl rfl dX10_melts_60 (fun e29 => ?_)
    have e30 : h28.1 = h0.1 := (e29).trans e
    obtain ⟨v31, e32, hq⟩ := bnd_some hq
    refine wp_callSI (As := [.int x2, .int v26]) (rest := []) (h1 := h28) ok (m_X10_buysBy e32 (Nat.le_refl _)) my_X10_buysBy (w_1466) pd_X10_buysBy (Nat.le_trans (by decide) hfr) rfl rfl rfl rfl dX10_melts_63 (fun e33 => ?_)
    refine wp_istore (L' := [(5, .int v31), (4, .int x4), (0, .ref x0), (1, .int x1), (2, .int x2), (3, .int x3)]) ok dX10_melts_66 rfl rfl ?_
    refine wp_iload (v := v31) ok dX10_melts_68 rfl ?_
    refine wp_iload_n (v := x3) ok dX10_melts_70 rfl ?_
    refine wp_icmp_ge (tgt := 89) ok dX10_melts_71 (by decide) (fun c34 => ?_) (fun c34 => ?_)
    · have hq := ite_t c34 hq
      refine wp_aload_n (v := x0) ok dX10_melts_89 rfl ?_
      refine wp_aload_n (v := x0) ok dX10_melts_90 rfl ?_
      obtain ⟨t35, e36, hq⟩ := bnd_some hq
      obtain ⟨e37, n38, f39⟩ := rK_some e36
      replace f39 := sh_of (e30).symm f39
      refine wp_getR ok fl_RX10_44 (sh_of e30 f_x0) e37 dX10_melts_91 ?_
      obtain ⟨h40, e41, hq⟩ := bnd_some hq
      refine wp_callVV (As := [.ref t35]) (rest := []) (h1 := h40) ok (m_X10_monthGoes e41 (Nat.le_refl _)) my_X10_monthGoes (w_1343) pd_X10_monthGoes (Nat.le_trans (by decide) hfr) rfl (ci := 10) rfl (by decide) (sh_of e30 f_x0) rfl rfl rfl dX10_melts_94 (fun e42 => ?_)
      have e43 : h40.1 = h0.1 := (e42).trans e30
      obtain ⟨v44, e45, hq⟩ := lt_some hq
      refine wp_iinc (v := x4) (w := 1) (L' := [(4, .int v44), (5, .int v31), (0, .ref x0), (1, .int x1), (2, .int x2), (3, .int x3)]) ok dX10_melts_97 rfl (by decide) rfl (by rw [← e45]; rfl) ?_
      refine wp_goto (tgt := 46) ok dX10_melts_100 (by decide) ?_
      refine wp_sub (L' := [(4, .int v44), (0, .ref x0), (1, .int x1), (2, .int x2), (3, .int x3)]) [0, 2, 3, 4, 5] rfl ?_
      exact ih v44 h40 hq e43
    · have hq := ite_f c34 hq
      refine wp_sub (L' := [(4, .int x4), (5, .int v31), (0, .ref x0)]) [1, 0, 2] rfl ?_
      exact hk74 x4 v31 h28 hq e30
set_option maxHeartbeats 4000000 in
set_option maxRecDepth 100000 in
theorem l_X10_melts_B46 {x : Cx} {h0 : HP} {N fr : Nat} {rr : (Int32 × HP)} (ok : Okx x cX10_melts yX10_melts.cls 6 fr) (hfr : 5 ≤ fr)  {x0 : Nat} {x1 : Int32} {x2 : Int32} {x3 : Int32} {n_x0 : Nat} (f_x0 : h0.1[x0]? = some (10, n_x0)) (hF : Fend x h0 (some (.int)) (QI rr.1 rr.2)) {k74 : Int32 → Int32 → HP → Option (Int32 × HP)} (hk74 : ∀ (x4 : Int32) (x5 : Int32) (h : HP), k74 x4 x5 h = some rr → h.1 = h0.1 → wp x 74 [(4, .int x4), (5, .int x5), (0, .ref x0)] [] h) : ∀ (n : Nat) (x4 : Int32) (h : HP), lp (fun _ _ => none) (f_X10_melts_B46 N x0 x1 x2 x3 k74) n x4 h = some rr → h.1 = h0.1 → wp x 46 [(4, .int x4), (0, .ref x0), (1, .int x1), (2, .int x2), (3, .int x3)] [] h := by
  intro n
  induction n with
  | zero => intro x4 h hq e; exact (Option.some_ne_none _ hq.symm).elim
  | succ n ih => exact s_X10_melts_B46 ok hfr f_x0 hF hk74 ih
set_option maxHeartbeats 4000000 in
set_option maxRecDepth 100000 in
theorem m_X10_melts {l : Launch} {h : HP} {N : Nat} {x0 : Nat} {x1 : Int32} {x2 : Int32} {x3 : Int32} {rr : Int32} {rh : HP} {fr : Nat} (hq : f_X10_melts N h x0 x1 x2 x3 = some (rr, rh)) (hfr : 5 ≤ fr) : Mt l yX10_melts cX10_melts 6 (some (.int)) fr [.ref x0, .int x1, .int x2, .int x3] h (QI rr rh) := by
  obtain ⟨rp, ep⟩ : ∃ rp : (Int32 × HP), rp = (rr, rh) := ⟨_, rfl⟩
  have e1p : rr = rp.1 := (congrArg Prod.fst ep).symm
  have e2p : rh = rp.2 := (congrArg Prod.snd ep).symm
  rw [← ep] at hq
  rw [e1p, e2p]
  clear e1p e2p ep
  refine Mt.of (by decide +kernel) (Nat.le_of_ble_eq_true rfl) (fun x hl ok hF => ?_)
  subst hl
  show wp x 0 [(0, .ref x0), (1, .int x1), (2, .int x2), (3, .int x3)] [] h
  unfold f_X10_melts at hq
  obtain ⟨h0, eh0⟩ : ∃ h0 : HP, h = h0 := ⟨h, rfl⟩
  have e : h.1 = h0.1 := by rw [eh0]
  rw [eh0] at hF
  obtain ⟨g_x0, hq⟩ := gP_some hq
  obtain ⟨n_x0, f_x0⟩ := kO_some g_x0
  replace f_x0 := sh_of e.symm f_x0
  refine wp_aload_n (v := x0) ok dX10_melts_0 rfl ?_
  refine wp_iconst (v := 0) ok dX10_melts_1 (by decide) ?_
  refine wp_putI ok flw_RX10_3 (nr_10_0 _) (sh_of e f_x0) dX10_melts_2 ?_
  obtain ⟨h1, e2, hq⟩ := lt_some hq
  refine wp_nmH e2 ?_
  have e3 : h1.1 = h0.1 := (congrArg Prod.fst e2).trans e
  refine wp_aload_n (v := x0) ok dX10_melts_5 rfl ?_
  refine wp_iload_n (v := x1) ok dX10_melts_6 rfl ?_
  obtain ⟨v4, e5, hq⟩ := bnd_some hq
  refine wp_callVI (As := [.int x1]) (rest := []) (h1 := h1) ok (m_X10_isMarket e5 (Nat.le_refl _)) my_X10_isMarket (w_1288) pd_X10_isMarket (Nat.le_trans (by decide) hfr) rfl (ci := 10) rfl (by decide) (sh_of e3 f_x0) rfl rfl rfl dX10_melts_7 (fun e6 => ?_)
  refine wp_if_eq (tgt := 37) ok dX10_melts_10 (by decide) (fun c7 => ?_) (fun c7 => ?_)
  · have hq := ite_t c7 hq
    refine wp_iconst (v := -1) ok dX10_melts_37 (by decide) ?_
    exact wp_iret ok hF rfl e3 (re2I hq) dX10_melts_38
  · have hq := ite_f c7 hq
    refine wp_iload_n (v := x2) ok dX10_melts_13 rfl ?_
    refine wp_i2l ok dX10_melts_14 ?_
    refine wp_lconst (v := 0) ok dX10_melts_15 (by decide) ?_
    refine wp_ldc2 (v := 9999) ok (w_1365) dX10_melts_16 ?_
    obtain ⟨v8, e9, hq⟩ := bnd_some hq
    refine wp_callSI (As := [.long (x2.toInt64), .long 0, .long 9999]) (rest := []) (h1 := h1) ok (m_X10_in e9 (Nat.le_refl _)) my_X10_in (w_1200) pd_X10_in (Nat.le_trans (by decide) hfr) rfl rfl rfl rfl dX10_melts_19 (fun e10 => ?_)
    refine wp_if_eq (tgt := 37) ok dX10_melts_22 (by decide) (fun c11 => ?_) (fun c11 => ?_)
    · have hq := ite_t c11 hq
      refine wp_iconst (v := -1) ok dX10_melts_37 (by decide) ?_
      exact wp_iret ok hF rfl e3 (re2I hq) dX10_melts_38
    · have hq := ite_f c11 hq
      refine wp_iload_n (v := x3) ok dX10_melts_25 rfl ?_
      refine wp_i2l ok dX10_melts_26 ?_
      refine wp_lconst (v := 1) ok dX10_melts_27 (by decide) ?_
      refine wp_ldc2 (v := 99) ok (w_1437) dX10_melts_28 ?_
      obtain ⟨v12, e13, hq⟩ := bnd_some hq
      refine wp_callSI (As := [.long (x3.toInt64), .long 1, .long 99]) (rest := []) (h1 := h1) ok (m_X10_in e13 (Nat.le_refl _)) my_X10_in (w_1200) pd_X10_in (Nat.le_trans (by decide) hfr) rfl rfl rfl rfl dX10_melts_31 (fun e14 => ?_)
      refine wp_if_ne (tgt := 39) ok dX10_melts_34 (by decide) (fun c15 => ?_) (fun c15 => ?_)
      · have hq := ite_f c15 hq
        refine wp_aload_n (v := x0) ok dX10_melts_39 rfl ?_
        obtain ⟨h16, e17, hq⟩ := bnd_some hq
        refine wp_callVV (As := []) (rest := []) (h1 := h16) ok (m_X10_copies e17 (Nat.le_refl _)) my_X10_copies (w_1438) pd_X10_copies (Nat.le_trans (by decide) hfr) rfl (ci := 10) rfl (by decide) (sh_of e3 f_x0) rfl rfl rfl dX10_melts_40 (fun e18 => ?_)
        have e19 : h16.1 = h0.1 := (e18).trans e3
        refine wp_iconst (v := 0) ok dX10_melts_43 (by decide) ?_
        refine wp_istore (L' := [(4, .int 0), (0, .ref x0), (1, .int x1), (2, .int x2), (3, .int x3)]) ok dX10_melts_44 rfl rfl ?_
        refine wp_sub (L' := [(4, .int 0), (0, .ref x0), (1, .int x1), (2, .int x2), (3, .int x3)]) [0, 1, 2, 3, 4] rfl ?_
        refine l_X10_melts_B46 ok hfr f_x0 hF ?_ N 0 h16 hq e19
        · intro x46 x47 h48 hq e49
          refine wp_aload_n (v := x0) ok dX10_melts_74 rfl ?_
          refine wp_iconst (v := 0) ok dX10_melts_75 (by decide) ?_
          refine wp_putI ok flw_RX10_15 (nr_10_1 _) (sh_of e49 f_x0) dX10_melts_76 ?_
          obtain ⟨h50, e51, hq⟩ := lt_some hq
          refine wp_nmH e51 ?_
          have e52 : h50.1 = h0.1 := (congrArg Prod.fst e51).trans e49
          refine wp_aload_n (v := x0) ok dX10_melts_79 rfl ?_
          refine wp_iload (v := x47) ok dX10_melts_80 rfl ?_
          refine wp_i2l ok dX10_melts_82 ?_
          obtain ⟨h53, e54, hq⟩ := bnd_some hq
          refine wp_callVV (As := [.long (x47.toInt64)]) (rest := []) (h1 := h53) ok (m_X10_enters e54 (Nat.le_refl _)) my_X10_enters (w_1347) pd_X10_enters (Nat.le_trans (by decide) hfr) rfl (ci := 10) rfl (by decide) (sh_of e52 f_x0) rfl rfl rfl dX10_melts_83 (fun e55 => ?_)
          have e56 : h53.1 = h0.1 := (e55).trans e52
          refine wp_iload (v := x46) ok dX10_melts_86 rfl ?_
          exact wp_iret ok hF rfl e56 (re2I hq) dX10_melts_88
      · have hq := ite_t c15 hq
        refine wp_iconst (v := -1) ok dX10_melts_37 (by decide) ?_
        exact wp_iret ok hF rfl e3 (re2I hq) dX10_melts_38
set_option maxHeartbeats 4000000 in
set_option maxRecDepth 100000 in
theorem s_X10_when_B70 {x : Cx} {h0 : HP} {N fr : Nat} {rr : (Int32 × HP)} (ok : Okx x cX10_when yX10_when.cls 8 fr) (hfr : 5 ≤ fr)  {x0 : Nat} {x1 : Int32} {x2 : Int32} {x3 : Int32} {n_x0 : Nat} (f_x0 : h0.1[x0]? = some (10, n_x0)) (hF : Fend x h0 (some (.int)) (QI rr.1 rr.2)) {k130 : Int32 → Int32 → HP → Option (Int32 × HP)} (hk130 : ∀ (x4 : Int32) (x5 : Int32) (h : HP), k130 x4 x5 h = some rr → h.1 = h0.1 → wp x 130 [(4, .int x4), (5, .int x5), (0, .ref x0)] [] h) {rc : Int32 → Int32 → Int32 → HP → Option (Int32 × HP)} (ih : ∀ (x4 : Int32) (x5 : Int32) (x6 : Int32) (h : HP), rc x4 x5 x6 h = some rr → h.1 = h0.1 → wp x 70 [(4, .int x4), (5, .int x5), (6, .int x6), (0, .ref x0), (1, .int x1), (2, .int x2), (3, .int x3)] [] h) : ∀ (x4 : Int32) (x5 : Int32) (x6 : Int32) (h : HP), f_X10_when_B70 N x0 x1 x2 x3 k130 rc x4 x5 x6 h = some rr → h.1 = h0.1 → wp x 70 [(4, .int x4), (5, .int x5), (6, .int x6), (0, .ref x0), (1, .int x1), (2, .int x2), (3, .int x3)] [] h := by
  intro x4 x5 x6 h hq e
  unfold f_X10_when_B70 at hq
  refine wp_iload (v := x6) ok dX10_when_70 rfl ?_
  refine wp_iload_n (v := x2) ok dX10_when_72 rfl ?_
  refine wp_icmp_gt (tgt := 130) ok dX10_when_73 (by decide) (fun c36 => ?_) (fun c36 => ?_)
  · have hq := ite_t c36 hq
    refine wp_sub (L' := [(4, .int x4), (5, .int x5), (0, .ref x0)]) [0, 1, 3] rfl ?_
    exact hk130 x4 x5 h hq e
  · have hq := ite_f c36 hq
    refine wp_iload_n (v := x3) ok dX10_when_76 rfl ?_
    refine wp_aload_n (v := x0) ok dX10_when_77 rfl ?_
    refine wp_aload_n (v := x0) ok dX10_when_78 rfl ?_
    obtain ⟨t37, e38, hq⟩ := bnd_some hq
    obtain ⟨e39, n40, f41⟩ := rK_some e38
    replace f41 := sh_of (e).symm f41
    refine wp_getR ok fl_RX10_44 (sh_of e f_x0) e39 dX10_when_79 ?_
    refine wp_iload_n (v := x1) ok dX10_when_82 rfl ?_
    obtain ⟨v42, h44, e43, hq⟩ := bnd2_some hq
    refine wp_callVI (As := [.ref t37, .int x1]) (rest := [.int x3]) (h1 := h44) ok (m_X10_priceOf e43 (Nat.le_refl _)) my_X10_priceOf (w_1297) pd_X10_priceOf (Nat.le_trans (by decide) hfr) rfl (ci := 10) rfl (by decide) (sh_of e f_x0) rfl rfl rfl dX10_when_83 (fun e45 => ?_)
    have e46 : h44.1 = h0.1 := (e45).trans e
    obtain ⟨v47, e48, hq⟩ := bnd_some hq
    refine wp_callSI (As := [.int x3, .int v42]) (rest := []) (h1 := h44) ok (m_X10_buysBy e48 (Nat.le_refl _)) my_X10_buysBy (w_1466) pd_X10_buysBy (Nat.le_trans (by decide) hfr) rfl rfl rfl rfl dX10_when_86 (fun e49 => ?_)
    refine wp_istore (L' := [(7, .int v47), (4, .int x4), (5, .int x5), (6, .int x6), (0, .ref x0), (1, .int x1), (2, .int x2), (3, .int x3)]) ok dX10_when_89 rfl rfl ?_
    refine wp_iload (v := v47) ok dX10_when_91 rfl ?_
    refine wp_iload (v := x5) ok dX10_when_93 rfl ?_
    obtain ⟨k50, ek50, hq⟩ := jn1_some hq
    have kk50 : ∀ (y51 : Int32), k50 y51 = some rr → wp x 105 [(7, .int v47), (5, .int x5), (6, .int x6), (0, .ref x0), (1, .int x1), (2, .int x2), (3, .int x3)] [.int y51] h44 := by
      intro y51 hq
      have hq := (ek50 y51).symm.trans hq
      refine wp_istore (L' := [(4, .int y51), (7, .int v47), (5, .int x5), (6, .int x6), (0, .ref x0), (1, .int x1), (2, .int x2), (3, .int x3)]) ok dX10_when_105 rfl rfl ?_
      refine wp_iload (v := x5) ok dX10_when_107 rfl ?_
      refine wp_iload (v := v47) ok dX10_when_109 rfl ?_
      obtain ⟨v52, e53, hq⟩ := bnd_some hq
      refine wp_callSI (As := [.int x5, .int v47]) (rest := []) (h1 := h44) ok (m_J9_max_7cf53 e53 (Nat.le_refl _)) my_J9_max_7cf53 (w_1316) pd_J9_max_7cf53 (Nat.le_trans (by decide) hfr) rfl rfl rfl rfl dX10_when_111 (fun e54 => ?_)
      refine wp_istore (L' := [(5, .int v52), (4, .int y51), (7, .int v47), (6, .int x6), (0, .ref x0), (1, .int x1), (2, .int x2), (3, .int x3)]) ok dX10_when_114 rfl rfl ?_
      refine wp_aload_n (v := x0) ok dX10_when_116 rfl ?_
      refine wp_aload_n (v := x0) ok dX10_when_117 rfl ?_
      obtain ⟨t55, e56, hq⟩ := bnd_some hq
      obtain ⟨e57, n58, f59⟩ := rK_some e56
      replace f59 := sh_of (e46).symm f59
      refine wp_getR ok fl_RX10_44 (sh_of e46 f_x0) e57 dX10_when_118 ?_
      obtain ⟨h60, e61, hq⟩ := bnd_some hq
      refine wp_callVV (As := [.ref t55]) (rest := []) (h1 := h60) ok (m_X10_monthGoes e61 (Nat.le_refl _)) my_X10_monthGoes (w_1343) pd_X10_monthGoes (Nat.le_trans (by decide) hfr) rfl (ci := 10) rfl (by decide) (sh_of e46 f_x0) rfl rfl rfl dX10_when_121 (fun e62 => ?_)
      have e63 : h60.1 = h0.1 := (e62).trans e46
      obtain ⟨v64, e65, hq⟩ := lt_some hq
      refine wp_iinc (v := x6) (w := 1) (L' := [(6, .int v64), (5, .int v52), (4, .int y51), (7, .int v47), (0, .ref x0), (1, .int x1), (2, .int x2), (3, .int x3)]) ok dX10_when_124 rfl (by decide) rfl (by rw [← e65]; rfl) ?_
      refine wp_goto (tgt := 70) ok dX10_when_127 (by decide) ?_
      refine wp_sub (L' := [(4, .int y51), (5, .int v52), (6, .int v64), (0, .ref x0), (1, .int x1), (2, .int x2), (3, .int x3)]) [2, 1, 0, 4, 5, 6, 7] rfl ?_
      exact ih y51 v52 v64 h60 hq e63
    refine wp_icmp_le (tgt := 103) ok dX10_when_95 (by decide) (fun c66 => ?_) (fun c66 => ?_)
    · have hq := ite_t c66 hq
      refine wp_iload (v := x4) ok dX10_when_103 rfl ?_
      refine wp_sub (L' := [(7, .int v47), (5, .int x5), (6, .int x6), (0, .ref x0), (1, .int x1), (2, .int x2), (3, .int x3)]) [0, 2, 3, 4, 5, 6, 7] rfl ?_
      exact kk50 x4 hq
    · have hq := ite_f c66 hq
      refine wp_iload (v := x6) ok dX10_when_98 rfl ?_
      refine wp_goto (tgt := 105) ok dX10_when_100 (by decide) ?_
      refine wp_sub (L' := [(7, .int v47), (5, .int x5), (6, .int x6), (0, .ref x0), (1, .int x1), (2, .int x2), (3, .int x3)]) [0, 2, 3, 4, 5, 6, 7] rfl ?_
      exact kk50 x6 hq
set_option maxHeartbeats 4000000 in
set_option maxRecDepth 100000 in
theorem l_X10_when_B70 {x : Cx} {h0 : HP} {N fr : Nat} {rr : (Int32 × HP)} (ok : Okx x cX10_when yX10_when.cls 8 fr) (hfr : 5 ≤ fr)  {x0 : Nat} {x1 : Int32} {x2 : Int32} {x3 : Int32} {n_x0 : Nat} (f_x0 : h0.1[x0]? = some (10, n_x0)) (hF : Fend x h0 (some (.int)) (QI rr.1 rr.2)) {k130 : Int32 → Int32 → HP → Option (Int32 × HP)} (hk130 : ∀ (x4 : Int32) (x5 : Int32) (h : HP), k130 x4 x5 h = some rr → h.1 = h0.1 → wp x 130 [(4, .int x4), (5, .int x5), (0, .ref x0)] [] h) : ∀ (n : Nat) (x4 : Int32) (x5 : Int32) (x6 : Int32) (h : HP), lp (fun _ _ _ _ => none) (f_X10_when_B70 N x0 x1 x2 x3 k130) n x4 x5 x6 h = some rr → h.1 = h0.1 → wp x 70 [(4, .int x4), (5, .int x5), (6, .int x6), (0, .ref x0), (1, .int x1), (2, .int x2), (3, .int x3)] [] h := by
  intro n
  induction n with
  | zero => intro x4 x5 x6 h hq e; exact (Option.some_ne_none _ hq.symm).elim
  | succ n ih => exact s_X10_when_B70 ok hfr f_x0 hF hk130 ih
set_option maxHeartbeats 4000000 in
set_option maxRecDepth 100000 in
theorem m_X10_when {l : Launch} {h : HP} {N : Nat} {x0 : Nat} {x1 : Int32} {x2 : Int32} {rr : Int32} {rh : HP} {fr : Nat} (hq : f_X10_when N h x0 x1 x2 = some (rr, rh)) (hfr : 5 ≤ fr) : Mt l yX10_when cX10_when 8 (some (.int)) fr [.ref x0, .int x1, .int x2] h (QI rr rh) := by
  obtain ⟨rp, ep⟩ : ∃ rp : (Int32 × HP), rp = (rr, rh) := ⟨_, rfl⟩
  have e1p : rr = rp.1 := (congrArg Prod.fst ep).symm
  have e2p : rh = rp.2 := (congrArg Prod.snd ep).symm
  rw [← ep] at hq
  rw [e1p, e2p]
  clear e1p e2p ep
  refine Mt.of (by decide +kernel) (Nat.le_of_ble_eq_true rfl) (fun x hl ok hF => ?_)
  subst hl
  show wp x 0 [(0, .ref x0), (1, .int x1), (2, .int x2)] [] h
  unfold f_X10_when at hq
  obtain ⟨h0, eh0⟩ : ∃ h0 : HP, h = h0 := ⟨h, rfl⟩
  have e : h.1 = h0.1 := by rw [eh0]
  rw [eh0] at hF
  obtain ⟨g_x0, hq⟩ := gP_some hq
  obtain ⟨n_x0, f_x0⟩ := kO_some g_x0
  replace f_x0 := sh_of e.symm f_x0
  refine wp_aload_n (v := x0) ok dX10_when_0 rfl ?_
  refine wp_iconst (v := 0) ok dX10_when_1 (by decide) ?_
  refine wp_putI ok flw_RX10_3 (nr_10_0 _) (sh_of e f_x0) dX10_when_2 ?_
  obtain ⟨h1, e2, hq⟩ := lt_some hq
  refine wp_nmH e2 ?_
  have e3 : h1.1 = h0.1 := (congrArg Prod.fst e2).trans e
  refine wp_aload_n (v := x0) ok dX10_when_5 rfl ?_
  refine wp_iload_n (v := x1) ok dX10_when_6 rfl ?_
  obtain ⟨v4, e5, hq⟩ := bnd_some hq
  refine wp_callVI (As := [.int x1]) (rest := []) (h1 := h1) ok (m_X10_isMarket e5 (Nat.le_refl _)) my_X10_isMarket (w_1288) pd_X10_isMarket (Nat.le_trans (by decide) hfr) rfl (ci := 10) rfl (by decide) (sh_of e3 f_x0) rfl rfl rfl dX10_when_7 (fun e6 => ?_)
  refine wp_if_eq (tgt := 25) ok dX10_when_10 (by decide) (fun c7 => ?_) (fun c7 => ?_)
  · have hq := ite_t c7 hq
    refine wp_iconst (v := -1) ok dX10_when_25 (by decide) ?_
    exact wp_iret ok hF rfl e3 (re2I hq) dX10_when_26
  · have hq := ite_f c7 hq
    refine wp_iload_n (v := x2) ok dX10_when_13 rfl ?_
    refine wp_i2l ok dX10_when_14 ?_
    refine wp_lconst (v := 0) ok dX10_when_15 (by decide) ?_
    refine wp_ldc2 (v := 60) ok (w_1334) dX10_when_16 ?_
    obtain ⟨v8, e9, hq⟩ := bnd_some hq
    refine wp_callSI (As := [.long (x2.toInt64), .long 0, .long 60]) (rest := []) (h1 := h1) ok (m_X10_in e9 (Nat.le_refl _)) my_X10_in (w_1200) pd_X10_in (Nat.le_trans (by decide) hfr) rfl rfl rfl rfl dX10_when_19 (fun e10 => ?_)
    refine wp_if_ne (tgt := 27) ok dX10_when_22 (by decide) (fun c11 => ?_) (fun c11 => ?_)
    · have hq := ite_f c11 hq
      refine wp_iconst (v := 2) ok dX10_when_27 (by decide) ?_
      refine wp_aload_n (v := x0) ok dX10_when_28 rfl ?_
      obtain ⟨t12, e13, hq⟩ := bnd_some hq
      obtain ⟨e14, n15, f16⟩ := rK_some e13
      replace f16 := sh_of (e3).symm f16
      refine wp_getR ok fl_RX10_41 (sh_of e3 f_x0) e14 dX10_when_29 ?_
      refine wp_bipush (v := 12) ok dX10_when_32 (by decide) ?_
      refine wp_iconst (v := 0) ok dX10_when_34 (by decide) ?_
      refine wp_iload_n (v := x1) ok dX10_when_35 rfl ?_
      obtain ⟨v17, e18, hq⟩ := bnd_some hq
      refine wp_callSI (As := [.int 0, .int x1]) (rest := [.int 12, .ref t12, .int 2]) (h1 := h1) ok (m_X10_at e18 (Nat.le_refl _)) my_X10_at (w_1301) pd_X10_at (Nat.le_trans (by decide) hfr) rfl rfl rfl rfl dX10_when_36 (fun e19 => ?_)
      refine wp_iadd ok dX10_when_39 ?_
      obtain ⟨g20, hq⟩ := gP_some hq
      refine wp_iald ok (sh_of e3 f16) (ix_of (sh_of e3 f16) g20) dX10_when_40 ?_
      refine wp_imul ok dX10_when_41 ?_
      refine wp_aload_n (v := x0) ok dX10_when_42 rfl ?_
      obtain ⟨t21, e22, hq⟩ := bnd_some hq
      obtain ⟨e23, n24, f25⟩ := rK_some e22
      replace f25 := sh_of (e3).symm f25
      refine wp_getR ok fl_RX10_41 (sh_of e3 f_x0) e23 dX10_when_43 ?_
      refine wp_bipush (v := 12) ok dX10_when_46 (by decide) ?_
      refine wp_iconst (v := 1) ok dX10_when_48 (by decide) ?_
      refine wp_iload_n (v := x1) ok dX10_when_49 rfl ?_
      obtain ⟨v26, e27, hq⟩ := bnd_some hq
      refine wp_callSI (As := [.int 1, .int x1]) (rest := [.int 12, .ref t21, .int (2 * (h1.2.1 t12 (12 + v17).toNatClampNeg))]) (h1 := h1) ok (m_X10_at e27 (Nat.le_refl _)) my_X10_at (w_1301) pd_X10_at (Nat.le_trans (by decide) hfr) rfl rfl rfl rfl dX10_when_50 (fun e28 => ?_)
      refine wp_iadd ok dX10_when_53 ?_
      obtain ⟨g29, hq⟩ := gP_some hq
      refine wp_iald ok (sh_of e3 f25) (ix_of (sh_of e3 f25) g29) dX10_when_54 ?_
      refine wp_iadd ok dX10_when_55 ?_
      obtain ⟨v30, e31, hq⟩ := lt_some hq
      refine wp_nmI e31 ?_
      refine wp_istore_n (L' := [(3, .int v30), (0, .ref x0), (1, .int x1), (2, .int x2)]) ok dX10_when_56 rfl rfl ?_
      refine wp_iconst (v := 0) ok dX10_when_57 (by decide) ?_
      refine wp_istore (L' := [(4, .int 0), (3, .int v30), (0, .ref x0), (1, .int x1), (2, .int x2)]) ok dX10_when_58 rfl rfl ?_
      refine wp_iconst (v := -1) ok dX10_when_60 (by decide) ?_
      refine wp_istore (L' := [(5, .int (-1)), (4, .int 0), (3, .int v30), (0, .ref x0), (1, .int x1), (2, .int x2)]) ok dX10_when_61 rfl rfl ?_
      refine wp_aload_n (v := x0) ok dX10_when_63 rfl ?_
      obtain ⟨h32, e33, hq⟩ := bnd_some hq
      refine wp_callVV (As := []) (rest := []) (h1 := h32) ok (m_X10_copies e33 (Nat.le_refl _)) my_X10_copies (w_1438) pd_X10_copies (Nat.le_trans (by decide) hfr) rfl (ci := 10) rfl (by decide) (sh_of e3 f_x0) rfl rfl rfl dX10_when_64 (fun e34 => ?_)
      have e35 : h32.1 = h0.1 := (e34).trans e3
      refine wp_iconst (v := 0) ok dX10_when_67 (by decide) ?_
      refine wp_istore (L' := [(6, .int 0), (5, .int (-1)), (4, .int 0), (3, .int v30), (0, .ref x0), (1, .int x1), (2, .int x2)]) ok dX10_when_68 rfl rfl ?_
      refine wp_sub (L' := [(4, .int 0), (5, .int (-1)), (6, .int 0), (0, .ref x0), (1, .int x1), (2, .int x2), (3, .int v30)]) [2, 1, 0, 4, 5, 6, 3] rfl ?_
      refine l_X10_when_B70 ok hfr f_x0 hF ?_ N 0 (-1) 0 h32 hq e35
      · intro x67 x68 h69 hq e70
        refine wp_aload_n (v := x0) ok dX10_when_130 rfl ?_
        refine wp_iconst (v := 0) ok dX10_when_131 (by decide) ?_
        refine wp_putI ok flw_RX10_15 (nr_10_1 _) (sh_of e70 f_x0) dX10_when_132 ?_
        obtain ⟨h71, e72, hq⟩ := lt_some hq
        refine wp_nmH e72 ?_
        have e73 : h71.1 = h0.1 := (congrArg Prod.fst e72).trans e70
        refine wp_aload_n (v := x0) ok dX10_when_135 rfl ?_
        refine wp_iload (v := x68) ok dX10_when_136 rfl ?_
        refine wp_i2l ok dX10_when_138 ?_
        obtain ⟨h74, e75, hq⟩ := bnd_some hq
        refine wp_callVV (As := [.long (x68.toInt64)]) (rest := []) (h1 := h74) ok (m_X10_enters e75 (Nat.le_refl _)) my_X10_enters (w_1347) pd_X10_enters (Nat.le_trans (by decide) hfr) rfl (ci := 10) rfl (by decide) (sh_of e73 f_x0) rfl rfl rfl dX10_when_139 (fun e76 => ?_)
        have e77 : h74.1 = h0.1 := (e76).trans e73
        refine wp_iload (v := x67) ok dX10_when_142 rfl ?_
        exact wp_iret ok hF rfl e77 (re2I hq) dX10_when_144
    · have hq := ite_t c11 hq
      refine wp_iconst (v := -1) ok dX10_when_25 (by decide) ?_
      exact wp_iret ok hF rfl e3 (re2I hq) dX10_when_26
set_option maxHeartbeats 4000000 in
set_option maxRecDepth 100000 in
theorem s_X10_rises_B39 {x : Cx} {h0 : HP} {N fr : Nat} {rr : (Int32 × HP)} (ok : Okx x cX10_rises yX10_rises.cls 5 fr) (hfr : 5 ≤ fr)  {x0 : Nat} {n_x0 : Nat} (f_x0 : h0.1[x0]? = some (10, n_x0)) (hF : Fend x h0 (some (.int)) (QI rr.1 rr.2)) {k122 : Int32 → Int32 → HP → Option (Int32 × HP)} (hk122 : ∀ (x2 : Int32) (x3 : Int32) (h : HP), k122 x2 x3 h = some rr → h.1 = h0.1 → wp x 122 [(2, .int x2), (3, .int x3), (0, .ref x0)] [] h) {rc : Int32 → Int32 → Int32 → HP → Option (Int32 × HP)} (ih : ∀ (x2 : Int32) (x3 : Int32) (x4 : Int32) (h : HP), rc x2 x3 x4 h = some rr → h.1 = h0.1 → wp x 39 [(2, .int x2), (3, .int x3), (4, .int x4), (0, .ref x0)] [] h) : ∀ (x2 : Int32) (x3 : Int32) (x4 : Int32) (h : HP), f_X10_rises_B39 N x0 k122 rc x2 x3 x4 h = some rr → h.1 = h0.1 → wp x 39 [(2, .int x2), (3, .int x3), (4, .int x4), (0, .ref x0)] [] h := by
  intro x2 x3 x4 h hq e
  unfold f_X10_rises_B39 at hq
  refine wp_iload (v := x4) ok dX10_rises_39 rfl ?_
  refine wp_aload_n (v := x0) ok dX10_rises_41 rfl ?_
  refine wp_getI ok fl_RX10_120 (sh_of e f_x0) dX10_rises_42 ?_
  refine wp_icmp_ge (tgt := 122) ok dX10_rises_45 (by decide) (fun c21 => ?_) (fun c21 => ?_)
  · have hq := ite_t c21 hq
    refine wp_sub (L' := [(2, .int x2), (3, .int x3), (0, .ref x0)]) [0, 1, 3] rfl ?_
    exact hk122 x2 x3 h hq e
  · have hq := ite_f c21 hq
    refine wp_iload_n (v := x2) ok dX10_rises_48 rfl ?_
    refine wp_aload_n (v := x0) ok dX10_rises_49 rfl ?_
    refine wp_aload_n (v := x0) ok dX10_rises_50 rfl ?_
    obtain ⟨t22, e23, hq⟩ := bnd_some hq
    obtain ⟨e24, n25, f26⟩ := rK_some e23
    replace f26 := sh_of (e).symm f26
    refine wp_getR ok fl_RX10_44 (sh_of e f_x0) e24 dX10_rises_51 ?_
    refine wp_iload (v := x4) ok dX10_rises_54 rfl ?_
    obtain ⟨v27, h29, e28, hq⟩ := bnd2_some hq
    refine wp_callVI (As := [.ref t22, .int x4]) (rest := [.int x2]) (h1 := h29) ok (m_X10_priceOf e28 (Nat.le_refl _)) my_X10_priceOf (w_1297) pd_X10_priceOf (Nat.le_trans (by decide) hfr) rfl (ci := 10) rfl (by decide) (sh_of e f_x0) rfl rfl rfl dX10_rises_56 (fun e30 => ?_)
    have e31 : h29.1 = h0.1 := (e30).trans e
    refine wp_aload_n (v := x0) ok dX10_rises_59 rfl ?_
    refine wp_aload_n (v := x0) ok dX10_rises_60 rfl ?_
    obtain ⟨t32, e33, hq⟩ := bnd_some hq
    obtain ⟨e34, n35, f36⟩ := rK_some e33
    replace f36 := sh_of (e31).symm f36
    refine wp_getR ok fl_RX10_41 (sh_of e31 f_x0) e34 dX10_rises_61 ?_
    refine wp_iload (v := x4) ok dX10_rises_64 rfl ?_
    obtain ⟨v37, h39, e38, hq⟩ := bnd2_some hq
    refine wp_callVI (As := [.ref t32, .int x4]) (rest := [.int v27, .int x2]) (h1 := h39) ok (m_X10_priceOf e38 (Nat.le_refl _)) my_X10_priceOf (w_1297) pd_X10_priceOf (Nat.le_trans (by decide) hfr) rfl (ci := 10) rfl (by decide) (sh_of e31 f_x0) rfl rfl rfl dX10_rises_66 (fun e40 => ?_)
    have e41 : h39.1 = h0.1 := (e40).trans e31
    obtain ⟨k42, ek42, hq⟩ := jn1_some hq
    have kk42 : ∀ (y43 : Int32), k42 y43 = some rr → wp x 80 [(3, .int x3), (4, .int x4), (0, .ref x0)] [.int y43, .int x2] h39 := by
      intro y43 hq
      have hq := (ek42 y43).symm.trans hq
      refine wp_ior ok dX10_rises_80 ?_
      obtain ⟨v44, e45, hq⟩ := lt_some hq
      refine wp_nmI e45 ?_
      refine wp_istore_n (L' := [(2, .int v44), (3, .int x3), (4, .int x4), (0, .ref x0)]) ok dX10_rises_81 rfl rfl ?_
      refine wp_iload_n (v := x3) ok dX10_rises_82 rfl ?_
      refine wp_aload_n (v := x0) ok dX10_rises_83 rfl ?_
      refine wp_aload_n (v := x0) ok dX10_rises_84 rfl ?_
      obtain ⟨t46, e47, hq⟩ := bnd_some hq
      obtain ⟨e48, n49, f50⟩ := rK_some e47
      replace f50 := sh_of (e41).symm f50
      refine wp_getR ok fl_RX10_44 (sh_of e41 f_x0) e48 dX10_rises_85 ?_
      refine wp_iload (v := x4) ok dX10_rises_88 rfl ?_
      obtain ⟨v51, h53, e52, hq⟩ := bnd2_some hq
      refine wp_callVI (As := [.ref t46, .int x4]) (rest := [.int x3]) (h1 := h53) ok (m_X10_priceOf e52 (Nat.le_refl _)) my_X10_priceOf (w_1297) pd_X10_priceOf (Nat.le_trans (by decide) hfr) rfl (ci := 10) rfl (by decide) (sh_of e41 f_x0) rfl rfl rfl dX10_rises_90 (fun e54 => ?_)
      have e55 : h53.1 = h0.1 := (e54).trans e41
      refine wp_aload_n (v := x0) ok dX10_rises_93 rfl ?_
      refine wp_aload_n (v := x0) ok dX10_rises_94 rfl ?_
      obtain ⟨t56, e57, hq⟩ := bnd_some hq
      obtain ⟨e58, n59, f60⟩ := rK_some e57
      replace f60 := sh_of (e55).symm f60
      refine wp_getR ok fl_RX10_41 (sh_of e55 f_x0) e58 dX10_rises_95 ?_
      refine wp_iload (v := x4) ok dX10_rises_98 rfl ?_
      obtain ⟨v61, h63, e62, hq⟩ := bnd2_some hq
      refine wp_callVI (As := [.ref t56, .int x4]) (rest := [.int v51, .int x3]) (h1 := h63) ok (m_X10_priceOf e62 (Nat.le_refl _)) my_X10_priceOf (w_1297) pd_X10_priceOf (Nat.le_trans (by decide) hfr) rfl (ci := 10) rfl (by decide) (sh_of e55 f_x0) rfl rfl rfl dX10_rises_100 (fun e64 => ?_)
      have e65 : h63.1 = h0.1 := (e64).trans e55
      refine wp_icmp_ge (tgt := 113) ok dX10_rises_103 (by decide) (fun c66 => ?_) (fun c66 => ?_)
      · have hq := ite_t c66 hq
        refine wp_iconst (v := 0) ok dX10_rises_113 (by decide) ?_
        refine wp_ior ok dX10_rises_114 ?_
        obtain ⟨v67, e68, hq⟩ := lt_some hq
        refine wp_nmI e68 ?_
        refine wp_istore_n (L' := [(3, .int v67), (2, .int v44), (4, .int x4), (0, .ref x0)]) ok dX10_rises_115 rfl rfl ?_
        obtain ⟨v69, e70, hq⟩ := lt_some hq
        refine wp_iinc (v := x4) (w := 1) (L' := [(4, .int v69), (3, .int v67), (2, .int v44), (0, .ref x0)]) ok dX10_rises_116 rfl (by decide) rfl (by rw [← e70]; rfl) ?_
        refine wp_goto (tgt := 39) ok dX10_rises_119 (by decide) ?_
        refine wp_sub (L' := [(2, .int v44), (3, .int v67), (4, .int v69), (0, .ref x0)]) [2, 1, 0, 3] rfl ?_
        exact ih v44 v67 v69 h63 hq e65
      · have hq := ite_f c66 hq
        refine wp_iconst (v := 1) ok dX10_rises_106 (by decide) ?_
        refine wp_iload (v := x4) ok dX10_rises_107 rfl ?_
        refine wp_ishl ok dX10_rises_109 ?_
        refine wp_goto (tgt := 114) ok dX10_rises_110 (by decide) ?_
        refine wp_ior ok dX10_rises_114 ?_
        obtain ⟨v71, e72, hq⟩ := lt_some hq
        refine wp_nmI e72 ?_
        refine wp_istore_n (L' := [(3, .int v71), (2, .int v44), (4, .int x4), (0, .ref x0)]) ok dX10_rises_115 rfl rfl ?_
        obtain ⟨v73, e74, hq⟩ := lt_some hq
        refine wp_iinc (v := x4) (w := 1) (L' := [(4, .int v73), (3, .int v71), (2, .int v44), (0, .ref x0)]) ok dX10_rises_116 rfl (by decide) rfl (by rw [← e74]; rfl) ?_
        refine wp_goto (tgt := 39) ok dX10_rises_119 (by decide) ?_
        refine wp_sub (L' := [(2, .int v44), (3, .int v71), (4, .int v73), (0, .ref x0)]) [2, 1, 0, 3] rfl ?_
        exact ih v44 v71 v73 h63 hq e65
    refine wp_icmp_le (tgt := 79) ok dX10_rises_69 (by decide) (fun c75 => ?_) (fun c75 => ?_)
    · have hq := ite_t c75 hq
      refine wp_iconst (v := 0) ok dX10_rises_79 (by decide) ?_
      refine wp_sub (L' := [(3, .int x3), (4, .int x4), (0, .ref x0)]) [1, 2, 3] rfl ?_
      exact kk42 0 hq
    · have hq := ite_f c75 hq
      refine wp_iconst (v := 1) ok dX10_rises_72 (by decide) ?_
      refine wp_iload (v := x4) ok dX10_rises_73 rfl ?_
      refine wp_ishl ok dX10_rises_75 ?_
      refine wp_goto (tgt := 80) ok dX10_rises_76 (by decide) ?_
      refine wp_sub (L' := [(3, .int x3), (4, .int x4), (0, .ref x0)]) [1, 2, 3] rfl ?_
      exact kk42 (shl 1 x4) hq
set_option maxHeartbeats 4000000 in
set_option maxRecDepth 100000 in
theorem l_X10_rises_B39 {x : Cx} {h0 : HP} {N fr : Nat} {rr : (Int32 × HP)} (ok : Okx x cX10_rises yX10_rises.cls 5 fr) (hfr : 5 ≤ fr)  {x0 : Nat} {n_x0 : Nat} (f_x0 : h0.1[x0]? = some (10, n_x0)) (hF : Fend x h0 (some (.int)) (QI rr.1 rr.2)) {k122 : Int32 → Int32 → HP → Option (Int32 × HP)} (hk122 : ∀ (x2 : Int32) (x3 : Int32) (h : HP), k122 x2 x3 h = some rr → h.1 = h0.1 → wp x 122 [(2, .int x2), (3, .int x3), (0, .ref x0)] [] h) : ∀ (n : Nat) (x2 : Int32) (x3 : Int32) (x4 : Int32) (h : HP), lp (fun _ _ _ _ => none) (f_X10_rises_B39 N x0 k122) n x2 x3 x4 h = some rr → h.1 = h0.1 → wp x 39 [(2, .int x2), (3, .int x3), (4, .int x4), (0, .ref x0)] [] h := by
  intro n
  induction n with
  | zero => intro x2 x3 x4 h hq e; exact (Option.some_ne_none _ hq.symm).elim
  | succ n ih => exact s_X10_rises_B39 ok hfr f_x0 hF hk122 ih
