/-! ===== walks ===== -/
set_option maxHeartbeats 4000000 in
set_option maxRecDepth 100000 in
theorem l_X10_sumOf_B5 {x : Cx} {h : HP} {N fr : Nat} {rr : Int32} (ok : Okx x cX10_sumOf yX10_sumOf.cls 5 fr) (hfr : 0 ≤ fr)  {x0 : Nat} {x1 : Nat} {x2 : Int32} {n_x0 : Nat} (f_x0 : h.1[x0]? = some (10, n_x0)) {n_x1 : Nat} (f_x1 : h.1[x1]? = some (102, n_x1)) (hF : Fend x h (some (.int)) (QI rr h)) : ∀ (n : Nat) (x3 : Int32) (x4 : Int32), lp (fun _ _ => none) (f_X10_sumOf_B5 N x0 x1 x2 h) n x3 x4 = some rr → wp x 5 [(3, .int x3), (4, .int x4), (0, .ref x0), (1, .ref x1), (2, .int x2)] [] h := by
  intro n
  induction n with
  | zero => intro x3 x4 hq; exact (Option.some_ne_none _ hq.symm).elim
  | succ n ih => exact s_X10_sumOf_B5 ok hfr f_x0 f_x1 hF  ih
set_option maxHeartbeats 4000000 in
set_option maxRecDepth 100000 in
theorem m_X10_sumOf {l : Launch} {h : HP} {N : Nat} {x0 : Nat} {x1 : Nat} {x2 : Int32} {rr : Int32} {fr : Nat} (hq : f_X10_sumOf N h x0 x1 x2 = some rr) (hfr : 0 ≤ fr) : Mt l yX10_sumOf cX10_sumOf 5 (some (.int)) fr [.ref x0, .ref x1, .int x2] h (QI rr h) := by
  refine Mt.of (by decide +kernel) (Nat.le_of_ble_eq_true rfl) (fun x hl ok hF => ?_)
  subst hl
  show wp x 0 [(0, .ref x0), (1, .ref x1), (2, .int x2)] [] h
  unfold f_X10_sumOf at hq
  obtain ⟨g_x0, hq⟩ := gP_some hq
  obtain ⟨n_x0, f_x0⟩ := kO_some g_x0
  obtain ⟨g_x1, hq⟩ := gP_some hq
  obtain ⟨n_x1, f_x1⟩ := kO_some g_x1
  refine wp_iconst (v := 0) ok dX10_sumOf_0 (by decide) ?_
  refine wp_istore_n (L' := [(3, .int 0), (0, .ref x0), (1, .ref x1), (2, .int x2)]) ok dX10_sumOf_1 rfl rfl ?_
  refine wp_iconst (v := 0) ok dX10_sumOf_2 (by decide) ?_
  refine wp_istore (L' := [(4, .int 0), (3, .int 0), (0, .ref x0), (1, .ref x1), (2, .int x2)]) ok dX10_sumOf_3 rfl rfl ?_
  refine wp_sub (L' := [(3, .int 0), (4, .int 0), (0, .ref x0), (1, .ref x1), (2, .int x2)]) [1, 0, 2, 3, 4] rfl ?_
  refine l_X10_sumOf_B5 ok hfr f_x0 f_x1 hF  N 0 0 hq
set_option maxHeartbeats 4000000 in
set_option maxRecDepth 100000 in
theorem s_X10_sign_B18 {x : Cx} {h0 : HP} {N fr : Nat} {rr : (Int32 × HP)} (ok : Okx x cX10_sign yX10_sign.cls 3 fr) (hfr : 0 ≤ fr)  {x0 : Nat} {x1 : Int32} {n_x0 : Nat} (f_x0 : h0.1[x0]? = some (10, n_x0)) (hF : Fend x h0 (some (.int)) (QI rr.1 rr.2)) {k53 : HP → Option (Int32 × HP)} (hk53 : ∀ (h : HP), k53 h = some rr → h.1 = h0.1 → wp x 53 [(0, .ref x0)] [] h) {rc : Int32 → HP → Option (Int32 × HP)} (ih : ∀ (x2 : Int32) (h : HP), rc x2 h = some rr → h.1 = h0.1 → wp x 18 [(2, .int x2), (0, .ref x0), (1, .int x1)] [] h) : ∀ (x2 : Int32) (h : HP), f_X10_sign_B18 N x0 x1 k53 rc x2 h = some rr → h.1 = h0.1 → wp x 18 [(2, .int x2), (0, .ref x0), (1, .int x1)] [] h := by
  intro x2 h hq e
  unfold f_X10_sign_B18 at hq
  refine wp_iload_n (v := x2) ok dX10_sign_18 rfl ?_
  refine wp_iconst (v := 4) ok dX10_sign_19 (by decide) ?_
  refine wp_icmp_ge (tgt := 53) ok dX10_sign_20 (by decide) (fun c5 => ?_) (fun c5 => ?_)
  · have hq := ite_t c5 hq
    refine wp_sub (L' := [(0, .ref x0)]) [1] rfl ?_
    exact hk53 h hq e
  · have hq := ite_f c5 hq
    refine wp_aload_n (v := x0) ok dX10_sign_23 rfl ?_
    obtain ⟨t6, e7, hq⟩ := bnd_some hq
    obtain ⟨e8, n9, f10⟩ := rK_some e7
    replace f10 := sh_of (e).symm f10
    refine wp_getR ok fl_RX10_47 (sh_of e f_x0) e8 dX10_sign_24 ?_
    refine wp_aload_n (v := x0) ok dX10_sign_27 rfl ?_
    refine wp_getI ok fl_RX10_127 (sh_of e f_x0) dX10_sign_28 ?_
    refine wp_iload_n (v := x2) ok dX10_sign_31 rfl ?_
    refine wp_iadd ok dX10_sign_32 ?_
    refine wp_iload_n (v := x1) ok dX10_sign_33 rfl ?_
    refine wp_bipush (v := 24) ok dX10_sign_34 (by decide) ?_
    refine wp_bipush (v := 8) ok dX10_sign_36 (by decide) ?_
    refine wp_iload_n (v := x2) ok dX10_sign_38 rfl ?_
    refine wp_imul ok dX10_sign_39 ?_
    refine wp_isub ok dX10_sign_40 ?_
    refine wp_ishr ok dX10_sign_41 ?_
    refine wp_sipush (v := 255) ok dX10_sign_42 (by decide) ?_
    refine wp_iand ok dX10_sign_45 ?_
    obtain ⟨g11, hq⟩ := gP_some hq
    refine wp_iast ok (sh_of e f10) (ix_of (sh_of e f10) g11) dX10_sign_46 ?_
    obtain ⟨h12, e13, hq⟩ := lt_some hq
    refine wp_nmH e13 ?_
    have e14 : h12.1 = h0.1 := (congrArg Prod.fst e13).trans e
    obtain ⟨v15, e16, hq⟩ := lt_some hq
    refine wp_iinc (v := x2) (w := 1) (L' := [(2, .int v15), (0, .ref x0), (1, .int x1)]) ok dX10_sign_47 rfl (by decide) rfl (by rw [← e16]; rfl) ?_
    refine wp_goto (tgt := 18) ok dX10_sign_50 (by decide) ?_
    refine wp_sub (L' := [(2, .int v15), (0, .ref x0), (1, .int x1)]) [0, 1, 2] rfl ?_
    exact ih v15 h12 hq e14
set_option maxHeartbeats 4000000 in
set_option maxRecDepth 100000 in
theorem l_X10_sign_B18 {x : Cx} {h0 : HP} {N fr : Nat} {rr : (Int32 × HP)} (ok : Okx x cX10_sign yX10_sign.cls 3 fr) (hfr : 0 ≤ fr)  {x0 : Nat} {x1 : Int32} {n_x0 : Nat} (f_x0 : h0.1[x0]? = some (10, n_x0)) (hF : Fend x h0 (some (.int)) (QI rr.1 rr.2)) {k53 : HP → Option (Int32 × HP)} (hk53 : ∀ (h : HP), k53 h = some rr → h.1 = h0.1 → wp x 53 [(0, .ref x0)] [] h) : ∀ (n : Nat) (x2 : Int32) (h : HP), lp (fun _ _ => none) (f_X10_sign_B18 N x0 x1 k53) n x2 h = some rr → h.1 = h0.1 → wp x 18 [(2, .int x2), (0, .ref x0), (1, .int x1)] [] h := by
  intro n
  induction n with
  | zero => intro x2 h hq e; exact (Option.some_ne_none _ hq.symm).elim
  | succ n ih => exact s_X10_sign_B18 ok hfr f_x0 hF hk53 ih
set_option maxHeartbeats 4000000 in
set_option maxRecDepth 100000 in
theorem m_X10_sign {l : Launch} {h : HP} {N : Nat} {x0 : Nat} {x1 : Int32} {rr : Int32} {rh : HP} {fr : Nat} (hq : f_X10_sign N h x0 x1 = some (rr, rh)) (hfr : 0 ≤ fr) : Mt l yX10_sign cX10_sign 3 (some (.int)) fr [.ref x0, .int x1] h (QI rr rh) := by
  obtain ⟨rp, ep⟩ : ∃ rp : (Int32 × HP), rp = (rr, rh) := ⟨_, rfl⟩
  have e1p : rr = rp.1 := (congrArg Prod.fst ep).symm
  have e2p : rh = rp.2 := (congrArg Prod.snd ep).symm
  rw [← ep] at hq
  rw [e1p, e2p]
  clear e1p e2p ep
  refine Mt.of (by decide +kernel) (Nat.le_of_ble_eq_true rfl) (fun x hl ok hF => ?_)
  subst hl
  show wp x 0 [(0, .ref x0), (1, .int x1)] [] h
  unfold f_X10_sign at hq
  obtain ⟨h0, eh0⟩ : ∃ h0 : HP, h = h0 := ⟨h, rfl⟩
  have e : h.1 = h0.1 := by rw [eh0]
  rw [eh0] at hF
  obtain ⟨g_x0, hq⟩ := gP_some hq
  obtain ⟨n_x0, f_x0⟩ := kO_some g_x0
  replace f_x0 := sh_of e.symm f_x0
  refine wp_aload_n (v := x0) ok dX10_sign_0 rfl ?_
  refine wp_iconst (v := 0) ok dX10_sign_1 (by decide) ?_
  refine wp_putI ok flw_RX10_3 (nr_10_0 _) (sh_of e f_x0) dX10_sign_2 ?_
  obtain ⟨h1, e2, hq⟩ := lt_some hq
  refine wp_nmH e2 ?_
  have e3 : h1.1 = h0.1 := (congrArg Prod.fst e2).trans e
  refine wp_aload_n (v := x0) ok dX10_sign_5 rfl ?_
  refine wp_getI ok fl_RX10_127 (sh_of e3 f_x0) dX10_sign_6 ?_
  refine wp_bipush (v := 76) ok dX10_sign_9 (by decide) ?_
  refine wp_icmp_le (tgt := 16) ok dX10_sign_11 (by decide) (fun c4 => ?_) (fun c4 => ?_)
  · have hq := ite_t c4 hq
    refine wp_iconst (v := 0) ok dX10_sign_16 (by decide) ?_
    refine wp_istore_n (L' := [(2, .int 0), (0, .ref x0), (1, .int x1)]) ok dX10_sign_17 rfl rfl ?_
    refine wp_sub (L' := [(2, .int 0), (0, .ref x0), (1, .int x1)]) [0, 1, 2] rfl ?_
    refine l_X10_sign_B18 ok hfr f_x0 hF ?_ N 0 h1 hq e3
    · intro h17 hq e18
      refine wp_aload_n (v := x0) ok dX10_sign_53 rfl ?_
      refine wp_dup ok dX10_sign_54 rfl ?_
      refine wp_getI ok fl_RX10_127 (sh_of e18 f_x0) dX10_sign_55 ?_
      refine wp_iconst (v := 4) ok dX10_sign_58 (by decide) ?_
      refine wp_iadd ok dX10_sign_59 ?_
      refine wp_putI ok flw_RX10_127 (nr_10_12 _) (sh_of e18 f_x0) dX10_sign_60 ?_
      obtain ⟨h19, e20, hq⟩ := lt_some hq
      refine wp_nmH e20 ?_
      have e21 : h19.1 = h0.1 := (congrArg Prod.fst e20).trans e18
      refine wp_aload_n (v := x0) ok dX10_sign_63 rfl ?_
      refine wp_getI ok fl_RX10_127 (sh_of e21 f_x0) dX10_sign_64 ?_
      exact wp_iret ok hF rfl e21 (re2I hq) dX10_sign_67
  · have hq := ite_f c4 hq
    refine wp_iconst (v := -1) ok dX10_sign_14 (by decide) ?_
    exact wp_iret ok hF rfl e3 (re2I hq) dX10_sign_15
set_option maxHeartbeats 4000000 in
set_option maxRecDepth 100000 in
theorem m_X10_end {l : Launch} {h : HP} {x0 : Nat} {x1 : Int32} {rr : Int32} {rh : HP} {fr : Nat} (hq : f_X10_end h x0 x1 = some (rr, rh)) (hfr : 1 ≤ fr) : Mt l yX10_end cX10_end 2 (some (.boolean)) fr [.ref x0, .int x1] h (QI rr rh) := by
  obtain ⟨rp, ep⟩ : ∃ rp : (Int32 × HP), rp = (rr, rh) := ⟨_, rfl⟩
  have e1p : rr = rp.1 := (congrArg Prod.fst ep).symm
  have e2p : rh = rp.2 := (congrArg Prod.snd ep).symm
  rw [← ep] at hq
  rw [e1p, e2p]
  clear e1p e2p ep
  refine Mt.of (by decide +kernel) (Nat.le_of_ble_eq_true rfl) (fun x hl ok hF => ?_)
  subst hl
  show wp x 0 [(0, .ref x0), (1, .int x1)] [] h
  unfold f_X10_end at hq
  obtain ⟨h0, eh0⟩ : ∃ h0 : HP, h = h0 := ⟨h, rfl⟩
  have e : h.1 = h0.1 := by rw [eh0]
  rw [eh0] at hF
  obtain ⟨g_x0, hq⟩ := gP_some hq
  obtain ⟨n_x0, f_x0⟩ := kO_some g_x0
  replace f_x0 := sh_of e.symm f_x0
  refine wp_aload_n (v := x0) ok dX10_end_0 rfl ?_
  refine wp_iconst (v := 0) ok dX10_end_1 (by decide) ?_
  refine wp_putI ok flw_RX10_3 (nr_10_0 _) (sh_of e f_x0) dX10_end_2 ?_
  obtain ⟨h1, e2, hq⟩ := lt_some hq
  refine wp_nmH e2 ?_
  have e3 : h1.1 = h0.1 := (congrArg Prod.fst e2).trans e
  refine wp_iload_n (v := x1) ok dX10_end_5 rfl ?_
  refine wp_i2l ok dX10_end_6 ?_
  refine wp_lconst (v := 0) ok dX10_end_7 (by decide) ?_
  refine wp_aload_n (v := x0) ok dX10_end_8 rfl ?_
  refine wp_getI ok fl_RX10_127 (sh_of e3 f_x0) dX10_end_9 ?_
  refine wp_i2l ok dX10_end_12 ?_
  obtain ⟨v4, e5, hq⟩ := bnd_some hq
  refine wp_callSI (As := [.long (x1.toInt64), .long 0, .long ((h1.2.1 x0 12).toInt64)]) (rest := []) (h1 := h1) ok (m_X10_in e5 (Nat.le_refl _)) my_X10_in (w_1200) pd_X10_in (Nat.le_trans (by decide) hfr) rfl rfl rfl rfl dX10_end_13 (fun e6 => ?_)
  refine wp_if_ne (tgt := 21) ok dX10_end_16 (by decide) (fun c7 => ?_) (fun c7 => ?_)
  · have hq := ite_f c7 hq
    refine wp_aload_n (v := x0) ok dX10_end_21 rfl ?_
    refine wp_iload_n (v := x1) ok dX10_end_22 rfl ?_
    refine wp_putI ok flw_RX10_127 (nr_10_12 _) (sh_of e3 f_x0) dX10_end_23 ?_
    obtain ⟨h8, e9, hq⟩ := lt_some hq
    refine wp_nmH e9 ?_
    have e10 : h8.1 = h0.1 := (congrArg Prod.fst e9).trans e3
    refine wp_iconst (v := 1) ok dX10_end_26 (by decide) ?_
    exact wp_iret ok hF (nb_z (Or.inr rfl)) e10 (re2I hq) dX10_end_27
  · have hq := ite_t c7 hq
    refine wp_iconst (v := 0) ok dX10_end_19 (by decide) ?_
    exact wp_iret ok hF (nb_z (Or.inl rfl)) e3 (re2I hq) dX10_end_20
set_option maxHeartbeats 4000000 in
set_option maxRecDepth 100000 in
theorem m_X10_begins {l : Launch} {h : HP} {x0 : Nat} {x1 : Int32} {rr : Int32} {rh : HP} {fr : Nat} (hq : f_X10_begins h x0 x1 = some (rr, rh)) (hfr : 1 ≤ fr) : Mt l yX10_begins cX10_begins 3 (some (.int)) fr [.ref x0, .int x1] h (QI rr rh) := by
  obtain ⟨rp, ep⟩ : ∃ rp : (Int32 × HP), rp = (rr, rh) := ⟨_, rfl⟩
  have e1p : rr = rp.1 := (congrArg Prod.fst ep).symm
  have e2p : rh = rp.2 := (congrArg Prod.snd ep).symm
  rw [← ep] at hq
  rw [e1p, e2p]
  clear e1p e2p ep
  refine Mt.of (by decide +kernel) (Nat.le_of_ble_eq_true rfl) (fun x hl ok hF => ?_)
  subst hl
  show wp x 0 [(0, .ref x0), (1, .int x1)] [] h
  unfold f_X10_begins at hq
  obtain ⟨h0, eh0⟩ : ∃ h0 : HP, h = h0 := ⟨h, rfl⟩
  have e : h.1 = h0.1 := by rw [eh0]
  rw [eh0] at hF
  obtain ⟨g_x0, hq⟩ := gP_some hq
  obtain ⟨n_x0, f_x0⟩ := kO_some g_x0
  replace f_x0 := sh_of e.symm f_x0
  refine wp_aload_n (v := x0) ok dX10_begins_0 rfl ?_
  refine wp_getI ok fl_RX10_127 (sh_of e f_x0) dX10_begins_1 ?_
  obtain ⟨v1, e2, hq⟩ := lt_some hq
  refine wp_nmI e2 ?_
  refine wp_istore_n (L' := [(2, .int v1), (0, .ref x0), (1, .int x1)]) ok dX10_begins_4 rfl rfl ?_
  refine wp_aload_n (v := x0) ok dX10_begins_5 rfl ?_
  refine wp_iconst (v := 0) ok dX10_begins_6 (by decide) ?_
  refine wp_putI ok flw_RX10_127 (nr_10_12 _) (sh_of e f_x0) dX10_begins_7 ?_
  obtain ⟨h3, e4, hq⟩ := lt_some hq
  refine wp_nmH e4 ?_
  have e5 : h3.1 = h0.1 := (congrArg Prod.fst e4).trans e
  refine wp_aload_n (v := x0) ok dX10_begins_10 rfl ?_
  refine wp_iconst (v := 0) ok dX10_begins_11 (by decide) ?_
  refine wp_putI ok flw_RX10_130 (nr_10_13 _) (sh_of e5 f_x0) dX10_begins_12 ?_
  obtain ⟨h6, e7, hq⟩ := lt_some hq
  refine wp_nmH e7 ?_
  have e8 : h6.1 = h0.1 := (congrArg Prod.fst e7).trans e5
  refine wp_aload_n (v := x0) ok dX10_begins_15 rfl ?_
  refine wp_iconst (v := 0) ok dX10_begins_16 (by decide) ?_
  refine wp_putI ok flw_RX10_133 (nr_10_15 _) (sh_of e8 f_x0) dX10_begins_17 ?_
  obtain ⟨h9, e10, hq⟩ := lt_some hq
  refine wp_nmH e10 ?_
  have e11 : h9.1 = h0.1 := (congrArg Prod.fst e10).trans e8
  refine wp_aload_n (v := x0) ok dX10_begins_20 rfl ?_
  refine wp_iload_n (v := v1) ok dX10_begins_21 rfl ?_
  refine wp_iload_n (v := x1) ok dX10_begins_22 rfl ?_
  obtain ⟨v12, e13, hq⟩ := bnd_some hq
  refine wp_callSI (As := [.int v1, .int x1]) (rest := [.ref x0]) (h1 := h9) ok (m_J9_min_7cf53 e13 (Nat.le_refl _)) my_J9_min_7cf53 (w_1211) pd_J9_min_7cf53 (Nat.le_trans (by decide) hfr) rfl rfl rfl rfl dX10_begins_23 (fun e14 => ?_)
  refine wp_putI ok flw_RX10_142 (nr_10_14 _) (sh_of e11 f_x0) dX10_begins_26 ?_
  obtain ⟨h15, e16, hq⟩ := lt_some hq
  refine wp_nmH e16 ?_
  have e17 : h15.1 = h0.1 := (congrArg Prod.fst e16).trans e11
  refine wp_iload_n (v := v1) ok dX10_begins_29 rfl ?_
  exact wp_iret ok hF rfl e17 (re2I hq) dX10_begins_30
set_option maxHeartbeats 4000000 in
set_option maxRecDepth 100000 in
theorem m_X10_takes {l : Launch} {h : HP} {x0 : Nat} {x1 : Int32} {rr : Int32} {rh : HP} {fr : Nat} (hq : f_X10_takes h x0 x1 = some (rr, rh)) (hfr : 1 ≤ fr) : Mt l yX10_takes cX10_takes 3 (some (.boolean)) fr [.ref x0, .int x1] h (QI rr rh) := by
  obtain ⟨rp, ep⟩ : ∃ rp : (Int32 × HP), rp = (rr, rh) := ⟨_, rfl⟩
  have e1p : rr = rp.1 := (congrArg Prod.fst ep).symm
  have e2p : rh = rp.2 := (congrArg Prod.snd ep).symm
  rw [← ep] at hq
  rw [e1p, e2p]
  clear e1p e2p ep
  refine Mt.of (by decide +kernel) (Nat.le_of_ble_eq_true rfl) (fun x hl ok hF => ?_)
  subst hl
  show wp x 0 [(0, .ref x0), (1, .int x1)] [] h
  unfold f_X10_takes at hq
  obtain ⟨h0, eh0⟩ : ∃ h0 : HP, h = h0 := ⟨h, rfl⟩
  have e : h.1 = h0.1 := by rw [eh0]
  rw [eh0] at hF
  obtain ⟨g_x0, hq⟩ := gP_some hq
  obtain ⟨n_x0, f_x0⟩ := kO_some g_x0
  replace f_x0 := sh_of e.symm f_x0
  refine wp_aload_n (v := x0) ok dX10_takes_0 rfl ?_
  refine wp_getI ok fl_RX10_130 (sh_of e f_x0) dX10_takes_1 ?_
  refine wp_aload_n (v := x0) ok dX10_takes_4 rfl ?_
  refine wp_getI ok fl_RX10_142 (sh_of e f_x0) dX10_takes_5 ?_
  obtain ⟨k1, ek1, hq⟩ := jn1_some hq
  have kk1 : ∀ (y2 : Int32), k1 y2 = some rp → wp x 29 [(0, .ref x0)] [.int y2] h := by
    intro y2 hq
    have hq := (ek1 y2).symm.trans hq
    refine wp_istore_n (L' := [(2, .int y2), (0, .ref x0)]) ok dX10_takes_29 rfl rfl ?_
    refine wp_aload_n (v := x0) ok dX10_takes_30 rfl ?_
    refine wp_dup ok dX10_takes_31 rfl ?_
    refine wp_getI ok fl_RX10_130 (sh_of e f_x0) dX10_takes_32 ?_
    refine wp_iload_n (v := y2) ok dX10_takes_35 rfl ?_
    obtain ⟨v3, e4, hq⟩ := bnd_some hq
    refine wp_callSI (As := [.int y2]) (rest := [.int (h.2.1 x0 13), .ref x0]) (h1 := h) ok (m_X10_flag e4 (Nat.le_refl _)) my_X10_flag (w_1230) pd_X10_flag (Nat.le_trans (by decide) hfr) rfl rfl rfl rfl dX10_takes_36 (fun e5 => ?_)
    refine wp_iadd ok dX10_takes_39 ?_
    refine wp_putI ok flw_RX10_130 (nr_10_13 _) (sh_of e f_x0) dX10_takes_40 ?_
    obtain ⟨h6, e7, hq⟩ := lt_some hq
    refine wp_nmH e7 ?_
    have e8 : h6.1 = h0.1 := (congrArg Prod.fst e7).trans e
    refine wp_iload_n (v := y2) ok dX10_takes_43 rfl ?_
    obtain ⟨g9, hq⟩ := gP_some hq
    exact wp_iret ok hF (nb_z g9) e8 (re2I hq) dX10_takes_44
  obtain ⟨k10, ek10, hq⟩ := jn0_some hq
  have kk10 : k10 = some rp → wp x 28 [(0, .ref x0)] [] h := by
    intro hq
    rw [ek10] at hq
    refine wp_iconst (v := 0) ok dX10_takes_28 (by decide) ?_
    refine wp_sub (L' := [(0, .ref x0)]) [0] rfl ?_
    exact kk1 0 hq
  refine wp_icmp_ge (tgt := 28) ok dX10_takes_8 (by decide) (fun c11 => ?_) (fun c11 => ?_)
  · have hq := ite_t c11 hq
    refine wp_sub (L' := [(0, .ref x0)]) [0] rfl ?_
    exact kk10 hq
  · have hq := ite_f c11 hq
    refine wp_aload_n (v := x0) ok dX10_takes_11 rfl ?_
    obtain ⟨t12, e13, hq⟩ := bnd_some hq
    obtain ⟨e14, n15, f16⟩ := rK_some e13
    replace f16 := sh_of (e).symm f16
    refine wp_getR ok fl_RX10_47 (sh_of e f_x0) e14 dX10_takes_12 ?_
    refine wp_aload_n (v := x0) ok dX10_takes_15 rfl ?_
    refine wp_getI ok fl_RX10_130 (sh_of e f_x0) dX10_takes_16 ?_
    obtain ⟨g17, hq⟩ := gP_some hq
    refine wp_iald ok (sh_of e f16) (ix_of (sh_of e f16) g17) dX10_takes_19 ?_
    refine wp_iload_n (v := x1) ok dX10_takes_20 rfl ?_
    refine wp_icmp_ne (tgt := 28) ok dX10_takes_21 (by decide) (fun c18 => ?_) (fun c18 => ?_)
    · have hq := ite_f c18 hq
      refine wp_sub (L' := [(0, .ref x0)]) [0] rfl ?_
      exact kk10 hq
    · have hq := ite_t c18 hq
      refine wp_iconst (v := 1) ok dX10_takes_24 (by decide) ?_
      refine wp_goto (tgt := 29) ok dX10_takes_25 (by decide) ?_
      refine wp_sub (L' := [(0, .ref x0)]) [0] rfl ?_
      exact kk1 1 hq
set_option maxHeartbeats 4000000 in
set_option maxRecDepth 100000 in
theorem m_X10_isDigit {l : Launch} {h : HP} {x0 : Nat} {rr : Int32} {fr : Nat} (hq : f_X10_isDigit h x0 = some rr) (hfr : 1 ≤ fr) : Mt l yX10_isDigit cX10_isDigit 1 (some (.boolean)) fr [.ref x0] h (QI rr h) := by
  refine Mt.of (by decide +kernel) (Nat.le_of_ble_eq_true rfl) (fun x hl ok hF => ?_)
  subst hl
  show wp x 0 [(0, .ref x0)] [] h
  unfold f_X10_isDigit at hq
  obtain ⟨g_x0, hq⟩ := gP_some hq
  obtain ⟨n_x0, f_x0⟩ := kO_some g_x0
  refine wp_aload_n (v := x0) ok dX10_isDigit_0 rfl ?_
  refine wp_getI ok fl_RX10_130 (sh_of rfl f_x0) dX10_isDigit_1 ?_
  refine wp_aload_n (v := x0) ok dX10_isDigit_4 rfl ?_
  refine wp_getI ok fl_RX10_142 (sh_of rfl f_x0) dX10_isDigit_5 ?_
  refine wp_icmp_ge (tgt := 37) ok dX10_isDigit_8 (by decide) (fun c1 => ?_) (fun c1 => ?_)
  · have hq := ite_t c1 hq
    refine wp_iconst (v := 0) ok dX10_isDigit_37 (by decide) ?_
    exact wp_iret ok hF (nb_z (Or.inl rfl)) rfl (re1I hq) dX10_isDigit_38
  · have hq := ite_f c1 hq
    refine wp_aload_n (v := x0) ok dX10_isDigit_11 rfl ?_
    obtain ⟨t2, e3, hq⟩ := bnd_some hq
    obtain ⟨e4, n5, f6⟩ := rK_some e3
    replace f6 := sh_of (rfl).symm f6
    refine wp_getR ok fl_RX10_47 (sh_of rfl f_x0) e4 dX10_isDigit_12 ?_
    refine wp_aload_n (v := x0) ok dX10_isDigit_15 rfl ?_
    refine wp_getI ok fl_RX10_130 (sh_of rfl f_x0) dX10_isDigit_16 ?_
    obtain ⟨g7, hq⟩ := gP_some hq
    refine wp_iald ok (sh_of rfl f6) (ix_of (sh_of rfl f6) g7) dX10_isDigit_19 ?_
    refine wp_i2l ok dX10_isDigit_20 ?_
    refine wp_ldc2 (v := 48) ok (w_1228) dX10_isDigit_21 ?_
    refine wp_ldc2 (v := 57) ok (w_1229) dX10_isDigit_24 ?_
    obtain ⟨v8, e9, hq⟩ := bnd_some hq
    refine wp_callSI (As := [.long ((h.2.1 t2 (h.2.1 x0 13).toNatClampNeg).toInt64), .long 48, .long 57]) (rest := []) (h1 := h) ok (m_X10_in e9 (Nat.le_refl _)) my_X10_in (w_1200) pd_X10_in (Nat.le_trans (by decide) hfr) rfl rfl rfl rfl dX10_isDigit_27 (fun e10 => ?_)
    refine wp_if_eq (tgt := 37) ok dX10_isDigit_30 (by decide) (fun c11 => ?_) (fun c11 => ?_)
    · have hq := ite_t c11 hq
      refine wp_iconst (v := 0) ok dX10_isDigit_37 (by decide) ?_
      exact wp_iret ok hF (nb_z (Or.inl rfl)) rfl (re1I hq) dX10_isDigit_38
    · have hq := ite_f c11 hq
      refine wp_iconst (v := 1) ok dX10_isDigit_33 (by decide) ?_
      refine wp_goto (tgt := 38) ok dX10_isDigit_34 (by decide) ?_
      exact wp_iret ok hF (nb_z (Or.inr rfl)) rfl (re1I hq) dX10_isDigit_38
set_option maxHeartbeats 4000000 in
set_option maxRecDepth 100000 in
theorem s_X10_takesOf_B2 {x : Cx} {h0 : HP} {N fr : Nat} {rr : (Int32 × HP)} (ok : Okx x cX10_takesOf yX10_takesOf.cls 3 fr) (hfr : 4 ≤ fr)  {x0 : Nat} {x1 : Nat} {h : HP} (e : h.1 = h0.1) {n_x0 : Nat} (f_x0 : h0.1[x0]? = some (10, n_x0)) (hF : Fend x h0 (some (.int)) (QI rr.1 rr.2)) {k38 : Int32 → Option (Int32 × HP)} (hk38 : ∀ (x2 : Int32), k38 x2 = some rr → wp x 38 [(2, .int x2), (0, .ref x0)] [] h) {rc : Int32 → Option (Int32 × HP)} (ih : ∀ (x2 : Int32), rc x2 = some rr → wp x 2 [(2, .int x2), (0, .ref x0), (1, .ref x1)] [] h) : ∀ (x2 : Int32), f_X10_takesOf_B2 N x0 x1 h k38 rc x2 = some rr → wp x 2 [(2, .int x2), (0, .ref x0), (1, .ref x1)] [] h := by
  intro x2 hq
  unfold f_X10_takesOf_B2 at hq
  refine wp_iload_n (v := x2) ok dX10_takesOf_2 rfl ?_
  refine wp_aload_n (v := x1) ok dX10_takesOf_3 rfl ?_
  obtain ⟨v1, e2, hq⟩ := bnd_some hq
  refine wp_callTI (As := []) (rest := [.int x2]) (h1 := h) ok (m_J0_length_8abf5 e2 (Nat.le_refl _)) my_J0_length_8abf5 (w_1254) pd_J0_length_8abf5 (Nat.le_trans (by decide) hfr) rfl (iS_J0_length_8abf5 e2) rfl rfl rfl rfl dX10_takesOf_4 (fun e3 => ?_)
  refine wp_icmp_ge (tgt := 56) ok dX10_takesOf_7 (by decide) (fun c4 => ?_) (fun c4 => ?_)
  · have hq := ite_t c4 hq
    refine wp_iconst (v := -1) ok dX10_takesOf_56 (by decide) ?_
    exact wp_iret ok hF rfl e (re2I hq) dX10_takesOf_57
  · have hq := ite_f c4 hq
    refine wp_aload_n (v := x0) ok dX10_takesOf_10 rfl ?_
    refine wp_getI ok fl_RX10_130 (sh_of e f_x0) dX10_takesOf_11 ?_
    refine wp_aload_n (v := x0) ok dX10_takesOf_14 rfl ?_
    refine wp_getI ok fl_RX10_142 (sh_of e f_x0) dX10_takesOf_15 ?_
    refine wp_icmp_ge (tgt := 56) ok dX10_takesOf_18 (by decide) (fun c5 => ?_) (fun c5 => ?_)
    · have hq := ite_t c5 hq
      refine wp_iconst (v := -1) ok dX10_takesOf_56 (by decide) ?_
      exact wp_iret ok hF rfl e (re2I hq) dX10_takesOf_57
    · have hq := ite_f c5 hq
      refine wp_aload_n (v := x1) ok dX10_takesOf_21 rfl ?_
      refine wp_iload_n (v := x2) ok dX10_takesOf_22 rfl ?_
      obtain ⟨v6, e7, hq⟩ := bnd_some hq
      refine wp_callTI (As := [.int x2]) (rest := []) (h1 := h) ok (m_J0_charAt_5068e e7 (Nat.le_refl _)) my_J0_charAt_5068e (w_1255) pd_J0_charAt_5068e (Nat.le_trans (by decide) hfr) rfl (iS_J0_charAt_5068e e7) rfl rfl rfl rfl dX10_takesOf_23 (fun e8 => ?_)
      refine wp_aload_n (v := x0) ok dX10_takesOf_26 rfl ?_
      obtain ⟨t9, e10, hq⟩ := bnd_some hq
      obtain ⟨e11, n12, f13⟩ := rK_some e10
      replace f13 := sh_of (e).symm f13
      refine wp_getR ok fl_RX10_47 (sh_of e f_x0) e11 dX10_takesOf_27 ?_
      refine wp_aload_n (v := x0) ok dX10_takesOf_30 rfl ?_
      refine wp_getI ok fl_RX10_130 (sh_of e f_x0) dX10_takesOf_31 ?_
      obtain ⟨g14, hq⟩ := gP_some hq
      refine wp_iald ok (sh_of e f13) (ix_of (sh_of e f13) g14) dX10_takesOf_34 ?_
      refine wp_icmp_ne (tgt := 50) ok dX10_takesOf_35 (by decide) (fun c15 => ?_) (fun c15 => ?_)
      · have hq := ite_f c15 hq
        obtain ⟨v16, e17, hq⟩ := lt_some hq
        refine wp_iinc (v := x2) (w := 1) (L' := [(2, .int v16), (0, .ref x0), (1, .ref x1)]) ok dX10_takesOf_50 rfl (by decide) rfl (by rw [← e17]; rfl) ?_
        refine wp_goto (tgt := 2) ok dX10_takesOf_53 (by decide) ?_
        refine wp_sub (L' := [(2, .int v16), (0, .ref x0), (1, .ref x1)]) [0, 1, 2] rfl ?_
        exact ih v16 hq
      · have hq := ite_t c15 hq
        refine wp_sub (L' := [(2, .int x2), (0, .ref x0)]) [0, 1] rfl ?_
        exact hk38 x2 hq
set_option maxHeartbeats 4000000 in
set_option maxRecDepth 100000 in
theorem l_X10_takesOf_B2 {x : Cx} {h0 : HP} {N fr : Nat} {rr : (Int32 × HP)} (ok : Okx x cX10_takesOf yX10_takesOf.cls 3 fr) (hfr : 4 ≤ fr)  {x0 : Nat} {x1 : Nat} {h : HP} (e : h.1 = h0.1) {n_x0 : Nat} (f_x0 : h0.1[x0]? = some (10, n_x0)) (hF : Fend x h0 (some (.int)) (QI rr.1 rr.2)) {k38 : Int32 → Option (Int32 × HP)} (hk38 : ∀ (x2 : Int32), k38 x2 = some rr → wp x 38 [(2, .int x2), (0, .ref x0)] [] h) : ∀ (n : Nat) (x2 : Int32), lp (fun _ => none) (f_X10_takesOf_B2 N x0 x1 h k38) n x2 = some rr → wp x 2 [(2, .int x2), (0, .ref x0), (1, .ref x1)] [] h := by
  intro n
  induction n with
  | zero => intro x2 hq; exact (Option.some_ne_none _ hq.symm).elim
  | succ n ih => exact s_X10_takesOf_B2 ok hfr e f_x0 hF hk38 ih
set_option maxHeartbeats 4000000 in
set_option maxRecDepth 100000 in
theorem m_X10_takesOf {l : Launch} {h : HP} {N : Nat} {x0 : Nat} {x1 : Nat} {rr : Int32} {rh : HP} {fr : Nat} (hq : f_X10_takesOf N h x0 x1 = some (rr, rh)) (hfr : 4 ≤ fr) : Mt l yX10_takesOf cX10_takesOf 3 (some (.int)) fr [.ref x0, .ref x1] h (QI rr rh) := by
  obtain ⟨rp, ep⟩ : ∃ rp : (Int32 × HP), rp = (rr, rh) := ⟨_, rfl⟩
  have e1p : rr = rp.1 := (congrArg Prod.fst ep).symm
  have e2p : rh = rp.2 := (congrArg Prod.snd ep).symm
  rw [← ep] at hq
  rw [e1p, e2p]
  clear e1p e2p ep
  refine Mt.of (by decide +kernel) (Nat.le_of_ble_eq_true rfl) (fun x hl ok hF => ?_)
  subst hl
  show wp x 0 [(0, .ref x0), (1, .ref x1)] [] h
  unfold f_X10_takesOf at hq
  obtain ⟨h0, eh0⟩ : ∃ h0 : HP, h = h0 := ⟨h, rfl⟩
  have e : h.1 = h0.1 := by rw [eh0]
  rw [eh0] at hF
  obtain ⟨g_x0, hq⟩ := gP_some hq
  obtain ⟨n_x0, f_x0⟩ := kO_some g_x0
  replace f_x0 := sh_of e.symm f_x0
  refine wp_iconst (v := 0) ok dX10_takesOf_0 (by decide) ?_
  refine wp_istore_n (L' := [(2, .int 0), (0, .ref x0), (1, .ref x1)]) ok dX10_takesOf_1 rfl rfl ?_
  refine wp_sub (L' := [(2, .int 0), (0, .ref x0), (1, .ref x1)]) [0, 1, 2] rfl ?_
  refine l_X10_takesOf_B2 ok hfr e f_x0 hF ?_ N 0 hq
  · intro x18 hq
    refine wp_aload_n (v := x0) ok dX10_takesOf_38 rfl ?_
    refine wp_dup ok dX10_takesOf_39 rfl ?_
    refine wp_getI ok fl_RX10_130 (sh_of e f_x0) dX10_takesOf_40 ?_
    refine wp_iconst (v := 1) ok dX10_takesOf_43 (by decide) ?_
    refine wp_iadd ok dX10_takesOf_44 ?_
    refine wp_putI ok flw_RX10_130 (nr_10_13 _) (sh_of e f_x0) dX10_takesOf_45 ?_
    obtain ⟨h19, e20, hq⟩ := lt_some hq
    refine wp_nmH e20 ?_
    have e21 : h19.1 = h0.1 := (congrArg Prod.fst e20).trans e
    refine wp_iload_n (v := x18) ok dX10_takesOf_48 rfl ?_
    exact wp_iret ok hF rfl e21 (re2I hq) dX10_takesOf_49
set_option maxHeartbeats 4000000 in
set_option maxRecDepth 100000 in
theorem s_X10_number_B13 {x : Cx} {h0 : HP} {N fr : Nat} {rr : (Int32 × HP)} (ok : Okx x cX10_number yX10_number.cls 4 fr) (hfr : 2 ≤ fr)  {x0 : Nat} {x1 : Int32} {n_x0 : Nat} (f_x0 : h0.1[x0]? = some (10, n_x0)) (hF : Fend x h0 (some (.int)) (QI rr.1 rr.2)) {rc : Int32 → Int32 → HP → Option (Int32 × HP)} (ih : ∀ (x2 : Int32) (x3 : Int32) (h : HP), rc x2 x3 h = some rr → h.1 = h0.1 → wp x 13 [(2, .int x2), (3, .int x3), (0, .ref x0), (1, .int x1)] [] h) : ∀ (x2 : Int32) (x3 : Int32) (h : HP), f_X10_number_B13 N x0 x1 rc x2 x3 h = some rr → h.1 = h0.1 → wp x 13 [(2, .int x2), (3, .int x3), (0, .ref x0), (1, .int x1)] [] h := by
  intro x2 x3 h hq e
  unfold f_X10_number_B13 at hq
  refine wp_iload_n (v := x3) ok dX10_number_13 rfl ?_
  refine wp_iload_n (v := x1) ok dX10_number_14 rfl ?_
  refine wp_icmp_ge (tgt := 59) ok dX10_number_15 (by decide) (fun c5 => ?_) (fun c5 => ?_)
  · have hq := ite_t c5 hq
    refine wp_iload_n (v := x2) ok dX10_number_59 rfl ?_
    exact wp_iret ok hF rfl e (re2I hq) dX10_number_60
  · have hq := ite_f c5 hq
    refine wp_aload_n (v := x0) ok dX10_number_18 rfl ?_
    obtain ⟨v6, e7, hq⟩ := bnd_some hq
    refine wp_callVI (As := []) (rest := []) (h1 := h) ok (m_X10_isDigit e7 (Nat.le_refl _)) my_X10_isDigit (w_1224) pd_X10_isDigit (Nat.le_trans (by decide) hfr) rfl (ci := 10) rfl (by decide) (sh_of e f_x0) rfl rfl rfl dX10_number_19 (fun e8 => ?_)
    refine wp_if_eq (tgt := 59) ok dX10_number_22 (by decide) (fun c9 => ?_) (fun c9 => ?_)
    · have hq := ite_t c9 hq
      refine wp_iload_n (v := x2) ok dX10_number_59 rfl ?_
      exact wp_iret ok hF rfl e (re2I hq) dX10_number_60
    · have hq := ite_f c9 hq
      refine wp_bipush (v := 10) ok dX10_number_25 (by decide) ?_
      refine wp_iload_n (v := x2) ok dX10_number_27 rfl ?_
      refine wp_imul ok dX10_number_28 ?_
      refine wp_aload_n (v := x0) ok dX10_number_29 rfl ?_
      obtain ⟨t10, e11, hq⟩ := bnd_some hq
      obtain ⟨e12, n13, f14⟩ := rK_some e11
      replace f14 := sh_of (e).symm f14
      refine wp_getR ok fl_RX10_47 (sh_of e f_x0) e12 dX10_number_30 ?_
      refine wp_aload_n (v := x0) ok dX10_number_33 rfl ?_
      refine wp_getI ok fl_RX10_130 (sh_of e f_x0) dX10_number_34 ?_
      obtain ⟨g15, hq⟩ := gP_some hq
      refine wp_iald ok (sh_of e f14) (ix_of (sh_of e f14) g15) dX10_number_37 ?_
      refine wp_iadd ok dX10_number_38 ?_
      refine wp_bipush (v := 48) ok dX10_number_39 (by decide) ?_
      refine wp_isub ok dX10_number_41 ?_
      obtain ⟨v16, e17, hq⟩ := lt_some hq
      refine wp_nmI e17 ?_
      refine wp_istore_n (L' := [(2, .int v16), (3, .int x3), (0, .ref x0), (1, .int x1)]) ok dX10_number_42 rfl rfl ?_
      refine wp_aload_n (v := x0) ok dX10_number_43 rfl ?_
      refine wp_dup ok dX10_number_44 rfl ?_
      refine wp_getI ok fl_RX10_130 (sh_of e f_x0) dX10_number_45 ?_
      refine wp_iconst (v := 1) ok dX10_number_48 (by decide) ?_
      refine wp_iadd ok dX10_number_49 ?_
      refine wp_putI ok flw_RX10_130 (nr_10_13 _) (sh_of e f_x0) dX10_number_50 ?_
      obtain ⟨h18, e19, hq⟩ := lt_some hq
      refine wp_nmH e19 ?_
      have e20 : h18.1 = h0.1 := (congrArg Prod.fst e19).trans e
      obtain ⟨v21, e22, hq⟩ := lt_some hq
      refine wp_iinc (v := x3) (w := 1) (L' := [(3, .int v21), (2, .int v16), (0, .ref x0), (1, .int x1)]) ok dX10_number_53 rfl (by decide) rfl (by rw [← e22]; rfl) ?_
      refine wp_goto (tgt := 13) ok dX10_number_56 (by decide) ?_
      refine wp_sub (L' := [(2, .int v16), (3, .int v21), (0, .ref x0), (1, .int x1)]) [1, 0, 2, 3] rfl ?_
      exact ih v16 v21 h18 hq e20
set_option maxHeartbeats 4000000 in
set_option maxRecDepth 100000 in
theorem l_X10_number_B13 {x : Cx} {h0 : HP} {N fr : Nat} {rr : (Int32 × HP)} (ok : Okx x cX10_number yX10_number.cls 4 fr) (hfr : 2 ≤ fr)  {x0 : Nat} {x1 : Int32} {n_x0 : Nat} (f_x0 : h0.1[x0]? = some (10, n_x0)) (hF : Fend x h0 (some (.int)) (QI rr.1 rr.2)) : ∀ (n : Nat) (x2 : Int32) (x3 : Int32) (h : HP), lp (fun _ _ _ => none) (f_X10_number_B13 N x0 x1) n x2 x3 h = some rr → h.1 = h0.1 → wp x 13 [(2, .int x2), (3, .int x3), (0, .ref x0), (1, .int x1)] [] h := by
  intro n
  induction n with
  | zero => intro x2 x3 h hq e; exact (Option.some_ne_none _ hq.symm).elim
  | succ n ih => exact s_X10_number_B13 ok hfr f_x0 hF  ih
set_option maxHeartbeats 4000000 in
set_option maxRecDepth 100000 in
theorem m_X10_number {l : Launch} {h : HP} {N : Nat} {x0 : Nat} {x1 : Int32} {rr : Int32} {rh : HP} {fr : Nat} (hq : f_X10_number N h x0 x1 = some (rr, rh)) (hfr : 2 ≤ fr) : Mt l yX10_number cX10_number 4 (some (.int)) fr [.ref x0, .int x1] h (QI rr rh) := by
  obtain ⟨rp, ep⟩ : ∃ rp : (Int32 × HP), rp = (rr, rh) := ⟨_, rfl⟩
  have e1p : rr = rp.1 := (congrArg Prod.fst ep).symm
  have e2p : rh = rp.2 := (congrArg Prod.snd ep).symm
  rw [← ep] at hq
  rw [e1p, e2p]
  clear e1p e2p ep
  refine Mt.of (by decide +kernel) (Nat.le_of_ble_eq_true rfl) (fun x hl ok hF => ?_)
  subst hl
  show wp x 0 [(0, .ref x0), (1, .int x1)] [] h
  unfold f_X10_number at hq
  obtain ⟨h0, eh0⟩ : ∃ h0 : HP, h = h0 := ⟨h, rfl⟩
  have e : h.1 = h0.1 := by rw [eh0]
  rw [eh0] at hF
  obtain ⟨g_x0, hq⟩ := gP_some hq
  obtain ⟨n_x0, f_x0⟩ := kO_some g_x0
  replace f_x0 := sh_of e.symm f_x0
  refine wp_aload_n (v := x0) ok dX10_number_0 rfl ?_
  obtain ⟨v1, e2, hq⟩ := bnd_some hq
  refine wp_callVI (As := []) (rest := []) (h1 := h) ok (m_X10_isDigit e2 (Nat.le_refl _)) my_X10_isDigit (w_1224) pd_X10_isDigit (Nat.le_trans (by decide) hfr) rfl (ci := 10) rfl (by decide) (sh_of e f_x0) rfl rfl rfl dX10_number_1 (fun e3 => ?_)
  refine wp_if_ne (tgt := 9) ok dX10_number_4 (by decide) (fun c4 => ?_) (fun c4 => ?_)
  · have hq := ite_f c4 hq
    refine wp_iconst (v := 0) ok dX10_number_9 (by decide) ?_
    refine wp_istore_n (L' := [(2, .int 0), (0, .ref x0), (1, .int x1)]) ok dX10_number_10 rfl rfl ?_
    refine wp_iconst (v := 0) ok dX10_number_11 (by decide) ?_
    refine wp_istore_n (L' := [(3, .int 0), (2, .int 0), (0, .ref x0), (1, .int x1)]) ok dX10_number_12 rfl rfl ?_
    refine wp_sub (L' := [(2, .int 0), (3, .int 0), (0, .ref x0), (1, .int x1)]) [1, 0, 2, 3] rfl ?_
    refine l_X10_number_B13 ok hfr f_x0 hF  N 0 0 h hq e
  · have hq := ite_t c4 hq
    refine wp_iconst (v := -1) ok dX10_number_7 (by decide) ?_
    exact wp_iret ok hF rfl e (re2I hq) dX10_number_8
set_option maxHeartbeats 4000000 in
set_option maxRecDepth 100000 in
theorem m_X10_numberAbove {l : Launch} {h : HP} {N : Nat} {x0 : Nat} {x1 : Int32} {rr : Int32} {rh : HP} {fr : Nat} (hq : f_X10_numberAbove N h x0 x1 = some (rr, rh)) (hfr : 3 ≤ fr) : Mt l yX10_numberAbove cX10_numberAbove 3 (some (.int)) fr [.ref x0, .int x1] h (QI rr rh) := by
  obtain ⟨rp, ep⟩ : ∃ rp : (Int32 × HP), rp = (rr, rh) := ⟨_, rfl⟩
  have e1p : rr = rp.1 := (congrArg Prod.fst ep).symm
  have e2p : rh = rp.2 := (congrArg Prod.snd ep).symm
  rw [← ep] at hq
  rw [e1p, e2p]
  clear e1p e2p ep
  refine Mt.of (by decide +kernel) (Nat.le_of_ble_eq_true rfl) (fun x hl ok hF => ?_)
  subst hl
  show wp x 0 [(0, .ref x0), (1, .int x1)] [] h
  unfold f_X10_numberAbove at hq
  obtain ⟨h0, eh0⟩ : ∃ h0 : HP, h = h0 := ⟨h, rfl⟩
  have e : h.1 = h0.1 := by rw [eh0]
  rw [eh0] at hF
  obtain ⟨g_x0, hq⟩ := gP_some hq
  obtain ⟨n_x0, f_x0⟩ := kO_some g_x0
  replace f_x0 := sh_of e.symm f_x0
  refine wp_aload_n (v := x0) ok dX10_numberAbove_0 rfl ?_
  refine wp_iload_n (v := x1) ok dX10_numberAbove_1 rfl ?_
  obtain ⟨v1, h3, e2, hq⟩ := bnd2_some hq
  refine wp_callVI (As := [.int x1]) (rest := []) (h1 := h3) ok (m_X10_number e2 (Nat.le_refl _)) my_X10_number (w_1220) pd_X10_number (Nat.le_trans (by decide) hfr) rfl (ci := 10) rfl (by decide) (sh_of e f_x0) rfl rfl rfl dX10_numberAbove_2 (fun e4 => ?_)
  have e5 : h3.1 = h0.1 := (e4).trans e
  refine wp_istore_n (L' := [(2, .int v1), (0, .ref x0), (1, .int x1)]) ok dX10_numberAbove_5 rfl rfl ?_
  refine wp_aload_n (v := x0) ok dX10_numberAbove_6 rfl ?_
  refine wp_dup ok dX10_numberAbove_7 rfl ?_
  refine wp_getI ok fl_RX10_130 (sh_of e5 f_x0) dX10_numberAbove_8 ?_
  refine wp_iload_n (v := v1) ok dX10_numberAbove_11 rfl ?_
  obtain ⟨k6, ek6, hq⟩ := jn1_some hq
  have kk6 : ∀ (y7 : Int32), k6 y7 = some rp → wp x 20 [(2, .int v1)] [.int y7, .int (h3.2.1 x0 13), .ref x0] h3 := by
    intro y7 hq
    have hq := (ek6 y7).symm.trans hq
    obtain ⟨v8, e9, hq⟩ := bnd_some hq
    refine wp_callSI (As := [.int y7]) (rest := [.int (h3.2.1 x0 13), .ref x0]) (h1 := h3) ok (m_X10_flag e9 (Nat.le_refl _)) my_X10_flag (w_1230) pd_X10_flag (Nat.le_trans (by decide) hfr) rfl rfl rfl rfl dX10_numberAbove_20 (fun e10 => ?_)
    refine wp_isub ok dX10_numberAbove_23 ?_
    refine wp_putI ok flw_RX10_130 (nr_10_13 _) (sh_of e5 f_x0) dX10_numberAbove_24 ?_
    obtain ⟨h11, e12, hq⟩ := lt_some hq
    refine wp_nmH e12 ?_
    have e13 : h11.1 = h0.1 := (congrArg Prod.fst e12).trans e5
    refine wp_iload_n (v := v1) ok dX10_numberAbove_27 rfl ?_
    refine wp_if_ne (tgt := 35) ok dX10_numberAbove_28 (by decide) (fun c14 => ?_) (fun c14 => ?_)
    · have hq := ite_f c14 hq
      refine wp_iload_n (v := v1) ok dX10_numberAbove_35 rfl ?_
      exact wp_iret ok hF rfl e13 (re2I hq) dX10_numberAbove_36
    · have hq := ite_t c14 hq
      refine wp_iconst (v := -1) ok dX10_numberAbove_31 (by decide) ?_
      refine wp_goto (tgt := 36) ok dX10_numberAbove_32 (by decide) ?_
      exact wp_iret ok hF rfl e13 (re2I hq) dX10_numberAbove_36
  refine wp_if_ne (tgt := 19) ok dX10_numberAbove_12 (by decide) (fun c15 => ?_) (fun c15 => ?_)
  · have hq := ite_f c15 hq
    refine wp_iconst (v := 0) ok dX10_numberAbove_19 (by decide) ?_
    refine wp_sub (L' := [(2, .int v1)]) [0] rfl ?_
    exact kk6 0 hq
  · have hq := ite_t c15 hq
    refine wp_iconst (v := 1) ok dX10_numberAbove_15 (by decide) ?_
    refine wp_goto (tgt := 20) ok dX10_numberAbove_16 (by decide) ?_
    refine wp_sub (L' := [(2, .int v1)]) [0] rfl ?_
    exact kk6 1 hq
set_option maxHeartbeats 4000000 in
set_option maxRecDepth 100000 in
theorem m_X10_digitIn {l : Launch} {h : HP} {x0 : Nat} {x1 : Int32} {x2 : Int32} {rr : Int32} {rh : HP} {fr : Nat} (hq : f_X10_digitIn h x0 x1 x2 = some (rr, rh)) (hfr : 1 ≤ fr) : Mt l yX10_digitIn cX10_digitIn 3 (some (.int)) fr [.ref x0, .int x1, .int x2] h (QI rr rh) := by
  obtain ⟨rp, ep⟩ : ∃ rp : (Int32 × HP), rp = (rr, rh) := ⟨_, rfl⟩
  have e1p : rr = rp.1 := (congrArg Prod.fst ep).symm
  have e2p : rh = rp.2 := (congrArg Prod.snd ep).symm
  rw [← ep] at hq
  rw [e1p, e2p]
  clear e1p e2p ep
  refine Mt.of (by decide +kernel) (Nat.le_of_ble_eq_true rfl) (fun x hl ok hF => ?_)
  subst hl
  show wp x 0 [(0, .ref x0), (1, .int x1), (2, .int x2)] [] h
  unfold f_X10_digitIn at hq
  obtain ⟨h0, eh0⟩ : ∃ h0 : HP, h = h0 := ⟨h, rfl⟩
  have e : h.1 = h0.1 := by rw [eh0]
  rw [eh0] at hF
  obtain ⟨g_x0, hq⟩ := gP_some hq
  obtain ⟨n_x0, f_x0⟩ := kO_some g_x0
  replace f_x0 := sh_of e.symm f_x0
  refine wp_aload_n (v := x0) ok dX10_digitIn_0 rfl ?_
  refine wp_getI ok fl_RX10_130 (sh_of e f_x0) dX10_digitIn_1 ?_
  refine wp_aload_n (v := x0) ok dX10_digitIn_4 rfl ?_
  refine wp_getI ok fl_RX10_142 (sh_of e f_x0) dX10_digitIn_5 ?_
  refine wp_icmp_ge (tgt := 34) ok dX10_digitIn_8 (by decide) (fun c1 => ?_) (fun c1 => ?_)
  · have hq := ite_t c1 hq
    refine wp_iconst (v := -1) ok dX10_digitIn_34 (by decide) ?_
    exact wp_iret ok hF rfl e (re2I hq) dX10_digitIn_35
  · have hq := ite_f c1 hq
    refine wp_aload_n (v := x0) ok dX10_digitIn_11 rfl ?_
    obtain ⟨t2, e3, hq⟩ := bnd_some hq
    obtain ⟨e4, n5, f6⟩ := rK_some e3
    replace f6 := sh_of (e).symm f6
    refine wp_getR ok fl_RX10_47 (sh_of e f_x0) e4 dX10_digitIn_12 ?_
    refine wp_aload_n (v := x0) ok dX10_digitIn_15 rfl ?_
    refine wp_getI ok fl_RX10_130 (sh_of e f_x0) dX10_digitIn_16 ?_
    obtain ⟨g7, hq⟩ := gP_some hq
    refine wp_iald ok (sh_of e f6) (ix_of (sh_of e f6) g7) dX10_digitIn_19 ?_
    refine wp_bipush (v := 48) ok dX10_digitIn_20 (by decide) ?_
    refine wp_isub ok dX10_digitIn_22 ?_
    refine wp_i2l ok dX10_digitIn_23 ?_
    refine wp_iload_n (v := x1) ok dX10_digitIn_24 rfl ?_
    refine wp_i2l ok dX10_digitIn_25 ?_
    refine wp_iload_n (v := x2) ok dX10_digitIn_26 rfl ?_
    refine wp_i2l ok dX10_digitIn_27 ?_
    obtain ⟨v8, e9, hq⟩ := bnd_some hq
    refine wp_callSI (As := [.long (((h.2.1 t2 (h.2.1 x0 13).toNatClampNeg) - 48).toInt64), .long (x1.toInt64), .long (x2.toInt64)]) (rest := []) (h1 := h) ok (m_X10_in e9 (Nat.le_refl _)) my_X10_in (w_1200) pd_X10_in (Nat.le_trans (by decide) hfr) rfl rfl rfl rfl dX10_digitIn_28 (fun e10 => ?_)
    refine wp_if_ne (tgt := 36) ok dX10_digitIn_31 (by decide) (fun c11 => ?_) (fun c11 => ?_)
    · have hq := ite_f c11 hq
      refine wp_aload_n (v := x0) ok dX10_digitIn_36 rfl ?_
      refine wp_dup ok dX10_digitIn_37 rfl ?_
      refine wp_getI ok fl_RX10_130 (sh_of e f_x0) dX10_digitIn_38 ?_
      refine wp_iconst (v := 1) ok dX10_digitIn_41 (by decide) ?_
      refine wp_iadd ok dX10_digitIn_42 ?_
      refine wp_putI ok flw_RX10_130 (nr_10_13 _) (sh_of e f_x0) dX10_digitIn_43 ?_
      obtain ⟨h12, e13, hq⟩ := lt_some hq
      refine wp_nmH e13 ?_
      have e14 : h12.1 = h0.1 := (congrArg Prod.fst e13).trans e
      refine wp_aload_n (v := x0) ok dX10_digitIn_46 rfl ?_
      obtain ⟨t15, e16, hq⟩ := bnd_some hq
      obtain ⟨e17, n18, f19⟩ := rK_some e16
      replace f19 := sh_of (e14).symm f19
      refine wp_getR ok fl_RX10_47 (sh_of e14 f_x0) e17 dX10_digitIn_47 ?_
      refine wp_aload_n (v := x0) ok dX10_digitIn_50 rfl ?_
      refine wp_getI ok fl_RX10_130 (sh_of e14 f_x0) dX10_digitIn_51 ?_
      refine wp_iconst (v := 1) ok dX10_digitIn_54 (by decide) ?_
      refine wp_isub ok dX10_digitIn_55 ?_
      obtain ⟨g20, hq⟩ := gP_some hq
      refine wp_iald ok (sh_of e14 f19) (ix_of (sh_of e14 f19) g20) dX10_digitIn_56 ?_
      refine wp_bipush (v := 48) ok dX10_digitIn_57 (by decide) ?_
      refine wp_isub ok dX10_digitIn_59 ?_
      exact wp_iret ok hF rfl e14 (re2I hq) dX10_digitIn_60
    · have hq := ite_t c11 hq
      refine wp_iconst (v := -1) ok dX10_digitIn_34 (by decide) ?_
      exact wp_iret ok hF rfl e (re2I hq) dX10_digitIn_35
set_option maxHeartbeats 4000000 in
set_option maxRecDepth 100000 in
theorem m_X10_faultOf {l : Launch} {h : HP} {x0 : Nat} {x1 : Int32} {x2 : Int32} {x3 : Int32} {rr : Int32} {fr : Nat} (hq : f_X10_faultOf h x0 x1 x2 x3 = some rr) (hfr : 0 ≤ fr) : Mt l yX10_faultOf cX10_faultOf 5 (some (.int)) fr [.ref x0, .int x1, .int x2, .int x3] h (QI rr h) := by
  refine Mt.of (by decide +kernel) (Nat.le_of_ble_eq_true rfl) (fun x hl ok hF => ?_)
  subst hl
  show wp x 0 [(0, .ref x0), (1, .int x1), (2, .int x2), (3, .int x3)] [] h
  unfold f_X10_faultOf at hq
  obtain ⟨g_x0, hq⟩ := gP_some hq
  obtain ⟨n_x0, f_x0⟩ := kO_some g_x0
  refine wp_iload_n (v := x3) ok dX10_faultOf_0 rfl ?_
  obtain ⟨k1, ek1, hq⟩ := jn1_some hq
  have kk1 : ∀ (y2 : Int32), k1 y2 = some rr → wp x 20 [(0, .ref x0), (1, .int x1), (2, .int x2)] [.int y2] h := by
    intro y2 hq
    have hq := (ek1 y2).symm.trans hq
    refine wp_istore (L' := [(4, .int y2), (0, .ref x0), (1, .int x1), (2, .int x2)]) ok dX10_faultOf_20 rfl rfl ?_
    refine wp_iload_n (v := x1) ok dX10_faultOf_22 rfl ?_
    refine wp_iload_n (v := x2) ok dX10_faultOf_23 rfl ?_
    obtain ⟨k3, ek3, hq⟩ := jn0_some hq
    have kk3 : k3 = some rr → wp x 44 [(4, .int y2), (0, .ref x0)] [] h := by
      intro hq
      rw [ek3] at hq
      refine wp_iload (v := y2) ok dX10_faultOf_44 rfl ?_
      refine wp_if_eq (tgt := 53) ok dX10_faultOf_46 (by decide) (fun c4 => ?_) (fun c4 => ?_)
      · have hq := ite_t c4 hq
        refine wp_iconst (v := -1) ok dX10_faultOf_53 (by decide) ?_
        refine wp_aload_n (v := x0) ok dX10_faultOf_54 rfl ?_
        refine wp_getI ok fl_RX10_130 (sh_of rfl f_x0) dX10_faultOf_55 ?_
        refine wp_isub ok dX10_faultOf_58 ?_
        exact wp_iret ok hF rfl rfl (re1I hq) dX10_faultOf_59
      · have hq := ite_f c4 hq
        refine wp_iconst (v := 0) ok dX10_faultOf_49 (by decide) ?_
        refine wp_goto (tgt := 59) ok dX10_faultOf_50 (by decide) ?_
        exact wp_iret ok hF rfl rfl (re1I hq) dX10_faultOf_59
    refine wp_icmp_le (tgt := 44) ok dX10_faultOf_24 (by decide) (fun c5 => ?_) (fun c5 => ?_)
    · have hq := ite_t c5 hq
      refine wp_sub (L' := [(4, .int y2), (0, .ref x0)]) [0, 1] rfl ?_
      exact kk3 hq
    · have hq := ite_f c5 hq
      refine wp_iload (v := y2) ok dX10_faultOf_27 rfl ?_
      refine wp_if_ne (tgt := 40) ok dX10_faultOf_29 (by decide) (fun c6 => ?_) (fun c6 => ?_)
      · have hq := ite_f c6 hq
        refine wp_iconst (v := -1) ok dX10_faultOf_40 (by decide) ?_
        refine wp_iload_n (v := x2) ok dX10_faultOf_41 rfl ?_
        refine wp_isub ok dX10_faultOf_42 ?_
        exact wp_iret ok hF rfl rfl (re1I hq) dX10_faultOf_43
      · have hq := ite_t c6 hq
        refine wp_aload_n (v := x0) ok dX10_faultOf_32 rfl ?_
        refine wp_getI ok fl_RX10_130 (sh_of rfl f_x0) dX10_faultOf_33 ?_
        refine wp_iload_n (v := x2) ok dX10_faultOf_36 rfl ?_
        refine wp_icmp_lt (tgt := 44) ok dX10_faultOf_37 (by decide) (fun c7 => ?_) (fun c7 => ?_)
        · have hq := ite_t c7 hq
          refine wp_sub (L' := [(4, .int y2), (0, .ref x0)]) [0, 1] rfl ?_
          exact kk3 hq
        · have hq := ite_f c7 hq
          refine wp_iconst (v := -1) ok dX10_faultOf_40 (by decide) ?_
          refine wp_iload_n (v := x2) ok dX10_faultOf_41 rfl ?_
          refine wp_isub ok dX10_faultOf_42 ?_
          exact wp_iret ok hF rfl rfl (re1I hq) dX10_faultOf_43
  obtain ⟨k8, ek8, hq⟩ := jn0_some hq
  have kk8 : k8 = some rr → wp x 19 [(0, .ref x0), (1, .int x1), (2, .int x2)] [] h := by
    intro hq
    rw [ek8] at hq
    refine wp_iconst (v := 0) ok dX10_faultOf_19 (by decide) ?_
    refine wp_sub (L' := [(0, .ref x0), (1, .int x1), (2, .int x2)]) [0, 1, 2] rfl ?_
    exact kk1 0 hq
  refine wp_if_eq (tgt := 19) ok dX10_faultOf_1 (by decide) (fun c9 => ?_) (fun c9 => ?_)
  · have hq := ite_t c9 hq
    refine wp_sub (L' := [(0, .ref x0), (1, .int x1), (2, .int x2)]) [0, 1, 2] rfl ?_
    exact kk8 hq
  · have hq := ite_f c9 hq
    refine wp_aload_n (v := x0) ok dX10_faultOf_4 rfl ?_
    refine wp_getI ok fl_RX10_130 (sh_of rfl f_x0) dX10_faultOf_5 ?_
    refine wp_aload_n (v := x0) ok dX10_faultOf_8 rfl ?_
    refine wp_getI ok fl_RX10_142 (sh_of rfl f_x0) dX10_faultOf_9 ?_
    refine wp_icmp_ne (tgt := 19) ok dX10_faultOf_12 (by decide) (fun c10 => ?_) (fun c10 => ?_)
    · have hq := ite_f c10 hq
      refine wp_sub (L' := [(0, .ref x0), (1, .int x1), (2, .int x2)]) [0, 1, 2] rfl ?_
      exact kk8 hq
    · have hq := ite_t c10 hq
      refine wp_iconst (v := 1) ok dX10_faultOf_15 (by decide) ?_
      refine wp_goto (tgt := 20) ok dX10_faultOf_16 (by decide) ?_
      refine wp_sub (L' := [(0, .ref x0), (1, .int x1), (2, .int x2)]) [0, 1, 2] rfl ?_
      exact kk1 1 hq
set_option maxHeartbeats 4000000 in
set_option maxRecDepth 100000 in
theorem m_X10_readsMarket {l : Launch} {h : HP} {N : Nat} {x0 : Nat} {rr : Int32} {rh : HP} {fr : Nat} (hq : f_X10_readsMarket N h x0 = some (rr, rh)) (hfr : 4 ≤ fr) : Mt l yX10_readsMarket cX10_readsMarket 1 (some (.boolean)) fr [.ref x0] h (QI rr rh) := by
  obtain ⟨rp, ep⟩ : ∃ rp : (Int32 × HP), rp = (rr, rh) := ⟨_, rfl⟩
  have e1p : rr = rp.1 := (congrArg Prod.fst ep).symm
  have e2p : rh = rp.2 := (congrArg Prod.snd ep).symm
  rw [← ep] at hq
  rw [e1p, e2p]
  clear e1p e2p ep
  refine Mt.of (by decide +kernel) (Nat.le_of_ble_eq_true rfl) (fun x hl ok hF => ?_)
  subst hl
  show wp x 0 [(0, .ref x0)] [] h
  unfold f_X10_readsMarket at hq
  obtain ⟨h0, eh0⟩ : ∃ h0 : HP, h = h0 := ⟨h, rfl⟩
  have e : h.1 = h0.1 := by rw [eh0]
  rw [eh0] at hF
  obtain ⟨g_x0, hq⟩ := gP_some hq
  obtain ⟨n_x0, f_x0⟩ := kO_some g_x0
  replace f_x0 := sh_of e.symm f_x0
  refine wp_aload_n (v := x0) ok dX10_readsMarket_0 rfl ?_
  refine wp_getI ok fl_RX10_120 (sh_of e f_x0) dX10_readsMarket_1 ?_
  refine wp_aload_n (v := x0) ok dX10_readsMarket_4 rfl ?_
  refine wp_getI ok fl_RX10_171 (sh_of e f_x0) dX10_readsMarket_5 ?_
  refine wp_iadd ok dX10_readsMarket_8 ?_
  refine wp_bipush (v := 6) ok dX10_readsMarket_9 (by decide) ?_
  refine wp_icmp_ne (tgt := 16) ok dX10_readsMarket_11 (by decide) (fun c1 => ?_) (fun c1 => ?_)
  · have hq := ite_f c1 hq
    refine wp_aload_n (v := x0) ok dX10_readsMarket_16 rfl ?_
    obtain ⟨t2, e3, hq⟩ := bnd_some hq
    obtain ⟨e4, n5, f6⟩ := rK_some e3
    replace f6 := sh_of (e).symm f6
    refine wp_getR ok fl_RX10_50 (sh_of e f_x0) e4 dX10_readsMarket_17 ?_
    refine wp_aload_n (v := x0) ok dX10_readsMarket_20 rfl ?_
    refine wp_getI ok fl_RX10_171 (sh_of e f_x0) dX10_readsMarket_21 ?_
    refine wp_aload_n (v := x0) ok dX10_readsMarket_24 rfl ?_
    refine wp_iconst (v := 2) ok dX10_readsMarket_25 (by decide) ?_
    obtain ⟨v7, h9, e8, hq⟩ := bnd2_some hq
    refine wp_callVI (As := [.int 2]) (rest := [.int (h.2.1 x0 18), .ref t2]) (h1 := h9) ok (m_X10_numberAbove e8 (Nat.le_refl _)) my_X10_numberAbove (w_1216) pd_X10_numberAbove (Nat.le_trans (by decide) hfr) rfl (ci := 10) rfl (by decide) (sh_of e f_x0) rfl rfl rfl dX10_readsMarket_26 (fun e10 => ?_)
    have e11 : h9.1 = h0.1 := (e10).trans e
    obtain ⟨g12, hq⟩ := gP_some hq
    refine wp_iast ok (sh_of e11 f6) (ix_of (sh_of e11 f6) g12) dX10_readsMarket_29 ?_
    obtain ⟨h13, e14, hq⟩ := lt_some hq
    refine wp_nmH e14 ?_
    have e15 : h13.1 = h0.1 := (congrArg Prod.fst e14).trans e11
    refine wp_aload_n (v := x0) ok dX10_readsMarket_30 rfl ?_
    refine wp_dup ok dX10_readsMarket_31 rfl ?_
    refine wp_getI ok fl_RX10_171 (sh_of e15 f_x0) dX10_readsMarket_32 ?_
    refine wp_iconst (v := 1) ok dX10_readsMarket_35 (by decide) ?_
    refine wp_iadd ok dX10_readsMarket_36 ?_
    refine wp_putI ok flw_RX10_171 (nr_10_18 _) (sh_of e15 f_x0) dX10_readsMarket_37 ?_
    obtain ⟨h16, e17, hq⟩ := lt_some hq
    refine wp_nmH e17 ?_
    have e18 : h16.1 = h0.1 := (congrArg Prod.fst e17).trans e15
    refine wp_aload_n (v := x0) ok dX10_readsMarket_40 rfl ?_
    obtain ⟨t19, e20, hq⟩ := bnd_some hq
    obtain ⟨e21, n22, f23⟩ := rK_some e20
    replace f23 := sh_of (e18).symm f23
    refine wp_getR ok fl_RX10_50 (sh_of e18 f_x0) e21 dX10_readsMarket_41 ?_
    refine wp_aload_n (v := x0) ok dX10_readsMarket_44 rfl ?_
    refine wp_getI ok fl_RX10_171 (sh_of e18 f_x0) dX10_readsMarket_45 ?_
    refine wp_iconst (v := 1) ok dX10_readsMarket_48 (by decide) ?_
    refine wp_isub ok dX10_readsMarket_49 ?_
    obtain ⟨g24, hq⟩ := gP_some hq
    refine wp_iald ok (sh_of e18 f23) (ix_of (sh_of e18 f23) g24) dX10_readsMarket_50 ?_
    refine wp_if_lt (tgt := 58) ok dX10_readsMarket_51 (by decide) (fun c25 => ?_) (fun c25 => ?_)
    · have hq := ite_t c25 hq
      refine wp_iconst (v := 0) ok dX10_readsMarket_58 (by decide) ?_
      exact wp_iret ok hF (nb_z (Or.inl rfl)) e18 (re2I hq) dX10_readsMarket_59
    · have hq := ite_f c25 hq
      refine wp_iconst (v := 1) ok dX10_readsMarket_54 (by decide) ?_
      refine wp_goto (tgt := 59) ok dX10_readsMarket_55 (by decide) ?_
      exact wp_iret ok hF (nb_z (Or.inr rfl)) e18 (re2I hq) dX10_readsMarket_59
  · have hq := ite_t c1 hq
    refine wp_iconst (v := 0) ok dX10_readsMarket_14 (by decide) ?_
    exact wp_iret ok hF (nb_z (Or.inl rfl)) e (re2I hq) dX10_readsMarket_15
set_option maxHeartbeats 4000000 in
set_option maxRecDepth 100000 in
theorem s_X10_markets_B29 {x : Cx} {h0 : HP} {N fr : Nat} {rr : (Int32 × HP)} (ok : Okx x cX10_markets yX10_markets.cls 7 fr) (hfr : 5 ≤ fr)  {x0 : Nat} {x1 : Int32} {n_x0 : Nat} (f_x0 : h0.1[x0]? = some (10, n_x0)) (hF : Fend x h0 (some (.int)) (QI rr.1 rr.2)) {k60 : Int32 → HP → Option (Int32 × HP)} (hk60 : ∀ (x2 : Int32) (h : HP), k60 x2 h = some rr → h.1 = h0.1 → wp x 60 [(2, .int x2), (0, .ref x0), (1, .int x1)] [] h) {rc : Int32 → Int32 → HP → Option (Int32 × HP)} (ih : ∀ (x2 : Int32) (x3 : Int32) (h : HP), rc x2 x3 h = some rr → h.1 = h0.1 → wp x 29 [(2, .int x2), (3, .int x3), (0, .ref x0), (1, .int x1)] [] h) : ∀ (x2 : Int32) (x3 : Int32) (h : HP), f_X10_markets_B29 N x0 x1 k60 rc x2 x3 h = some rr → h.1 = h0.1 → wp x 29 [(2, .int x2), (3, .int x3), (0, .ref x0), (1, .int x1)] [] h := by
  intro x2 x3 h hq e
  unfold f_X10_markets_B29 at hq
  refine wp_iload_n (v := x3) ok dX10_markets_29 rfl ?_
  refine wp_if_eq (tgt := 60) ok dX10_markets_30 (by decide) (fun c14 => ?_) (fun c14 => ?_)
  · have hq := ite_t c14 hq
    refine wp_sub (L' := [(2, .int x2), (0, .ref x0), (1, .int x1)]) [0, 2, 3] rfl ?_
    exact hk60 x2 h hq e
  · have hq := ite_f c14 hq
    refine wp_aload_n (v := x0) ok dX10_markets_33 rfl ?_
    obtain ⟨v15, h17, e16, hq⟩ := bnd2_some hq
    refine wp_callVI (As := []) (rest := []) (h1 := h17) ok (m_X10_readsMarket e16 (Nat.le_refl _)) my_X10_readsMarket (w_1212) pd_X10_readsMarket (Nat.le_trans (by decide) hfr) rfl (ci := 10) rfl (by decide) (sh_of e f_x0) rfl rfl rfl dX10_markets_34 (fun e18 => ?_)
    have e19 : h17.1 = h0.1 := (e18).trans e
    refine wp_istore_n (L' := [(2, .int v15), (3, .int x3), (0, .ref x0), (1, .int x1)]) ok dX10_markets_37 rfl rfl ?_
    refine wp_iload_n (v := v15) ok dX10_markets_38 rfl ?_
    refine wp_if_eq (tgt := 55) ok dX10_markets_39 (by decide) (fun c20 => ?_) (fun c20 => ?_)
    · have hq := ite_t c20 hq
      refine wp_iconst (v := 0) ok dX10_markets_55 (by decide) ?_
      refine wp_istore_n (L' := [(3, .int 0), (2, .int v15), (0, .ref x0), (1, .int x1)]) ok dX10_markets_56 rfl rfl ?_
      refine wp_goto (tgt := 29) ok dX10_markets_57 (by decide) ?_
      refine wp_sub (L' := [(2, .int v15), (3, .int 0), (0, .ref x0), (1, .int x1)]) [1, 0, 2, 3] rfl ?_
      exact ih v15 0 h17 hq e19
    · have hq := ite_f c20 hq
      refine wp_aload_n (v := x0) ok dX10_markets_42 rfl ?_
      refine wp_bipush (v := 59) ok dX10_markets_43 (by decide) ?_
      obtain ⟨v21, h23, e22, hq⟩ := bnd2_some hq
      refine wp_callVI (As := [.int 59]) (rest := []) (h1 := h23) ok (m_X10_takes e22 (Nat.le_refl _)) my_X10_takes (w_1233) pd_X10_takes (Nat.le_trans (by decide) hfr) rfl (ci := 10) rfl (by decide) (sh_of e19 f_x0) rfl rfl rfl dX10_markets_45 (fun e24 => ?_)
      have e25 : h23.1 = h0.1 := (e24).trans e19
      refine wp_if_eq (tgt := 55) ok dX10_markets_48 (by decide) (fun c26 => ?_) (fun c26 => ?_)
      · have hq := ite_t c26 hq
        refine wp_iconst (v := 0) ok dX10_markets_55 (by decide) ?_
        refine wp_istore_n (L' := [(3, .int 0), (2, .int v15), (0, .ref x0), (1, .int x1)]) ok dX10_markets_56 rfl rfl ?_
        refine wp_goto (tgt := 29) ok dX10_markets_57 (by decide) ?_
        refine wp_sub (L' := [(2, .int v15), (3, .int 0), (0, .ref x0), (1, .int x1)]) [1, 0, 2, 3] rfl ?_
        exact ih v15 0 h23 hq e25
      · have hq := ite_f c26 hq
        refine wp_iconst (v := 1) ok dX10_markets_51 (by decide) ?_
        refine wp_goto (tgt := 56) ok dX10_markets_52 (by decide) ?_
        refine wp_istore_n (L' := [(3, .int 1), (2, .int v15), (0, .ref x0), (1, .int x1)]) ok dX10_markets_56 rfl rfl ?_
        refine wp_goto (tgt := 29) ok dX10_markets_57 (by decide) ?_
        refine wp_sub (L' := [(2, .int v15), (3, .int 1), (0, .ref x0), (1, .int x1)]) [1, 0, 2, 3] rfl ?_
        exact ih v15 1 h23 hq e25
set_option maxHeartbeats 4000000 in
set_option maxRecDepth 100000 in
theorem l_X10_markets_B29 {x : Cx} {h0 : HP} {N fr : Nat} {rr : (Int32 × HP)} (ok : Okx x cX10_markets yX10_markets.cls 7 fr) (hfr : 5 ≤ fr)  {x0 : Nat} {x1 : Int32} {n_x0 : Nat} (f_x0 : h0.1[x0]? = some (10, n_x0)) (hF : Fend x h0 (some (.int)) (QI rr.1 rr.2)) {k60 : Int32 → HP → Option (Int32 × HP)} (hk60 : ∀ (x2 : Int32) (h : HP), k60 x2 h = some rr → h.1 = h0.1 → wp x 60 [(2, .int x2), (0, .ref x0), (1, .int x1)] [] h) : ∀ (n : Nat) (x2 : Int32) (x3 : Int32) (h : HP), lp (fun _ _ _ => none) (f_X10_markets_B29 N x0 x1 k60) n x2 x3 h = some rr → h.1 = h0.1 → wp x 29 [(2, .int x2), (3, .int x3), (0, .ref x0), (1, .int x1)] [] h := by
  intro n
  induction n with
  | zero => intro x2 x3 h hq e; exact (Option.some_ne_none _ hq.symm).elim
  | succ n ih => exact s_X10_markets_B29 ok hfr f_x0 hF hk60 ih
set_option maxHeartbeats 4000000 in
set_option maxRecDepth 100000 in
theorem s_X10_markets_B109 {x : Cx} {h0 : HP} {N fr : Nat} {rr : (Int32 × HP)} (ok : Okx x cX10_markets yX10_markets.cls 7 fr) (hfr : 5 ≤ fr)  {x0 : Nat} {x5 : Int32} {n_x0 : Nat} (f_x0 : h0.1[x0]? = some (10, n_x0)) (hF : Fend x h0 (some (.int)) (QI rr.1 rr.2)) {k137 : HP → Option (Int32 × HP)} (hk137 : ∀ (h : HP), k137 h = some rr → h.1 = h0.1 → wp x 137 [(0, .ref x0), (5, .int x5)] [] h) {rc : Int32 → HP → Option (Int32 × HP)} (ih : ∀ (x6 : Int32) (h : HP), rc x6 h = some rr → h.1 = h0.1 → wp x 109 [(6, .int x6), (0, .ref x0), (5, .int x5)] [] h) : ∀ (x6 : Int32) (h : HP), f_X10_markets_B109 N x0 x5 k137 rc x6 h = some rr → h.1 = h0.1 → wp x 109 [(6, .int x6), (0, .ref x0), (5, .int x5)] [] h := by
  intro x6 h hq e
  unfold f_X10_markets_B109 at hq
  refine wp_iload (v := x6) ok dX10_markets_109 rfl ?_
  refine wp_iconst (v := 4) ok dX10_markets_111 (by decide) ?_
  refine wp_icmp_ge (tgt := 137) ok dX10_markets_112 (by decide) (fun c50 => ?_) (fun c50 => ?_)
  · have hq := ite_t c50 hq
    refine wp_sub (L' := [(0, .ref x0), (5, .int x5)]) [1, 2] rfl ?_
    exact hk137 h hq e
  · have hq := ite_f c50 hq
    refine wp_aload_n (v := x0) ok dX10_markets_115 rfl ?_
    obtain ⟨t51, e52, hq⟩ := bnd_some hq
    obtain ⟨e53, n54, f55⟩ := rK_some e52
    replace f55 := sh_of (e).symm f55
    refine wp_getR ok fl_RX10_41 (sh_of e f_x0) e53 dX10_markets_116 ?_
    refine wp_bipush (v := 6) ok dX10_markets_119 (by decide) ?_
    refine wp_iload (v := x6) ok dX10_markets_121 rfl ?_
    refine wp_imul ok dX10_markets_123 ?_
    refine wp_aload_n (v := x0) ok dX10_markets_124 rfl ?_
    refine wp_getI ok fl_RX10_120 (sh_of e f_x0) dX10_markets_125 ?_
    refine wp_iadd ok dX10_markets_128 ?_
    refine wp_iconst (v := 0) ok dX10_markets_129 (by decide) ?_
    obtain ⟨g56, hq⟩ := gP_some hq
    refine wp_iast ok (sh_of e f55) (ix_of (sh_of e f55) g56) dX10_markets_130 ?_
    obtain ⟨h57, e58, hq⟩ := lt_some hq
    refine wp_nmH e58 ?_
    have e59 : h57.1 = h0.1 := (congrArg Prod.fst e58).trans e
    obtain ⟨v60, e61, hq⟩ := lt_some hq
    refine wp_iinc (v := x6) (w := 1) (L' := [(6, .int v60), (0, .ref x0), (5, .int x5)]) ok dX10_markets_131 rfl (by decide) rfl (by rw [← e61]; rfl) ?_
    refine wp_goto (tgt := 109) ok dX10_markets_134 (by decide) ?_
    refine wp_sub (L' := [(6, .int v60), (0, .ref x0), (5, .int x5)]) [0, 1, 2] rfl ?_
    exact ih v60 h57 hq e59
set_option maxHeartbeats 4000000 in
set_option maxRecDepth 100000 in
theorem l_X10_markets_B109 {x : Cx} {h0 : HP} {N fr : Nat} {rr : (Int32 × HP)} (ok : Okx x cX10_markets yX10_markets.cls 7 fr) (hfr : 5 ≤ fr)  {x0 : Nat} {x5 : Int32} {n_x0 : Nat} (f_x0 : h0.1[x0]? = some (10, n_x0)) (hF : Fend x h0 (some (.int)) (QI rr.1 rr.2)) {k137 : HP → Option (Int32 × HP)} (hk137 : ∀ (h : HP), k137 h = some rr → h.1 = h0.1 → wp x 137 [(0, .ref x0), (5, .int x5)] [] h) : ∀ (n : Nat) (x6 : Int32) (h : HP), lp (fun _ _ => none) (f_X10_markets_B109 N x0 x5 k137) n x6 h = some rr → h.1 = h0.1 → wp x 109 [(6, .int x6), (0, .ref x0), (5, .int x5)] [] h := by
  intro n
  induction n with
  | zero => intro x6 h hq e; exact (Option.some_ne_none _ hq.symm).elim
  | succ n ih => exact s_X10_markets_B109 ok hfr f_x0 hF hk137 ih
set_option maxHeartbeats 4000000 in
set_option maxRecDepth 100000 in
theorem s_X10_markets_B81 {x : Cx} {h0 : HP} {N fr : Nat} {rr : (Int32 × HP)} (ok : Okx x cX10_markets yX10_markets.cls 7 fr) (hfr : 5 ≤ fr)  {x0 : Nat} {n_x0 : Nat} (f_x0 : h0.1[x0]? = some (10, n_x0)) (hF : Fend x h0 (some (.int)) (QI rr.1 rr.2)) {k153 : HP → Option (Int32 × HP)} (hk153 : ∀ (h : HP), k153 h = some rr → h.1 = h0.1 → wp x 153 [(0, .ref x0)] [] h) {rc : Int32 → HP → Option (Int32 × HP)} (ih : ∀ (x5 : Int32) (h : HP), rc x5 h = some rr → h.1 = h0.1 → wp x 81 [(5, .int x5), (0, .ref x0)] [] h) : ∀ (x5 : Int32) (h : HP), f_X10_markets_B81 N x0 k153 rc x5 h = some rr → h.1 = h0.1 → wp x 81 [(5, .int x5), (0, .ref x0)] [] h := by
  intro x5 h hq e
  unfold f_X10_markets_B81 at hq
  refine wp_iload (v := x5) ok dX10_markets_81 rfl ?_
  refine wp_aload_n (v := x0) ok dX10_markets_83 rfl ?_
  refine wp_getI ok fl_RX10_171 (sh_of e f_x0) dX10_markets_84 ?_
  refine wp_icmp_ge (tgt := 153) ok dX10_markets_87 (by decide) (fun c34 => ?_) (fun c34 => ?_)
  · have hq := ite_t c34 hq
    refine wp_sub (L' := [(0, .ref x0)]) [1] rfl ?_
    exact hk153 h hq e
  · have hq := ite_f c34 hq
    refine wp_aload_n (v := x0) ok dX10_markets_90 rfl ?_
    obtain ⟨t35, e36, hq⟩ := bnd_some hq
    obtain ⟨e37, n38, f39⟩ := rK_some e36
    replace f39 := sh_of (e).symm f39
    refine wp_getR ok fl_RX10_38 (sh_of e f_x0) e37 dX10_markets_91 ?_
    refine wp_aload_n (v := x0) ok dX10_markets_94 rfl ?_
    refine wp_getI ok fl_RX10_120 (sh_of e f_x0) dX10_markets_95 ?_
    refine wp_aload_n (v := x0) ok dX10_markets_98 rfl ?_
    obtain ⟨t40, e41, hq⟩ := bnd_some hq
    obtain ⟨e42, n43, f44⟩ := rK_some e41
    replace f44 := sh_of (e).symm f44
    refine wp_getR ok fl_RX10_50 (sh_of e f_x0) e42 dX10_markets_99 ?_
    refine wp_iload (v := x5) ok dX10_markets_102 rfl ?_
    obtain ⟨g45, hq⟩ := gP_some hq
    refine wp_iald ok (sh_of e f44) (ix_of (sh_of e f44) g45) dX10_markets_104 ?_
    obtain ⟨g46, hq⟩ := gP_some hq
    refine wp_iast ok (sh_of e f39) (ix_of (sh_of e f39) g46) dX10_markets_105 ?_
    obtain ⟨h47, e48, hq⟩ := lt_some hq
    refine wp_nmH e48 ?_
    have e49 : h47.1 = h0.1 := (congrArg Prod.fst e48).trans e
    refine wp_iconst (v := 0) ok dX10_markets_106 (by decide) ?_
    refine wp_istore (L' := [(6, .int 0), (5, .int x5), (0, .ref x0)]) ok dX10_markets_107 rfl rfl ?_
    refine wp_sub (L' := [(6, .int 0), (0, .ref x0), (5, .int x5)]) [0, 2, 1] rfl ?_
    refine l_X10_markets_B109 ok hfr f_x0 hF ?_ N 0 h47 hq e49
    · intro h62 hq e63
      refine wp_aload_n (v := x0) ok dX10_markets_137 rfl ?_
      refine wp_dup ok dX10_markets_138 rfl ?_
      refine wp_getI ok fl_RX10_120 (sh_of e63 f_x0) dX10_markets_139 ?_
      refine wp_iconst (v := 1) ok dX10_markets_142 (by decide) ?_
      refine wp_iadd ok dX10_markets_143 ?_
      refine wp_putI ok flw_RX10_120 (nr_10_3 _) (sh_of e63 f_x0) dX10_markets_144 ?_
      obtain ⟨h64, e65, hq⟩ := lt_some hq
      refine wp_nmH e65 ?_
      have e66 : h64.1 = h0.1 := (congrArg Prod.fst e65).trans e63
      obtain ⟨v67, e68, hq⟩ := lt_some hq
      refine wp_iinc (v := x5) (w := 1) (L' := [(5, .int v67), (0, .ref x0)]) ok dX10_markets_147 rfl (by decide) rfl (by rw [← e68]; rfl) ?_
      refine wp_goto (tgt := 81) ok dX10_markets_150 (by decide) ?_
      refine wp_sub (L' := [(5, .int v67), (0, .ref x0)]) [0, 1] rfl ?_
      exact ih v67 h64 hq e66
set_option maxHeartbeats 4000000 in
set_option maxRecDepth 100000 in
theorem l_X10_markets_B81 {x : Cx} {h0 : HP} {N fr : Nat} {rr : (Int32 × HP)} (ok : Okx x cX10_markets yX10_markets.cls 7 fr) (hfr : 5 ≤ fr)  {x0 : Nat} {n_x0 : Nat} (f_x0 : h0.1[x0]? = some (10, n_x0)) (hF : Fend x h0 (some (.int)) (QI rr.1 rr.2)) {k153 : HP → Option (Int32 × HP)} (hk153 : ∀ (h : HP), k153 h = some rr → h.1 = h0.1 → wp x 153 [(0, .ref x0)] [] h) : ∀ (n : Nat) (x5 : Int32) (h : HP), lp (fun _ _ => none) (f_X10_markets_B81 N x0 k153) n x5 h = some rr → h.1 = h0.1 → wp x 81 [(5, .int x5), (0, .ref x0)] [] h := by
  intro n
  induction n with
  | zero => intro x5 h hq e; exact (Option.some_ne_none _ hq.symm).elim
  | succ n ih => exact s_X10_markets_B81 ok hfr f_x0 hF hk153 ih
set_option maxHeartbeats 4000000 in
set_option maxRecDepth 100000 in
theorem m_X10_markets {l : Launch} {h : HP} {N : Nat} {x0 : Nat} {rr : Int32} {rh : HP} {fr : Nat} (hq : f_X10_markets N h x0 = some (rr, rh)) (hfr : 5 ≤ fr) : Mt l yX10_markets cX10_markets 7 (some (.int)) fr [.ref x0] h (QI rr rh) := by
  obtain ⟨rp, ep⟩ : ∃ rp : (Int32 × HP), rp = (rr, rh) := ⟨_, rfl⟩
  have e1p : rr = rp.1 := (congrArg Prod.fst ep).symm
  have e2p : rh = rp.2 := (congrArg Prod.snd ep).symm
  rw [← ep] at hq
  rw [e1p, e2p]
  clear e1p e2p ep
  refine Mt.of (by decide +kernel) (Nat.le_of_ble_eq_true rfl) (fun x hl ok hF => ?_)
  subst hl
  show wp x 0 [(0, .ref x0)] [] h
  unfold f_X10_markets at hq
  obtain ⟨h0, eh0⟩ : ∃ h0 : HP, h = h0 := ⟨h, rfl⟩
  have e : h.1 = h0.1 := by rw [eh0]
  rw [eh0] at hF
  obtain ⟨g_x0, hq⟩ := gP_some hq
  obtain ⟨n_x0, f_x0⟩ := kO_some g_x0
  replace f_x0 := sh_of e.symm f_x0
  refine wp_aload_n (v := x0) ok dX10_markets_0 rfl ?_
  refine wp_iconst (v := 0) ok dX10_markets_1 (by decide) ?_
  refine wp_putI ok flw_RX10_3 (nr_10_0 _) (sh_of e f_x0) dX10_markets_2 ?_
  obtain ⟨h1, e2, hq⟩ := lt_some hq
  refine wp_nmH e2 ?_
  have e3 : h1.1 = h0.1 := (congrArg Prod.fst e2).trans e
  refine wp_aload_n (v := x0) ok dX10_markets_5 rfl ?_
  refine wp_bipush (v := 17) ok dX10_markets_6 (by decide) ?_
  obtain ⟨v4, h6, e5, hq⟩ := bnd2_some hq
  refine wp_callVI (As := [.int 17]) (rest := []) (h1 := h6) ok (m_X10_begins e5 (Nat.le_refl _)) my_X10_begins (w_1207) pd_X10_begins (Nat.le_trans (by decide) hfr) rfl (ci := 10) rfl (by decide) (sh_of e3 f_x0) rfl rfl rfl dX10_markets_8 (fun e7 => ?_)
  have e8 : h6.1 = h0.1 := (e7).trans e3
  refine wp_istore_n (L' := [(1, .int v4), (0, .ref x0)]) ok dX10_markets_11 rfl rfl ?_
  refine wp_aload_n (v := x0) ok dX10_markets_12 rfl ?_
  refine wp_iconst (v := 0) ok dX10_markets_13 (by decide) ?_
  refine wp_putI ok flw_RX10_171 (nr_10_18 _) (sh_of e8 f_x0) dX10_markets_14 ?_
  obtain ⟨h9, e10, hq⟩ := lt_some hq
  refine wp_nmH e10 ?_
  have e11 : h9.1 = h0.1 := (congrArg Prod.fst e10).trans e8
  refine wp_iconst (v := 1) ok dX10_markets_17 (by decide) ?_
  refine wp_istore_n (L' := [(2, .int 1), (1, .int v4), (0, .ref x0)]) ok dX10_markets_18 rfl rfl ?_
  refine wp_iload_n (v := v4) ok dX10_markets_19 rfl ?_
  obtain ⟨k12, ek12, hq⟩ := jn1_some hq
  have kk12 : ∀ (y13 : Int32), k12 y13 = some rp → wp x 28 [(2, .int 1), (1, .int v4), (0, .ref x0)] [.int y13] h9 := by
    intro y13 hq
    have hq := (ek12 y13).symm.trans hq
    refine wp_istore_n (L' := [(3, .int y13), (2, .int 1), (1, .int v4), (0, .ref x0)]) ok dX10_markets_28 rfl rfl ?_
    refine wp_sub (L' := [(2, .int 1), (3, .int y13), (0, .ref x0), (1, .int v4)]) [1, 0, 3, 2] rfl ?_
    refine l_X10_markets_B29 ok hfr f_x0 hF ?_ N 1 y13 h9 hq e11
    · intro x27 h28 hq e29
      refine wp_aload_n (v := x0) ok dX10_markets_60 rfl ?_
      refine wp_iload_n (v := v4) ok dX10_markets_61 rfl ?_
      refine wp_bipush (v := 17) ok dX10_markets_62 (by decide) ?_
      refine wp_iload_n (v := x27) ok dX10_markets_64 rfl ?_
      obtain ⟨v30, e31, hq⟩ := bnd_some hq
      refine wp_callVI (As := [.int v4, .int 17, .int x27]) (rest := []) (h1 := h28) ok (m_X10_faultOf e31 (Nat.le_refl _)) my_X10_faultOf (w_1237) pd_X10_faultOf (Nat.le_trans (by decide) hfr) rfl (ci := 10) rfl (by decide) (sh_of e29 f_x0) rfl rfl rfl dX10_markets_65 (fun e32 => ?_)
      refine wp_istore (L' := [(4, .int v30), (2, .int x27), (0, .ref x0), (1, .int v4)]) ok dX10_markets_68 rfl rfl ?_
      refine wp_iload (v := v30) ok dX10_markets_70 rfl ?_
      refine wp_if_ge (tgt := 78) ok dX10_markets_72 (by decide) (fun c33 => ?_) (fun c33 => ?_)
      · have hq := ite_t c33 hq
        refine wp_iconst (v := 0) ok dX10_markets_78 (by decide) ?_
        refine wp_istore (L' := [(5, .int 0), (4, .int v30), (2, .int x27), (0, .ref x0), (1, .int v4)]) ok dX10_markets_79 rfl rfl ?_
        refine wp_sub (L' := [(5, .int 0), (0, .ref x0)]) [0, 3] rfl ?_
        refine l_X10_markets_B81 ok hfr f_x0 hF ?_ N 0 h28 hq e29
        · intro h69 hq e70
          refine wp_aload_n (v := x0) ok dX10_markets_153 rfl ?_
          refine wp_getI ok fl_RX10_171 (sh_of e70 f_x0) dX10_markets_154 ?_
          refine wp_if_le (tgt := 175) ok dX10_markets_157 (by decide) (fun c71 => ?_) (fun c71 => ?_)
          · have hq := ite_t c71 hq
            refine wp_aload_n (v := x0) ok dX10_markets_175 rfl ?_
            refine wp_getI ok fl_RX10_171 (sh_of e70 f_x0) dX10_markets_176 ?_
            exact wp_iret ok hF rfl e70 (re2I hq) dX10_markets_179
          · have hq := ite_f c71 hq
            refine wp_aload_n (v := x0) ok dX10_markets_160 rfl ?_
            refine wp_iconst (v := 0) ok dX10_markets_161 (by decide) ?_
            refine wp_putI ok flw_RX10_191 (nr_10_25 _) (sh_of e70 f_x0) dX10_markets_162 ?_
            obtain ⟨h72, e73, hq⟩ := lt_some hq
            refine wp_nmH e73 ?_
            have e74 : h72.1 = h0.1 := (congrArg Prod.fst e73).trans e70
            refine wp_aload_n (v := x0) ok dX10_markets_165 rfl ?_
            refine wp_dup ok dX10_markets_166 rfl ?_
            refine wp_getI ok fl_RX10_194 (sh_of e74 f_x0) dX10_markets_167 ?_
            refine wp_iconst (v := 1) ok dX10_markets_170 (by decide) ?_
            refine wp_iadd ok dX10_markets_171 ?_
            refine wp_putI ok flw_RX10_194 (nr_10_4 _) (sh_of e74 f_x0) dX10_markets_172 ?_
            obtain ⟨h75, e76, hq⟩ := lt_some hq
            refine wp_nmH e76 ?_
            have e77 : h75.1 = h0.1 := (congrArg Prod.fst e76).trans e74
            refine wp_aload_n (v := x0) ok dX10_markets_175 rfl ?_
            refine wp_getI ok fl_RX10_171 (sh_of e77 f_x0) dX10_markets_176 ?_
            exact wp_iret ok hF rfl e77 (re2I hq) dX10_markets_179
      · have hq := ite_f c33 hq
        refine wp_iload (v := v30) ok dX10_markets_75 rfl ?_
        exact wp_iret ok hF rfl e29 (re2I hq) dX10_markets_77
  refine wp_if_le (tgt := 27) ok dX10_markets_20 (by decide) (fun c78 => ?_) (fun c78 => ?_)
  · have hq := ite_t c78 hq
    refine wp_iconst (v := 0) ok dX10_markets_27 (by decide) ?_
    refine wp_sub (L' := [(2, .int 1), (1, .int v4), (0, .ref x0)]) [0, 1, 2] rfl ?_
    exact kk12 0 hq
  · have hq := ite_f c78 hq
    refine wp_iconst (v := 1) ok dX10_markets_23 (by decide) ?_
    refine wp_goto (tgt := 28) ok dX10_markets_24 (by decide) ?_
    refine wp_sub (L' := [(2, .int 1), (1, .int v4), (0, .ref x0)]) [0, 1, 2] rfl ?_
    exact kk12 1 hq
set_option maxHeartbeats 4000000 in
set_option maxRecDepth 100000 in
theorem m_X10_readsLoad {l : Launch} {h : HP} {N : Nat} {x0 : Nat} {rr : Int32} {rh : HP} {fr : Nat} (hq : f_X10_readsLoad N h x0 = some (rr, rh)) (hfr : 5 ≤ fr) : Mt l yX10_readsLoad cX10_readsLoad 2 (some (.boolean)) fr [.ref x0] h (QI rr rh) := by
  obtain ⟨rp, ep⟩ : ∃ rp : (Int32 × HP), rp = (rr, rh) := ⟨_, rfl⟩
  have e1p : rr = rp.1 := (congrArg Prod.fst ep).symm
  have e2p : rh = rp.2 := (congrArg Prod.snd ep).symm
  rw [← ep] at hq
  rw [e1p, e2p]
  clear e1p e2p ep
  refine Mt.of (by decide +kernel) (Nat.le_of_ble_eq_true rfl) (fun x hl ok hF => ?_)
  subst hl
  show wp x 0 [(0, .ref x0)] [] h
  unfold f_X10_readsLoad at hq
  obtain ⟨h0, eh0⟩ : ∃ h0 : HP, h = h0 := ⟨h, rfl⟩
  have e : h.1 = h0.1 := by rw [eh0]
  rw [eh0] at hF
  obtain ⟨g_x0, hq⟩ := gP_some hq
  obtain ⟨n_x0, f_x0⟩ := kO_some g_x0
  replace f_x0 := sh_of e.symm f_x0
  refine wp_aload_n (v := x0) ok dX10_readsLoad_0 rfl ?_
  refine wp_getI ok fl_RX10_171 (sh_of e f_x0) dX10_readsLoad_1 ?_
  refine wp_bipush (v := 8) ok dX10_readsLoad_4 (by decide) ?_
  refine wp_icmp_ne (tgt := 11) ok dX10_readsLoad_6 (by decide) (fun c1 => ?_) (fun c1 => ?_)
  · have hq := ite_f c1 hq
    refine wp_aload_n (v := x0) ok dX10_readsLoad_11 rfl ?_
    refine wp_getI ok fl_RX10_171 (sh_of e f_x0) dX10_readsLoad_12 ?_
    obtain ⟨v2, e3, hq⟩ := lt_some hq
    refine wp_nmI e3 ?_
    refine wp_istore_n (L' := [(1, .int v2), (0, .ref x0)]) ok dX10_readsLoad_15 rfl rfl ?_
    refine wp_aload_n (v := x0) ok dX10_readsLoad_16 rfl ?_
    obtain ⟨t4, e5, hq⟩ := bnd_some hq
    obtain ⟨e6, n7, f8⟩ := rK_some e5
    replace f8 := sh_of (e).symm f8
    refine wp_getR ok fl_RX10_53 (sh_of e f_x0) e6 dX10_readsLoad_17 ?_
    refine wp_iload_n (v := v2) ok dX10_readsLoad_20 rfl ?_
    refine wp_iconst (v := 0) ok dX10_readsLoad_21 (by decide) ?_
    obtain ⟨g9, hq⟩ := gP_some hq
    refine wp_iast ok (sh_of e f8) (ix_of (sh_of e f8) g9) dX10_readsLoad_22 ?_
    obtain ⟨h10, e11, hq⟩ := lt_some hq
    refine wp_nmH e11 ?_
    have e12 : h10.1 = h0.1 := (congrArg Prod.fst e11).trans e
    refine wp_aload_n (v := x0) ok dX10_readsLoad_23 rfl ?_
    obtain ⟨t13, e14, hq⟩ := bnd_some hq
    obtain ⟨e15, n16, f17⟩ := rK_some e14
    replace f17 := sh_of (e12).symm f17
    refine wp_getR ok fl_RX10_50 (sh_of e12 f_x0) e15 dX10_readsLoad_24 ?_
    refine wp_iload_n (v := v2) ok dX10_readsLoad_27 rfl ?_
    refine wp_aload_n (v := x0) ok dX10_readsLoad_28 rfl ?_
    refine wp_bipush (v := 46) ok dX10_readsLoad_29 (by decide) ?_
    obtain ⟨v18, h20, e19, hq⟩ := bnd2_some hq
    refine wp_callVI (As := [.int 46]) (rest := [.int v2, .ref t13]) (h1 := h20) ok (m_X10_takes e19 (Nat.le_refl _)) my_X10_takes (w_1233) pd_X10_takes (Nat.le_trans (by decide) hfr) rfl (ci := 10) rfl (by decide) (sh_of e12 f_x0) rfl rfl rfl dX10_readsLoad_31 (fun e21 => ?_)
    have e22 : h20.1 = h0.1 := (e21).trans e12
    obtain ⟨k23, ek23, hq⟩ := jn2_some hq
    have kk23 : ∀ (y24 : Int32) (h25 : HP), k23 y24 h25 = some rp → h25.1 = h0.1 → wp x 47 [(1, .int v2), (0, .ref x0)] [.int y24, .int v2, .ref t13] h25 := by
      intro y24 h25 hq e26
      have hq := (ek23 y24 h25).symm.trans hq
      obtain ⟨g27, hq⟩ := gP_some hq
      refine wp_iast ok (sh_of e26 f17) (ix_of (sh_of e26 f17) g27) dX10_readsLoad_47 ?_
      obtain ⟨h28, e29, hq⟩ := lt_some hq
      refine wp_nmH e29 ?_
      have e30 : h28.1 = h0.1 := (congrArg Prod.fst e29).trans e26
      refine wp_aload_n (v := x0) ok dX10_readsLoad_48 rfl ?_
      obtain ⟨t31, e32, hq⟩ := bnd_some hq
      obtain ⟨e33, n34, f35⟩ := rK_some e32
      replace f35 := sh_of (e30).symm f35
      refine wp_getR ok fl_RX10_50 (sh_of e30 f_x0) e33 dX10_readsLoad_49 ?_
      refine wp_iload_n (v := v2) ok dX10_readsLoad_52 rfl ?_
      obtain ⟨g36, hq⟩ := gP_some hq
      refine wp_iald ok (sh_of e30 f35) (ix_of (sh_of e30 f35) g36) dX10_readsLoad_53 ?_
      obtain ⟨k37, ek37, hq⟩ := jn1_some hq
      have kk37 : ∀ (h38 : HP), k37 h38 = some rp → h38.1 = h0.1 → wp x 78 [(1, .int v2), (0, .ref x0)] [] h38 := by
        intro h38 hq e39
        have hq := (ek37 h38).symm.trans hq
        refine wp_aload_n (v := x0) ok dX10_readsLoad_78 rfl ?_
        refine wp_dup ok dX10_readsLoad_79 rfl ?_
        refine wp_getI ok fl_RX10_171 (sh_of e39 f_x0) dX10_readsLoad_80 ?_
        refine wp_iconst (v := 1) ok dX10_readsLoad_83 (by decide) ?_
        refine wp_iadd ok dX10_readsLoad_84 ?_
        refine wp_putI ok flw_RX10_171 (nr_10_18 _) (sh_of e39 f_x0) dX10_readsLoad_85 ?_
        obtain ⟨h40, e41, hq⟩ := lt_some hq
        refine wp_nmH e41 ?_
        have e42 : h40.1 = h0.1 := (congrArg Prod.fst e41).trans e39
        refine wp_aload_n (v := x0) ok dX10_readsLoad_88 rfl ?_
        obtain ⟨t43, e44, hq⟩ := bnd_some hq
        obtain ⟨e45, n46, f47⟩ := rK_some e44
        replace f47 := sh_of (e42).symm f47
        refine wp_getR ok fl_RX10_50 (sh_of e42 f_x0) e45 dX10_readsLoad_89 ?_
        refine wp_iload_n (v := v2) ok dX10_readsLoad_92 rfl ?_
        obtain ⟨g48, hq⟩ := gP_some hq
        refine wp_iald ok (sh_of e42 f47) (ix_of (sh_of e42 f47) g48) dX10_readsLoad_93 ?_
        refine wp_if_lt (tgt := 110) ok dX10_readsLoad_94 (by decide) (fun c49 => ?_) (fun c49 => ?_)
        · have hq := ite_t c49 hq
          refine wp_iconst (v := 0) ok dX10_readsLoad_110 (by decide) ?_
          exact wp_iret ok hF (nb_z (Or.inl rfl)) e42 (re2I hq) dX10_readsLoad_111
        · have hq := ite_f c49 hq
          refine wp_aload_n (v := x0) ok dX10_readsLoad_97 rfl ?_
          obtain ⟨t50, e51, hq⟩ := bnd_some hq
          obtain ⟨e52, n53, f54⟩ := rK_some e51
          replace f54 := sh_of (e42).symm f54
          refine wp_getR ok fl_RX10_53 (sh_of e42 f_x0) e52 dX10_readsLoad_98 ?_
          refine wp_iload_n (v := v2) ok dX10_readsLoad_101 rfl ?_
          obtain ⟨g55, hq⟩ := gP_some hq
          refine wp_iald ok (sh_of e42 f54) (ix_of (sh_of e42 f54) g55) dX10_readsLoad_102 ?_
          refine wp_if_lt (tgt := 110) ok dX10_readsLoad_103 (by decide) (fun c56 => ?_) (fun c56 => ?_)
          · have hq := ite_t c56 hq
            refine wp_iconst (v := 0) ok dX10_readsLoad_110 (by decide) ?_
            exact wp_iret ok hF (nb_z (Or.inl rfl)) e42 (re2I hq) dX10_readsLoad_111
          · have hq := ite_f c56 hq
            refine wp_iconst (v := 1) ok dX10_readsLoad_106 (by decide) ?_
            refine wp_goto (tgt := 111) ok dX10_readsLoad_107 (by decide) ?_
            exact wp_iret ok hF (nb_z (Or.inr rfl)) e42 (re2I hq) dX10_readsLoad_111
      obtain ⟨k57, ek57, hq⟩ := jn0_some hq
      have kk57 : k57 = some rp → wp x 67 [(1, .int v2), (0, .ref x0)] [] h28 := by
        intro hq
        rw [ek57] at hq
        refine wp_aload_n (v := x0) ok dX10_readsLoad_67 rfl ?_
        obtain ⟨t58, e59, hq⟩ := bnd_some hq
        obtain ⟨e60, n61, f62⟩ := rK_some e59
        replace f62 := sh_of (e30).symm f62
        refine wp_getR ok fl_RX10_53 (sh_of e30 f_x0) e60 dX10_readsLoad_68 ?_
        refine wp_iload_n (v := v2) ok dX10_readsLoad_71 rfl ?_
        refine wp_aload_n (v := x0) ok dX10_readsLoad_72 rfl ?_
        refine wp_iconst (v := 3) ok dX10_readsLoad_73 (by decide) ?_
        obtain ⟨v63, h65, e64, hq⟩ := bnd2_some hq
        refine wp_callVI (As := [.int 3]) (rest := [.int v2, .ref t58]) (h1 := h65) ok (m_X10_number e64 (Nat.le_refl _)) my_X10_number (w_1220) pd_X10_number (Nat.le_trans (by decide) hfr) rfl (ci := 10) rfl (by decide) (sh_of e30 f_x0) rfl rfl rfl dX10_readsLoad_74 (fun e66 => ?_)
        have e67 : h65.1 = h0.1 := (e66).trans e30
        obtain ⟨g68, hq⟩ := gP_some hq
        refine wp_iast ok (sh_of e67 f62) (ix_of (sh_of e67 f62) g68) dX10_readsLoad_77 ?_
        obtain ⟨h69, e70, hq⟩ := lt_some hq
        refine wp_nmH e70 ?_
        have e71 : h69.1 = h0.1 := (congrArg Prod.fst e70).trans e67
        refine wp_sub (L' := [(1, .int v2), (0, .ref x0)]) [0, 1] rfl ?_
        exact kk37 h69 hq e71
      refine wp_if_eq (tgt := 67) ok dX10_readsLoad_54 (by decide) (fun c72 => ?_) (fun c72 => ?_)
      · have hq := ite_t c72 hq
        refine wp_sub (L' := [(1, .int v2), (0, .ref x0)]) [0, 1] rfl ?_
        exact kk57 hq
      · have hq := ite_f c72 hq
        refine wp_aload_n (v := x0) ok dX10_readsLoad_57 rfl ?_
        obtain ⟨t73, e74, hq⟩ := bnd_some hq
        obtain ⟨e75, n76, f77⟩ := rK_some e74
        replace f77 := sh_of (e30).symm f77
        refine wp_getR ok fl_RX10_50 (sh_of e30 f_x0) e75 dX10_readsLoad_58 ?_
        refine wp_iload_n (v := v2) ok dX10_readsLoad_61 rfl ?_
        obtain ⟨g78, hq⟩ := gP_some hq
        refine wp_iald ok (sh_of e30 f77) (ix_of (sh_of e30 f77) g78) dX10_readsLoad_62 ?_
        refine wp_iconst (v := 1) ok dX10_readsLoad_63 (by decide) ?_
        refine wp_icmp_ne (tgt := 78) ok dX10_readsLoad_64 (by decide) (fun c79 => ?_) (fun c79 => ?_)
        · have hq := ite_f c79 hq
          refine wp_sub (L' := [(1, .int v2), (0, .ref x0)]) [0, 1] rfl ?_
          exact kk37 h28 hq e30
        · have hq := ite_t c79 hq
          refine wp_sub (L' := [(1, .int v2), (0, .ref x0)]) [0, 1] rfl ?_
          exact kk57 hq
    refine wp_if_eq (tgt := 41) ok dX10_readsLoad_34 (by decide) (fun c80 => ?_) (fun c80 => ?_)
    · have hq := ite_t c80 hq
      refine wp_aload_n (v := x0) ok dX10_readsLoad_41 rfl ?_
      refine wp_ldcS (i := 10) ok rfl rfl rfl dX10_readsLoad_42 ?_
      obtain ⟨v81, h83, e82, hq⟩ := bnd2_some hq
      refine wp_callVI (As := [.ref (SB + 10)]) (rest := [.int v2, .ref t13]) (h1 := h83) ok (m_X10_takesOf e82 (Nat.le_refl _)) my_X10_takesOf (w_1250) pd_X10_takesOf (Nat.le_trans (by decide) hfr) rfl (ci := 10) rfl (by decide) (sh_of e22 f_x0) rfl rfl rfl dX10_readsLoad_44 (fun e84 => ?_)
      have e85 : h83.1 = h0.1 := (e84).trans e22
      refine wp_sub (L' := [(1, .int v2), (0, .ref x0)]) [0, 1] rfl ?_
      exact kk23 v81 h83 hq e85
    · have hq := ite_f c80 hq
      refine wp_iconst (v := 2) ok dX10_readsLoad_37 (by decide) ?_
      refine wp_goto (tgt := 47) ok dX10_readsLoad_38 (by decide) ?_
      refine wp_sub (L' := [(1, .int v2), (0, .ref x0)]) [0, 1] rfl ?_
      exact kk23 2 h20 hq e22
  · have hq := ite_t c1 hq
    refine wp_iconst (v := 0) ok dX10_readsLoad_9 (by decide) ?_
    exact wp_iret ok hF (nb_z (Or.inl rfl)) e (re2I hq) dX10_readsLoad_10
set_option maxHeartbeats 4000000 in
set_option maxRecDepth 100000 in
theorem s_X10_ships_B19 {x : Cx} {h0 : HP} {N fr : Nat} {rr : (Int32 × HP)} (ok : Okx x cX10_ships yX10_ships.cls 5 fr) (hfr : 6 ≤ fr)  {x0 : Nat} {x1 : Int32} {n_x0 : Nat} (f_x0 : h0.1[x0]? = some (10, n_x0)) (hF : Fend x h0 (some (.int)) (QI rr.1 rr.2)) {k49 : Int32 → HP → Option (Int32 × HP)} (hk49 : ∀ (x2 : Int32) (h : HP), k49 x2 h = some rr → h.1 = h0.1 → wp x 49 [(2, .int x2), (0, .ref x0), (1, .int x1)] [] h) {rc : Int32 → HP → Option (Int32 × HP)} (ih : ∀ (x2 : Int32) (h : HP), rc x2 h = some rr → h.1 = h0.1 → wp x 19 [(2, .int x2), (0, .ref x0), (1, .int x1)] [] h) : ∀ (x2 : Int32) (h : HP), f_X10_ships_B19 N x0 x1 k49 rc x2 h = some rr → h.1 = h0.1 → wp x 19 [(2, .int x2), (0, .ref x0), (1, .int x1)] [] h := by
  intro x2 h hq e
  unfold f_X10_ships_B19 at hq
  refine wp_iload_n (v := x2) ok dX10_ships_19 rfl ?_
  refine wp_if_eq (tgt := 49) ok dX10_ships_20 (by decide) (fun c12 => ?_) (fun c12 => ?_)
  · have hq := ite_t c12 hq
    refine wp_sub (L' := [(2, .int x2), (0, .ref x0), (1, .int x1)]) [0, 1, 2] rfl ?_
    exact hk49 x2 h hq e
  · have hq := ite_f c12 hq
    refine wp_aload_n (v := x0) ok dX10_ships_23 rfl ?_
    refine wp_getI ok fl_RX10_130 (sh_of e f_x0) dX10_ships_24 ?_
    refine wp_aload_n (v := x0) ok dX10_ships_27 rfl ?_
    refine wp_getI ok fl_RX10_142 (sh_of e f_x0) dX10_ships_28 ?_
    obtain ⟨k13, ek13, hq⟩ := jn0_some hq
    have kk13 : k13 = some rr → wp x 41 [(0, .ref x0), (1, .int x1)] [] h := by
      intro hq
      rw [ek13] at hq
      refine wp_aload_n (v := x0) ok dX10_ships_41 rfl ?_
      obtain ⟨v14, h16, e15, hq⟩ := bnd2_some hq
      refine wp_callVI (As := []) (rest := []) (h1 := h16) ok (m_X10_readsLoad e15 (Nat.le_refl _)) my_X10_readsLoad (w_1245) pd_X10_readsLoad (Nat.le_trans (by decide) hfr) rfl (ci := 10) rfl (by decide) (sh_of e f_x0) rfl rfl rfl dX10_ships_42 (fun e17 => ?_)
      have e18 : h16.1 = h0.1 := (e17).trans e
      refine wp_istore_n (L' := [(2, .int v14), (0, .ref x0), (1, .int x1)]) ok dX10_ships_45 rfl rfl ?_
      refine wp_goto (tgt := 19) ok dX10_ships_46 (by decide) ?_
      refine wp_sub (L' := [(2, .int v14), (0, .ref x0), (1, .int x1)]) [0, 1, 2] rfl ?_
      exact ih v14 h16 hq e18
    refine wp_icmp_lt (tgt := 41) ok dX10_ships_31 (by decide) (fun c19 => ?_) (fun c19 => ?_)
    · have hq := ite_t c19 hq
      refine wp_sub (L' := [(0, .ref x0), (1, .int x1)]) [1, 2] rfl ?_
      exact kk13 hq
    · have hq := ite_f c19 hq
      refine wp_aload_n (v := x0) ok dX10_ships_34 rfl ?_
      refine wp_getI ok fl_RX10_171 (sh_of e f_x0) dX10_ships_35 ?_
      refine wp_if_ne (tgt := 49) ok dX10_ships_38 (by decide) (fun c20 => ?_) (fun c20 => ?_)
      · have hq := ite_f c20 hq
        refine wp_sub (L' := [(2, .int x2), (0, .ref x0), (1, .int x1)]) [0, 1, 2] rfl ?_
        exact hk49 x2 h hq e
      · have hq := ite_t c20 hq
        refine wp_sub (L' := [(0, .ref x0), (1, .int x1)]) [1, 2] rfl ?_
        exact kk13 hq
set_option maxHeartbeats 4000000 in
set_option maxRecDepth 100000 in
theorem l_X10_ships_B19 {x : Cx} {h0 : HP} {N fr : Nat} {rr : (Int32 × HP)} (ok : Okx x cX10_ships yX10_ships.cls 5 fr) (hfr : 6 ≤ fr)  {x0 : Nat} {x1 : Int32} {n_x0 : Nat} (f_x0 : h0.1[x0]? = some (10, n_x0)) (hF : Fend x h0 (some (.int)) (QI rr.1 rr.2)) {k49 : Int32 → HP → Option (Int32 × HP)} (hk49 : ∀ (x2 : Int32) (h : HP), k49 x2 h = some rr → h.1 = h0.1 → wp x 49 [(2, .int x2), (0, .ref x0), (1, .int x1)] [] h) : ∀ (n : Nat) (x2 : Int32) (h : HP), lp (fun _ _ => none) (f_X10_ships_B19 N x0 x1 k49) n x2 h = some rr → h.1 = h0.1 → wp x 19 [(2, .int x2), (0, .ref x0), (1, .int x1)] [] h := by
  intro n
  induction n with
  | zero => intro x2 h hq e; exact (Option.some_ne_none _ hq.symm).elim
  | succ n ih => exact s_X10_ships_B19 ok hfr f_x0 hF hk49 ih
set_option maxHeartbeats 4000000 in
set_option maxRecDepth 100000 in
theorem s_X10_ships_B75 {x : Cx} {h0 : HP} {N fr : Nat} {rr : (Int32 × HP)} (ok : Okx x cX10_ships yX10_ships.cls 5 fr) (hfr : 6 ≤ fr)  {x0 : Nat} {n_x0 : Nat} (f_x0 : h0.1[x0]? = some (10, n_x0)) (hF : Fend x h0 (some (.int)) (QI rr.1 rr.2)) {rc : Int32 → HP → Option (Int32 × HP)} (ih : ∀ (x4 : Int32) (h : HP), rc x4 h = some rr → h.1 = h0.1 → wp x 75 [(4, .int x4), (0, .ref x0)] [] h) : ∀ (x4 : Int32) (h : HP), f_X10_ships_B75 N x0 rc x4 h = some rr → h.1 = h0.1 → wp x 75 [(4, .int x4), (0, .ref x0)] [] h := by
  intro x4 h hq e
  unfold f_X10_ships_B75 at hq
  refine wp_iload (v := x4) ok dX10_ships_75 rfl ?_
  refine wp_aload_n (v := x0) ok dX10_ships_77 rfl ?_
  refine wp_getI ok fl_RX10_171 (sh_of e f_x0) dX10_ships_78 ?_
  refine wp_icmp_ge (tgt := 136) ok dX10_ships_81 (by decide) (fun c31 => ?_) (fun c31 => ?_)
  · have hq := ite_t c31 hq
    refine wp_aload_n (v := x0) ok dX10_ships_136 rfl ?_
    refine wp_getI ok fl_RX10_28 (sh_of e f_x0) dX10_ships_137 ?_
    exact wp_iret ok hF rfl e (re2I hq) dX10_ships_140
  · have hq := ite_f c31 hq
    refine wp_aload_n (v := x0) ok dX10_ships_84 rfl ?_
    obtain ⟨t32, e33, hq⟩ := bnd_some hq
    obtain ⟨e34, n35, f36⟩ := rK_some e33
    replace f36 := sh_of (e).symm f36
    refine wp_getR ok fl_RX10_31 (sh_of e f_x0) e34 dX10_ships_85 ?_
    refine wp_iload (v := x4) ok dX10_ships_88 rfl ?_
    refine wp_aload_n (v := x0) ok dX10_ships_90 rfl ?_
    obtain ⟨t37, e38, hq⟩ := bnd_some hq
    obtain ⟨e39, n40, f41⟩ := rK_some e38
    replace f41 := sh_of (e).symm f41
    refine wp_getR ok fl_RX10_50 (sh_of e f_x0) e39 dX10_ships_91 ?_
    refine wp_iload (v := x4) ok dX10_ships_94 rfl ?_
    obtain ⟨g42, hq⟩ := gP_some hq
    refine wp_iald ok (sh_of e f41) (ix_of (sh_of e f41) g42) dX10_ships_96 ?_
    refine wp_iconst (v := 2) ok dX10_ships_97 (by decide) ?_
    obtain ⟨k43, ek43, hq⟩ := jn1_some hq
    have kk43 : ∀ (y44 : Int32), k43 y44 = some rr → wp x 112 [(4, .int x4), (0, .ref x0)] [.int y44, .int x4, .ref t32] h := by
      intro y44 hq
      have hq := (ek43 y44).symm.trans hq
      obtain ⟨g45, hq⟩ := gP_some hq
      refine wp_iast ok (sh_of e f36) (ix_of (sh_of e f36) g45) dX10_ships_112 ?_
      obtain ⟨h46, e47, hq⟩ := lt_some hq
      refine wp_nmH e47 ?_
      have e48 : h46.1 = h0.1 := (congrArg Prod.fst e47).trans e
      refine wp_aload_n (v := x0) ok dX10_ships_113 rfl ?_
      obtain ⟨t49, e50, hq⟩ := bnd_some hq
      obtain ⟨e51, n52, f53⟩ := rK_some e50
      replace f53 := sh_of (e48).symm f53
      refine wp_getR ok fl_RX10_35 (sh_of e48 f_x0) e51 dX10_ships_114 ?_
      refine wp_iload (v := x4) ok dX10_ships_117 rfl ?_
      refine wp_bipush (v := 10) ok dX10_ships_119 (by decide) ?_
      refine wp_aload_n (v := x0) ok dX10_ships_121 rfl ?_
      obtain ⟨t54, e55, hq⟩ := bnd_some hq
      obtain ⟨e56, n57, f58⟩ := rK_some e55
      replace f58 := sh_of (e48).symm f58
      refine wp_getR ok fl_RX10_53 (sh_of e48 f_x0) e56 dX10_ships_122 ?_
      refine wp_iload (v := x4) ok dX10_ships_125 rfl ?_
      obtain ⟨g59, hq⟩ := gP_some hq
      refine wp_iald ok (sh_of e48 f58) (ix_of (sh_of e48 f58) g59) dX10_ships_127 ?_
      refine wp_imul ok dX10_ships_128 ?_
      obtain ⟨g60, hq⟩ := gP_some hq
      refine wp_iast ok (sh_of e48 f53) (ix_of (sh_of e48 f53) g60) dX10_ships_129 ?_
      obtain ⟨h61, e62, hq⟩ := lt_some hq
      refine wp_nmH e62 ?_
      have e63 : h61.1 = h0.1 := (congrArg Prod.fst e62).trans e48
      obtain ⟨v64, e65, hq⟩ := lt_some hq
      refine wp_iinc (v := x4) (w := 1) (L' := [(4, .int v64), (0, .ref x0)]) ok dX10_ships_130 rfl (by decide) rfl (by rw [← e65]; rfl) ?_
      refine wp_goto (tgt := 75) ok dX10_ships_133 (by decide) ?_
      refine wp_sub (L' := [(4, .int v64), (0, .ref x0)]) [0, 1] rfl ?_
      exact ih v64 h61 hq e63
    refine wp_icmp_ne (tgt := 105) ok dX10_ships_98 (by decide) (fun c66 => ?_) (fun c66 => ?_)
    · have hq := ite_f c66 hq
      refine wp_aload_n (v := x0) ok dX10_ships_105 rfl ?_
      obtain ⟨t67, e68, hq⟩ := bnd_some hq
      obtain ⟨e69, n70, f71⟩ := rK_some e68
      replace f71 := sh_of (e).symm f71
      refine wp_getR ok fl_RX10_50 (sh_of e f_x0) e69 dX10_ships_106 ?_
      refine wp_iload (v := x4) ok dX10_ships_109 rfl ?_
      obtain ⟨g72, hq⟩ := gP_some hq
      refine wp_iald ok (sh_of e f71) (ix_of (sh_of e f71) g72) dX10_ships_111 ?_
      refine wp_sub (L' := [(4, .int x4), (0, .ref x0)]) [0, 1] rfl ?_
      exact kk43 (h.2.1 t67 x4.toNatClampNeg) hq
    · have hq := ite_t c66 hq
      refine wp_iconst (v := -1) ok dX10_ships_101 (by decide) ?_
      refine wp_goto (tgt := 112) ok dX10_ships_102 (by decide) ?_
      refine wp_sub (L' := [(4, .int x4), (0, .ref x0)]) [0, 1] rfl ?_
      exact kk43 (-1) hq
set_option maxHeartbeats 4000000 in
set_option maxRecDepth 100000 in
theorem l_X10_ships_B75 {x : Cx} {h0 : HP} {N fr : Nat} {rr : (Int32 × HP)} (ok : Okx x cX10_ships yX10_ships.cls 5 fr) (hfr : 6 ≤ fr)  {x0 : Nat} {n_x0 : Nat} (f_x0 : h0.1[x0]? = some (10, n_x0)) (hF : Fend x h0 (some (.int)) (QI rr.1 rr.2)) : ∀ (n : Nat) (x4 : Int32) (h : HP), lp (fun _ _ => none) (f_X10_ships_B75 N x0) n x4 h = some rr → h.1 = h0.1 → wp x 75 [(4, .int x4), (0, .ref x0)] [] h := by
  intro n
  induction n with
  | zero => intro x4 h hq e; exact (Option.some_ne_none _ hq.symm).elim
  | succ n ih => exact s_X10_ships_B75 ok hfr f_x0 hF  ih
set_option maxHeartbeats 4000000 in
set_option maxRecDepth 100000 in
theorem m_X10_ships {l : Launch} {h : HP} {N : Nat} {x0 : Nat} {rr : Int32} {rh : HP} {fr : Nat} (hq : f_X10_ships N h x0 = some (rr, rh)) (hfr : 6 ≤ fr) : Mt l yX10_ships cX10_ships 5 (some (.int)) fr [.ref x0] h (QI rr rh) := by
  obtain ⟨rp, ep⟩ : ∃ rp : (Int32 × HP), rp = (rr, rh) := ⟨_, rfl⟩
  have e1p : rr = rp.1 := (congrArg Prod.fst ep).symm
  have e2p : rh = rp.2 := (congrArg Prod.snd ep).symm
  rw [← ep] at hq
  rw [e1p, e2p]
  clear e1p e2p ep
  refine Mt.of (by decide +kernel) (Nat.le_of_ble_eq_true rfl) (fun x hl ok hF => ?_)
  subst hl
  show wp x 0 [(0, .ref x0)] [] h
  unfold f_X10_ships at hq
  obtain ⟨h0, eh0⟩ : ∃ h0 : HP, h = h0 := ⟨h, rfl⟩
  have e : h.1 = h0.1 := by rw [eh0]
  rw [eh0] at hF
  obtain ⟨g_x0, hq⟩ := gP_some hq
  obtain ⟨n_x0, f_x0⟩ := kO_some g_x0
  replace f_x0 := sh_of e.symm f_x0
  refine wp_aload_n (v := x0) ok dX10_ships_0 rfl ?_
  refine wp_iconst (v := 0) ok dX10_ships_1 (by decide) ?_
  refine wp_putI ok flw_RX10_3 (nr_10_0 _) (sh_of e f_x0) dX10_ships_2 ?_
  obtain ⟨h1, e2, hq⟩ := lt_some hq
  refine wp_nmH e2 ?_
  have e3 : h1.1 = h0.1 := (congrArg Prod.fst e2).trans e
  refine wp_aload_n (v := x0) ok dX10_ships_5 rfl ?_
  refine wp_bipush (v := 32) ok dX10_ships_6 (by decide) ?_
  obtain ⟨v4, h6, e5, hq⟩ := bnd2_some hq
  refine wp_callVI (As := [.int 32]) (rest := []) (h1 := h6) ok (m_X10_begins e5 (Nat.le_refl _)) my_X10_begins (w_1207) pd_X10_begins (Nat.le_trans (by decide) hfr) rfl (ci := 10) rfl (by decide) (sh_of e3 f_x0) rfl rfl rfl dX10_ships_8 (fun e7 => ?_)
  have e8 : h6.1 = h0.1 := (e7).trans e3
  refine wp_istore_n (L' := [(1, .int v4), (0, .ref x0)]) ok dX10_ships_11 rfl rfl ?_
  refine wp_aload_n (v := x0) ok dX10_ships_12 rfl ?_
  refine wp_iconst (v := 0) ok dX10_ships_13 (by decide) ?_
  refine wp_putI ok flw_RX10_171 (nr_10_18 _) (sh_of e8 f_x0) dX10_ships_14 ?_
  obtain ⟨h9, e10, hq⟩ := lt_some hq
  refine wp_nmH e10 ?_
  have e11 : h9.1 = h0.1 := (congrArg Prod.fst e10).trans e8
  refine wp_iconst (v := 1) ok dX10_ships_17 (by decide) ?_
  refine wp_istore_n (L' := [(2, .int 1), (1, .int v4), (0, .ref x0)]) ok dX10_ships_18 rfl rfl ?_
  refine wp_sub (L' := [(2, .int 1), (0, .ref x0), (1, .int v4)]) [0, 2, 1] rfl ?_
  refine l_X10_ships_B19 ok hfr f_x0 hF ?_ N 1 h9 hq e11
  · intro x21 h22 hq e23
    refine wp_aload_n (v := x0) ok dX10_ships_49 rfl ?_
    refine wp_iload_n (v := v4) ok dX10_ships_50 rfl ?_
    refine wp_bipush (v := 32) ok dX10_ships_51 (by decide) ?_
    refine wp_iload_n (v := x21) ok dX10_ships_53 rfl ?_
    obtain ⟨v24, e25, hq⟩ := bnd_some hq
    refine wp_callVI (As := [.int v4, .int 32, .int x21]) (rest := []) (h1 := h22) ok (m_X10_faultOf e25 (Nat.le_refl _)) my_X10_faultOf (w_1237) pd_X10_faultOf (Nat.le_trans (by decide) hfr) rfl (ci := 10) rfl (by decide) (sh_of e23 f_x0) rfl rfl rfl dX10_ships_54 (fun e26 => ?_)
    refine wp_istore_n (L' := [(3, .int v24), (2, .int x21), (0, .ref x0), (1, .int v4)]) ok dX10_ships_57 rfl rfl ?_
    refine wp_iload_n (v := v24) ok dX10_ships_58 rfl ?_
    refine wp_if_ge (tgt := 64) ok dX10_ships_59 (by decide) (fun c27 => ?_) (fun c27 => ?_)
    · have hq := ite_t c27 hq
      refine wp_aload_n (v := x0) ok dX10_ships_64 rfl ?_
      refine wp_aload_n (v := x0) ok dX10_ships_65 rfl ?_
      refine wp_getI ok fl_RX10_171 (sh_of e23 f_x0) dX10_ships_66 ?_
      refine wp_putI ok flw_RX10_28 (nr_10_5 _) (sh_of e23 f_x0) dX10_ships_69 ?_
      obtain ⟨h28, e29, hq⟩ := lt_some hq
      refine wp_nmH e29 ?_
      have e30 : h28.1 = h0.1 := (congrArg Prod.fst e29).trans e23
      refine wp_iconst (v := 0) ok dX10_ships_72 (by decide) ?_
      refine wp_istore (L' := [(4, .int 0), (3, .int v24), (2, .int x21), (0, .ref x0), (1, .int v4)]) ok dX10_ships_73 rfl rfl ?_
      refine wp_sub (L' := [(4, .int 0), (0, .ref x0)]) [0, 3] rfl ?_
      refine l_X10_ships_B75 ok hfr f_x0 hF  N 0 h28 hq e30
    · have hq := ite_f c27 hq
      refine wp_iload_n (v := v24) ok dX10_ships_62 rfl ?_
      exact wp_iret ok hF rfl e23 (re2I hq) dX10_ships_63
set_option maxHeartbeats 4000000 in
set_option maxRecDepth 100000 in
theorem m_X10_codes {l : Launch} {h : HP} {x0 : Nat} {x1 : Int32} {rr : HP} {fr : Nat} (hq : f_X10_codes h x0 x1 = some rr) (hfr : 0 ≤ fr) : Mt l yX10_codes cX10_codes 2 none fr [.ref x0, .int x1] h (QV rr) := by
  refine Mt.of (by decide +kernel) (Nat.le_of_ble_eq_true rfl) (fun x hl ok hF => ?_)
  subst hl
  show wp x 0 [(0, .ref x0), (1, .int x1)] [] h
  unfold f_X10_codes at hq
  obtain ⟨h0, eh0⟩ : ∃ h0 : HP, h = h0 := ⟨h, rfl⟩
  have e : h.1 = h0.1 := by rw [eh0]
  rw [eh0] at hF
  obtain ⟨g_x0, hq⟩ := gP_some hq
  obtain ⟨n_x0, f_x0⟩ := kO_some g_x0
  replace f_x0 := sh_of e.symm f_x0
  refine wp_aload_n (v := x0) ok dX10_codes_0 rfl ?_
  obtain ⟨t1, e2, hq⟩ := bnd_some hq
  obtain ⟨e3, n4, f5⟩ := rK_some e2
  replace f5 := sh_of (e).symm f5
  refine wp_getR ok fl_RX10_59 (sh_of e f_x0) e3 dX10_codes_1 ?_
  refine wp_aload_n (v := x0) ok dX10_codes_4 rfl ?_
  refine wp_getI ok fl_RX10_206 (sh_of e f_x0) dX10_codes_5 ?_
  refine wp_iload_n (v := x1) ok dX10_codes_8 rfl ?_
  obtain ⟨g6, hq⟩ := gP_some hq
  refine wp_iast ok (sh_of e f5) (ix_of (sh_of e f5) g6) dX10_codes_9 ?_
  obtain ⟨h7, e8, hq⟩ := lt_some hq
  refine wp_nmH e8 ?_
  have e9 : h7.1 = h0.1 := (congrArg Prod.fst e8).trans e
  refine wp_aload_n (v := x0) ok dX10_codes_10 rfl ?_
  refine wp_dup ok dX10_codes_11 rfl ?_
  refine wp_getI ok fl_RX10_206 (sh_of e9 f_x0) dX10_codes_12 ?_
  refine wp_iconst (v := 1) ok dX10_codes_15 (by decide) ?_
  refine wp_iadd ok dX10_codes_16 ?_
  refine wp_putI ok flw_RX10_206 (nr_10_22 _) (sh_of e9 f_x0) dX10_codes_17 ?_
  obtain ⟨h10, e11, hq⟩ := lt_some hq
  refine wp_nmH e11 ?_
  have e12 : h10.1 = h0.1 := (congrArg Prod.fst e11).trans e9
  exact wp_vret ok hF e12 (reV hq) dX10_codes_20
set_option maxHeartbeats 4000000 in
set_option maxRecDepth 100000 in
theorem m_X10_readsThing_S {l : Launch} {h : HP} {N : Nat} {x0 : Nat} {rr : Int32} {rh : HP} {fr : Nat} {rf_X10_readsThing : HP → Nat → Option (Int32 × HP)} {rf_X10_readsRank : HP → Nat → Int32 → Option (Int32 × HP)} {dn : Nat} (ih_X10_readsThing : ∀ {h : HP} {x0 : Nat} {ri : Int32} {rj : HP} {fr : Nat}, rf_X10_readsThing h x0 = some (ri, rj) → dn ≤ fr → Mt l yX10_readsThing cX10_readsThing 2 (some (.boolean)) fr [.ref x0] h (QI ri rj)) (ih_X10_readsRank : ∀ {h : HP} {x0 : Nat} {x1 : Int32} {ri : Int32} {rj : HP} {fr : Nat}, rf_X10_readsRank h x0 x1 = some (ri, rj) → dn ≤ fr → Mt l yX10_readsRank cX10_readsRank 4 (some (.boolean)) fr [.ref x0, .int x1] h (QI ri rj)) (hq : f_X10_readsThing_S rf_X10_readsThing rf_X10_readsRank N h x0 = some (rr, rh)) (hfr : (dn + 5) ≤ fr) : Mt l yX10_readsThing cX10_readsThing 2 (some (.boolean)) fr [.ref x0] h (QI rr rh) := by
  obtain ⟨rp, ep⟩ : ∃ rp : (Int32 × HP), rp = (rr, rh) := ⟨_, rfl⟩
  have e1p : rr = rp.1 := (congrArg Prod.fst ep).symm
  have e2p : rh = rp.2 := (congrArg Prod.snd ep).symm
  rw [← ep] at hq
  rw [e1p, e2p]
  clear e1p e2p ep
  refine Mt.of (by decide +kernel) (Nat.le_of_ble_eq_true rfl) (fun x hl ok hF => ?_)
  subst hl
  show wp x 0 [(0, .ref x0)] [] h
  unfold f_X10_readsThing_S at hq
  obtain ⟨h0, eh0⟩ : ∃ h0 : HP, h = h0 := ⟨h, rfl⟩
  have e : h.1 = h0.1 := by rw [eh0]
  rw [eh0] at hF
  obtain ⟨g_x0, hq⟩ := gP_some hq
  obtain ⟨n_x0, f_x0⟩ := kO_some g_x0
  replace f_x0 := sh_of e.symm f_x0
  refine wp_aload_n (v := x0) ok dX10_readsThing_0 rfl ?_
  refine wp_bipush (v := 45) ok dX10_readsThing_1 (by decide) ?_
  obtain ⟨v1, h3, e2, hq⟩ := bnd2_some hq
  refine wp_callVI (As := [.int 45]) (rest := []) (h1 := h3) ok (m_X10_takes e2 (Nat.le_refl _)) my_X10_takes (w_1233) pd_X10_takes (by omega) rfl (ci := 10) rfl (by decide) (sh_of e f_x0) rfl rfl rfl dX10_readsThing_3 (fun e4 => ?_)
  have e5 : h3.1 = h0.1 := (e4).trans e
  refine wp_if_eq (tgt := 23) ok dX10_readsThing_6 (by decide) (fun c6 => ?_) (fun c6 => ?_)
  · have hq := ite_t c6 hq
    refine wp_aload_n (v := x0) ok dX10_readsThing_23 rfl ?_
    obtain ⟨v7, e8, hq⟩ := bnd_some hq
    refine wp_callVI (As := []) (rest := []) (h1 := h3) ok (m_X10_isDigit e8 (Nat.le_refl _)) my_X10_isDigit (w_1224) pd_X10_isDigit (by omega) rfl (ci := 10) rfl (by decide) (sh_of e5 f_x0) rfl rfl rfl dX10_readsThing_24 (fun e9 => ?_)
    refine wp_if_eq (tgt := 41) ok dX10_readsThing_27 (by decide) (fun c10 => ?_) (fun c10 => ?_)
    · have hq := ite_t c10 hq
      refine wp_aload_n (v := x0) ok dX10_readsThing_41 rfl ?_
      refine wp_ldcS (i := 11) ok rfl rfl rfl dX10_readsThing_42 ?_
      obtain ⟨v11, h13, e12, hq⟩ := bnd2_some hq
      refine wp_callVI (As := [.ref (SB + 11)]) (rest := []) (h1 := h13) ok (m_X10_takesOf e12 (Nat.le_refl _)) my_X10_takesOf (w_1250) pd_X10_takesOf (by omega) rfl (ci := 10) rfl (by decide) (sh_of e5 f_x0) rfl rfl rfl dX10_readsThing_44 (fun e14 => ?_)
      have e15 : h13.1 = h0.1 := (e14).trans e5
      refine wp_istore_n (L' := [(1, .int v11), (0, .ref x0)]) ok dX10_readsThing_47 rfl rfl ?_
      refine wp_iload_n (v := v11) ok dX10_readsThing_48 rfl ?_
      refine wp_if_lt (tgt := 63) ok dX10_readsThing_49 (by decide) (fun c16 => ?_) (fun c16 => ?_)
      · have hq := ite_t c16 hq
        refine wp_aload_n (v := x0) ok dX10_readsThing_63 rfl ?_
        refine wp_getI ok fl_RX10_133 (sh_of e15 f_x0) dX10_readsThing_64 ?_
        refine wp_iconst (v := 4) ok dX10_readsThing_67 (by decide) ?_
        refine wp_icmp_eq (tgt := 80) ok dX10_readsThing_68 (by decide) (fun c17 => ?_) (fun c17 => ?_)
        · have hq := ite_t c17 hq
          refine wp_iconst (v := 0) ok dX10_readsThing_80 (by decide) ?_
          exact wp_iret ok hF (nb_z (Or.inl rfl)) e15 (re2I hq) dX10_readsThing_81
        · have hq := ite_f c17 hq
          refine wp_aload_n (v := x0) ok dX10_readsThing_71 rfl ?_
          refine wp_bipush (v := 40) ok dX10_readsThing_72 (by decide) ?_
          obtain ⟨v18, h20, e19, hq⟩ := bnd2_some hq
          refine wp_callVI (As := [.int 40]) (rest := []) (h1 := h20) ok (m_X10_takes e19 (Nat.le_refl _)) my_X10_takes (w_1233) pd_X10_takes (by omega) rfl (ci := 10) rfl (by decide) (sh_of e15 f_x0) rfl rfl rfl dX10_readsThing_74 (fun e21 => ?_)
          have e22 : h20.1 = h0.1 := (e21).trans e15
          refine wp_if_ne (tgt := 82) ok dX10_readsThing_77 (by decide) (fun c23 => ?_) (fun c23 => ?_)
          · have hq := ite_f c23 hq
            refine wp_aload_n (v := x0) ok dX10_readsThing_82 rfl ?_
            refine wp_dup ok dX10_readsThing_83 rfl ?_
            refine wp_getI ok fl_RX10_133 (sh_of e22 f_x0) dX10_readsThing_84 ?_
            refine wp_iconst (v := 1) ok dX10_readsThing_87 (by decide) ?_
            refine wp_iadd ok dX10_readsThing_88 ?_
            refine wp_putI ok flw_RX10_133 (nr_10_15 _) (sh_of e22 f_x0) dX10_readsThing_89 ?_
            obtain ⟨h24, e25, hq⟩ := lt_some hq
            refine wp_nmH e25 ?_
            have e26 : h24.1 = h0.1 := (congrArg Prod.fst e25).trans e22
            refine wp_aload_n (v := x0) ok dX10_readsThing_92 rfl ?_
            refine wp_iconst (v := 0) ok dX10_readsThing_93 (by decide) ?_
            obtain ⟨v27, h29, e28, hq⟩ := bnd2_some hq
            refine wp_callVI (As := [.int 0]) (rest := []) (h1 := h29) ok (ih_X10_readsRank e28 (Nat.le_refl _)) my_X10_readsRank (w_1264) pd_X10_readsRank (by omega) rfl (ci := 10) rfl (by decide) (sh_of e26 f_x0) rfl rfl rfl dX10_readsThing_94 (fun e30 => ?_)
            have e31 : h29.1 = h0.1 := (e30).trans e26
            refine wp_if_eq (tgt := 109) ok dX10_readsThing_97 (by decide) (fun c32 => ?_) (fun c32 => ?_)
            · have hq := ite_t c32 hq
              refine wp_iconst (v := 0) ok dX10_readsThing_109 (by decide) ?_
              exact wp_iret ok hF (nb_z (Or.inl rfl)) e31 (re2I hq) dX10_readsThing_110
            · have hq := ite_f c32 hq
              refine wp_aload_n (v := x0) ok dX10_readsThing_100 rfl ?_
              refine wp_bipush (v := 41) ok dX10_readsThing_101 (by decide) ?_
              obtain ⟨v33, h35, e34, hq⟩ := bnd2_some hq
              refine wp_callVI (As := [.int 41]) (rest := []) (h1 := h35) ok (m_X10_takes e34 (Nat.le_refl _)) my_X10_takes (w_1233) pd_X10_takes (by omega) rfl (ci := 10) rfl (by decide) (sh_of e31 f_x0) rfl rfl rfl dX10_readsThing_103 (fun e36 => ?_)
              have e37 : h35.1 = h0.1 := (e36).trans e31
              refine wp_if_ne (tgt := 111) ok dX10_readsThing_106 (by decide) (fun c38 => ?_) (fun c38 => ?_)
              · have hq := ite_f c38 hq
                refine wp_aload_n (v := x0) ok dX10_readsThing_111 rfl ?_
                refine wp_dup ok dX10_readsThing_112 rfl ?_
                refine wp_getI ok fl_RX10_133 (sh_of e37 f_x0) dX10_readsThing_113 ?_
                refine wp_iconst (v := 1) ok dX10_readsThing_116 (by decide) ?_
                refine wp_isub ok dX10_readsThing_117 ?_
                refine wp_putI ok flw_RX10_133 (nr_10_15 _) (sh_of e37 f_x0) dX10_readsThing_118 ?_
                obtain ⟨h39, e40, hq⟩ := lt_some hq
                refine wp_nmH e40 ?_
                have e41 : h39.1 = h0.1 := (congrArg Prod.fst e40).trans e37
                refine wp_iconst (v := 1) ok dX10_readsThing_121 (by decide) ?_
                exact wp_iret ok hF (nb_z (Or.inr rfl)) e41 (re2I hq) dX10_readsThing_122
              · have hq := ite_t c38 hq
                refine wp_iconst (v := 0) ok dX10_readsThing_109 (by decide) ?_
                exact wp_iret ok hF (nb_z (Or.inl rfl)) e37 (re2I hq) dX10_readsThing_110
          · have hq := ite_t c23 hq
            refine wp_iconst (v := 0) ok dX10_readsThing_80 (by decide) ?_
            exact wp_iret ok hF (nb_z (Or.inl rfl)) e22 (re2I hq) dX10_readsThing_81
      · have hq := ite_f c16 hq
        refine wp_aload_n (v := x0) ok dX10_readsThing_52 rfl ?_
        refine wp_sipush (v := 1000) ok dX10_readsThing_53 (by decide) ?_
        refine wp_iload_n (v := v11) ok dX10_readsThing_56 rfl ?_
        refine wp_iadd ok dX10_readsThing_57 ?_
        obtain ⟨h42, e43, hq⟩ := bnd_some hq
        refine wp_callVV (As := [.int (1000 + v11)]) (rest := []) (h1 := h42) ok (m_X10_codes e43 (Nat.le_refl _)) my_X10_codes (w_1272) pd_X10_codes (by omega) rfl (ci := 10) rfl (by decide) (sh_of e15 f_x0) rfl rfl rfl dX10_readsThing_58 (fun e44 => ?_)
        have e45 : h42.1 = h0.1 := (e44).trans e15
        refine wp_iconst (v := 1) ok dX10_readsThing_61 (by decide) ?_
        exact wp_iret ok hF (nb_z (Or.inr rfl)) e45 (re2I hq) dX10_readsThing_62
    · have hq := ite_f c10 hq
      refine wp_aload_n (v := x0) ok dX10_readsThing_30 rfl ?_
      refine wp_aload_n (v := x0) ok dX10_readsThing_31 rfl ?_
      refine wp_iconst (v := 3) ok dX10_readsThing_32 (by decide) ?_
      obtain ⟨v46, h48, e47, hq⟩ := bnd2_some hq
      refine wp_callVI (As := [.int 3]) (rest := [.ref x0]) (h1 := h48) ok (m_X10_number e47 (Nat.le_refl _)) my_X10_number (w_1220) pd_X10_number (by omega) rfl (ci := 10) rfl (by decide) (sh_of e5 f_x0) rfl rfl rfl dX10_readsThing_33 (fun e49 => ?_)
      have e50 : h48.1 = h0.1 := (e49).trans e5
      obtain ⟨h51, e52, hq⟩ := bnd_some hq
      refine wp_callVV (As := [.int v46]) (rest := []) (h1 := h51) ok (m_X10_codes e52 (Nat.le_refl _)) my_X10_codes (w_1272) pd_X10_codes (by omega) rfl (ci := 10) rfl (by decide) (sh_of e50 f_x0) rfl rfl rfl dX10_readsThing_36 (fun e53 => ?_)
      have e54 : h51.1 = h0.1 := (e53).trans e50
      refine wp_iconst (v := 1) ok dX10_readsThing_39 (by decide) ?_
      exact wp_iret ok hF (nb_z (Or.inr rfl)) e54 (re2I hq) dX10_readsThing_40
  · have hq := ite_f c6 hq
    refine wp_aload_n (v := x0) ok dX10_readsThing_9 rfl ?_
    obtain ⟨v55, h57, e56, hq⟩ := bnd2_some hq
    refine wp_callVI (As := []) (rest := []) (h1 := h57) ok (ih_X10_readsThing e56 (Nat.le_refl _)) my_X10_readsThing (w_1268) pd_X10_readsThing (by omega) rfl (ci := 10) rfl (by decide) (sh_of e5 f_x0) rfl rfl rfl dX10_readsThing_10 (fun e58 => ?_)
    have e59 : h57.1 = h0.1 := (e58).trans e5
    refine wp_istore_n (L' := [(1, .int v55), (0, .ref x0)]) ok dX10_readsThing_13 rfl rfl ?_
    refine wp_aload_n (v := x0) ok dX10_readsThing_14 rfl ?_
    refine wp_sipush (v := 3000) ok dX10_readsThing_15 (by decide) ?_
    obtain ⟨h60, e61, hq⟩ := bnd_some hq
    refine wp_callVV (As := [.int 3000]) (rest := []) (h1 := h60) ok (m_X10_codes e61 (Nat.le_refl _)) my_X10_codes (w_1272) pd_X10_codes (by omega) rfl (ci := 10) rfl (by decide) (sh_of e59 f_x0) rfl rfl rfl dX10_readsThing_18 (fun e62 => ?_)
    have e63 : h60.1 = h0.1 := (e62).trans e59
    refine wp_iload_n (v := v55) ok dX10_readsThing_21 rfl ?_
    obtain ⟨g64, hq⟩ := gP_some hq
    exact wp_iret ok hF (nb_z g64) e63 (re2I hq) dX10_readsThing_22
set_option maxHeartbeats 4000000 in
set_option maxRecDepth 100000 in
theorem s_X10_readsRank_B24 {x : Cx} {h0 : HP} {N fr : Nat} {rf_X10_readsThing : HP → Nat → Option (Int32 × HP)} {rf_X10_readsRank : HP → Nat → Int32 → Option (Int32 × HP)} {dn : Nat} {rr : (Int32 × HP)} (ok : Okx x cX10_readsRank yX10_readsRank.cls 4 fr) (hfr : (dn + 5) ≤ fr) (ih_X10_readsThing : ∀ {h : HP} {x0 : Nat} {ri : Int32} {rj : HP} {fr : Nat}, rf_X10_readsThing h x0 = some (ri, rj) → dn ≤ fr → Mt (cxl x) yX10_readsThing cX10_readsThing 2 (some (.boolean)) fr [.ref x0] h (QI ri rj)) (ih_X10_readsRank : ∀ {h : HP} {x0 : Nat} {x1 : Int32} {ri : Int32} {rj : HP} {fr : Nat}, rf_X10_readsRank h x0 x1 = some (ri, rj) → dn ≤ fr → Mt (cxl x) yX10_readsRank cX10_readsRank 4 (some (.boolean)) fr [.ref x0, .int x1] h (QI ri rj))  {x0 : Nat} {x1 : Int32} {n_x0 : Nat} (f_x0 : h0.1[x0]? = some (10, n_x0)) (hF : Fend x h0 (some (.boolean)) (QI rr.1 rr.2)) {rc : Int32 → HP → Option (Int32 × HP)} (ih : ∀ (x2 : Int32) (h : HP), rc x2 h = some rr → h.1 = h0.1 → wp x 24 [(2, .int x2), (0, .ref x0), (1, .int x1)] [] h) : ∀ (x2 : Int32) (h : HP), f_X10_readsRank_B24 N rf_X10_readsThing rf_X10_readsRank x0 x1 rc x2 h = some rr → h.1 = h0.1 → wp x 24 [(2, .int x2), (0, .ref x0), (1, .int x1)] [] h := by
  intro x2 h hq e
  unfold f_X10_readsRank_B24 at hq
  refine wp_iload_n (v := x2) ok dX10_readsRank_24 rfl ?_
  refine wp_if_eq (tgt := 113) ok dX10_readsRank_25 (by decide) (fun c8 => ?_) (fun c8 => ?_)
  · have hq := ite_t c8 hq
    refine wp_iconst (v := 1) ok dX10_readsRank_113 (by decide) ?_
    exact wp_iret ok hF (nb_z (Or.inr rfl)) e (re2I hq) dX10_readsRank_114
  · have hq := ite_f c8 hq
    refine wp_aload_n (v := x0) ok dX10_readsRank_28 rfl ?_
    refine wp_iload_n (v := x1) ok dX10_readsRank_29 rfl ?_
    obtain ⟨k9, ek9, hq⟩ := jn1_some hq
    have kk9 : ∀ (y10 : Nat), k9 y10 = some rr → wp x 50 [(0, .ref x0), (1, .int x1)] [.ref y10, .ref x0] h := by
      intro y10 hq
      have hq := (ek9 y10).symm.trans hq
      obtain ⟨v11, h13, e12, hq⟩ := bnd2_some hq
      refine wp_callVI (As := [.ref y10]) (rest := []) (h1 := h13) ok (m_X10_takesOf e12 (Nat.le_refl _)) my_X10_takesOf (w_1250) pd_X10_takesOf (by omega) rfl (ci := 10) rfl (by decide) (sh_of e f_x0) rfl rfl rfl dX10_readsRank_50 (fun e14 => ?_)
      have e15 : h13.1 = h0.1 := (e14).trans e
      refine wp_istore_n (L' := [(3, .int v11), (0, .ref x0), (1, .int x1)]) ok dX10_readsRank_53 rfl rfl ?_
      refine wp_iload_n (v := v11) ok dX10_readsRank_54 rfl ?_
      refine wp_if_ge (tgt := 60) ok dX10_readsRank_55 (by decide) (fun c16 => ?_) (fun c16 => ?_)
      · have hq := ite_t c16 hq
        refine wp_aload_n (v := x0) ok dX10_readsRank_60 rfl ?_
        refine wp_iload_n (v := x1) ok dX10_readsRank_61 rfl ?_
        refine wp_iconst (v := 1) ok dX10_readsRank_62 (by decide) ?_
        refine wp_iadd ok dX10_readsRank_63 ?_
        obtain ⟨v17, h19, e18, hq⟩ := bnd2_some hq
        refine wp_callVI (As := [.int (x1 + 1)]) (rest := []) (h1 := h19) ok (ih_X10_readsRank e18 (Nat.le_refl _)) my_X10_readsRank (w_1264) pd_X10_readsRank (by omega) rfl (ci := 10) rfl (by decide) (sh_of e15 f_x0) rfl rfl rfl dX10_readsRank_64 (fun e20 => ?_)
        have e21 : h19.1 = h0.1 := (e20).trans e15
        refine wp_if_ne (tgt := 72) ok dX10_readsRank_67 (by decide) (fun c22 => ?_) (fun c22 => ?_)
        · have hq := ite_f c22 hq
          refine wp_aload_n (v := x0) ok dX10_readsRank_72 rfl ?_
          refine wp_sipush (v := 2000) ok dX10_readsRank_73 (by decide) ?_
          refine wp_iload_n (v := v11) ok dX10_readsRank_76 rfl ?_
          refine wp_iadd ok dX10_readsRank_77 ?_
          refine wp_iload_n (v := x1) ok dX10_readsRank_78 rfl ?_
          obtain ⟨k23, ek23, hq⟩ := jn1_some hq
          have kk23 : ∀ (y24 : Int32), k23 y24 = some rr → wp x 96 [(0, .ref x0), (1, .int x1)] [.int y24, .int (2000 + v11), .ref x0] h19 := by
            intro y24 hq
            have hq := (ek23 y24).symm.trans hq
            refine wp_iadd ok dX10_readsRank_96 ?_
            obtain ⟨h25, e26, hq⟩ := bnd_some hq
            refine wp_callVV (As := [.int ((2000 + v11) + y24)]) (rest := []) (h1 := h25) ok (m_X10_codes e26 (Nat.le_refl _)) my_X10_codes (w_1272) pd_X10_codes (by omega) rfl (ci := 10) rfl (by decide) (sh_of e21 f_x0) rfl rfl rfl dX10_readsRank_97 (fun e27 => ?_)
            have e28 : h25.1 = h0.1 := (e27).trans e21
            refine wp_iload_n (v := x1) ok dX10_readsRank_100 rfl ?_
            refine wp_if_le (tgt := 108) ok dX10_readsRank_101 (by decide) (fun c29 => ?_) (fun c29 => ?_)
            · have hq := ite_t c29 hq
              refine wp_iconst (v := 0) ok dX10_readsRank_108 (by decide) ?_
              refine wp_istore_n (L' := [(2, .int 0), (0, .ref x0), (1, .int x1)]) ok dX10_readsRank_109 rfl rfl ?_
              refine wp_goto (tgt := 24) ok dX10_readsRank_110 (by decide) ?_
              refine wp_sub (L' := [(2, .int 0), (0, .ref x0), (1, .int x1)]) [0, 1, 2] rfl ?_
              exact ih 0 h25 hq e28
            · have hq := ite_f c29 hq
              refine wp_iconst (v := 1) ok dX10_readsRank_104 (by decide) ?_
              refine wp_goto (tgt := 109) ok dX10_readsRank_105 (by decide) ?_
              refine wp_istore_n (L' := [(2, .int 1), (0, .ref x0), (1, .int x1)]) ok dX10_readsRank_109 rfl rfl ?_
              refine wp_goto (tgt := 24) ok dX10_readsRank_110 (by decide) ?_
              refine wp_sub (L' := [(2, .int 1), (0, .ref x0), (1, .int x1)]) [0, 1, 2] rfl ?_
              exact ih 1 h25 hq e28
          refine wp_if_ne (tgt := 86) ok dX10_readsRank_79 (by decide) (fun c30 => ?_) (fun c30 => ?_)
          · have hq := ite_f c30 hq
            refine wp_iload_n (v := x1) ok dX10_readsRank_86 rfl ?_
            refine wp_iconst (v := 1) ok dX10_readsRank_87 (by decide) ?_
            refine wp_icmp_ne (tgt := 95) ok dX10_readsRank_88 (by decide) (fun c31 => ?_) (fun c31 => ?_)
            · have hq := ite_f c31 hq
              refine wp_iconst (v := 5) ok dX10_readsRank_95 (by decide) ?_
              refine wp_sub (L' := [(0, .ref x0), (1, .int x1)]) [1, 2] rfl ?_
              exact kk23 5 hq
            · have hq := ite_t c31 hq
              refine wp_iconst (v := 3) ok dX10_readsRank_91 (by decide) ?_
              refine wp_goto (tgt := 96) ok dX10_readsRank_92 (by decide) ?_
              refine wp_sub (L' := [(0, .ref x0), (1, .int x1)]) [1, 2] rfl ?_
              exact kk23 3 hq
          · have hq := ite_t c30 hq
            refine wp_iconst (v := 0) ok dX10_readsRank_82 (by decide) ?_
            refine wp_goto (tgt := 96) ok dX10_readsRank_83 (by decide) ?_
            refine wp_sub (L' := [(0, .ref x0), (1, .int x1)]) [1, 2] rfl ?_
            exact kk23 0 hq
        · have hq := ite_t c22 hq
          refine wp_iconst (v := 0) ok dX10_readsRank_70 (by decide) ?_
          exact wp_iret ok hF (nb_z (Or.inl rfl)) e21 (re2I hq) dX10_readsRank_71
      · have hq := ite_f c16 hq
        refine wp_iconst (v := 1) ok dX10_readsRank_58 (by decide) ?_
        exact wp_iret ok hF (nb_z (Or.inr rfl)) e15 (re2I hq) dX10_readsRank_59
    refine wp_if_ne (tgt := 38) ok dX10_readsRank_30 (by decide) (fun c32 => ?_) (fun c32 => ?_)
    · have hq := ite_f c32 hq
      refine wp_iload_n (v := x1) ok dX10_readsRank_38 rfl ?_
      refine wp_iconst (v := 1) ok dX10_readsRank_39 (by decide) ?_
      refine wp_icmp_ne (tgt := 48) ok dX10_readsRank_40 (by decide) (fun c33 => ?_) (fun c33 => ?_)
      · have hq := ite_f c33 hq
        refine wp_ldcS (i := 14) ok rfl rfl rfl dX10_readsRank_48 ?_
        refine wp_sub (L' := [(0, .ref x0), (1, .int x1)]) [1, 2] rfl ?_
        exact kk9 (SB + 14) hq
      · have hq := ite_t c33 hq
        refine wp_ldcS (i := 13) ok rfl rfl rfl dX10_readsRank_43 ?_
        refine wp_goto (tgt := 50) ok dX10_readsRank_45 (by decide) ?_
        refine wp_sub (L' := [(0, .ref x0), (1, .int x1)]) [1, 2] rfl ?_
        exact kk9 (SB + 13) hq
    · have hq := ite_t c32 hq
      refine wp_ldcS (i := 12) ok rfl rfl rfl dX10_readsRank_33 ?_
      refine wp_goto (tgt := 50) ok dX10_readsRank_35 (by decide) ?_
      refine wp_sub (L' := [(0, .ref x0), (1, .int x1)]) [1, 2] rfl ?_
      exact kk9 (SB + 12) hq
set_option maxHeartbeats 4000000 in
set_option maxRecDepth 100000 in
theorem l_X10_readsRank_B24 {x : Cx} {h0 : HP} {N fr : Nat} {rf_X10_readsThing : HP → Nat → Option (Int32 × HP)} {rf_X10_readsRank : HP → Nat → Int32 → Option (Int32 × HP)} {dn : Nat} {rr : (Int32 × HP)} (ok : Okx x cX10_readsRank yX10_readsRank.cls 4 fr) (hfr : (dn + 5) ≤ fr) (ih_X10_readsThing : ∀ {h : HP} {x0 : Nat} {ri : Int32} {rj : HP} {fr : Nat}, rf_X10_readsThing h x0 = some (ri, rj) → dn ≤ fr → Mt (cxl x) yX10_readsThing cX10_readsThing 2 (some (.boolean)) fr [.ref x0] h (QI ri rj)) (ih_X10_readsRank : ∀ {h : HP} {x0 : Nat} {x1 : Int32} {ri : Int32} {rj : HP} {fr : Nat}, rf_X10_readsRank h x0 x1 = some (ri, rj) → dn ≤ fr → Mt (cxl x) yX10_readsRank cX10_readsRank 4 (some (.boolean)) fr [.ref x0, .int x1] h (QI ri rj))  {x0 : Nat} {x1 : Int32} {n_x0 : Nat} (f_x0 : h0.1[x0]? = some (10, n_x0)) (hF : Fend x h0 (some (.boolean)) (QI rr.1 rr.2)) : ∀ (n : Nat) (x2 : Int32) (h : HP), lp (fun _ _ => none) (f_X10_readsRank_B24 N rf_X10_readsThing rf_X10_readsRank x0 x1) n x2 h = some rr → h.1 = h0.1 → wp x 24 [(2, .int x2), (0, .ref x0), (1, .int x1)] [] h := by
  intro n
  induction n with
  | zero => intro x2 h hq e; exact (Option.some_ne_none _ hq.symm).elim
  | succ n ih => exact s_X10_readsRank_B24 ok hfr ih_X10_readsThing ih_X10_readsRank f_x0 hF  ih
set_option maxHeartbeats 4000000 in
set_option maxRecDepth 100000 in
theorem m_X10_readsRank_S {l : Launch} {h : HP} {N : Nat} {x0 : Nat} {x1 : Int32} {rr : Int32} {rh : HP} {fr : Nat} {rf_X10_readsThing : HP → Nat → Option (Int32 × HP)} {rf_X10_readsRank : HP → Nat → Int32 → Option (Int32 × HP)} {dn : Nat} (ih_X10_readsThing : ∀ {h : HP} {x0 : Nat} {ri : Int32} {rj : HP} {fr : Nat}, rf_X10_readsThing h x0 = some (ri, rj) → dn ≤ fr → Mt l yX10_readsThing cX10_readsThing 2 (some (.boolean)) fr [.ref x0] h (QI ri rj)) (ih_X10_readsRank : ∀ {h : HP} {x0 : Nat} {x1 : Int32} {ri : Int32} {rj : HP} {fr : Nat}, rf_X10_readsRank h x0 x1 = some (ri, rj) → dn ≤ fr → Mt l yX10_readsRank cX10_readsRank 4 (some (.boolean)) fr [.ref x0, .int x1] h (QI ri rj)) (hq : f_X10_readsRank_S rf_X10_readsThing rf_X10_readsRank N h x0 x1 = some (rr, rh)) (hfr : (dn + 5) ≤ fr) : Mt l yX10_readsRank cX10_readsRank 4 (some (.boolean)) fr [.ref x0, .int x1] h (QI rr rh) := by
  obtain ⟨rp, ep⟩ : ∃ rp : (Int32 × HP), rp = (rr, rh) := ⟨_, rfl⟩
  have e1p : rr = rp.1 := (congrArg Prod.fst ep).symm
  have e2p : rh = rp.2 := (congrArg Prod.snd ep).symm
  rw [← ep] at hq
  rw [e1p, e2p]
  clear e1p e2p ep
  refine Mt.of (by decide +kernel) (Nat.le_of_ble_eq_true rfl) (fun x hl ok hF => ?_)
  subst hl
  show wp x 0 [(0, .ref x0), (1, .int x1)] [] h
  unfold f_X10_readsRank_S at hq
  obtain ⟨h0, eh0⟩ : ∃ h0 : HP, h = h0 := ⟨h, rfl⟩
  have e : h.1 = h0.1 := by rw [eh0]
  rw [eh0] at hF
  obtain ⟨g_x0, hq⟩ := gP_some hq
  obtain ⟨n_x0, f_x0⟩ := kO_some g_x0
  replace f_x0 := sh_of e.symm f_x0
  refine wp_iload_n (v := x1) ok dX10_readsRank_0 rfl ?_
  refine wp_iconst (v := 3) ok dX10_readsRank_1 (by decide) ?_
  refine wp_icmp_ne (tgt := 10) ok dX10_readsRank_2 (by decide) (fun c1 => ?_) (fun c1 => ?_)
  · have hq := ite_f c1 hq
    refine wp_aload_n (v := x0) ok dX10_readsRank_10 rfl ?_
    refine wp_iload_n (v := x1) ok dX10_readsRank_11 rfl ?_
    refine wp_iconst (v := 1) ok dX10_readsRank_12 (by decide) ?_
    refine wp_iadd ok dX10_readsRank_13 ?_
    obtain ⟨v2, h4, e3, hq⟩ := bnd2_some hq
    refine wp_callVI (As := [.int (x1 + 1)]) (rest := []) (h1 := h4) ok (ih_X10_readsRank e3 (Nat.le_refl _)) my_X10_readsRank (w_1264) pd_X10_readsRank (by omega) rfl (ci := 10) rfl (by decide) (sh_of e f_x0) rfl rfl rfl dX10_readsRank_14 (fun e5 => ?_)
    have e6 : h4.1 = h0.1 := (e5).trans e
    refine wp_if_ne (tgt := 22) ok dX10_readsRank_17 (by decide) (fun c7 => ?_) (fun c7 => ?_)
    · have hq := ite_f c7 hq
      refine wp_iconst (v := 1) ok dX10_readsRank_22 (by decide) ?_
      refine wp_istore_n (L' := [(2, .int 1), (0, .ref x0), (1, .int x1)]) ok dX10_readsRank_23 rfl rfl ?_
      refine wp_sub (L' := [(2, .int 1), (0, .ref x0), (1, .int x1)]) [0, 1, 2] rfl ?_
      refine l_X10_readsRank_B24 ok hfr ih_X10_readsThing ih_X10_readsRank f_x0 hF  N 1 h4 hq e6
    · have hq := ite_t c7 hq
      refine wp_iconst (v := 0) ok dX10_readsRank_20 (by decide) ?_
      exact wp_iret ok hF (nb_z (Or.inl rfl)) e6 (re2I hq) dX10_readsRank_21
  · have hq := ite_t c1 hq
    refine wp_aload_n (v := x0) ok dX10_readsRank_5 rfl ?_
    obtain ⟨v34, h36, e35, hq⟩ := bnd2_some hq
    refine wp_callVI (As := []) (rest := []) (h1 := h36) ok (ih_X10_readsThing e35 (Nat.le_refl _)) my_X10_readsThing (w_1268) pd_X10_readsThing (by omega) rfl (ci := 10) rfl (by decide) (sh_of e f_x0) rfl rfl rfl dX10_readsRank_6 (fun e37 => ?_)
    have e38 : h36.1 = h0.1 := (e37).trans e
    obtain ⟨g39, hq⟩ := gP_some hq
    exact wp_iret ok hF (nb_z g39) e38 (re2I hq) dX10_readsRank_9
set_option maxHeartbeats 4000000 in
set_option maxRecDepth 100000 in
theorem g_X10_readsThing {l : Launch} {N : Nat} : ∀ n : Nat, (∀ {h : HP} {x0 : Nat} {ri : Int32} {rj : HP} {fr : Nat}, (f_X10_readsThing_G N n).1 h x0 = some (ri, rj) → 5 * n ≤ fr → Mt l yX10_readsThing cX10_readsThing 2 (some (.boolean)) fr [.ref x0] h (QI ri rj)) ∧ (∀ {h : HP} {x0 : Nat} {x1 : Int32} {ri : Int32} {rj : HP} {fr : Nat}, (f_X10_readsThing_G N n).2 h x0 x1 = some (ri, rj) → 5 * n ≤ fr → Mt l yX10_readsRank cX10_readsRank 4 (some (.boolean)) fr [.ref x0, .int x1] h (QI ri rj)) := by
  intro n
  induction n with
  | zero => exact ⟨fun hq _ => (Option.some_ne_none _ hq.symm).elim, fun hq _ => (Option.some_ne_none _ hq.symm).elim⟩
  | succ n ih => exact ⟨fun hq hf => m_X10_readsThing_S ih.1 ih.2 hq (by omega), fun hq hf => m_X10_readsRank_S ih.1 ih.2 hq (by omega)⟩
set_option maxHeartbeats 4000000 in
set_option maxRecDepth 100000 in
theorem m_X10_readsThing {l : Launch} {N : Nat} {h : HP} {x0 : Nat} {ri : Int32} {rj : HP} {fr : Nat} (hq : f_X10_readsThing N h x0 = some (ri, rj)) (hfr : 5 * N ≤ fr) : Mt l yX10_readsThing cX10_readsThing 2 (some (.boolean)) fr [.ref x0] h (QI ri rj) := by
  unfold f_X10_readsThing at hq
  exact (g_X10_readsThing (N := N) N).1 hq hfr
set_option maxHeartbeats 4000000 in
set_option maxRecDepth 100000 in
theorem m_X10_readsRank {l : Launch} {N : Nat} {h : HP} {x0 : Nat} {x1 : Int32} {ri : Int32} {rj : HP} {fr : Nat} (hq : f_X10_readsRank N h x0 x1 = some (ri, rj)) (hfr : 5 * N ≤ fr) : Mt l yX10_readsRank cX10_readsRank 4 (some (.boolean)) fr [.ref x0, .int x1] h (QI ri rj) := by
  unfold f_X10_readsRank at hq
  exact (g_X10_readsThing (N := N) N).2 hq hfr
set_option maxHeartbeats 4000000 in
set_option maxRecDepth 100000 in
theorem m_X10_readsRule {l : Launch} {h : HP} {N : Nat} {x0 : Nat} {rr : Int32} {rh : HP} {fr : Nat} (hq : f_X10_readsRule N h x0 = some (rr, rh)) (hfr : (5 * N + 2) ≤ fr) : Mt l yX10_readsRule cX10_readsRule 3 (some (.int)) fr [.ref x0] h (QI rr rh) := by
  obtain ⟨rp, ep⟩ : ∃ rp : (Int32 × HP), rp = (rr, rh) := ⟨_, rfl⟩
  have e1p : rr = rp.1 := (congrArg Prod.fst ep).symm
  have e2p : rh = rp.2 := (congrArg Prod.snd ep).symm
  rw [← ep] at hq
  rw [e1p, e2p]
  clear e1p e2p ep
  refine Mt.of (by decide +kernel) (Nat.le_of_ble_eq_true rfl) (fun x hl ok hF => ?_)
  subst hl
  show wp x 0 [(0, .ref x0)] [] h
  unfold f_X10_readsRule at hq
  obtain ⟨h0, eh0⟩ : ∃ h0 : HP, h = h0 := ⟨h, rfl⟩
  have e : h.1 = h0.1 := by rw [eh0]
  rw [eh0] at hF
  obtain ⟨g_x0, hq⟩ := gP_some hq
  obtain ⟨n_x0, f_x0⟩ := kO_some g_x0
  replace f_x0 := sh_of e.symm f_x0
  refine wp_aload_n (v := x0) ok dX10_readsRule_0 rfl ?_
  refine wp_bipush (v := 40) ok dX10_readsRule_1 (by decide) ?_
  obtain ⟨v1, h3, e2, hq⟩ := bnd2_some hq
  refine wp_callVI (As := [.int 40]) (rest := []) (h1 := h3) ok (m_X10_begins e2 (Nat.le_refl _)) my_X10_begins (w_1207) pd_X10_begins (by omega) rfl (ci := 10) rfl (by decide) (sh_of e f_x0) rfl rfl rfl dX10_readsRule_3 (fun e4 => ?_)
  have e5 : h3.1 = h0.1 := (e4).trans e
  refine wp_istore_n (L' := [(1, .int v1), (0, .ref x0)]) ok dX10_readsRule_6 rfl rfl ?_
  refine wp_aload_n (v := x0) ok dX10_readsRule_7 rfl ?_
  refine wp_iconst (v := 0) ok dX10_readsRule_8 (by decide) ?_
  refine wp_putI ok flw_RX10_206 (nr_10_22 _) (sh_of e5 f_x0) dX10_readsRule_9 ?_
  obtain ⟨h6, e7, hq⟩ := lt_some hq
  refine wp_nmH e7 ?_
  have e8 : h6.1 = h0.1 := (congrArg Prod.fst e7).trans e5
  refine wp_iload_n (v := v1) ok dX10_readsRule_12 rfl ?_
  obtain ⟨k9, ek9, hq⟩ := jn2_some hq
  have kk9 : ∀ (y10 : Int32) (h11 : HP), k9 y10 h11 = some rp → h11.1 = h0.1 → wp x 29 [(1, .int v1), (0, .ref x0)] [.int y10] h11 := by
    intro y10 h11 hq e12
    have hq := (ek9 y10 h11).symm.trans hq
    refine wp_istore_n (L' := [(2, .int y10), (1, .int v1), (0, .ref x0)]) ok dX10_readsRule_29 rfl rfl ?_
    refine wp_aload_n (v := x0) ok dX10_readsRule_30 rfl ?_
    refine wp_iload_n (v := v1) ok dX10_readsRule_31 rfl ?_
    refine wp_bipush (v := 40) ok dX10_readsRule_32 (by decide) ?_
    refine wp_iload_n (v := y10) ok dX10_readsRule_34 rfl ?_
    obtain ⟨v13, e14, hq⟩ := bnd_some hq
    refine wp_callVI (As := [.int v1, .int 40, .int y10]) (rest := []) (h1 := h11) ok (m_X10_faultOf e14 (Nat.le_refl _)) my_X10_faultOf (w_1237) pd_X10_faultOf (by omega) rfl (ci := 10) rfl (by decide) (sh_of e12 f_x0) rfl rfl rfl dX10_readsRule_35 (fun e15 => ?_)
    exact wp_iret ok hF rfl e12 (re2I hq) dX10_readsRule_38
  obtain ⟨k16, ek16, hq⟩ := jn1_some hq
  have kk16 : ∀ (h17 : HP), k16 h17 = some rp → h17.1 = h0.1 → wp x 24 [(1, .int v1), (0, .ref x0)] [] h17 := by
    intro h17 hq e18
    have hq := (ek16 h17).symm.trans hq
    refine wp_iconst (v := 1) ok dX10_readsRule_24 (by decide) ?_
    refine wp_goto (tgt := 29) ok dX10_readsRule_25 (by decide) ?_
    refine wp_sub (L' := [(1, .int v1), (0, .ref x0)]) [0, 1] rfl ?_
    exact kk9 1 h17 hq e18
  refine wp_if_eq (tgt := 24) ok dX10_readsRule_13 (by decide) (fun c19 => ?_) (fun c19 => ?_)
  · have hq := ite_t c19 hq
    refine wp_sub (L' := [(1, .int v1), (0, .ref x0)]) [0, 1] rfl ?_
    exact kk16 h6 hq e8
  · have hq := ite_f c19 hq
    refine wp_aload_n (v := x0) ok dX10_readsRule_16 rfl ?_
    refine wp_iconst (v := 0) ok dX10_readsRule_17 (by decide) ?_
    obtain ⟨v20, h22, e21, hq⟩ := bnd2_some hq
    refine wp_callVI (As := [.int 0]) (rest := []) (h1 := h22) ok (m_X10_readsRank e21 (Nat.le_refl _)) my_X10_readsRank (w_1264) pd_X10_readsRank (by omega) rfl (ci := 10) rfl (by decide) (sh_of e8 f_x0) rfl rfl rfl dX10_readsRule_18 (fun e23 => ?_)
    have e24 : h22.1 = h0.1 := (e23).trans e8
    refine wp_if_eq (tgt := 28) ok dX10_readsRule_21 (by decide) (fun c25 => ?_) (fun c25 => ?_)
    · have hq := ite_t c25 hq
      refine wp_iconst (v := 0) ok dX10_readsRule_28 (by decide) ?_
      refine wp_sub (L' := [(1, .int v1), (0, .ref x0)]) [0, 1] rfl ?_
      exact kk9 0 h22 hq e24
    · have hq := ite_f c25 hq
      refine wp_sub (L' := [(1, .int v1), (0, .ref x0)]) [0, 1] rfl ?_
      exact kk16 h22 hq e24
set_option maxHeartbeats 4000000 in
set_option maxRecDepth 100000 in
theorem s_X10_laysCode_B7 {x : Cx} {h0 : HP} {N fr : Nat} {rr : HP} (ok : Okx x cX10_laysCode yX10_laysCode.cls 4 fr) (hfr : 0 ≤ fr)  {x0 : Nat} {x1 : Nat} {x2 : Int32} {n_x0 : Nat} (f_x0 : h0.1[x0]? = some (10, n_x0)) {n_x1 : Nat} (f_x1 : h0.1[x1]? = some (102, n_x1)) (hF : Fend x h0 none (QV rr)) {rc : Int32 → HP → Option HP} (ih : ∀ (x3 : Int32) (h : HP), rc x3 h = some rr → h.1 = h0.1 → wp x 7 [(3, .int x3), (0, .ref x0), (1, .ref x1), (2, .int x2)] [] h) : ∀ (x3 : Int32) (h : HP), f_X10_laysCode_B7 N x0 x1 x2 rc x3 h = some rr → h.1 = h0.1 → wp x 7 [(3, .int x3), (0, .ref x0), (1, .ref x1), (2, .int x2)] [] h := by
  intro x3 h hq e
  unfold f_X10_laysCode_B7 at hq
  refine wp_iload_n (v := x3) ok dX10_laysCode_7 rfl ?_
  refine wp_iload_n (v := x2) ok dX10_laysCode_8 rfl ?_
  refine wp_icmp_ge (tgt := 27) ok dX10_laysCode_9 (by decide) (fun c4 => ?_) (fun c4 => ?_)
  · have hq := ite_t c4 hq
    exact wp_vret ok hF e (reV hq) dX10_laysCode_27
  · have hq := ite_f c4 hq
    refine wp_aload_n (v := x0) ok dX10_laysCode_12 rfl ?_
    obtain ⟨t5, e6, hq⟩ := bnd_some hq
    obtain ⟨e7, n8, f9⟩ := rK_some e6
    replace f9 := sh_of (e).symm f9
    refine wp_getR ok fl_RX10_56 (sh_of e f_x0) e7 dX10_laysCode_13 ?_
    refine wp_iload_n (v := x3) ok dX10_laysCode_16 rfl ?_
    refine wp_aload_n (v := x1) ok dX10_laysCode_17 rfl ?_
    refine wp_iload_n (v := x3) ok dX10_laysCode_18 rfl ?_
    obtain ⟨g10, hq⟩ := gP_some hq
    refine wp_iald ok (sh_of e f_x1) (ix_of (sh_of e f_x1) g10) dX10_laysCode_19 ?_
    obtain ⟨g11, hq⟩ := gP_some hq
    refine wp_iast ok (sh_of e f9) (ix_of (sh_of e f9) g11) dX10_laysCode_20 ?_
    obtain ⟨h12, e13, hq⟩ := lt_some hq
    refine wp_nmH e13 ?_
    have e14 : h12.1 = h0.1 := (congrArg Prod.fst e13).trans e
    obtain ⟨v15, e16, hq⟩ := lt_some hq
    refine wp_iinc (v := x3) (w := 1) (L' := [(3, .int v15), (0, .ref x0), (1, .ref x1), (2, .int x2)]) ok dX10_laysCode_21 rfl (by decide) rfl (by rw [← e16]; rfl) ?_
    refine wp_goto (tgt := 7) ok dX10_laysCode_24 (by decide) ?_
    refine wp_sub (L' := [(3, .int v15), (0, .ref x0), (1, .ref x1), (2, .int x2)]) [0, 1, 2, 3] rfl ?_
    exact ih v15 h12 hq e14
set_option maxHeartbeats 4000000 in
set_option maxRecDepth 100000 in
theorem l_X10_laysCode_B7 {x : Cx} {h0 : HP} {N fr : Nat} {rr : HP} (ok : Okx x cX10_laysCode yX10_laysCode.cls 4 fr) (hfr : 0 ≤ fr)  {x0 : Nat} {x1 : Nat} {x2 : Int32} {n_x0 : Nat} (f_x0 : h0.1[x0]? = some (10, n_x0)) {n_x1 : Nat} (f_x1 : h0.1[x1]? = some (102, n_x1)) (hF : Fend x h0 none (QV rr)) : ∀ (n : Nat) (x3 : Int32) (h : HP), lp (fun _ _ => none) (f_X10_laysCode_B7 N x0 x1 x2) n x3 h = some rr → h.1 = h0.1 → wp x 7 [(3, .int x3), (0, .ref x0), (1, .ref x1), (2, .int x2)] [] h := by
  intro n
  induction n with
  | zero => intro x3 h hq e; exact (Option.some_ne_none _ hq.symm).elim
  | succ n ih => exact s_X10_laysCode_B7 ok hfr f_x0 f_x1 hF  ih
set_option maxHeartbeats 4000000 in
set_option maxRecDepth 100000 in
theorem m_X10_laysCode {l : Launch} {h : HP} {N : Nat} {x0 : Nat} {x1 : Nat} {x2 : Int32} {rr : HP} {fr : Nat} (hq : f_X10_laysCode N h x0 x1 x2 = some rr) (hfr : 0 ≤ fr) : Mt l yX10_laysCode cX10_laysCode 4 none fr [.ref x0, .ref x1, .int x2] h (QV rr) := by
  refine Mt.of (by decide +kernel) (Nat.le_of_ble_eq_true rfl) (fun x hl ok hF => ?_)
  subst hl
  show wp x 0 [(0, .ref x0), (1, .ref x1), (2, .int x2)] [] h
  unfold f_X10_laysCode at hq
  obtain ⟨h0, eh0⟩ : ∃ h0 : HP, h = h0 := ⟨h, rfl⟩
  have e : h.1 = h0.1 := by rw [eh0]
  rw [eh0] at hF
  obtain ⟨g_x0, hq⟩ := gP_some hq
  obtain ⟨n_x0, f_x0⟩ := kO_some g_x0
  replace f_x0 := sh_of e.symm f_x0
  obtain ⟨g_x1, hq⟩ := gP_some hq
  obtain ⟨n_x1, f_x1⟩ := kO_some g_x1
  replace f_x1 := sh_of e.symm f_x1
  refine wp_aload_n (v := x0) ok dX10_laysCode_0 rfl ?_
  refine wp_iload_n (v := x2) ok dX10_laysCode_1 rfl ?_
  refine wp_putI ok flw_RX10_227 (nr_10_21 _) (sh_of e f_x0) dX10_laysCode_2 ?_
  obtain ⟨h1, e2, hq⟩ := lt_some hq
  refine wp_nmH e2 ?_
  have e3 : h1.1 = h0.1 := (congrArg Prod.fst e2).trans e
  refine wp_iconst (v := 0) ok dX10_laysCode_5 (by decide) ?_
  refine wp_istore_n (L' := [(3, .int 0), (0, .ref x0), (1, .ref x1), (2, .int x2)]) ok dX10_laysCode_6 rfl rfl ?_
  refine wp_sub (L' := [(3, .int 0), (0, .ref x0), (1, .ref x1), (2, .int x2)]) [0, 1, 2, 3] rfl ?_
  refine l_X10_laysCode_B7 ok hfr f_x0 f_x1 hF  N 0 h1 hq e3
set_option maxHeartbeats 4000000 in
set_option maxRecDepth 100000 in
theorem m_X10_rule {l : Launch} {h : HP} {N : Nat} {x0 : Nat} {rr : Int32} {rh : HP} {fr : Nat} (hq : f_X10_rule N h x0 = some (rr, rh)) (hfr : (5 * N + 3) ≤ fr) : Mt l yX10_rule cX10_rule 2 (some (.int)) fr [.ref x0] h (QI rr rh) := by
  obtain ⟨rp, ep⟩ : ∃ rp : (Int32 × HP), rp = (rr, rh) := ⟨_, rfl⟩
  have e1p : rr = rp.1 := (congrArg Prod.fst ep).symm
  have e2p : rh = rp.2 := (congrArg Prod.snd ep).symm
  rw [← ep] at hq
  rw [e1p, e2p]
  clear e1p e2p ep
  refine Mt.of (by decide +kernel) (Nat.le_of_ble_eq_true rfl) (fun x hl ok hF => ?_)
  subst hl
  show wp x 0 [(0, .ref x0)] [] h
  unfold f_X10_rule at hq
  obtain ⟨h0, eh0⟩ : ∃ h0 : HP, h = h0 := ⟨h, rfl⟩
  have e : h.1 = h0.1 := by rw [eh0]
  rw [eh0] at hF
  obtain ⟨g_x0, hq⟩ := gP_some hq
  obtain ⟨n_x0, f_x0⟩ := kO_some g_x0
  replace f_x0 := sh_of e.symm f_x0
  refine wp_aload_n (v := x0) ok dX10_rule_0 rfl ?_
  refine wp_iconst (v := 0) ok dX10_rule_1 (by decide) ?_
  refine wp_putI ok flw_RX10_3 (nr_10_0 _) (sh_of e f_x0) dX10_rule_2 ?_
  obtain ⟨h1, e2, hq⟩ := lt_some hq
  refine wp_nmH e2 ?_
  have e3 : h1.1 = h0.1 := (congrArg Prod.fst e2).trans e
  refine wp_aload_n (v := x0) ok dX10_rule_5 rfl ?_
  obtain ⟨v4, h6, e5, hq⟩ := bnd2_some hq
  refine wp_callVI (As := []) (rest := []) (h1 := h6) ok (m_X10_readsRule e5 (Nat.le_refl _)) my_X10_readsRule (w_1260) pd_X10_readsRule (by omega) rfl (ci := 10) rfl (by decide) (sh_of e3 f_x0) rfl rfl rfl dX10_rule_6 (fun e7 => ?_)
  have e8 : h6.1 = h0.1 := (e7).trans e3
  refine wp_istore_n (L' := [(1, .int v4), (0, .ref x0)]) ok dX10_rule_9 rfl rfl ?_
  refine wp_iload_n (v := v4) ok dX10_rule_10 rfl ?_
  refine wp_if_ne (tgt := 26) ok dX10_rule_11 (by decide) (fun c9 => ?_) (fun c9 => ?_)
  · have hq := ite_f c9 hq
    refine wp_iload_n (v := v4) ok dX10_rule_26 rfl ?_
    exact wp_iret ok hF rfl e8 (re2I hq) dX10_rule_27
  · have hq := ite_t c9 hq
    refine wp_aload_n (v := x0) ok dX10_rule_14 rfl ?_
    refine wp_aload_n (v := x0) ok dX10_rule_15 rfl ?_
    obtain ⟨t10, e11, hq⟩ := bnd_some hq
    obtain ⟨e12, n13, f14⟩ := rK_some e11
    replace f14 := sh_of (e8).symm f14
    refine wp_getR ok fl_RX10_59 (sh_of e8 f_x0) e12 dX10_rule_16 ?_
    refine wp_aload_n (v := x0) ok dX10_rule_19 rfl ?_
    refine wp_getI ok fl_RX10_206 (sh_of e8 f_x0) dX10_rule_20 ?_
    obtain ⟨h15, e16, hq⟩ := bnd_some hq
    refine wp_callVV (As := [.ref t10, .int (h6.2.1 x0 22)]) (rest := []) (h1 := h15) ok (m_X10_laysCode e16 (Nat.le_refl _)) my_X10_laysCode (w_1280) pd_X10_laysCode (by omega) rfl (ci := 10) rfl (by decide) (sh_of e8 f_x0) rfl rfl rfl dX10_rule_23 (fun e17 => ?_)
    have e18 : h15.1 = h0.1 := (e17).trans e8
    refine wp_iload_n (v := v4) ok dX10_rule_26 rfl ?_
    exact wp_iret ok hF rfl e18 (re2I hq) dX10_rule_27
set_option maxHeartbeats 4000000 in
set_option maxRecDepth 100000 in
theorem m_X10_worked {l : Launch} {h : HP} {x0 : Int32} {x1 : Int32} {x2 : Int32} {rr : Int32} {fr : Nat} (hq : f_X10_worked x0 x1 x2 = some rr) (hfr : 1 ≤ fr) : Mt l yX10_worked cX10_worked 3 (some (.int)) fr [.int x0, .int x1, .int x2] h (QI rr h) := by
  refine Mt.of (by decide +kernel) (Nat.le_of_ble_eq_true rfl) (fun x hl ok hF => ?_)
  subst hl
  show wp x 0 [(0, .int x0), (1, .int x1), (2, .int x2)] [] h
  unfold f_X10_worked at hq
  refine wp_iload_n (v := x0) ok dX10_worked_0 rfl ?_
  by_cases c1 : x0 = 0
  · have hq := ite_t c1 hq
    refine wp_tabIn (v := 0) (tgt := 40) ok dX10_worked_1 c1 (by decide) (by decide) rfl (by decide) ?_
    refine wp_iload_n (v := x1) ok dX10_worked_40 rfl ?_
    refine wp_iload_n (v := x2) ok dX10_worked_41 rfl ?_
    obtain ⟨k2, ek2, hq⟩ := jn1_some hq
    have kk2 : ∀ (y3 : Int32), k2 y3 = some rr → wp x 50 [] [.int y3] h := by
      intro y3 hq
      have hq := (ek2 y3).symm.trans hq
      obtain ⟨v4, e5, hq⟩ := bnd_some hq
      refine wp_callSI (As := [.int y3]) (rest := []) (h1 := h) ok (m_X10_flag e5 (Nat.le_refl _)) my_X10_flag (w_1230) pd_X10_flag (Nat.le_trans (by decide) hfr) rfl rfl rfl rfl dX10_worked_50 (fun e6 => ?_)
      exact wp_iret ok hF rfl rfl (re1I hq) dX10_worked_53
    refine wp_icmp_ge (tgt := 49) ok dX10_worked_42 (by decide) (fun c7 => ?_) (fun c7 => ?_)
    · have hq := ite_t c7 hq
      refine wp_iconst (v := 0) ok dX10_worked_49 (by decide) ?_
      refine wp_sub (L' := []) [] rfl ?_
      exact kk2 0 hq
    · have hq := ite_f c7 hq
      refine wp_iconst (v := 1) ok dX10_worked_45 (by decide) ?_
      refine wp_goto (tgt := 50) ok dX10_worked_46 (by decide) ?_
      refine wp_sub (L' := []) [] rfl ?_
      exact kk2 1 hq
  · have hq := ite_f c1 hq
    by_cases c8 : x0 = 1
    · have hq := ite_t c8 hq
      refine wp_tabIn (v := 1) (tgt := 54) ok dX10_worked_1 c8 (by decide) (by decide) rfl (by decide) ?_
      refine wp_iload_n (v := x1) ok dX10_worked_54 rfl ?_
      refine wp_iload_n (v := x2) ok dX10_worked_55 rfl ?_
      obtain ⟨k9, ek9, hq⟩ := jn1_some hq
      have kk9 : ∀ (y10 : Int32), k9 y10 = some rr → wp x 64 [] [.int y10] h := by
        intro y10 hq
        have hq := (ek9 y10).symm.trans hq
        obtain ⟨v11, e12, hq⟩ := bnd_some hq
        refine wp_callSI (As := [.int y10]) (rest := []) (h1 := h) ok (m_X10_flag e12 (Nat.le_refl _)) my_X10_flag (w_1230) pd_X10_flag (Nat.le_trans (by decide) hfr) rfl rfl rfl rfl dX10_worked_64 (fun e13 => ?_)
        exact wp_iret ok hF rfl rfl (re1I hq) dX10_worked_67
      refine wp_icmp_le (tgt := 63) ok dX10_worked_56 (by decide) (fun c14 => ?_) (fun c14 => ?_)
      · have hq := ite_t c14 hq
        refine wp_iconst (v := 0) ok dX10_worked_63 (by decide) ?_
        refine wp_sub (L' := []) [] rfl ?_
        exact kk9 0 hq
      · have hq := ite_f c14 hq
        refine wp_iconst (v := 1) ok dX10_worked_59 (by decide) ?_
        refine wp_goto (tgt := 64) ok dX10_worked_60 (by decide) ?_
        refine wp_sub (L' := []) [] rfl ?_
        exact kk9 1 hq
    · have hq := ite_f c8 hq
      by_cases c15 : x0 = 2
      · have hq := ite_t c15 hq
        refine wp_tabIn (v := 2) (tgt := 68) ok dX10_worked_1 c15 (by decide) (by decide) rfl (by decide) ?_
        refine wp_iload_n (v := x1) ok dX10_worked_68 rfl ?_
        refine wp_iload_n (v := x2) ok dX10_worked_69 rfl ?_
        obtain ⟨k16, ek16, hq⟩ := jn1_some hq
        have kk16 : ∀ (y17 : Int32), k16 y17 = some rr → wp x 78 [] [.int y17] h := by
          intro y17 hq
          have hq := (ek16 y17).symm.trans hq
          obtain ⟨v18, e19, hq⟩ := bnd_some hq
          refine wp_callSI (As := [.int y17]) (rest := []) (h1 := h) ok (m_X10_flag e19 (Nat.le_refl _)) my_X10_flag (w_1230) pd_X10_flag (Nat.le_trans (by decide) hfr) rfl rfl rfl rfl dX10_worked_78 (fun e20 => ?_)
          exact wp_iret ok hF rfl rfl (re1I hq) dX10_worked_81
        refine wp_icmp_ne (tgt := 77) ok dX10_worked_70 (by decide) (fun c21 => ?_) (fun c21 => ?_)
        · have hq := ite_f c21 hq
          refine wp_iconst (v := 0) ok dX10_worked_77 (by decide) ?_
          refine wp_sub (L' := []) [] rfl ?_
          exact kk16 0 hq
        · have hq := ite_t c21 hq
          refine wp_iconst (v := 1) ok dX10_worked_73 (by decide) ?_
          refine wp_goto (tgt := 78) ok dX10_worked_74 (by decide) ?_
          refine wp_sub (L' := []) [] rfl ?_
          exact kk16 1 hq
      · have hq := ite_f c15 hq
        by_cases c22 : x0 = 3
        · have hq := ite_t c22 hq
          refine wp_tabIn (v := 3) (tgt := 82) ok dX10_worked_1 c22 (by decide) (by decide) rfl (by decide) ?_
          refine wp_iload_n (v := x1) ok dX10_worked_82 rfl ?_
          refine wp_iload_n (v := x2) ok dX10_worked_83 rfl ?_
          refine wp_iadd ok dX10_worked_84 ?_
          exact wp_iret ok hF rfl rfl (re1I hq) dX10_worked_85
        · have hq := ite_f c22 hq
          by_cases c23 : x0 = 4
          · have hq := ite_t c23 hq
            refine wp_tabIn (v := 4) (tgt := 86) ok dX10_worked_1 c23 (by decide) (by decide) rfl (by decide) ?_
            refine wp_iload_n (v := x1) ok dX10_worked_86 rfl ?_
            refine wp_iload_n (v := x2) ok dX10_worked_87 rfl ?_
            refine wp_isub ok dX10_worked_88 ?_
            exact wp_iret ok hF rfl rfl (re1I hq) dX10_worked_89
          · have hq := ite_f c23 hq
            by_cases c24 : x0 = 5
            · have hq := ite_t c24 hq
              refine wp_tabIn (v := 5) (tgt := 90) ok dX10_worked_1 c24 (by decide) (by decide) rfl (by decide) ?_
              refine wp_iload_n (v := x1) ok dX10_worked_90 rfl ?_
              refine wp_iload_n (v := x2) ok dX10_worked_91 rfl ?_
              refine wp_imul ok dX10_worked_92 ?_
              exact wp_iret ok hF rfl rfl (re1I hq) dX10_worked_93
            · have hq := ite_f c24 hq
              refine wp_tabOut (tgt := 94) ok dX10_worked_1 (tab_out [0, 1, 2, 3, 4, 5] (by decide) (fun w hw => by simp only [List.mem_cons, List.not_mem_nil, or_false] at hw; rcases hw with rfl | rfl | rfl | rfl | rfl | rfl <;> assumption)) (by decide) ?_
              refine wp_iload_n (v := x2) ok dX10_worked_94 rfl ?_
              refine wp_if_ne (tgt := 102) ok dX10_worked_95 (by decide) (fun c25 => ?_) (fun c25 => ?_)
              · have hq := ite_f c25 hq
                refine wp_iload_n (v := x1) ok dX10_worked_102 rfl ?_
                refine wp_iload_n (v := x2) ok dX10_worked_103 rfl ?_
                obtain ⟨g26, hq⟩ := gP_some hq
                refine wp_idiv ok dX10_worked_104 g26 ?_
                exact wp_iret ok hF rfl rfl (re1I hq) dX10_worked_105
              · have hq := ite_t c25 hq
                refine wp_iconst (v := 0) ok dX10_worked_98 (by decide) ?_
                refine wp_goto (tgt := 105) ok dX10_worked_99 (by decide) ?_
                exact wp_iret ok hF rfl rfl (re1I hq) dX10_worked_105
set_option maxHeartbeats 4000000 in
set_option maxRecDepth 100000 in
theorem s_X10_ruled_B4 {x : Cx} {h0 : HP} {N fr : Nat} {rr : (Int32 × HP)} (ok : Okx x cX10_ruled yX10_ruled.cls 4 fr) (hfr : 2 ≤ fr)  {x0 : Nat} {n_x0 : Nat} (f_x0 : h0.1[x0]? = some (10, n_x0)) (hF : Fend x h0 (some (.int)) (QI rr.1 rr.2)) {k125 : HP → Option (Int32 × HP)} (hk125 : ∀ (h : HP), k125 h = some rr → h.1 = h0.1 → wp x 125 [(0, .ref x0)] [] h) {rc : Int32 → Int32 → HP → Option (Int32 × HP)} (ih : ∀ (x1 : Int32) (x2 : Int32) (h : HP), rc x1 x2 h = some rr → h.1 = h0.1 → wp x 4 [(1, .int x1), (2, .int x2), (0, .ref x0)] [] h) : ∀ (x1 : Int32) (x2 : Int32) (h : HP), f_X10_ruled_B4 N x0 k125 rc x1 x2 h = some rr → h.1 = h0.1 → wp x 4 [(1, .int x1), (2, .int x2), (0, .ref x0)] [] h := by
  intro x1 x2 h hq e
  unfold f_X10_ruled_B4 at hq
  refine wp_iload_n (v := x2) ok dX10_ruled_4 rfl ?_
  refine wp_aload_n (v := x0) ok dX10_ruled_5 rfl ?_
  refine wp_getI ok fl_RX10_227 (sh_of e f_x0) dX10_ruled_6 ?_
  refine wp_icmp_ge (tgt := 125) ok dX10_ruled_9 (by decide) (fun c1 => ?_) (fun c1 => ?_)
  · have hq := ite_t c1 hq
    refine wp_sub (L' := [(0, .ref x0)]) [2] rfl ?_
    exact hk125 h hq e
  · have hq := ite_f c1 hq
    refine wp_aload_n (v := x0) ok dX10_ruled_12 rfl ?_
    obtain ⟨t2, e3, hq⟩ := bnd_some hq
    obtain ⟨e4, n5, f6⟩ := rK_some e3
    replace f6 := sh_of (e).symm f6
    refine wp_getR ok fl_RX10_56 (sh_of e f_x0) e4 dX10_ruled_13 ?_
    refine wp_iload_n (v := x2) ok dX10_ruled_16 rfl ?_
    obtain ⟨g7, hq⟩ := gP_some hq
    refine wp_iald ok (sh_of e f6) (ix_of (sh_of e f6) g7) dX10_ruled_17 ?_
    obtain ⟨v8, e9, hq⟩ := lt_some hq
    refine wp_nmI e9 ?_
    refine wp_istore_n (L' := [(3, .int v8), (1, .int x1), (2, .int x2), (0, .ref x0)]) ok dX10_ruled_18 rfl rfl ?_
    refine wp_iload_n (v := v8) ok dX10_ruled_19 rfl ?_
    refine wp_sipush (v := 3000) ok dX10_ruled_20 (by decide) ?_
    refine wp_icmp_ne (tgt := 46) ok dX10_ruled_23 (by decide) (fun c10 => ?_) (fun c10 => ?_)
    · have hq := ite_f c10 hq
      refine wp_iload_n (v := v8) ok dX10_ruled_46 rfl ?_
      refine wp_sipush (v := 2000) ok dX10_ruled_47 (by decide) ?_
      refine wp_icmp_lt (tgt := 89) ok dX10_ruled_50 (by decide) (fun c11 => ?_) (fun c11 => ?_)
      · have hq := ite_t c11 hq
        refine wp_aload_n (v := x0) ok dX10_ruled_89 rfl ?_
        obtain ⟨t12, e13, hq⟩ := bnd_some hq
        obtain ⟨e14, n15, f16⟩ := rK_some e13
        replace f16 := sh_of (e).symm f16
        refine wp_getR ok fl_RX10_62 (sh_of e f_x0) e14 dX10_ruled_90 ?_
        refine wp_iload_n (v := x1) ok dX10_ruled_93 rfl ?_
        refine wp_iload_n (v := v8) ok dX10_ruled_94 rfl ?_
        refine wp_sipush (v := 1000) ok dX10_ruled_95 (by decide) ?_
        refine wp_icmp_lt (tgt := 114) ok dX10_ruled_98 (by decide) (fun c17 => ?_) (fun c17 => ?_)
        · have hq := ite_t c17 hq
          refine wp_iload_n (v := v8) ok dX10_ruled_114 rfl ?_
          obtain ⟨g18, hq⟩ := gP_some hq
          refine wp_iast ok (sh_of e f16) (ix_of (sh_of e f16) g18) dX10_ruled_115 ?_
          obtain ⟨h19, e20, hq⟩ := lt_some hq
          refine wp_nmH e20 ?_
          have e21 : h19.1 = h0.1 := (congrArg Prod.fst e20).trans e
          obtain ⟨v22, e23, hq⟩ := lt_some hq
          refine wp_iinc (v := x1) (w := 1) (L' := [(1, .int v22), (3, .int v8), (2, .int x2), (0, .ref x0)]) ok dX10_ruled_116 rfl (by decide) rfl (by rw [← e23]; rfl) ?_
          obtain ⟨v24, e25, hq⟩ := lt_some hq
          refine wp_iinc (v := x2) (w := 1) (L' := [(2, .int v24), (1, .int v22), (3, .int v8), (0, .ref x0)]) ok dX10_ruled_119 rfl (by decide) rfl (by rw [← e25]; rfl) ?_
          refine wp_goto (tgt := 4) ok dX10_ruled_122 (by decide) ?_
          refine wp_sub (L' := [(1, .int v22), (2, .int v24), (0, .ref x0)]) [1, 0, 3] rfl ?_
          exact ih v22 v24 h19 hq e21
        · have hq := ite_f c17 hq
          refine wp_aload_n (v := x0) ok dX10_ruled_101 rfl ?_
          obtain ⟨t26, e27, hq⟩ := bnd_some hq
          obtain ⟨e28, n29, f30⟩ := rK_some e27
          replace f30 := sh_of (e).symm f30
          refine wp_getR ok fl_RX10_65 (sh_of e f_x0) e28 dX10_ruled_102 ?_
          refine wp_iload_n (v := v8) ok dX10_ruled_105 rfl ?_
          refine wp_sipush (v := 1000) ok dX10_ruled_106 (by decide) ?_
          refine wp_isub ok dX10_ruled_109 ?_
          obtain ⟨g31, hq⟩ := gP_some hq
          refine wp_iald ok (sh_of e f30) (ix_of (sh_of e f30) g31) dX10_ruled_110 ?_
          refine wp_goto (tgt := 115) ok dX10_ruled_111 (by decide) ?_
          obtain ⟨g32, hq⟩ := gP_some hq
          refine wp_iast ok (sh_of e f16) (ix_of (sh_of e f16) g32) dX10_ruled_115 ?_
          obtain ⟨h33, e34, hq⟩ := lt_some hq
          refine wp_nmH e34 ?_
          have e35 : h33.1 = h0.1 := (congrArg Prod.fst e34).trans e
          obtain ⟨v36, e37, hq⟩ := lt_some hq
          refine wp_iinc (v := x1) (w := 1) (L' := [(1, .int v36), (3, .int v8), (2, .int x2), (0, .ref x0)]) ok dX10_ruled_116 rfl (by decide) rfl (by rw [← e37]; rfl) ?_
          obtain ⟨v38, e39, hq⟩ := lt_some hq
          refine wp_iinc (v := x2) (w := 1) (L' := [(2, .int v38), (1, .int v36), (3, .int v8), (0, .ref x0)]) ok dX10_ruled_119 rfl (by decide) rfl (by rw [← e39]; rfl) ?_
          refine wp_goto (tgt := 4) ok dX10_ruled_122 (by decide) ?_
          refine wp_sub (L' := [(1, .int v36), (2, .int v38), (0, .ref x0)]) [1, 0, 3] rfl ?_
          exact ih v36 v38 h33 hq e35
      · have hq := ite_f c11 hq
        obtain ⟨v40, e41, hq⟩ := lt_some hq
        refine wp_iinc (v := x1) (w := (-1)) (L' := [(1, .int v40), (3, .int v8), (2, .int x2), (0, .ref x0)]) ok dX10_ruled_53 rfl (by decide) rfl (by rw [← e41]; rfl) ?_
        refine wp_aload_n (v := x0) ok dX10_ruled_56 rfl ?_
        obtain ⟨t42, e43, hq⟩ := bnd_some hq
        obtain ⟨e44, n45, f46⟩ := rK_some e43
        replace f46 := sh_of (e).symm f46
        refine wp_getR ok fl_RX10_62 (sh_of e f_x0) e44 dX10_ruled_57 ?_
        refine wp_iload_n (v := v40) ok dX10_ruled_60 rfl ?_
        refine wp_iconst (v := 1) ok dX10_ruled_61 (by decide) ?_
        refine wp_isub ok dX10_ruled_62 ?_
        refine wp_iload_n (v := v8) ok dX10_ruled_63 rfl ?_
        refine wp_sipush (v := 2000) ok dX10_ruled_64 (by decide) ?_
        refine wp_isub ok dX10_ruled_67 ?_
        refine wp_aload_n (v := x0) ok dX10_ruled_68 rfl ?_
        obtain ⟨t47, e48, hq⟩ := bnd_some hq
        obtain ⟨e49, n50, f51⟩ := rK_some e48
        replace f51 := sh_of (e).symm f51
        refine wp_getR ok fl_RX10_62 (sh_of e f_x0) e49 dX10_ruled_69 ?_
        refine wp_iload_n (v := v40) ok dX10_ruled_72 rfl ?_
        refine wp_iconst (v := 1) ok dX10_ruled_73 (by decide) ?_
        refine wp_isub ok dX10_ruled_74 ?_
        obtain ⟨g52, hq⟩ := gP_some hq
        refine wp_iald ok (sh_of e f51) (ix_of (sh_of e f51) g52) dX10_ruled_75 ?_
        refine wp_aload_n (v := x0) ok dX10_ruled_76 rfl ?_
        obtain ⟨t53, e54, hq⟩ := bnd_some hq
        obtain ⟨e55, n56, f57⟩ := rK_some e54
        replace f57 := sh_of (e).symm f57
        refine wp_getR ok fl_RX10_62 (sh_of e f_x0) e55 dX10_ruled_77 ?_
        refine wp_iload_n (v := v40) ok dX10_ruled_80 rfl ?_
        obtain ⟨g58, hq⟩ := gP_some hq
        refine wp_iald ok (sh_of e f57) (ix_of (sh_of e f57) g58) dX10_ruled_81 ?_
        obtain ⟨v59, e60, hq⟩ := bnd_some hq
        refine wp_callSI (As := [.int (v8 - 2000), .int (h.2.1 t47 (v40 - 1).toNatClampNeg), .int (h.2.1 t53 v40.toNatClampNeg)]) (rest := [.int (v40 - 1), .ref t42]) (h1 := h) ok (m_X10_worked e60 (Nat.le_refl _)) my_X10_worked (w_1313) pd_X10_worked (Nat.le_trans (by decide) hfr) rfl rfl rfl rfl dX10_ruled_82 (fun e61 => ?_)
        obtain ⟨g62, hq⟩ := gP_some hq
        refine wp_iast ok (sh_of e f46) (ix_of (sh_of e f46) g62) dX10_ruled_85 ?_
        obtain ⟨h63, e64, hq⟩ := lt_some hq
        refine wp_nmH e64 ?_
        have e65 : h63.1 = h0.1 := (congrArg Prod.fst e64).trans e
        refine wp_goto (tgt := 119) ok dX10_ruled_86 (by decide) ?_
        obtain ⟨v66, e67, hq⟩ := lt_some hq
        refine wp_iinc (v := x2) (w := 1) (L' := [(2, .int v66), (1, .int v40), (3, .int v8), (0, .ref x0)]) ok dX10_ruled_119 rfl (by decide) rfl (by rw [← e67]; rfl) ?_
        refine wp_goto (tgt := 4) ok dX10_ruled_122 (by decide) ?_
        refine wp_sub (L' := [(1, .int v40), (2, .int v66), (0, .ref x0)]) [1, 0, 3] rfl ?_
        exact ih v40 v66 h63 hq e65
    · have hq := ite_t c10 hq
      refine wp_aload_n (v := x0) ok dX10_ruled_26 rfl ?_
      obtain ⟨t68, e69, hq⟩ := bnd_some hq
      obtain ⟨e70, n71, f72⟩ := rK_some e69
      replace f72 := sh_of (e).symm f72
      refine wp_getR ok fl_RX10_62 (sh_of e f_x0) e70 dX10_ruled_27 ?_
      refine wp_iload_n (v := x1) ok dX10_ruled_30 rfl ?_
      refine wp_iconst (v := 1) ok dX10_ruled_31 (by decide) ?_
      refine wp_isub ok dX10_ruled_32 ?_
      refine wp_aload_n (v := x0) ok dX10_ruled_33 rfl ?_
      obtain ⟨t73, e74, hq⟩ := bnd_some hq
      obtain ⟨e75, n76, f77⟩ := rK_some e74
      replace f77 := sh_of (e).symm f77
      refine wp_getR ok fl_RX10_62 (sh_of e f_x0) e75 dX10_ruled_34 ?_
      refine wp_iload_n (v := x1) ok dX10_ruled_37 rfl ?_
      refine wp_iconst (v := 1) ok dX10_ruled_38 (by decide) ?_
      refine wp_isub ok dX10_ruled_39 ?_
      obtain ⟨g78, hq⟩ := gP_some hq
      refine wp_iald ok (sh_of e f77) (ix_of (sh_of e f77) g78) dX10_ruled_40 ?_
      refine wp_ineg ok dX10_ruled_41 ?_
      obtain ⟨g79, hq⟩ := gP_some hq
      refine wp_iast ok (sh_of e f72) (ix_of (sh_of e f72) g79) dX10_ruled_42 ?_
      obtain ⟨h80, e81, hq⟩ := lt_some hq
      refine wp_nmH e81 ?_
      have e82 : h80.1 = h0.1 := (congrArg Prod.fst e81).trans e
      refine wp_goto (tgt := 119) ok dX10_ruled_43 (by decide) ?_
      obtain ⟨v83, e84, hq⟩ := lt_some hq
      refine wp_iinc (v := x2) (w := 1) (L' := [(2, .int v83), (3, .int v8), (1, .int x1), (0, .ref x0)]) ok dX10_ruled_119 rfl (by decide) rfl (by rw [← e84]; rfl) ?_
      refine wp_goto (tgt := 4) ok dX10_ruled_122 (by decide) ?_
      refine wp_sub (L' := [(1, .int x1), (2, .int v83), (0, .ref x0)]) [2, 0, 3] rfl ?_
      exact ih x1 v83 h80 hq e82
set_option maxHeartbeats 4000000 in
set_option maxRecDepth 100000 in
theorem l_X10_ruled_B4 {x : Cx} {h0 : HP} {N fr : Nat} {rr : (Int32 × HP)} (ok : Okx x cX10_ruled yX10_ruled.cls 4 fr) (hfr : 2 ≤ fr)  {x0 : Nat} {n_x0 : Nat} (f_x0 : h0.1[x0]? = some (10, n_x0)) (hF : Fend x h0 (some (.int)) (QI rr.1 rr.2)) {k125 : HP → Option (Int32 × HP)} (hk125 : ∀ (h : HP), k125 h = some rr → h.1 = h0.1 → wp x 125 [(0, .ref x0)] [] h) : ∀ (n : Nat) (x1 : Int32) (x2 : Int32) (h : HP), lp (fun _ _ _ => none) (f_X10_ruled_B4 N x0 k125) n x1 x2 h = some rr → h.1 = h0.1 → wp x 4 [(1, .int x1), (2, .int x2), (0, .ref x0)] [] h := by
  intro n
  induction n with
  | zero => intro x1 x2 h hq e; exact (Option.some_ne_none _ hq.symm).elim
  | succ n ih => exact s_X10_ruled_B4 ok hfr f_x0 hF hk125 ih
set_option maxHeartbeats 4000000 in
set_option maxRecDepth 100000 in
theorem m_X10_ruled {l : Launch} {h : HP} {N : Nat} {x0 : Nat} {rr : Int32} {rh : HP} {fr : Nat} (hq : f_X10_ruled N h x0 = some (rr, rh)) (hfr : 2 ≤ fr) : Mt l yX10_ruled cX10_ruled 4 (some (.int)) fr [.ref x0] h (QI rr rh) := by
  obtain ⟨rp, ep⟩ : ∃ rp : (Int32 × HP), rp = (rr, rh) := ⟨_, rfl⟩
  have e1p : rr = rp.1 := (congrArg Prod.fst ep).symm
  have e2p : rh = rp.2 := (congrArg Prod.snd ep).symm
  rw [← ep] at hq
  rw [e1p, e2p]
  clear e1p e2p ep
  refine Mt.of (by decide +kernel) (Nat.le_of_ble_eq_true rfl) (fun x hl ok hF => ?_)
  subst hl
  show wp x 0 [(0, .ref x0)] [] h
  unfold f_X10_ruled at hq
  obtain ⟨h0, eh0⟩ : ∃ h0 : HP, h = h0 := ⟨h, rfl⟩
  have e : h.1 = h0.1 := by rw [eh0]
  rw [eh0] at hF
  obtain ⟨g_x0, hq⟩ := gP_some hq
  obtain ⟨n_x0, f_x0⟩ := kO_some g_x0
  replace f_x0 := sh_of e.symm f_x0
  refine wp_iconst (v := 0) ok dX10_ruled_0 (by decide) ?_
  refine wp_istore_n (L' := [(1, .int 0), (0, .ref x0)]) ok dX10_ruled_1 rfl rfl ?_
  refine wp_iconst (v := 0) ok dX10_ruled_2 (by decide) ?_
  refine wp_istore_n (L' := [(2, .int 0), (1, .int 0), (0, .ref x0)]) ok dX10_ruled_3 rfl rfl ?_
  refine wp_sub (L' := [(1, .int 0), (2, .int 0), (0, .ref x0)]) [1, 0, 2] rfl ?_
  refine l_X10_ruled_B4 ok hfr f_x0 hF ?_ N 0 0 h hq e
  · intro h85 hq e86
    refine wp_aload_n (v := x0) ok dX10_ruled_125 rfl ?_
    refine wp_getI ok fl_RX10_227 (sh_of e86 f_x0) dX10_ruled_126 ?_
    refine wp_if_ne (tgt := 157) ok dX10_ruled_129 (by decide) (fun c87 => ?_) (fun c87 => ?_)
    · have hq := ite_f c87 hq
      refine wp_aload_n (v := x0) ok dX10_ruled_157 rfl ?_
      obtain ⟨t88, e89, hq⟩ := bnd_some hq
      obtain ⟨e90, n91, f92⟩ := rK_some e89
      replace f92 := sh_of (e86).symm f92
      refine wp_getR ok fl_RX10_62 (sh_of e86 f_x0) e90 dX10_ruled_158 ?_
      refine wp_iconst (v := 0) ok dX10_ruled_161 (by decide) ?_
      obtain ⟨g93, hq⟩ := gP_some hq
      refine wp_iald ok (sh_of e86 f92) (ix_of (sh_of e86 f92) g93) dX10_ruled_162 ?_
      exact wp_iret ok hF rfl e86 (re2I hq) dX10_ruled_163
    · have hq := ite_t c87 hq
      refine wp_iconst (v := 2) ok dX10_ruled_132 (by decide) ?_
      refine wp_aload_n (v := x0) ok dX10_ruled_133 rfl ?_
      obtain ⟨t94, e95, hq⟩ := bnd_some hq
      obtain ⟨e96, n97, f98⟩ := rK_some e95
      replace f98 := sh_of (e86).symm f98
      refine wp_getR ok fl_RX10_65 (sh_of e86 f_x0) e96 dX10_ruled_134 ?_
      refine wp_iconst (v := 0) ok dX10_ruled_137 (by decide) ?_
      obtain ⟨g99, hq⟩ := gP_some hq
      refine wp_iald ok (sh_of e86 f98) (ix_of (sh_of e86 f98) g99) dX10_ruled_138 ?_
      refine wp_imul ok dX10_ruled_139 ?_
      refine wp_aload_n (v := x0) ok dX10_ruled_140 rfl ?_
      obtain ⟨t100, e101, hq⟩ := bnd_some hq
      obtain ⟨e102, n103, f104⟩ := rK_some e101
      replace f104 := sh_of (e86).symm f104
      refine wp_getR ok fl_RX10_65 (sh_of e86 f_x0) e102 dX10_ruled_141 ?_
      refine wp_iconst (v := 1) ok dX10_ruled_144 (by decide) ?_
      obtain ⟨g105, hq⟩ := gP_some hq
      refine wp_iald ok (sh_of e86 f104) (ix_of (sh_of e86 f104) g105) dX10_ruled_145 ?_
      refine wp_iadd ok dX10_ruled_146 ?_
      refine wp_aload_n (v := x0) ok dX10_ruled_147 rfl ?_
      obtain ⟨t106, e107, hq⟩ := bnd_some hq
      obtain ⟨e108, n109, f110⟩ := rK_some e107
      replace f110 := sh_of (e86).symm f110
      refine wp_getR ok fl_RX10_65 (sh_of e86 f_x0) e108 dX10_ruled_148 ?_
      refine wp_iconst (v := 2) ok dX10_ruled_151 (by decide) ?_
      obtain ⟨g111, hq⟩ := gP_some hq
      refine wp_iald ok (sh_of e86 f110) (ix_of (sh_of e86 f110) g111) dX10_ruled_152 ?_
      obtain ⟨g112, hq⟩ := gP_some hq
      refine wp_idiv ok dX10_ruled_153 g112 ?_
      refine wp_goto (tgt := 163) ok dX10_ruled_154 (by decide) ?_
      exact wp_iret ok hF rfl e86 (re2I hq) dX10_ruled_163
set_option maxHeartbeats 4000000 in
set_option maxRecDepth 100000 in
theorem m_X10_priceBy {l : Launch} {h : HP} {N : Nat} {x0 : Nat} {x1 : Int32} {x2 : Int32} {x3 : Int32} {x4 : Int32} {x5 : Int32} {rr : Int32} {rh : HP} {fr : Nat} (hq : f_X10_priceBy N h x0 x1 x2 x3 x4 x5 = some (rr, rh)) (hfr : 3 ≤ fr) : Mt l yX10_priceBy cX10_priceBy 6 (some (.int)) fr [.ref x0, .int x1, .int x2, .int x3, .int x4, .int x5] h (QI rr rh) := by
  obtain ⟨rp, ep⟩ : ∃ rp : (Int32 × HP), rp = (rr, rh) := ⟨_, rfl⟩
  have e1p : rr = rp.1 := (congrArg Prod.fst ep).symm
  have e2p : rh = rp.2 := (congrArg Prod.snd ep).symm
  rw [← ep] at hq
  rw [e1p, e2p]
  clear e1p e2p ep
  refine Mt.of (by decide +kernel) (Nat.le_of_ble_eq_true rfl) (fun x hl ok hF => ?_)
  subst hl
  show wp x 0 [(0, .ref x0), (1, .int x1), (2, .int x2), (3, .int x3), (4, .int x4), (5, .int x5)] [] h
  unfold f_X10_priceBy at hq
  obtain ⟨h0, eh0⟩ : ∃ h0 : HP, h = h0 := ⟨h, rfl⟩
  have e : h.1 = h0.1 := by rw [eh0]
  rw [eh0] at hF
  obtain ⟨g_x0, hq⟩ := gP_some hq
  obtain ⟨n_x0, f_x0⟩ := kO_some g_x0
  replace f_x0 := sh_of e.symm f_x0
  refine wp_aload_n (v := x0) ok dX10_priceBy_0 rfl ?_
  obtain ⟨t1, e2, hq⟩ := bnd_some hq
  obtain ⟨e3, n4, f5⟩ := rK_some e2
  replace f5 := sh_of (e).symm f5
  refine wp_getR ok fl_RX10_65 (sh_of e f_x0) e3 dX10_priceBy_1 ?_
  refine wp_iconst (v := 0) ok dX10_priceBy_4 (by decide) ?_
  refine wp_iload_n (v := x2) ok dX10_priceBy_5 rfl ?_
  obtain ⟨g6, hq⟩ := gP_some hq
  refine wp_iast ok (sh_of e f5) (ix_of (sh_of e f5) g6) dX10_priceBy_6 ?_
  obtain ⟨h7, e8, hq⟩ := lt_some hq
  refine wp_nmH e8 ?_
  have e9 : h7.1 = h0.1 := (congrArg Prod.fst e8).trans e
  refine wp_aload_n (v := x0) ok dX10_priceBy_7 rfl ?_
  obtain ⟨t10, e11, hq⟩ := bnd_some hq
  obtain ⟨e12, n13, f14⟩ := rK_some e11
  replace f14 := sh_of (e9).symm f14
  refine wp_getR ok fl_RX10_65 (sh_of e9 f_x0) e12 dX10_priceBy_8 ?_
  refine wp_iconst (v := 1) ok dX10_priceBy_11 (by decide) ?_
  refine wp_iload_n (v := x3) ok dX10_priceBy_12 rfl ?_
  obtain ⟨g15, hq⟩ := gP_some hq
  refine wp_iast ok (sh_of e9 f14) (ix_of (sh_of e9 f14) g15) dX10_priceBy_13 ?_
  obtain ⟨h16, e17, hq⟩ := lt_some hq
  refine wp_nmH e17 ?_
  have e18 : h16.1 = h0.1 := (congrArg Prod.fst e17).trans e9
  refine wp_aload_n (v := x0) ok dX10_priceBy_14 rfl ?_
  obtain ⟨t19, e20, hq⟩ := bnd_some hq
  obtain ⟨e21, n22, f23⟩ := rK_some e20
  replace f23 := sh_of (e18).symm f23
  refine wp_getR ok fl_RX10_65 (sh_of e18 f_x0) e21 dX10_priceBy_15 ?_
  refine wp_iconst (v := 2) ok dX10_priceBy_18 (by decide) ?_
  refine wp_aload_n (v := x0) ok dX10_priceBy_19 rfl ?_
  obtain ⟨t24, e25, hq⟩ := bnd_some hq
  obtain ⟨e26, n27, f28⟩ := rK_some e25
  replace f28 := sh_of (e18).symm f28
  refine wp_getR ok fl_RX10_38 (sh_of e18 f_x0) e26 dX10_priceBy_20 ?_
  refine wp_iload_n (v := x1) ok dX10_priceBy_23 rfl ?_
  obtain ⟨g29, hq⟩ := gP_some hq
  refine wp_iald ok (sh_of e18 f28) (ix_of (sh_of e18 f28) g29) dX10_priceBy_24 ?_
  obtain ⟨g30, hq⟩ := gP_some hq
  refine wp_iast ok (sh_of e18 f23) (ix_of (sh_of e18 f23) g30) dX10_priceBy_25 ?_
  obtain ⟨h31, e32, hq⟩ := lt_some hq
  refine wp_nmH e32 ?_
  have e33 : h31.1 = h0.1 := (congrArg Prod.fst e32).trans e18
  refine wp_aload_n (v := x0) ok dX10_priceBy_26 rfl ?_
  obtain ⟨t34, e35, hq⟩ := bnd_some hq
  obtain ⟨e36, n37, f38⟩ := rK_some e35
  replace f38 := sh_of (e33).symm f38
  refine wp_getR ok fl_RX10_65 (sh_of e33 f_x0) e36 dX10_priceBy_27 ?_
  refine wp_iconst (v := 3) ok dX10_priceBy_30 (by decide) ?_
  refine wp_iload_n (v := x1) ok dX10_priceBy_31 rfl ?_
  obtain ⟨g39, hq⟩ := gP_some hq
  refine wp_iast ok (sh_of e33 f38) (ix_of (sh_of e33 f38) g39) dX10_priceBy_32 ?_
  obtain ⟨h40, e41, hq⟩ := lt_some hq
  refine wp_nmH e41 ?_
  have e42 : h40.1 = h0.1 := (congrArg Prod.fst e41).trans e33
  refine wp_aload_n (v := x0) ok dX10_priceBy_33 rfl ?_
  obtain ⟨t43, e44, hq⟩ := bnd_some hq
  obtain ⟨e45, n46, f47⟩ := rK_some e44
  replace f47 := sh_of (e42).symm f47
  refine wp_getR ok fl_RX10_65 (sh_of e42 f_x0) e45 dX10_priceBy_34 ?_
  refine wp_iconst (v := 4) ok dX10_priceBy_37 (by decide) ?_
  refine wp_iload (v := x4) ok dX10_priceBy_38 rfl ?_
  refine wp_bipush (v := 12) ok dX10_priceBy_40 (by decide) ?_
  refine wp_irem ok dX10_priceBy_42 (by decide) ?_
  obtain ⟨g48, hq⟩ := gP_some hq
  refine wp_iast ok (sh_of e42 f47) (ix_of (sh_of e42 f47) g48) dX10_priceBy_43 ?_
  obtain ⟨h49, e50, hq⟩ := lt_some hq
  refine wp_nmH e50 ?_
  have e51 : h49.1 = h0.1 := (congrArg Prod.fst e50).trans e42
  refine wp_aload_n (v := x0) ok dX10_priceBy_44 rfl ?_
  obtain ⟨t52, e53, hq⟩ := bnd_some hq
  obtain ⟨e54, n55, f56⟩ := rK_some e53
  replace f56 := sh_of (e51).symm f56
  refine wp_getR ok fl_RX10_65 (sh_of e51 f_x0) e54 dX10_priceBy_45 ?_
  refine wp_iconst (v := 5) ok dX10_priceBy_48 (by decide) ?_
  refine wp_iload (v := x5) ok dX10_priceBy_49 rfl ?_
  obtain ⟨g57, hq⟩ := gP_some hq
  refine wp_iast ok (sh_of e51 f56) (ix_of (sh_of e51 f56) g57) dX10_priceBy_51 ?_
  obtain ⟨h58, e59, hq⟩ := lt_some hq
  refine wp_nmH e59 ?_
  have e60 : h58.1 = h0.1 := (congrArg Prod.fst e59).trans e51
  refine wp_iconst (v := 0) ok dX10_priceBy_52 (by decide) ?_
  refine wp_ldc (v := 99999) ok (w_1308) dX10_priceBy_53 ?_
  refine wp_aload_n (v := x0) ok dX10_priceBy_55 rfl ?_
  obtain ⟨v61, h63, e62, hq⟩ := bnd2_some hq
  refine wp_callVI (As := []) (rest := [.int 99999, .int 0]) (h1 := h63) ok (m_X10_ruled e62 (Nat.le_refl _)) my_X10_ruled (w_1309) pd_X10_ruled (Nat.le_trans (by decide) hfr) rfl (ci := 10) rfl (by decide) (sh_of e60 f_x0) rfl rfl rfl dX10_priceBy_56 (fun e64 => ?_)
  have e65 : h63.1 = h0.1 := (e64).trans e60
  obtain ⟨v66, e67, hq⟩ := bnd_some hq
  refine wp_callSI (As := [.int 99999, .int v61]) (rest := [.int 0]) (h1 := h63) ok (m_J9_min_7cf53 e67 (Nat.le_refl _)) my_J9_min_7cf53 (w_1211) pd_J9_min_7cf53 (Nat.le_trans (by decide) hfr) rfl rfl rfl rfl dX10_priceBy_59 (fun e68 => ?_)
  obtain ⟨v69, e70, hq⟩ := bnd_some hq
  refine wp_callSI (As := [.int 0, .int v66]) (rest := []) (h1 := h63) ok (m_J9_max_7cf53 e70 (Nat.le_refl _)) my_J9_max_7cf53 (w_1316) pd_J9_max_7cf53 (Nat.le_trans (by decide) hfr) rfl rfl rfl rfl dX10_priceBy_62 (fun e71 => ?_)
  exact wp_iret ok hF rfl e65 (re2I hq) dX10_priceBy_65
set_option maxHeartbeats 4000000 in
set_option maxRecDepth 100000 in
theorem m_X10_priceOf {l : Launch} {h : HP} {N : Nat} {x0 : Nat} {x1 : Nat} {x2 : Int32} {rr : Int32} {rh : HP} {fr : Nat} (hq : f_X10_priceOf N h x0 x1 x2 = some (rr, rh)) (hfr : 4 ≤ fr) : Mt l yX10_priceOf cX10_priceOf 3 (some (.int)) fr [.ref x0, .ref x1, .int x2] h (QI rr rh) := by
  obtain ⟨rp, ep⟩ : ∃ rp : (Int32 × HP), rp = (rr, rh) := ⟨_, rfl⟩
  have e1p : rr = rp.1 := (congrArg Prod.fst ep).symm
  have e2p : rh = rp.2 := (congrArg Prod.snd ep).symm
  rw [← ep] at hq
  rw [e1p, e2p]
  clear e1p e2p ep
  refine Mt.of (by decide +kernel) (Nat.le_of_ble_eq_true rfl) (fun x hl ok hF => ?_)
  subst hl
  show wp x 0 [(0, .ref x0), (1, .ref x1), (2, .int x2)] [] h
  unfold f_X10_priceOf at hq
  obtain ⟨h0, eh0⟩ : ∃ h0 : HP, h = h0 := ⟨h, rfl⟩
  have e : h.1 = h0.1 := by rw [eh0]
  rw [eh0] at hF
  obtain ⟨g_x0, hq⟩ := gP_some hq
  obtain ⟨n_x0, f_x0⟩ := kO_some g_x0
  replace f_x0 := sh_of e.symm f_x0
  obtain ⟨g_x1, hq⟩ := gP_some hq
  obtain ⟨n_x1, f_x1⟩ := kO_some g_x1
  replace f_x1 := sh_of e.symm f_x1
  refine wp_aload_n (v := x0) ok dX10_priceOf_0 rfl ?_
  refine wp_iload_n (v := x2) ok dX10_priceOf_1 rfl ?_
  refine wp_aload_n (v := x1) ok dX10_priceOf_2 rfl ?_
  refine wp_iconst (v := 0) ok dX10_priceOf_3 (by decide) ?_
  refine wp_iload_n (v := x2) ok dX10_priceOf_4 rfl ?_
  obtain ⟨v1, e2, hq⟩ := bnd_some hq
  refine wp_callSI (As := [.int 0, .int x2]) (rest := [.ref x1, .int x2, .ref x0]) (h1 := h) ok (m_X10_at e2 (Nat.le_refl _)) my_X10_at (w_1301) pd_X10_at (Nat.le_trans (by decide) hfr) rfl rfl rfl rfl dX10_priceOf_5 (fun e3 => ?_)
  obtain ⟨g4, hq⟩ := gP_some hq
  refine wp_iald ok (sh_of e f_x1) (ix_of (sh_of e f_x1) g4) dX10_priceOf_8 ?_
  refine wp_aload_n (v := x1) ok dX10_priceOf_9 rfl ?_
  refine wp_iconst (v := 1) ok dX10_priceOf_10 (by decide) ?_
  refine wp_iload_n (v := x2) ok dX10_priceOf_11 rfl ?_
  obtain ⟨v5, e6, hq⟩ := bnd_some hq
  refine wp_callSI (As := [.int 1, .int x2]) (rest := [.ref x1, .int (h.2.1 x1 v1.toNatClampNeg), .int x2, .ref x0]) (h1 := h) ok (m_X10_at e6 (Nat.le_refl _)) my_X10_at (w_1301) pd_X10_at (Nat.le_trans (by decide) hfr) rfl rfl rfl rfl dX10_priceOf_12 (fun e7 => ?_)
  obtain ⟨g8, hq⟩ := gP_some hq
  refine wp_iald ok (sh_of e f_x1) (ix_of (sh_of e f_x1) g8) dX10_priceOf_15 ?_
  refine wp_aload_n (v := x1) ok dX10_priceOf_16 rfl ?_
  refine wp_bipush (v := 25) ok dX10_priceOf_17 (by decide) ?_
  obtain ⟨g9, hq⟩ := gP_some hq
  refine wp_iald ok (sh_of e f_x1) (ix_of (sh_of e f_x1) g9) dX10_priceOf_19 ?_
  refine wp_aload_n (v := x1) ok dX10_priceOf_20 rfl ?_
  refine wp_bipush (v := 12) ok dX10_priceOf_21 (by decide) ?_
  refine wp_iconst (v := 0) ok dX10_priceOf_23 (by decide) ?_
  refine wp_iload_n (v := x2) ok dX10_priceOf_24 rfl ?_
  obtain ⟨v10, e11, hq⟩ := bnd_some hq
  refine wp_callSI (As := [.int 0, .int x2]) (rest := [.int 12, .ref x1, .int (h.2.1 x1 (25 : Int32).toNatClampNeg), .int (h.2.1 x1 v5.toNatClampNeg), .int (h.2.1 x1 v1.toNatClampNeg), .int x2, .ref x0]) (h1 := h) ok (m_X10_at e11 (Nat.le_refl _)) my_X10_at (w_1301) pd_X10_at (Nat.le_trans (by decide) hfr) rfl rfl rfl rfl dX10_priceOf_25 (fun e12 => ?_)
  refine wp_iadd ok dX10_priceOf_28 ?_
  obtain ⟨g13, hq⟩ := gP_some hq
  refine wp_iald ok (sh_of e f_x1) (ix_of (sh_of e f_x1) g13) dX10_priceOf_29 ?_
  refine wp_aload_n (v := x1) ok dX10_priceOf_30 rfl ?_
  refine wp_bipush (v := 12) ok dX10_priceOf_31 (by decide) ?_
  refine wp_iconst (v := 1) ok dX10_priceOf_33 (by decide) ?_
  refine wp_iload_n (v := x2) ok dX10_priceOf_34 rfl ?_
  obtain ⟨v14, e15, hq⟩ := bnd_some hq
  refine wp_callSI (As := [.int 1, .int x2]) (rest := [.int 12, .ref x1, .int (h.2.1 x1 (12 + v10).toNatClampNeg), .int (h.2.1 x1 (25 : Int32).toNatClampNeg), .int (h.2.1 x1 v5.toNatClampNeg), .int (h.2.1 x1 v1.toNatClampNeg), .int x2, .ref x0]) (h1 := h) ok (m_X10_at e15 (Nat.le_refl _)) my_X10_at (w_1301) pd_X10_at (Nat.le_trans (by decide) hfr) rfl rfl rfl rfl dX10_priceOf_35 (fun e16 => ?_)
  refine wp_iadd ok dX10_priceOf_38 ?_
  obtain ⟨g17, hq⟩ := gP_some hq
  refine wp_iald ok (sh_of e f_x1) (ix_of (sh_of e f_x1) g17) dX10_priceOf_39 ?_
  refine wp_iadd ok dX10_priceOf_40 ?_
  obtain ⟨v18, h20, e19, hq⟩ := bnd2_some hq
  refine wp_callVI (As := [.int x2, .int (h.2.1 x1 v1.toNatClampNeg), .int (h.2.1 x1 v5.toNatClampNeg), .int (h.2.1 x1 (25 : Int32).toNatClampNeg), .int ((h.2.1 x1 (12 + v10).toNatClampNeg) + (h.2.1 x1 (12 + v14).toNatClampNeg))]) (rest := []) (h1 := h20) ok (m_X10_priceBy e19 (Nat.le_refl _)) my_X10_priceBy (w_1304) pd_X10_priceBy (Nat.le_trans (by decide) hfr) rfl (ci := 10) rfl (by decide) (sh_of e f_x0) rfl rfl rfl dX10_priceOf_41 (fun e21 => ?_)
  have e22 : h20.1 = h0.1 := (e21).trans e
  exact wp_iret ok hF rfl e22 (re2I hq) dX10_priceOf_44
set_option maxHeartbeats 4000000 in
set_option maxRecDepth 100000 in
theorem m_X10_market {l : Launch} {h : HP} {N : Nat} {x0 : Nat} {x1 : Int32} {x2 : Int32} {rr : Int32} {rh : HP} {fr : Nat} (hq : f_X10_market N h x0 x1 x2 = some (rr, rh)) (hfr : 5 ≤ fr) : Mt l yX10_market cX10_market 3 (some (.int)) fr [.ref x0, .int x1, .int x2] h (QI rr rh) := by
  obtain ⟨rp, ep⟩ : ∃ rp : (Int32 × HP), rp = (rr, rh) := ⟨_, rfl⟩
  have e1p : rr = rp.1 := (congrArg Prod.fst ep).symm
  have e2p : rh = rp.2 := (congrArg Prod.snd ep).symm
  rw [← ep] at hq
  rw [e1p, e2p]
  clear e1p e2p ep
  refine Mt.of (by decide +kernel) (Nat.le_of_ble_eq_true rfl) (fun x hl ok hF => ?_)
  subst hl
  show wp x 0 [(0, .ref x0), (1, .int x1), (2, .int x2)] [] h
  unfold f_X10_market at hq
  obtain ⟨h0, eh0⟩ : ∃ h0 : HP, h = h0 := ⟨h, rfl⟩
  have e : h.1 = h0.1 := by rw [eh0]
  rw [eh0] at hF
  obtain ⟨g_x0, hq⟩ := gP_some hq
  obtain ⟨n_x0, f_x0⟩ := kO_some g_x0
  replace f_x0 := sh_of e.symm f_x0
  refine wp_aload_n (v := x0) ok dX10_market_0 rfl ?_
  refine wp_iconst (v := 0) ok dX10_market_1 (by decide) ?_
  refine wp_putI ok flw_RX10_3 (nr_10_0 _) (sh_of e f_x0) dX10_market_2 ?_
  obtain ⟨h1, e2, hq⟩ := lt_some hq
  refine wp_nmH e2 ?_
  have e3 : h1.1 = h0.1 := (congrArg Prod.fst e2).trans e
  refine wp_aload_n (v := x0) ok dX10_market_5 rfl ?_
  refine wp_iload_n (v := x1) ok dX10_market_6 rfl ?_
  obtain ⟨v4, e5, hq⟩ := bnd_some hq
  refine wp_callVI (As := [.int x1]) (rest := []) (h1 := h1) ok (m_X10_isMarket e5 (Nat.le_refl _)) my_X10_isMarket (w_1288) pd_X10_isMarket (Nat.le_trans (by decide) hfr) rfl (ci := 10) rfl (by decide) (sh_of e3 f_x0) rfl rfl rfl dX10_market_7 (fun e6 => ?_)
  obtain ⟨k7, ek7, hq⟩ := jn0_some hq
  have kk7 : k7 = some rp → wp x 25 [(0, .ref x0)] [] h1 := by
    intro hq
    rw [ek7] at hq
    refine wp_aload_n (v := x0) ok dX10_market_25 rfl ?_
    obtain ⟨v8, h10, e9, hq⟩ := bnd2_some hq
    refine wp_callVI (As := []) (rest := []) (h1 := h10) ok (m_X10_refuse e9 (Nat.le_refl _)) my_X10_refuse (w_1293) pd_X10_refuse (Nat.le_trans (by decide) hfr) rfl (ci := 10) rfl (by decide) (sh_of e3 f_x0) rfl rfl rfl dX10_market_26 (fun e11 => ?_)
    have e12 : h10.1 = h0.1 := (e11).trans e3
    exact wp_iret ok hF rfl e12 (re2I hq) dX10_market_29
  refine wp_if_eq (tgt := 25) ok dX10_market_10 (by decide) (fun c13 => ?_) (fun c13 => ?_)
  · have hq := ite_t c13 hq
    refine wp_sub (L' := [(0, .ref x0)]) [0] rfl ?_
    exact kk7 hq
  · have hq := ite_f c13 hq
    refine wp_iload_n (v := x2) ok dX10_market_13 rfl ?_
    refine wp_i2l ok dX10_market_14 ?_
    refine wp_lconst (v := 0) ok dX10_market_15 (by decide) ?_
    refine wp_ldc2 (v := 5) ok (w_1292) dX10_market_16 ?_
    obtain ⟨v14, e15, hq⟩ := bnd_some hq
    refine wp_callSI (As := [.long (x2.toInt64), .long 0, .long 5]) (rest := []) (h1 := h1) ok (m_X10_in e15 (Nat.le_refl _)) my_X10_in (w_1200) pd_X10_in (Nat.le_trans (by decide) hfr) rfl rfl rfl rfl dX10_market_19 (fun e16 => ?_)
    refine wp_if_ne (tgt := 30) ok dX10_market_22 (by decide) (fun c17 => ?_) (fun c17 => ?_)
    · have hq := ite_f c17 hq
      refine wp_iload_n (v := x2) ok dX10_market_30 rfl ?_
      refine wp_if_ne (tgt := 43) ok dX10_market_31 (by decide) (fun c18 => ?_) (fun c18 => ?_)
      · have hq := ite_f c18 hq
        refine wp_iload_n (v := x2) ok dX10_market_43 rfl ?_
        refine wp_iconst (v := 5) ok dX10_market_44 (by decide) ?_
        refine wp_icmp_ne (tgt := 60) ok dX10_market_45 (by decide) (fun c19 => ?_) (fun c19 => ?_)
        · have hq := ite_f c19 hq
          refine wp_aload_n (v := x0) ok dX10_market_60 rfl ?_
          obtain ⟨t20, e21, hq⟩ := bnd_some hq
          obtain ⟨e22, n23, f24⟩ := rK_some e21
          replace f24 := sh_of (e3).symm f24
          refine wp_getR ok fl_RX10_41 (sh_of e3 f_x0) e22 dX10_market_61 ?_
          refine wp_bipush (v := 6) ok dX10_market_64 (by decide) ?_
          refine wp_iload_n (v := x2) ok dX10_market_66 rfl ?_
          refine wp_iconst (v := 1) ok dX10_market_67 (by decide) ?_
          refine wp_isub ok dX10_market_68 ?_
          refine wp_imul ok dX10_market_69 ?_
          refine wp_iload_n (v := x1) ok dX10_market_70 rfl ?_
          refine wp_iadd ok dX10_market_71 ?_
          obtain ⟨g25, hq⟩ := gP_some hq
          refine wp_iald ok (sh_of e3 f24) (ix_of (sh_of e3 f24) g25) dX10_market_72 ?_
          exact wp_iret ok hF rfl e3 (re2I hq) dX10_market_73
        · have hq := ite_t c19 hq
          refine wp_aload_n (v := x0) ok dX10_market_48 rfl ?_
          refine wp_aload_n (v := x0) ok dX10_market_49 rfl ?_
          obtain ⟨t26, e27, hq⟩ := bnd_some hq
          obtain ⟨e28, n29, f30⟩ := rK_some e27
          replace f30 := sh_of (e3).symm f30
          refine wp_getR ok fl_RX10_41 (sh_of e3 f_x0) e28 dX10_market_50 ?_
          refine wp_iload_n (v := x1) ok dX10_market_53 rfl ?_
          obtain ⟨v31, h33, e32, hq⟩ := bnd2_some hq
          refine wp_callVI (As := [.ref t26, .int x1]) (rest := []) (h1 := h33) ok (m_X10_priceOf e32 (Nat.le_refl _)) my_X10_priceOf (w_1297) pd_X10_priceOf (Nat.le_trans (by decide) hfr) rfl (ci := 10) rfl (by decide) (sh_of e3 f_x0) rfl rfl rfl dX10_market_54 (fun e34 => ?_)
          have e35 : h33.1 = h0.1 := (e34).trans e3
          refine wp_goto (tgt := 73) ok dX10_market_57 (by decide) ?_
          exact wp_iret ok hF rfl e35 (re2I hq) dX10_market_73
      · have hq := ite_t c18 hq
        refine wp_aload_n (v := x0) ok dX10_market_34 rfl ?_
        obtain ⟨t36, e37, hq⟩ := bnd_some hq
        obtain ⟨e38, n39, f40⟩ := rK_some e37
        replace f40 := sh_of (e3).symm f40
        refine wp_getR ok fl_RX10_38 (sh_of e3 f_x0) e38 dX10_market_35 ?_
        refine wp_iload_n (v := x1) ok dX10_market_38 rfl ?_
        obtain ⟨g41, hq⟩ := gP_some hq
        refine wp_iald ok (sh_of e3 f40) (ix_of (sh_of e3 f40) g41) dX10_market_39 ?_
        refine wp_goto (tgt := 73) ok dX10_market_40 (by decide) ?_
        exact wp_iret ok hF rfl e3 (re2I hq) dX10_market_73
    · have hq := ite_t c17 hq
      refine wp_sub (L' := [(0, .ref x0)]) [0] rfl ?_
      exact kk7 hq
set_option maxHeartbeats 4000000 in
set_option maxRecDepth 100000 in
theorem m_X10_load {l : Launch} {h : HP} {x0 : Nat} {x1 : Int32} {x2 : Int32} {rr : Int32} {rh : HP} {fr : Nat} (hq : f_X10_load h x0 x1 x2 = some (rr, rh)) (hfr : 1 ≤ fr) : Mt l yX10_load cX10_load 3 (some (.int)) fr [.ref x0, .int x1, .int x2] h (QI rr rh) := by
  obtain ⟨rp, ep⟩ : ∃ rp : (Int32 × HP), rp = (rr, rh) := ⟨_, rfl⟩
  have e1p : rr = rp.1 := (congrArg Prod.fst ep).symm
  have e2p : rh = rp.2 := (congrArg Prod.snd ep).symm
  rw [← ep] at hq
  rw [e1p, e2p]
  clear e1p e2p ep
  refine Mt.of (by decide +kernel) (Nat.le_of_ble_eq_true rfl) (fun x hl ok hF => ?_)
  subst hl
  show wp x 0 [(0, .ref x0), (1, .int x1), (2, .int x2)] [] h
  unfold f_X10_load at hq
  obtain ⟨h0, eh0⟩ : ∃ h0 : HP, h = h0 := ⟨h, rfl⟩
  have e : h.1 = h0.1 := by rw [eh0]
  rw [eh0] at hF
  obtain ⟨g_x0, hq⟩ := gP_some hq
  obtain ⟨n_x0, f_x0⟩ := kO_some g_x0
  replace f_x0 := sh_of e.symm f_x0
  refine wp_aload_n (v := x0) ok dX10_load_0 rfl ?_
  refine wp_iconst (v := 0) ok dX10_load_1 (by decide) ?_
  refine wp_putI ok flw_RX10_3 (nr_10_0 _) (sh_of e f_x0) dX10_load_2 ?_
  obtain ⟨h1, e2, hq⟩ := lt_some hq
  refine wp_nmH e2 ?_
  have e3 : h1.1 = h0.1 := (congrArg Prod.fst e2).trans e
  refine wp_iload_n (v := x1) ok dX10_load_5 rfl ?_
  refine wp_i2l ok dX10_load_6 ?_
  refine wp_lconst (v := 0) ok dX10_load_7 (by decide) ?_
  refine wp_aload_n (v := x0) ok dX10_load_8 rfl ?_
  refine wp_getI ok fl_RX10_28 (sh_of e3 f_x0) dX10_load_9 ?_
  refine wp_iconst (v := 1) ok dX10_load_12 (by decide) ?_
  refine wp_isub ok dX10_load_13 ?_
  refine wp_i2l ok dX10_load_14 ?_
  obtain ⟨v4, e5, hq⟩ := bnd_some hq
  refine wp_callSI (As := [.long (x1.toInt64), .long 0, .long (((h1.2.1 x0 5) - 1).toInt64)]) (rest := []) (h1 := h1) ok (m_X10_in e5 (Nat.le_refl _)) my_X10_in (w_1200) pd_X10_in (Nat.le_trans (by decide) hfr) rfl rfl rfl rfl dX10_load_15 (fun e6 => ?_)
  obtain ⟨k7, ek7, hq⟩ := jn0_some hq
  have kk7 : k7 = some rp → wp x 31 [(0, .ref x0)] [] h1 := by
    intro hq
    rw [ek7] at hq
    refine wp_aload_n (v := x0) ok dX10_load_31 rfl ?_
    obtain ⟨v8, h10, e9, hq⟩ := bnd2_some hq
    refine wp_callVI (As := []) (rest := []) (h1 := h10) ok (m_X10_refuse e9 (Nat.le_refl _)) my_X10_refuse (w_1293) pd_X10_refuse (Nat.le_trans (by decide) hfr) rfl (ci := 10) rfl (by decide) (sh_of e3 f_x0) rfl rfl rfl dX10_load_32 (fun e11 => ?_)
    have e12 : h10.1 = h0.1 := (e11).trans e3
    exact wp_iret ok hF rfl e12 (re2I hq) dX10_load_35
  refine wp_if_eq (tgt := 31) ok dX10_load_18 (by decide) (fun c13 => ?_) (fun c13 => ?_)
  · have hq := ite_t c13 hq
    refine wp_sub (L' := [(0, .ref x0)]) [0] rfl ?_
    exact kk7 hq
  · have hq := ite_f c13 hq
    refine wp_iload_n (v := x2) ok dX10_load_21 rfl ?_
    refine wp_i2l ok dX10_load_22 ?_
    refine wp_lconst (v := 0) ok dX10_load_23 (by decide) ?_
    refine wp_lconst (v := 1) ok dX10_load_24 (by decide) ?_
    obtain ⟨v14, e15, hq⟩ := bnd_some hq
    refine wp_callSI (As := [.long (x2.toInt64), .long 0, .long 1]) (rest := []) (h1 := h1) ok (m_X10_in e15 (Nat.le_refl _)) my_X10_in (w_1200) pd_X10_in (Nat.le_trans (by decide) hfr) rfl rfl rfl rfl dX10_load_25 (fun e16 => ?_)
    refine wp_if_ne (tgt := 36) ok dX10_load_28 (by decide) (fun c17 => ?_) (fun c17 => ?_)
    · have hq := ite_f c17 hq
      refine wp_iload_n (v := x2) ok dX10_load_36 rfl ?_
      refine wp_if_ne (tgt := 49) ok dX10_load_37 (by decide) (fun c18 => ?_) (fun c18 => ?_)
      · have hq := ite_f c18 hq
        refine wp_aload_n (v := x0) ok dX10_load_49 rfl ?_
        obtain ⟨t19, e20, hq⟩ := bnd_some hq
        obtain ⟨e21, n22, f23⟩ := rK_some e20
        replace f23 := sh_of (e3).symm f23
        refine wp_getR ok fl_RX10_35 (sh_of e3 f_x0) e21 dX10_load_50 ?_
        refine wp_iload_n (v := x1) ok dX10_load_53 rfl ?_
        obtain ⟨g24, hq⟩ := gP_some hq
        refine wp_iald ok (sh_of e3 f23) (ix_of (sh_of e3 f23) g24) dX10_load_54 ?_
        exact wp_iret ok hF rfl e3 (re2I hq) dX10_load_55
      · have hq := ite_t c18 hq
        refine wp_aload_n (v := x0) ok dX10_load_40 rfl ?_
        obtain ⟨t25, e26, hq⟩ := bnd_some hq
        obtain ⟨e27, n28, f29⟩ := rK_some e26
        replace f29 := sh_of (e3).symm f29
        refine wp_getR ok fl_RX10_31 (sh_of e3 f_x0) e27 dX10_load_41 ?_
        refine wp_iload_n (v := x1) ok dX10_load_44 rfl ?_
        obtain ⟨g30, hq⟩ := gP_some hq
        refine wp_iald ok (sh_of e3 f29) (ix_of (sh_of e3 f29) g30) dX10_load_45 ?_
        refine wp_goto (tgt := 55) ok dX10_load_46 (by decide) ?_
        exact wp_iret ok hF rfl e3 (re2I hq) dX10_load_55
    · have hq := ite_t c17 hq
      refine wp_sub (L' := [(0, .ref x0)]) [0] rfl ?_
      exact kk7 hq
set_option maxHeartbeats 4000000 in
set_option maxRecDepth 100000 in
theorem s_X10_sheet_B46 {x : Cx} {h0 : HP} {N fr : Nat} {rr : (Int32 × HP)} (ok : Okx x cX10_sheet yX10_sheet.cls 9 fr) (hfr : 1 ≤ fr)  {x0 : Nat} {x1 : Int32} {x2 : Int32} {x4 : Int32} {n_x0 : Nat} (f_x0 : h0.1[x0]? = some (10, n_x0)) (hF : Fend x h0 (some (.int)) (QI rr.1 rr.2)) {k138 : Int32 → HP → Option (Int32 × HP)} (hk138 : ∀ (x5 : Int32) (h : HP), k138 x5 h = some rr → h.1 = h0.1 → wp x 138 [(5, .int x5), (1, .int x1)] [] h) {rc : Int32 → Int32 → Int32 → HP → Option (Int32 × HP)} (ih : ∀ (x5 : Int32) (x6 : Int32) (x7 : Int32) (h : HP), rc x5 x6 x7 h = some rr → h.1 = h0.1 → wp x 46 [(5, .int x5), (6, .int x6), (7, .int x7), (0, .ref x0), (1, .int x1), (2, .int x2), (4, .int x4)] [] h) : ∀ (x5 : Int32) (x6 : Int32) (x7 : Int32) (h : HP), f_X10_sheet_B46 N x0 x1 x2 x4 k138 rc x5 x6 x7 h = some rr → h.1 = h0.1 → wp x 46 [(5, .int x5), (6, .int x6), (7, .int x7), (0, .ref x0), (1, .int x1), (2, .int x2), (4, .int x4)] [] h := by
  intro x5 x6 x7 h hq e
  unfold f_X10_sheet_B46 at hq
  refine wp_iload (v := x7) ok dX10_sheet_46 rfl ?_
  refine wp_aload_n (v := x0) ok dX10_sheet_48 rfl ?_
  refine wp_getI ok fl_RX10_120 (sh_of e f_x0) dX10_sheet_49 ?_
  refine wp_icmp_ge (tgt := 138) ok dX10_sheet_52 (by decide) (fun c10 => ?_) (fun c10 => ?_)
  · have hq := ite_t c10 hq
    refine wp_sub (L' := [(5, .int x5), (1, .int x1)]) [0, 4] rfl ?_
    exact hk138 x5 h hq e
  · have hq := ite_f c10 hq
    refine wp_iload_n (v := x1) ok dX10_sheet_55 rfl ?_
    obtain ⟨k11, ek11, hq⟩ := jn1_some hq
    have kk11 : ∀ (y12 : Int32), k11 y12 = some rr → wp x 78 [(5, .int x5), (6, .int x6), (7, .int x7), (0, .ref x0), (1, .int x1), (2, .int x2), (4, .int x4)] [.int y12] h := by
      intro y12 hq
      have hq := (ek11 y12).symm.trans hq
      refine wp_istore (L' := [(8, .int y12), (5, .int x5), (6, .int x6), (7, .int x7), (0, .ref x0), (1, .int x1), (2, .int x2), (4, .int x4)]) ok dX10_sheet_78 rfl rfl ?_
      refine wp_aload_n (v := x0) ok dX10_sheet_80 rfl ?_
      obtain ⟨t13, e14, hq⟩ := bnd_some hq
      obtain ⟨e15, n16, f17⟩ := rK_some e14
      replace f17 := sh_of (e).symm f17
      refine wp_getR ok fl_RX10_38 (sh_of e f_x0) e15 dX10_sheet_81 ?_
      refine wp_iload (v := x7) ok dX10_sheet_84 rfl ?_
      refine wp_iload_n (v := x1) ok dX10_sheet_86 rfl ?_
      refine wp_iconst (v := 3) ok dX10_sheet_87 (by decide) ?_
      obtain ⟨k18, ek18, hq⟩ := jn1_some hq
      have kk18 : ∀ (y19 : Int32), k18 y19 = some rr → wp x 112 [(5, .int x5), (6, .int x6), (7, .int x7), (0, .ref x0), (1, .int x1), (2, .int x2), (4, .int x4)] [.int y19, .int x7, .ref t13] h := by
        intro y19 hq
        have hq := (ek18 y19).symm.trans hq
        obtain ⟨g20, hq⟩ := gP_some hq
        refine wp_iast ok (sh_of e f17) (ix_of (sh_of e f17) g20) dX10_sheet_112 ?_
        obtain ⟨h21, e22, hq⟩ := lt_some hq
        refine wp_nmH e22 ?_
        have e23 : h21.1 = h0.1 := (congrArg Prod.fst e22).trans e
        refine wp_iload (v := x5) ok dX10_sheet_113 rfl ?_
        refine wp_aload_n (v := x0) ok dX10_sheet_115 rfl ?_
        obtain ⟨t24, e25, hq⟩ := bnd_some hq
        obtain ⟨e26, n27, f28⟩ := rK_some e25
        replace f28 := sh_of (e23).symm f28
        refine wp_getR ok fl_RX10_38 (sh_of e23 f_x0) e26 dX10_sheet_116 ?_
        refine wp_iload (v := x7) ok dX10_sheet_119 rfl ?_
        obtain ⟨g29, hq⟩ := gP_some hq
        refine wp_iald ok (sh_of e23 f28) (ix_of (sh_of e23 f28) g29) dX10_sheet_121 ?_
        refine wp_iadd ok dX10_sheet_122 ?_
        obtain ⟨v30, e31, hq⟩ := lt_some hq
        refine wp_nmI e31 ?_
        refine wp_istore (L' := [(5, .int v30), (6, .int x6), (7, .int x7), (0, .ref x0), (1, .int x1), (2, .int x2), (4, .int x4)]) ok dX10_sheet_123 rfl rfl ?_
        refine wp_iload (v := x6) ok dX10_sheet_125 rfl ?_
        refine wp_iload (v := x4) ok dX10_sheet_127 rfl ?_
        refine wp_iadd ok dX10_sheet_129 ?_
        obtain ⟨v32, e33, hq⟩ := lt_some hq
        refine wp_nmI e33 ?_
        refine wp_istore (L' := [(6, .int v32), (5, .int v30), (7, .int x7), (0, .ref x0), (1, .int x1), (2, .int x2), (4, .int x4)]) ok dX10_sheet_130 rfl rfl ?_
        obtain ⟨v34, e35, hq⟩ := lt_some hq
        refine wp_iinc (v := x7) (w := 1) (L' := [(7, .int v34), (6, .int v32), (5, .int v30), (0, .ref x0), (1, .int x1), (2, .int x2), (4, .int x4)]) ok dX10_sheet_132 rfl (by decide) rfl (by rw [← e35]; rfl) ?_
        refine wp_goto (tgt := 46) ok dX10_sheet_135 (by decide) ?_
        refine wp_sub (L' := [(5, .int v30), (6, .int v32), (7, .int v34), (0, .ref x0), (1, .int x1), (2, .int x2), (4, .int x4)]) [2, 1, 0, 3, 4, 5, 6] rfl ?_
        exact ih v30 v32 v34 h21 hq e23
      obtain ⟨k36, ek36, hq⟩ := jn0_some hq
      have kk36 : k36 = some rr → wp x 97 [(5, .int x5), (6, .int x6), (7, .int x7), (0, .ref x0), (1, .int x1), (2, .int x2), (4, .int x4)] [.int x7, .ref t13] h := by
        intro hq
        rw [ek36] at hq
        refine wp_iconst (v := 1) ok dX10_sheet_97 (by decide) ?_
        refine wp_goto (tgt := 112) ok dX10_sheet_98 (by decide) ?_
        refine wp_sub (L' := [(5, .int x5), (6, .int x6), (7, .int x7), (0, .ref x0), (1, .int x1), (2, .int x2), (4, .int x4)]) [0, 1, 2, 3, 4, 5, 6] rfl ?_
        exact kk18 1 hq
      refine wp_icmp_eq (tgt := 97) ok dX10_sheet_88 (by decide) (fun c37 => ?_) (fun c37 => ?_)
      · have hq := ite_t c37 hq
        refine wp_sub (L' := [(5, .int x5), (6, .int x6), (7, .int x7), (0, .ref x0), (1, .int x1), (2, .int x2), (4, .int x4)]) [1, 2, 3, 4, 5, 6, 7] rfl ?_
        exact kk36 hq
      · have hq := ite_f c37 hq
        refine wp_iload (v := x7) ok dX10_sheet_91 rfl ?_
        refine wp_iload_n (v := x2) ok dX10_sheet_93 rfl ?_
        refine wp_icmp_lt (tgt := 101) ok dX10_sheet_94 (by decide) (fun c38 => ?_) (fun c38 => ?_)
        · have hq := ite_t c38 hq
          refine wp_iconst (v := 1) ok dX10_sheet_101 (by decide) ?_
          refine wp_bipush (v := 99) ok dX10_sheet_102 (by decide) ?_
          refine wp_iload (v := y12) ok dX10_sheet_104 rfl ?_
          obtain ⟨v39, e40, hq⟩ := bnd_some hq
          refine wp_callSI (As := [.int 99, .int y12]) (rest := [.int 1, .int x7, .ref t13]) (h1 := h) ok (m_J9_min_7cf53 e40 (Nat.le_refl _)) my_J9_min_7cf53 (w_1211) pd_J9_min_7cf53 (Nat.le_trans (by decide) hfr) rfl rfl rfl rfl dX10_sheet_106 (fun e41 => ?_)
          obtain ⟨v42, e43, hq⟩ := bnd_some hq
          refine wp_callSI (As := [.int 1, .int v39]) (rest := [.int x7, .ref t13]) (h1 := h) ok (m_J9_max_7cf53 e43 (Nat.le_refl _)) my_J9_max_7cf53 (w_1316) pd_J9_max_7cf53 (Nat.le_trans (by decide) hfr) rfl rfl rfl rfl dX10_sheet_109 (fun e44 => ?_)
          refine wp_sub (L' := [(5, .int x5), (6, .int x6), (7, .int x7), (0, .ref x0), (1, .int x1), (2, .int x2), (4, .int x4)]) [1, 2, 3, 4, 5, 6, 7] rfl ?_
          exact kk18 v42 hq
        · have hq := ite_f c38 hq
          refine wp_sub (L' := [(5, .int x5), (6, .int x6), (7, .int x7), (0, .ref x0), (1, .int x1), (2, .int x2), (4, .int x4)]) [1, 2, 3, 4, 5, 6, 7] rfl ?_
          exact kk36 hq
    refine wp_if_ne (tgt := 65) ok dX10_sheet_56 (by decide) (fun c45 => ?_) (fun c45 => ?_)
    · have hq := ite_f c45 hq
      refine wp_iload_n (v := x1) ok dX10_sheet_65 rfl ?_
      refine wp_iconst (v := 1) ok dX10_sheet_66 (by decide) ?_
      refine wp_icmp_ne (tgt := 76) ok dX10_sheet_67 (by decide) (fun c46 => ?_) (fun c46 => ?_)
      · have hq := ite_f c46 hq
        refine wp_iload (v := x6) ok dX10_sheet_76 rfl ?_
        refine wp_sub (L' := [(5, .int x5), (6, .int x6), (7, .int x7), (0, .ref x0), (1, .int x1), (2, .int x2), (4, .int x4)]) [0, 1, 2, 3, 4, 5, 6] rfl ?_
        exact kk11 x6 hq
      · have hq := ite_t c46 hq
        refine wp_iload (v := x6) ok dX10_sheet_70 rfl ?_
        refine wp_i2s ok dX10_sheet_72 ?_
        refine wp_goto (tgt := 78) ok dX10_sheet_73 (by decide) ?_
        refine wp_sub (L' := [(5, .int x5), (6, .int x6), (7, .int x7), (0, .ref x0), (1, .int x1), (2, .int x2), (4, .int x4)]) [0, 1, 2, 3, 4, 5, 6] rfl ?_
        exact kk11 (i2s x6) hq
    · have hq := ite_t c45 hq
      refine wp_iload (v := x6) ok dX10_sheet_59 rfl ?_
      refine wp_i2b ok dX10_sheet_61 ?_
      refine wp_goto (tgt := 78) ok dX10_sheet_62 (by decide) ?_
      refine wp_sub (L' := [(5, .int x5), (6, .int x6), (7, .int x7), (0, .ref x0), (1, .int x1), (2, .int x2), (4, .int x4)]) [0, 1, 2, 3, 4, 5, 6] rfl ?_
      exact kk11 (i2b x6) hq
set_option maxHeartbeats 4000000 in
set_option maxRecDepth 100000 in
theorem l_X10_sheet_B46 {x : Cx} {h0 : HP} {N fr : Nat} {rr : (Int32 × HP)} (ok : Okx x cX10_sheet yX10_sheet.cls 9 fr) (hfr : 1 ≤ fr)  {x0 : Nat} {x1 : Int32} {x2 : Int32} {x4 : Int32} {n_x0 : Nat} (f_x0 : h0.1[x0]? = some (10, n_x0)) (hF : Fend x h0 (some (.int)) (QI rr.1 rr.2)) {k138 : Int32 → HP → Option (Int32 × HP)} (hk138 : ∀ (x5 : Int32) (h : HP), k138 x5 h = some rr → h.1 = h0.1 → wp x 138 [(5, .int x5), (1, .int x1)] [] h) : ∀ (n : Nat) (x5 : Int32) (x6 : Int32) (x7 : Int32) (h : HP), lp (fun _ _ _ _ => none) (f_X10_sheet_B46 N x0 x1 x2 x4 k138) n x5 x6 x7 h = some rr → h.1 = h0.1 → wp x 46 [(5, .int x5), (6, .int x6), (7, .int x7), (0, .ref x0), (1, .int x1), (2, .int x2), (4, .int x4)] [] h := by
  intro n
  induction n with
  | zero => intro x5 x6 x7 h hq e; exact (Option.some_ne_none _ hq.symm).elim
  | succ n ih => exact s_X10_sheet_B46 ok hfr f_x0 hF hk138 ih
set_option maxHeartbeats 4000000 in
set_option maxRecDepth 100000 in
theorem m_X10_sheet {l : Launch} {h : HP} {N : Nat} {x0 : Nat} {x1 : Int32} {x2 : Int32} {x3 : Int32} {x4 : Int32} {rr : Int32} {rh : HP} {fr : Nat} (hq : f_X10_sheet N h x0 x1 x2 x3 x4 = some (rr, rh)) (hfr : 1 ≤ fr) : Mt l yX10_sheet cX10_sheet 9 (some (.int)) fr [.ref x0, .int x1, .int x2, .int x3, .int x4] h (QI rr rh) := by
  obtain ⟨rp, ep⟩ : ∃ rp : (Int32 × HP), rp = (rr, rh) := ⟨_, rfl⟩
  have e1p : rr = rp.1 := (congrArg Prod.fst ep).symm
  have e2p : rh = rp.2 := (congrArg Prod.snd ep).symm
  rw [← ep] at hq
  rw [e1p, e2p]
  clear e1p e2p ep
  refine Mt.of (by decide +kernel) (Nat.le_of_ble_eq_true rfl) (fun x hl ok hF => ?_)
  subst hl
  show wp x 0 [(0, .ref x0), (1, .int x1), (2, .int x2), (3, .int x3), (4, .int x4)] [] h
  unfold f_X10_sheet at hq
  obtain ⟨h0, eh0⟩ : ∃ h0 : HP, h = h0 := ⟨h, rfl⟩
  have e : h.1 = h0.1 := by rw [eh0]
  rw [eh0] at hF
  obtain ⟨g_x0, hq⟩ := gP_some hq
  obtain ⟨n_x0, f_x0⟩ := kO_some g_x0
  replace f_x0 := sh_of e.symm f_x0
  refine wp_aload_n (v := x0) ok dX10_sheet_0 rfl ?_
  refine wp_iconst (v := 0) ok dX10_sheet_1 (by decide) ?_
  refine wp_putI ok flw_RX10_3 (nr_10_0 _) (sh_of e f_x0) dX10_sheet_2 ?_
  obtain ⟨h1, e2, hq⟩ := lt_some hq
  refine wp_nmH e2 ?_
  have e3 : h1.1 = h0.1 := (congrArg Prod.fst e2).trans e
  refine wp_iload_n (v := x1) ok dX10_sheet_5 rfl ?_
  refine wp_i2l ok dX10_sheet_6 ?_
  refine wp_lconst (v := 0) ok dX10_sheet_7 (by decide) ?_
  refine wp_ldc2 (v := 3) ok (w_1325) dX10_sheet_8 ?_
  obtain ⟨v4, e5, hq⟩ := bnd_some hq
  refine wp_callSI (As := [.long (x1.toInt64), .long 0, .long 3]) (rest := []) (h1 := h1) ok (m_X10_in e5 (Nat.le_refl _)) my_X10_in (w_1200) pd_X10_in (Nat.le_trans (by decide) hfr) rfl rfl rfl rfl dX10_sheet_11 (fun e6 => ?_)
  refine wp_if_eq (tgt := 23) ok dX10_sheet_14 (by decide) (fun c7 => ?_) (fun c7 => ?_)
  · have hq := ite_t c7 hq
    refine wp_iconst (v := -1) ok dX10_sheet_23 (by decide) ?_
    exact wp_iret ok hF rfl e3 (re2I hq) dX10_sheet_24
  · have hq := ite_f c7 hq
    refine wp_iload_n (v := x2) ok dX10_sheet_17 rfl ?_
    refine wp_bipush (v := 6) ok dX10_sheet_18 (by decide) ?_
    refine wp_icmp_le (tgt := 25) ok dX10_sheet_20 (by decide) (fun c8 => ?_) (fun c8 => ?_)
    · have hq := ite_t c8 hq
      refine wp_iload_n (v := x1) ok dX10_sheet_25 rfl ?_
      refine wp_iconst (v := 3) ok dX10_sheet_26 (by decide) ?_
      obtain ⟨k9, ek9, hq⟩ := jn0_some hq
      have kk9 : k9 = some rp → wp x 37 [(0, .ref x0), (1, .int x1), (2, .int x2), (3, .int x3), (4, .int x4)] [] h1 := by
        intro hq
        rw [ek9] at hq
        refine wp_iconst (v := 0) ok dX10_sheet_37 (by decide) ?_
        refine wp_istore (L' := [(5, .int 0), (0, .ref x0), (1, .int x1), (2, .int x2), (3, .int x3), (4, .int x4)]) ok dX10_sheet_38 rfl rfl ?_
        refine wp_iload_n (v := x3) ok dX10_sheet_40 rfl ?_
        refine wp_istore (L' := [(6, .int x3), (5, .int 0), (0, .ref x0), (1, .int x1), (2, .int x2), (3, .int x3), (4, .int x4)]) ok dX10_sheet_41 rfl rfl ?_
        refine wp_iconst (v := 0) ok dX10_sheet_43 (by decide) ?_
        refine wp_istore (L' := [(7, .int 0), (6, .int x3), (5, .int 0), (0, .ref x0), (1, .int x1), (2, .int x2), (3, .int x3), (4, .int x4)]) ok dX10_sheet_44 rfl rfl ?_
        refine wp_sub (L' := [(5, .int 0), (6, .int x3), (7, .int 0), (0, .ref x0), (1, .int x1), (2, .int x2), (4, .int x4)]) [2, 1, 0, 3, 4, 5, 7] rfl ?_
        refine l_X10_sheet_B46 ok hfr f_x0 hF ?_ N 0 x3 0 h1 hq e3
        · intro x47 h48 hq e49
          refine wp_iload_n (v := x1) ok dX10_sheet_138 rfl ?_
          refine wp_iconst (v := 3) ok dX10_sheet_139 (by decide) ?_
          refine wp_icmp_ne (tgt := 148) ok dX10_sheet_140 (by decide) (fun c50 => ?_) (fun c50 => ?_)
          · have hq := ite_f c50 hq
            refine wp_iload (v := x47) ok dX10_sheet_148 rfl ?_
            exact wp_iret ok hF rfl e49 (re2I hq) dX10_sheet_150
          · have hq := ite_t c50 hq
            refine wp_bipush (v := -3) ok dX10_sheet_143 (by decide) ?_
            refine wp_goto (tgt := 150) ok dX10_sheet_145 (by decide) ?_
            exact wp_iret ok hF rfl e49 (re2I hq) dX10_sheet_150
      refine wp_icmp_eq (tgt := 37) ok dX10_sheet_27 (by decide) (fun c51 => ?_) (fun c51 => ?_)
      · have hq := ite_t c51 hq
        refine wp_sub (L' := [(0, .ref x0), (1, .int x1), (2, .int x2), (3, .int x3), (4, .int x4)]) [0, 1, 2, 3, 4] rfl ?_
        exact kk9 hq
      · have hq := ite_f c51 hq
        refine wp_iload_n (v := x2) ok dX10_sheet_30 rfl ?_
        refine wp_if_ge (tgt := 37) ok dX10_sheet_31 (by decide) (fun c52 => ?_) (fun c52 => ?_)
        · have hq := ite_t c52 hq
          refine wp_sub (L' := [(0, .ref x0), (1, .int x1), (2, .int x2), (3, .int x3), (4, .int x4)]) [0, 1, 2, 3, 4] rfl ?_
          exact kk9 hq
        · have hq := ite_f c52 hq
          refine wp_bipush (v := -2) ok dX10_sheet_34 (by decide) ?_
          exact wp_iret ok hF rfl e3 (re2I hq) dX10_sheet_36
    · have hq := ite_f c8 hq
      refine wp_iconst (v := -1) ok dX10_sheet_23 (by decide) ?_
      exact wp_iret ok hF rfl e3 (re2I hq) dX10_sheet_24
set_option maxHeartbeats 4000000 in
set_option maxRecDepth 100000 in
theorem s_X10_putsBy_B2 {x : Cx} {h0 : HP} {N fr : Nat} {rr : HP} (ok : Okx x cX10_putsBy yX10_putsBy.cls 2 fr) (hfr : 0 ≤ fr)  {x0 : Nat} {n_x0 : Nat} (f_x0 : h0.1[x0]? = some (10, n_x0)) (hF : Fend x h0 none (QV rr)) {rc : Int32 → HP → Option HP} (ih : ∀ (x1 : Int32) (h : HP), rc x1 h = some rr → h.1 = h0.1 → wp x 2 [(1, .int x1), (0, .ref x0)] [] h) : ∀ (x1 : Int32) (h : HP), f_X10_putsBy_B2 N x0 rc x1 h = some rr → h.1 = h0.1 → wp x 2 [(1, .int x1), (0, .ref x0)] [] h := by
  intro x1 h hq e
  unfold f_X10_putsBy_B2 at hq
  refine wp_iload_n (v := x1) ok dX10_putsBy_2 rfl ?_
  refine wp_bipush (v := 28) ok dX10_putsBy_3 (by decide) ?_
  refine wp_icmp_ge (tgt := 34) ok dX10_putsBy_5 (by decide) (fun c1 => ?_) (fun c1 => ?_)
  · have hq := ite_t c1 hq
    exact wp_vret ok hF e (reV hq) dX10_putsBy_34
  · have hq := ite_f c1 hq
    refine wp_aload_n (v := x0) ok dX10_putsBy_8 rfl ?_
    obtain ⟨t2, e3, hq⟩ := bnd_some hq
    obtain ⟨e4, n5, f6⟩ := rK_some e3
    replace f6 := sh_of (e).symm f6
    refine wp_getR ok fl_RX10_68 (sh_of e f_x0) e4 dX10_putsBy_9 ?_
    refine wp_bipush (v := 28) ok dX10_putsBy_12 (by decide) ?_
    refine wp_aload_n (v := x0) ok dX10_putsBy_14 rfl ?_
    refine wp_getI ok fl_RX10_191 (sh_of e f_x0) dX10_putsBy_15 ?_
    refine wp_imul ok dX10_putsBy_18 ?_
    refine wp_iload_n (v := x1) ok dX10_putsBy_19 rfl ?_
    refine wp_iadd ok dX10_putsBy_20 ?_
    refine wp_aload_n (v := x0) ok dX10_putsBy_21 rfl ?_
    obtain ⟨t7, e8, hq⟩ := bnd_some hq
    obtain ⟨e9, n10, f11⟩ := rK_some e8
    replace f11 := sh_of (e).symm f11
    refine wp_getR ok fl_RX10_41 (sh_of e f_x0) e9 dX10_putsBy_22 ?_
    refine wp_iload_n (v := x1) ok dX10_putsBy_25 rfl ?_
    obtain ⟨g12, hq⟩ := gP_some hq
    refine wp_iald ok (sh_of e f11) (ix_of (sh_of e f11) g12) dX10_putsBy_26 ?_
    obtain ⟨g13, hq⟩ := gP_some hq
    refine wp_iast ok (sh_of e f6) (ix_of (sh_of e f6) g13) dX10_putsBy_27 ?_
    obtain ⟨h14, e15, hq⟩ := lt_some hq
    refine wp_nmH e15 ?_
    have e16 : h14.1 = h0.1 := (congrArg Prod.fst e15).trans e
    obtain ⟨v17, e18, hq⟩ := lt_some hq
    refine wp_iinc (v := x1) (w := 1) (L' := [(1, .int v17), (0, .ref x0)]) ok dX10_putsBy_28 rfl (by decide) rfl (by rw [← e18]; rfl) ?_
    refine wp_goto (tgt := 2) ok dX10_putsBy_31 (by decide) ?_
    refine wp_sub (L' := [(1, .int v17), (0, .ref x0)]) [0, 1] rfl ?_
    exact ih v17 h14 hq e16
set_option maxHeartbeats 4000000 in
set_option maxRecDepth 100000 in
theorem l_X10_putsBy_B2 {x : Cx} {h0 : HP} {N fr : Nat} {rr : HP} (ok : Okx x cX10_putsBy yX10_putsBy.cls 2 fr) (hfr : 0 ≤ fr)  {x0 : Nat} {n_x0 : Nat} (f_x0 : h0.1[x0]? = some (10, n_x0)) (hF : Fend x h0 none (QV rr)) : ∀ (n : Nat) (x1 : Int32) (h : HP), lp (fun _ _ => none) (f_X10_putsBy_B2 N x0) n x1 h = some rr → h.1 = h0.1 → wp x 2 [(1, .int x1), (0, .ref x0)] [] h := by
  intro n
  induction n with
  | zero => intro x1 h hq e; exact (Option.some_ne_none _ hq.symm).elim
  | succ n ih => exact s_X10_putsBy_B2 ok hfr f_x0 hF  ih
set_option maxHeartbeats 4000000 in
set_option maxRecDepth 100000 in
theorem m_X10_putsBy {l : Launch} {h : HP} {N : Nat} {x0 : Nat} {rr : HP} {fr : Nat} (hq : f_X10_putsBy N h x0 = some rr) (hfr : 0 ≤ fr) : Mt l yX10_putsBy cX10_putsBy 2 none fr [.ref x0] h (QV rr) := by
  refine Mt.of (by decide +kernel) (Nat.le_of_ble_eq_true rfl) (fun x hl ok hF => ?_)
  subst hl
  show wp x 0 [(0, .ref x0)] [] h
  unfold f_X10_putsBy at hq
  obtain ⟨h0, eh0⟩ : ∃ h0 : HP, h = h0 := ⟨h, rfl⟩
  have e : h.1 = h0.1 := by rw [eh0]
  rw [eh0] at hF
  obtain ⟨g_x0, hq⟩ := gP_some hq
  obtain ⟨n_x0, f_x0⟩ := kO_some g_x0
  replace f_x0 := sh_of e.symm f_x0
  refine wp_iconst (v := 0) ok dX10_putsBy_0 (by decide) ?_
  refine wp_istore_n (L' := [(1, .int 0), (0, .ref x0)]) ok dX10_putsBy_1 rfl rfl ?_
  refine wp_sub (L' := [(1, .int 0), (0, .ref x0)]) [0, 1] rfl ?_
  refine l_X10_putsBy_B2 ok hfr f_x0 hF  N 0 h hq e
set_option maxHeartbeats 4000000 in
set_option maxRecDepth 100000 in
theorem s_X10_adds_B21 {x : Cx} {h0 : HP} {N fr : Nat} {rr : (Int32 × HP)} (ok : Okx x cX10_adds yX10_adds.cls 3 fr) (hfr : 0 ≤ fr)  {x0 : Nat} {x1 : Int32} {n_x0 : Nat} (f_x0 : h0.1[x0]? = some (10, n_x0)) (hF : Fend x h0 (some (.int)) (QI rr.1 rr.2)) {k49 : HP → Option (Int32 × HP)} (hk49 : ∀ (h : HP), k49 h = some rr → h.1 = h0.1 → wp x 49 [(0, .ref x0), (1, .int x1)] [] h) {rc : Int32 → HP → Option (Int32 × HP)} (ih : ∀ (x2 : Int32) (h : HP), rc x2 h = some rr → h.1 = h0.1 → wp x 21 [(2, .int x2), (0, .ref x0), (1, .int x1)] [] h) : ∀ (x2 : Int32) (h : HP), f_X10_adds_B21 N x0 x1 k49 rc x2 h = some rr → h.1 = h0.1 → wp x 21 [(2, .int x2), (0, .ref x0), (1, .int x1)] [] h := by
  intro x2 h hq e
  unfold f_X10_adds_B21 at hq
  refine wp_iload_n (v := x2) ok dX10_adds_21 rfl ?_
  refine wp_sipush (v := 420) ok dX10_adds_22 (by decide) ?_
  refine wp_icmp_ge (tgt := 49) ok dX10_adds_25 (by decide) (fun c5 => ?_) (fun c5 => ?_)
  · have hq := ite_t c5 hq
    refine wp_sub (L' := [(0, .ref x0), (1, .int x1)]) [1, 2] rfl ?_
    exact hk49 h hq e
  · have hq := ite_f c5 hq
    refine wp_aload_n (v := x0) ok dX10_adds_28 rfl ?_
    obtain ⟨t6, e7, hq⟩ := bnd_some hq
    obtain ⟨e8, n9, f10⟩ := rK_some e7
    replace f10 := sh_of (e).symm f10
    refine wp_getR ok fl_RX10_68 (sh_of e f_x0) e8 dX10_adds_29 ?_
    refine wp_iload_n (v := x2) ok dX10_adds_32 rfl ?_
    refine wp_aload_n (v := x0) ok dX10_adds_33 rfl ?_
    obtain ⟨t11, e12, hq⟩ := bnd_some hq
    obtain ⟨e13, n14, f15⟩ := rK_some e12
    replace f15 := sh_of (e).symm f15
    refine wp_getR ok fl_RX10_68 (sh_of e f_x0) e13 dX10_adds_34 ?_
    refine wp_iload_n (v := x2) ok dX10_adds_37 rfl ?_
    refine wp_bipush (v := 28) ok dX10_adds_38 (by decide) ?_
    refine wp_iadd ok dX10_adds_40 ?_
    obtain ⟨g16, hq⟩ := gP_some hq
    refine wp_iald ok (sh_of e f15) (ix_of (sh_of e f15) g16) dX10_adds_41 ?_
    obtain ⟨g17, hq⟩ := gP_some hq
    refine wp_iast ok (sh_of e f10) (ix_of (sh_of e f10) g17) dX10_adds_42 ?_
    obtain ⟨h18, e19, hq⟩ := lt_some hq
    refine wp_nmH e19 ?_
    have e20 : h18.1 = h0.1 := (congrArg Prod.fst e19).trans e
    obtain ⟨v21, e22, hq⟩ := lt_some hq
    refine wp_iinc (v := x2) (w := 1) (L' := [(2, .int v21), (0, .ref x0), (1, .int x1)]) ok dX10_adds_43 rfl (by decide) rfl (by rw [← e22]; rfl) ?_
    refine wp_goto (tgt := 21) ok dX10_adds_46 (by decide) ?_
    refine wp_sub (L' := [(2, .int v21), (0, .ref x0), (1, .int x1)]) [0, 1, 2] rfl ?_
    exact ih v21 h18 hq e20
set_option maxHeartbeats 4000000 in
set_option maxRecDepth 100000 in
theorem l_X10_adds_B21 {x : Cx} {h0 : HP} {N fr : Nat} {rr : (Int32 × HP)} (ok : Okx x cX10_adds yX10_adds.cls 3 fr) (hfr : 0 ≤ fr)  {x0 : Nat} {x1 : Int32} {n_x0 : Nat} (f_x0 : h0.1[x0]? = some (10, n_x0)) (hF : Fend x h0 (some (.int)) (QI rr.1 rr.2)) {k49 : HP → Option (Int32 × HP)} (hk49 : ∀ (h : HP), k49 h = some rr → h.1 = h0.1 → wp x 49 [(0, .ref x0), (1, .int x1)] [] h) : ∀ (n : Nat) (x2 : Int32) (h : HP), lp (fun _ _ => none) (f_X10_adds_B21 N x0 x1 k49) n x2 h = some rr → h.1 = h0.1 → wp x 21 [(2, .int x2), (0, .ref x0), (1, .int x1)] [] h := by
  intro n
  induction n with
  | zero => intro x2 h hq e; exact (Option.some_ne_none _ hq.symm).elim
  | succ n ih => exact s_X10_adds_B21 ok hfr f_x0 hF hk49 ih
set_option maxHeartbeats 4000000 in
set_option maxRecDepth 100000 in
theorem m_X10_adds {l : Launch} {h : HP} {N : Nat} {x0 : Nat} {x1 : Int32} {rr : Int32} {rh : HP} {fr : Nat} (hq : f_X10_adds N h x0 x1 = some (rr, rh)) (hfr : 0 ≤ fr) : Mt l yX10_adds cX10_adds 3 (some (.int)) fr [.ref x0, .int x1] h (QI rr rh) := by
  obtain ⟨rp, ep⟩ : ∃ rp : (Int32 × HP), rp = (rr, rh) := ⟨_, rfl⟩
  have e1p : rr = rp.1 := (congrArg Prod.fst ep).symm
  have e2p : rh = rp.2 := (congrArg Prod.snd ep).symm
  rw [← ep] at hq
  rw [e1p, e2p]
  clear e1p e2p ep
  refine Mt.of (by decide +kernel) (Nat.le_of_ble_eq_true rfl) (fun x hl ok hF => ?_)
  subst hl
  show wp x 0 [(0, .ref x0), (1, .int x1)] [] h
  unfold f_X10_adds at hq
  obtain ⟨h0, eh0⟩ : ∃ h0 : HP, h = h0 := ⟨h, rfl⟩
  have e : h.1 = h0.1 := by rw [eh0]
  rw [eh0] at hF
  obtain ⟨g_x0, hq⟩ := gP_some hq
  obtain ⟨n_x0, f_x0⟩ := kO_some g_x0
  replace f_x0 := sh_of e.symm f_x0
  refine wp_aload_n (v := x0) ok dX10_adds_0 rfl ?_
  refine wp_dup ok dX10_adds_1 rfl ?_
  refine wp_getI ok fl_RX10_191 (sh_of e f_x0) dX10_adds_2 ?_
  refine wp_iconst (v := 1) ok dX10_adds_5 (by decide) ?_
  refine wp_iadd ok dX10_adds_6 ?_
  refine wp_putI ok flw_RX10_191 (nr_10_25 _) (sh_of e f_x0) dX10_adds_7 ?_
  obtain ⟨h1, e2, hq⟩ := lt_some hq
  refine wp_nmH e2 ?_
  have e3 : h1.1 = h0.1 := (congrArg Prod.fst e2).trans e
  refine wp_aload_n (v := x0) ok dX10_adds_10 rfl ?_
  refine wp_getI ok fl_RX10_191 (sh_of e3 f_x0) dX10_adds_11 ?_
  refine wp_bipush (v := 15) ok dX10_adds_14 (by decide) ?_
  refine wp_icmp_le (tgt := 59) ok dX10_adds_16 (by decide) (fun c4 => ?_) (fun c4 => ?_)
  · have hq := ite_t c4 hq
    refine wp_iload_n (v := x1) ok dX10_adds_59 rfl ?_
    exact wp_iret ok hF rfl e3 (re2I hq) dX10_adds_60
  · have hq := ite_f c4 hq
    refine wp_iconst (v := 0) ok dX10_adds_19 (by decide) ?_
    refine wp_istore_n (L' := [(2, .int 0), (0, .ref x0), (1, .int x1)]) ok dX10_adds_20 rfl rfl ?_
    refine wp_sub (L' := [(2, .int 0), (0, .ref x0), (1, .int x1)]) [0, 1, 2] rfl ?_
    refine l_X10_adds_B21 ok hfr f_x0 hF ?_ N 0 h1 hq e3
    · intro h23 hq e24
      refine wp_aload_n (v := x0) ok dX10_adds_49 rfl ?_
      refine wp_dup ok dX10_adds_50 rfl ?_
      refine wp_getI ok fl_RX10_191 (sh_of e24 f_x0) dX10_adds_51 ?_
      refine wp_iconst (v := 1) ok dX10_adds_54 (by decide) ?_
      refine wp_isub ok dX10_adds_55 ?_
      refine wp_putI ok flw_RX10_191 (nr_10_25 _) (sh_of e24 f_x0) dX10_adds_56 ?_
      obtain ⟨h25, e26, hq⟩ := lt_some hq
      refine wp_nmH e26 ?_
      have e27 : h25.1 = h0.1 := (congrArg Prod.fst e26).trans e24
      refine wp_iload_n (v := x1) ok dX10_adds_59 rfl ?_
      exact wp_iret ok hF rfl e27 (re2I hq) dX10_adds_60
set_option maxHeartbeats 4000000 in
set_option maxRecDepth 100000 in
theorem m_X10_counted {l : Launch} {h : HP} {N : Nat} {x0 : Nat} {x1 : Int32} {rr : Int32} {rh : HP} {fr : Nat} (hq : f_X10_counted N h x0 x1 = some (rr, rh)) (hfr : 1 ≤ fr) : Mt l yX10_counted cX10_counted 2 (some (.int)) fr [.ref x0, .int x1] h (QI rr rh) := by
  obtain ⟨rp, ep⟩ : ∃ rp : (Int32 × HP), rp = (rr, rh) := ⟨_, rfl⟩
  have e1p : rr = rp.1 := (congrArg Prod.fst ep).symm
  have e2p : rh = rp.2 := (congrArg Prod.snd ep).symm
  rw [← ep] at hq
  rw [e1p, e2p]
  clear e1p e2p ep
  refine Mt.of (by decide +kernel) (Nat.le_of_ble_eq_true rfl) (fun x hl ok hF => ?_)
  subst hl
  show wp x 0 [(0, .ref x0), (1, .int x1)] [] h
  unfold f_X10_counted at hq
  obtain ⟨h0, eh0⟩ : ∃ h0 : HP, h = h0 := ⟨h, rfl⟩
  have e : h.1 = h0.1 := by rw [eh0]
  rw [eh0] at hF
  obtain ⟨g_x0, hq⟩ := gP_some hq
  obtain ⟨n_x0, f_x0⟩ := kO_some g_x0
  replace f_x0 := sh_of e.symm f_x0
  refine wp_iload_n (v := x1) ok dX10_counted_0 rfl ?_
  refine wp_if_ge (tgt := 8) ok dX10_counted_1 (by decide) (fun c1 => ?_) (fun c1 => ?_)
  · have hq := ite_t c1 hq
    refine wp_aload_n (v := x0) ok dX10_counted_8 rfl ?_
    refine wp_iload_n (v := x1) ok dX10_counted_9 rfl ?_
    obtain ⟨v2, h4, e3, hq⟩ := bnd2_some hq
    refine wp_callVI (As := [.int x1]) (rest := []) (h1 := h4) ok (m_X10_adds e3 (Nat.le_refl _)) my_X10_adds (w_1351) pd_X10_adds (Nat.le_trans (by decide) hfr) rfl (ci := 10) rfl (by decide) (sh_of e f_x0) rfl rfl rfl dX10_counted_10 (fun e5 => ?_)
    have e6 : h4.1 = h0.1 := (e5).trans e
    exact wp_iret ok hF rfl e6 (re2I hq) dX10_counted_13
  · have hq := ite_f c1 hq
    refine wp_iload_n (v := x1) ok dX10_counted_4 rfl ?_
    refine wp_goto (tgt := 13) ok dX10_counted_5 (by decide) ?_
    exact wp_iret ok hF rfl e (re2I hq) dX10_counted_13
set_option maxHeartbeats 4000000 in
set_option maxRecDepth 100000 in
theorem s_X10_undo_B26 {x : Cx} {h0 : HP} {N fr : Nat} {rr : (Int32 × HP)} (ok : Okx x cX10_undo yX10_undo.cls 2 fr) (hfr : 0 ≤ fr)  {x0 : Nat} {n_x0 : Nat} (f_x0 : h0.1[x0]? = some (10, n_x0)) (hF : Fend x h0 (some (.int)) (QI rr.1 rr.2)) {rc : Int32 → HP → Option (Int32 × HP)} (ih : ∀ (x1 : Int32) (h : HP), rc x1 h = some rr → h.1 = h0.1 → wp x 26 [(1, .int x1), (0, .ref x0)] [] h) : ∀ (x1 : Int32) (h : HP), f_X10_undo_B26 N x0 rc x1 h = some rr → h.1 = h0.1 → wp x 26 [(1, .int x1), (0, .ref x0)] [] h := by
  intro x1 h hq e
  unfold f_X10_undo_B26 at hq
  refine wp_iload_n (v := x1) ok dX10_undo_26 rfl ?_
  refine wp_bipush (v := 28) ok dX10_undo_27 (by decide) ?_
  refine wp_icmp_ge (tgt := 58) ok dX10_undo_29 (by decide) (fun c8 => ?_) (fun c8 => ?_)
  · have hq := ite_t c8 hq
    refine wp_aload_n (v := x0) ok dX10_undo_58 rfl ?_
    refine wp_getI ok fl_RX10_191 (sh_of e f_x0) dX10_undo_59 ?_
    exact wp_iret ok hF rfl e (re2I hq) dX10_undo_62
  · have hq := ite_f c8 hq
    refine wp_aload_n (v := x0) ok dX10_undo_32 rfl ?_
    obtain ⟨t9, e10, hq⟩ := bnd_some hq
    obtain ⟨e11, n12, f13⟩ := rK_some e10
    replace f13 := sh_of (e).symm f13
    refine wp_getR ok fl_RX10_41 (sh_of e f_x0) e11 dX10_undo_33 ?_
    refine wp_iload_n (v := x1) ok dX10_undo_36 rfl ?_
    refine wp_aload_n (v := x0) ok dX10_undo_37 rfl ?_
    obtain ⟨t14, e15, hq⟩ := bnd_some hq
    obtain ⟨e16, n17, f18⟩ := rK_some e15
    replace f18 := sh_of (e).symm f18
    refine wp_getR ok fl_RX10_68 (sh_of e f_x0) e16 dX10_undo_38 ?_
    refine wp_bipush (v := 28) ok dX10_undo_41 (by decide) ?_
    refine wp_aload_n (v := x0) ok dX10_undo_43 rfl ?_
    refine wp_getI ok fl_RX10_191 (sh_of e f_x0) dX10_undo_44 ?_
    refine wp_imul ok dX10_undo_47 ?_
    refine wp_iload_n (v := x1) ok dX10_undo_48 rfl ?_
    refine wp_iadd ok dX10_undo_49 ?_
    obtain ⟨g19, hq⟩ := gP_some hq
    refine wp_iald ok (sh_of e f18) (ix_of (sh_of e f18) g19) dX10_undo_50 ?_
    obtain ⟨g20, hq⟩ := gP_some hq
    refine wp_iast ok (sh_of e f13) (ix_of (sh_of e f13) g20) dX10_undo_51 ?_
    obtain ⟨h21, e22, hq⟩ := lt_some hq
    refine wp_nmH e22 ?_
    have e23 : h21.1 = h0.1 := (congrArg Prod.fst e22).trans e
    obtain ⟨v24, e25, hq⟩ := lt_some hq
    refine wp_iinc (v := x1) (w := 1) (L' := [(1, .int v24), (0, .ref x0)]) ok dX10_undo_52 rfl (by decide) rfl (by rw [← e25]; rfl) ?_
    refine wp_goto (tgt := 26) ok dX10_undo_55 (by decide) ?_
    refine wp_sub (L' := [(1, .int v24), (0, .ref x0)]) [0, 1] rfl ?_
    exact ih v24 h21 hq e23
set_option maxHeartbeats 4000000 in
set_option maxRecDepth 100000 in
theorem l_X10_undo_B26 {x : Cx} {h0 : HP} {N fr : Nat} {rr : (Int32 × HP)} (ok : Okx x cX10_undo yX10_undo.cls 2 fr) (hfr : 0 ≤ fr)  {x0 : Nat} {n_x0 : Nat} (f_x0 : h0.1[x0]? = some (10, n_x0)) (hF : Fend x h0 (some (.int)) (QI rr.1 rr.2)) : ∀ (n : Nat) (x1 : Int32) (h : HP), lp (fun _ _ => none) (f_X10_undo_B26 N x0) n x1 h = some rr → h.1 = h0.1 → wp x 26 [(1, .int x1), (0, .ref x0)] [] h := by
  intro n
  induction n with
  | zero => intro x1 h hq e; exact (Option.some_ne_none _ hq.symm).elim
  | succ n ih => exact s_X10_undo_B26 ok hfr f_x0 hF  ih
set_option maxHeartbeats 4000000 in
set_option maxRecDepth 100000 in
theorem m_X10_undo {l : Launch} {h : HP} {N : Nat} {x0 : Nat} {rr : Int32} {rh : HP} {fr : Nat} (hq : f_X10_undo N h x0 = some (rr, rh)) (hfr : 0 ≤ fr) : Mt l yX10_undo cX10_undo 2 (some (.int)) fr [.ref x0] h (QI rr rh) := by
  obtain ⟨rp, ep⟩ : ∃ rp : (Int32 × HP), rp = (rr, rh) := ⟨_, rfl⟩
  have e1p : rr = rp.1 := (congrArg Prod.fst ep).symm
  have e2p : rh = rp.2 := (congrArg Prod.snd ep).symm
  rw [← ep] at hq
  rw [e1p, e2p]
  clear e1p e2p ep
  refine Mt.of (by decide +kernel) (Nat.le_of_ble_eq_true rfl) (fun x hl ok hF => ?_)
  subst hl
  show wp x 0 [(0, .ref x0)] [] h
  unfold f_X10_undo at hq
  obtain ⟨h0, eh0⟩ : ∃ h0 : HP, h = h0 := ⟨h, rfl⟩
  have e : h.1 = h0.1 := by rw [eh0]
  rw [eh0] at hF
  obtain ⟨g_x0, hq⟩ := gP_some hq
  obtain ⟨n_x0, f_x0⟩ := kO_some g_x0
  replace f_x0 := sh_of e.symm f_x0
  refine wp_aload_n (v := x0) ok dX10_undo_0 rfl ?_
  refine wp_iconst (v := 0) ok dX10_undo_1 (by decide) ?_
  refine wp_putI ok flw_RX10_3 (nr_10_0 _) (sh_of e f_x0) dX10_undo_2 ?_
  obtain ⟨h1, e2, hq⟩ := lt_some hq
  refine wp_nmH e2 ?_
  have e3 : h1.1 = h0.1 := (congrArg Prod.fst e2).trans e
  refine wp_aload_n (v := x0) ok dX10_undo_5 rfl ?_
  refine wp_getI ok fl_RX10_191 (sh_of e3 f_x0) dX10_undo_6 ?_
  refine wp_if_ne (tgt := 14) ok dX10_undo_9 (by decide) (fun c4 => ?_) (fun c4 => ?_)
  · have hq := ite_f c4 hq
    refine wp_aload_n (v := x0) ok dX10_undo_14 rfl ?_
    refine wp_dup ok dX10_undo_15 rfl ?_
    refine wp_getI ok fl_RX10_191 (sh_of e3 f_x0) dX10_undo_16 ?_
    refine wp_iconst (v := 1) ok dX10_undo_19 (by decide) ?_
    refine wp_isub ok dX10_undo_20 ?_
    refine wp_putI ok flw_RX10_191 (nr_10_25 _) (sh_of e3 f_x0) dX10_undo_21 ?_
    obtain ⟨h5, e6, hq⟩ := lt_some hq
    refine wp_nmH e6 ?_
    have e7 : h5.1 = h0.1 := (congrArg Prod.fst e6).trans e3
    refine wp_iconst (v := 0) ok dX10_undo_24 (by decide) ?_
    refine wp_istore_n (L' := [(1, .int 0), (0, .ref x0)]) ok dX10_undo_25 rfl rfl ?_
    refine wp_sub (L' := [(1, .int 0), (0, .ref x0)]) [0, 1] rfl ?_
    refine l_X10_undo_B26 ok hfr f_x0 hF  N 0 h5 hq e7
  · have hq := ite_t c4 hq
    refine wp_iconst (v := -1) ok dX10_undo_12 (by decide) ?_
    exact wp_iret ok hF rfl e3 (re2I hq) dX10_undo_13
set_option maxHeartbeats 4000000 in
set_option maxRecDepth 100000 in
theorem s_X10_monthGoes_B84 {x : Cx} {h0 : HP} {N fr : Nat} {rr : HP} (ok : Okx x cX10_monthGoes yX10_monthGoes.cls 5 fr) (hfr : 1 ≤ fr)  {x0 : Nat} {x1 : Nat} {n_x0 : Nat} (f_x0 : h0.1[x0]? = some (10, n_x0)) {n_x1 : Nat} (f_x1 : h0.1[x1]? = some (102, n_x1)) (hF : Fend x h0 none (QV rr)) {k130 : HP → Option HP} (hk130 : ∀ (h : HP), k130 h = some rr → h.1 = h0.1 → wp x 130 [(0, .ref x0), (1, .ref x1)] [] h) {rc : Int32 → HP → Option HP} (ih : ∀ (x3 : Int32) (h : HP), rc x3 h = some rr → h.1 = h0.1 → wp x 84 [(3, .int x3), (0, .ref x0), (1, .ref x1)] [] h) : ∀ (x3 : Int32) (h : HP), f_X10_monthGoes_B84 N x0 x1 k130 rc x3 h = some rr → h.1 = h0.1 → wp x 84 [(3, .int x3), (0, .ref x0), (1, .ref x1)] [] h := by
  intro x3 h hq e
  unfold f_X10_monthGoes_B84 at hq
  refine wp_iload_n (v := x3) ok dX10_monthGoes_84 rfl ?_
  refine wp_bipush (v := 12) ok dX10_monthGoes_85 (by decide) ?_
  refine wp_icmp_ge (tgt := 130) ok dX10_monthGoes_87 (by decide) (fun c9 => ?_) (fun c9 => ?_)
  · have hq := ite_t c9 hq
    refine wp_sub (L' := [(0, .ref x0), (1, .ref x1)]) [1, 2] rfl ?_
    exact hk130 h hq e
  · have hq := ite_f c9 hq
    refine wp_aload_n (v := x0) ok dX10_monthGoes_90 rfl ?_
    obtain ⟨t10, e11, hq⟩ := bnd_some hq
    obtain ⟨e12, n13, f14⟩ := rK_some e11
    replace f14 := sh_of (e).symm f14
    refine wp_getR ok fl_RX10_71 (sh_of e f_x0) e12 dX10_monthGoes_91 ?_
    refine wp_iload_n (v := x3) ok dX10_monthGoes_94 rfl ?_
    refine wp_iload_n (v := x3) ok dX10_monthGoes_95 rfl ?_
    refine wp_bipush (v := 6) ok dX10_monthGoes_96 (by decide) ?_
    refine wp_irem ok dX10_monthGoes_98 (by decide) ?_
    refine wp_aload_n (v := x0) ok dX10_monthGoes_99 rfl ?_
    refine wp_getI ok fl_RX10_120 (sh_of e f_x0) dX10_monthGoes_100 ?_
    refine wp_iconst (v := 1) ok dX10_monthGoes_103 (by decide) ?_
    refine wp_isub ok dX10_monthGoes_104 ?_
    refine wp_icmp_ge (tgt := 122) ok dX10_monthGoes_105 (by decide) (fun c15 => ?_) (fun c15 => ?_)
    · have hq := ite_t c15 hq
      refine wp_iconst (v := 0) ok dX10_monthGoes_122 (by decide) ?_
      obtain ⟨g16, hq⟩ := gP_some hq
      refine wp_iast ok (sh_of e f14) (ix_of (sh_of e f14) g16) dX10_monthGoes_123 ?_
      obtain ⟨h17, e18, hq⟩ := lt_some hq
      refine wp_nmH e18 ?_
      have e19 : h17.1 = h0.1 := (congrArg Prod.fst e18).trans e
      obtain ⟨v20, e21, hq⟩ := lt_some hq
      refine wp_iinc (v := x3) (w := 1) (L' := [(3, .int v20), (0, .ref x0), (1, .ref x1)]) ok dX10_monthGoes_124 rfl (by decide) rfl (by rw [← e21]; rfl) ?_
      refine wp_goto (tgt := 84) ok dX10_monthGoes_127 (by decide) ?_
      refine wp_sub (L' := [(3, .int v20), (0, .ref x0), (1, .ref x1)]) [0, 1, 2] rfl ?_
      exact ih v20 h17 hq e19
    · have hq := ite_f c15 hq
      refine wp_aload_n (v := x1) ok dX10_monthGoes_108 rfl ?_
      refine wp_iload_n (v := x3) ok dX10_monthGoes_109 rfl ?_
      obtain ⟨g22, hq⟩ := gP_some hq
      refine wp_iald ok (sh_of e f_x1) (ix_of (sh_of e f_x1) g22) dX10_monthGoes_110 ?_
      refine wp_aload_n (v := x1) ok dX10_monthGoes_111 rfl ?_
      refine wp_bipush (v := 24) ok dX10_monthGoes_112 (by decide) ?_
      obtain ⟨g23, hq⟩ := gP_some hq
      refine wp_iald ok (sh_of e f_x1) (ix_of (sh_of e f_x1) g23) dX10_monthGoes_114 ?_
      refine wp_imul ok dX10_monthGoes_115 ?_
      refine wp_bipush (v := 10) ok dX10_monthGoes_116 (by decide) ?_
      refine wp_idiv ok dX10_monthGoes_118 (by decide) ?_
      refine wp_goto (tgt := 123) ok dX10_monthGoes_119 (by decide) ?_
      obtain ⟨g24, hq⟩ := gP_some hq
      refine wp_iast ok (sh_of e f14) (ix_of (sh_of e f14) g24) dX10_monthGoes_123 ?_
      obtain ⟨h25, e26, hq⟩ := lt_some hq
      refine wp_nmH e26 ?_
      have e27 : h25.1 = h0.1 := (congrArg Prod.fst e26).trans e
      obtain ⟨v28, e29, hq⟩ := lt_some hq
      refine wp_iinc (v := x3) (w := 1) (L' := [(3, .int v28), (0, .ref x0), (1, .ref x1)]) ok dX10_monthGoes_124 rfl (by decide) rfl (by rw [← e29]; rfl) ?_
      refine wp_goto (tgt := 84) ok dX10_monthGoes_127 (by decide) ?_
      refine wp_sub (L' := [(3, .int v28), (0, .ref x0), (1, .ref x1)]) [0, 1, 2] rfl ?_
      exact ih v28 h25 hq e27
set_option maxHeartbeats 4000000 in
set_option maxRecDepth 100000 in
theorem l_X10_monthGoes_B84 {x : Cx} {h0 : HP} {N fr : Nat} {rr : HP} (ok : Okx x cX10_monthGoes yX10_monthGoes.cls 5 fr) (hfr : 1 ≤ fr)  {x0 : Nat} {x1 : Nat} {n_x0 : Nat} (f_x0 : h0.1[x0]? = some (10, n_x0)) {n_x1 : Nat} (f_x1 : h0.1[x1]? = some (102, n_x1)) (hF : Fend x h0 none (QV rr)) {k130 : HP → Option HP} (hk130 : ∀ (h : HP), k130 h = some rr → h.1 = h0.1 → wp x 130 [(0, .ref x0), (1, .ref x1)] [] h) : ∀ (n : Nat) (x3 : Int32) (h : HP), lp (fun _ _ => none) (f_X10_monthGoes_B84 N x0 x1 k130) n x3 h = some rr → h.1 = h0.1 → wp x 84 [(3, .int x3), (0, .ref x0), (1, .ref x1)] [] h := by
  intro n
  induction n with
  | zero => intro x3 h hq e; exact (Option.some_ne_none _ hq.symm).elim
  | succ n ih => exact s_X10_monthGoes_B84 ok hfr f_x0 f_x1 hF hk130 ih
set_option maxHeartbeats 4000000 in
set_option maxRecDepth 100000 in
theorem s_X10_monthGoes_B132 {x : Cx} {h0 : HP} {N fr : Nat} {rr : HP} (ok : Okx x cX10_monthGoes yX10_monthGoes.cls 5 fr) (hfr : 1 ≤ fr)  {x0 : Nat} {x1 : Nat} {n_x0 : Nat} (f_x0 : h0.1[x0]? = some (10, n_x0)) {n_x1 : Nat} (f_x1 : h0.1[x1]? = some (102, n_x1)) (hF : Fend x h0 none (QV rr)) {k186 : HP → Option HP} (hk186 : ∀ (h : HP), k186 h = some rr → h.1 = h0.1 → wp x 186 [(1, .ref x1)] [] h) {rc : Int32 → HP → Option HP} (ih : ∀ (x3 : Int32) (h : HP), rc x3 h = some rr → h.1 = h0.1 → wp x 132 [(3, .int x3), (0, .ref x0), (1, .ref x1)] [] h) : ∀ (x3 : Int32) (h : HP), f_X10_monthGoes_B132 N x0 x1 k186 rc x3 h = some rr → h.1 = h0.1 → wp x 132 [(3, .int x3), (0, .ref x0), (1, .ref x1)] [] h := by
  intro x3 h hq e
  unfold f_X10_monthGoes_B132 at hq
  refine wp_iload_n (v := x3) ok dX10_monthGoes_132 rfl ?_
  refine wp_bipush (v := 12) ok dX10_monthGoes_133 (by decide) ?_
  refine wp_icmp_ge (tgt := 186) ok dX10_monthGoes_135 (by decide) (fun c32 => ?_) (fun c32 => ?_)
  · have hq := ite_t c32 hq
    refine wp_sub (L' := [(1, .ref x1)]) [2] rfl ?_
    exact hk186 h hq e
  · have hq := ite_f c32 hq
    refine wp_iload_n (v := x3) ok dX10_monthGoes_138 rfl ?_
    refine wp_bipush (v := 6) ok dX10_monthGoes_139 (by decide) ?_
    refine wp_irem ok dX10_monthGoes_141 (by decide) ?_
    obtain ⟨k33, ek33, hq⟩ := jn1_some hq
    have kk33 : ∀ (y34 : Int32), k33 y34 = some rr → wp x 157 [(3, .int x3), (0, .ref x0), (1, .ref x1)] [.int y34] h := by
      intro y34 hq
      have hq := (ek33 y34).symm.trans hq
      refine wp_istore (L' := [(4, .int y34), (3, .int x3), (0, .ref x0), (1, .ref x1)]) ok dX10_monthGoes_157 rfl rfl ?_
      refine wp_aload_n (v := x1) ok dX10_monthGoes_159 rfl ?_
      refine wp_iload_n (v := x3) ok dX10_monthGoes_160 rfl ?_
      refine wp_ldc (v := 99999) ok (w_1308) dX10_monthGoes_161 ?_
      refine wp_aload_n (v := x1) ok dX10_monthGoes_163 rfl ?_
      refine wp_iload_n (v := x3) ok dX10_monthGoes_164 rfl ?_
      obtain ⟨g35, hq⟩ := gP_some hq
      refine wp_iald ok (sh_of e f_x1) (ix_of (sh_of e f_x1) g35) dX10_monthGoes_165 ?_
      refine wp_aload_n (v := x0) ok dX10_monthGoes_166 rfl ?_
      obtain ⟨t36, e37, hq⟩ := bnd_some hq
      obtain ⟨e38, n39, f40⟩ := rK_some e37
      replace f40 := sh_of (e).symm f40
      refine wp_getR ok fl_RX10_71 (sh_of e f_x0) e38 dX10_monthGoes_167 ?_
      refine wp_iload_n (v := x3) ok dX10_monthGoes_170 rfl ?_
      obtain ⟨g41, hq⟩ := gP_some hq
      refine wp_iald ok (sh_of e f40) (ix_of (sh_of e f40) g41) dX10_monthGoes_171 ?_
      refine wp_isub ok dX10_monthGoes_172 ?_
      refine wp_iload (v := y34) ok dX10_monthGoes_173 rfl ?_
      refine wp_iadd ok dX10_monthGoes_175 ?_
      obtain ⟨v42, e43, hq⟩ := bnd_some hq
      refine wp_callSI (As := [.int 99999, .int (((h.2.1 x1 x3.toNatClampNeg) - (h.2.1 t36 x3.toNatClampNeg)) + y34)]) (rest := [.int x3, .ref x1]) (h1 := h) ok (m_J9_min_7cf53 e43 (Nat.le_refl _)) my_J9_min_7cf53 (w_1211) pd_J9_min_7cf53 (Nat.le_trans (by decide) hfr) rfl rfl rfl rfl dX10_monthGoes_176 (fun e44 => ?_)
      obtain ⟨g45, hq⟩ := gP_some hq
      refine wp_iast ok (sh_of e f_x1) (ix_of (sh_of e f_x1) g45) dX10_monthGoes_179 ?_
      obtain ⟨h46, e47, hq⟩ := lt_some hq
      refine wp_nmH e47 ?_
      have e48 : h46.1 = h0.1 := (congrArg Prod.fst e47).trans e
      obtain ⟨v49, e50, hq⟩ := lt_some hq
      refine wp_iinc (v := x3) (w := 1) (L' := [(3, .int v49), (4, .int y34), (0, .ref x0), (1, .ref x1)]) ok dX10_monthGoes_180 rfl (by decide) rfl (by rw [← e50]; rfl) ?_
      refine wp_goto (tgt := 132) ok dX10_monthGoes_183 (by decide) ?_
      refine wp_sub (L' := [(3, .int v49), (0, .ref x0), (1, .ref x1)]) [0, 2, 3] rfl ?_
      exact ih v49 h46 hq e48
    refine wp_if_le (tgt := 156) ok dX10_monthGoes_142 (by decide) (fun c51 => ?_) (fun c51 => ?_)
    · have hq := ite_t c51 hq
      refine wp_iconst (v := 0) ok dX10_monthGoes_156 (by decide) ?_
      refine wp_sub (L' := [(3, .int x3), (0, .ref x0), (1, .ref x1)]) [0, 1, 2] rfl ?_
      exact kk33 0 hq
    · have hq := ite_f c51 hq
      refine wp_aload_n (v := x0) ok dX10_monthGoes_145 rfl ?_
      obtain ⟨t52, e53, hq⟩ := bnd_some hq
      obtain ⟨e54, n55, f56⟩ := rK_some e53
      replace f56 := sh_of (e).symm f56
      refine wp_getR ok fl_RX10_71 (sh_of e f_x0) e54 dX10_monthGoes_146 ?_
      refine wp_iload_n (v := x3) ok dX10_monthGoes_149 rfl ?_
      refine wp_iconst (v := 1) ok dX10_monthGoes_150 (by decide) ?_
      refine wp_isub ok dX10_monthGoes_151 ?_
      obtain ⟨g57, hq⟩ := gP_some hq
      refine wp_iald ok (sh_of e f56) (ix_of (sh_of e f56) g57) dX10_monthGoes_152 ?_
      refine wp_goto (tgt := 157) ok dX10_monthGoes_153 (by decide) ?_
      refine wp_sub (L' := [(3, .int x3), (0, .ref x0), (1, .ref x1)]) [0, 1, 2] rfl ?_
      exact kk33 (h.2.1 t52 (x3 - 1).toNatClampNeg) hq
set_option maxHeartbeats 4000000 in
set_option maxRecDepth 100000 in
theorem l_X10_monthGoes_B132 {x : Cx} {h0 : HP} {N fr : Nat} {rr : HP} (ok : Okx x cX10_monthGoes yX10_monthGoes.cls 5 fr) (hfr : 1 ≤ fr)  {x0 : Nat} {x1 : Nat} {n_x0 : Nat} (f_x0 : h0.1[x0]? = some (10, n_x0)) {n_x1 : Nat} (f_x1 : h0.1[x1]? = some (102, n_x1)) (hF : Fend x h0 none (QV rr)) {k186 : HP → Option HP} (hk186 : ∀ (h : HP), k186 h = some rr → h.1 = h0.1 → wp x 186 [(1, .ref x1)] [] h) : ∀ (n : Nat) (x3 : Int32) (h : HP), lp (fun _ _ => none) (f_X10_monthGoes_B132 N x0 x1 k186) n x3 h = some rr → h.1 = h0.1 → wp x 132 [(3, .int x3), (0, .ref x0), (1, .ref x1)] [] h := by
  intro n
  induction n with
  | zero => intro x3 h hq e; exact (Option.some_ne_none _ hq.symm).elim
  | succ n ih => exact s_X10_monthGoes_B132 ok hfr f_x0 f_x1 hF hk186 ih
set_option maxHeartbeats 4000000 in
set_option maxRecDepth 100000 in
theorem m_X10_monthGoes {l : Launch} {h : HP} {N : Nat} {x0 : Nat} {x1 : Nat} {rr : HP} {fr : Nat} (hq : f_X10_monthGoes N h x0 x1 = some rr) (hfr : 1 ≤ fr) : Mt l yX10_monthGoes cX10_monthGoes 5 none fr [.ref x0, .ref x1] h (QV rr) := by
  refine Mt.of (by decide +kernel) (Nat.le_of_ble_eq_true rfl) (fun x hl ok hF => ?_)
  subst hl
  show wp x 0 [(0, .ref x0), (1, .ref x1)] [] h
  unfold f_X10_monthGoes at hq
  obtain ⟨h0, eh0⟩ : ∃ h0 : HP, h = h0 := ⟨h, rfl⟩
  have e : h.1 = h0.1 := by rw [eh0]
  rw [eh0] at hF
  obtain ⟨g_x0, hq⟩ := gP_some hq
  obtain ⟨n_x0, f_x0⟩ := kO_some g_x0
  replace f_x0 := sh_of e.symm f_x0
  obtain ⟨g_x1, hq⟩ := gP_some hq
  obtain ⟨n_x1, f_x1⟩ := kO_some g_x1
  replace f_x1 := sh_of e.symm f_x1
  refine wp_aload_n (v := x1) ok dX10_monthGoes_0 rfl ?_
  refine wp_bipush (v := 25) ok dX10_monthGoes_1 (by decide) ?_
  obtain ⟨g1, hq⟩ := gP_some hq
  refine wp_iald ok (sh_of e f_x1) (ix_of (sh_of e f_x1) g1) dX10_monthGoes_3 ?_
  refine wp_aload_n (v := x0) ok dX10_monthGoes_4 rfl ?_
  refine wp_getI ok fl_RX10_28 (sh_of e f_x0) dX10_monthGoes_5 ?_
  obtain ⟨g2, hq⟩ := gP_some hq
  refine wp_irem ok dX10_monthGoes_8 g2 ?_
  obtain ⟨v3, e4, hq⟩ := lt_some hq
  refine wp_nmI e4 ?_
  refine wp_istore_n (L' := [(2, .int v3), (0, .ref x0), (1, .ref x1)]) ok dX10_monthGoes_9 rfl rfl ?_
  refine wp_aload_n (v := x1) ok dX10_monthGoes_10 rfl ?_
  refine wp_bipush (v := 27) ok dX10_monthGoes_11 (by decide) ?_
  obtain ⟨g5, hq⟩ := gP_some hq
  refine wp_iald ok (sh_of e f_x1) (ix_of (sh_of e f_x1) g5) dX10_monthGoes_13 ?_
  obtain ⟨k6, ek6, hq⟩ := jn1_some hq
  have kk6 : ∀ (h7 : HP), k6 h7 = some rr → h7.1 = h0.1 → wp x 82 [(0, .ref x0), (1, .ref x1)] [] h7 := by
    intro h7 hq e8
    have hq := (ek6 h7).symm.trans hq
    refine wp_iconst (v := 0) ok dX10_monthGoes_82 (by decide) ?_
    refine wp_istore_n (L' := [(3, .int 0), (0, .ref x0), (1, .ref x1)]) ok dX10_monthGoes_83 rfl rfl ?_
    refine wp_sub (L' := [(3, .int 0), (0, .ref x0), (1, .ref x1)]) [0, 1, 2] rfl ?_
    refine l_X10_monthGoes_B84 ok hfr f_x0 f_x1 hF ?_ N 0 h7 hq e8
    · intro h30 hq e31
      refine wp_iconst (v := 0) ok dX10_monthGoes_130 (by decide) ?_
      refine wp_istore_n (L' := [(3, .int 0), (0, .ref x0), (1, .ref x1)]) ok dX10_monthGoes_131 rfl rfl ?_
      refine wp_sub (L' := [(3, .int 0), (0, .ref x0), (1, .ref x1)]) [0, 1, 2] rfl ?_
      refine l_X10_monthGoes_B132 ok hfr f_x0 f_x1 hF ?_ N 0 h30 hq e31
      · intro h58 hq e59
        refine wp_aload_n (v := x1) ok dX10_monthGoes_186 rfl ?_
        refine wp_bipush (v := 25) ok dX10_monthGoes_187 (by decide) ?_
        refine wp_dup2 ok dX10_monthGoes_189 rfl rfl ?_
        obtain ⟨g60, hq⟩ := gP_some hq
        refine wp_iald ok (sh_of e59 f_x1) (ix_of (sh_of e59 f_x1) g60) dX10_monthGoes_190 ?_
        refine wp_iconst (v := 1) ok dX10_monthGoes_191 (by decide) ?_
        refine wp_iadd ok dX10_monthGoes_192 ?_
        obtain ⟨g61, hq⟩ := gP_some hq
        refine wp_iast ok (sh_of e59 f_x1) (ix_of (sh_of e59 f_x1) g61) dX10_monthGoes_193 ?_
        obtain ⟨h62, e63, hq⟩ := lt_some hq
        refine wp_nmH e63 ?_
        have e64 : h62.1 = h0.1 := (congrArg Prod.fst e63).trans e59
        exact wp_vret ok hF e64 (reV hq) dX10_monthGoes_194
  refine wp_if_ne (tgt := 82) ok dX10_monthGoes_14 (by decide) (fun c65 => ?_) (fun c65 => ?_)
  · have hq := ite_f c65 hq
    refine wp_sub (L' := [(0, .ref x0), (1, .ref x1)]) [1, 2] rfl ?_
    exact kk6 h hq e
  · have hq := ite_t c65 hq
    refine wp_aload_n (v := x0) ok dX10_monthGoes_17 rfl ?_
    refine wp_getI ok fl_RX10_120 (sh_of e f_x0) dX10_monthGoes_18 ?_
    refine wp_if_le (tgt := 82) ok dX10_monthGoes_21 (by decide) (fun c66 => ?_) (fun c66 => ?_)
    · have hq := ite_t c66 hq
      refine wp_sub (L' := [(0, .ref x0), (1, .ref x1)]) [1, 2] rfl ?_
      exact kk6 h hq e
    · have hq := ite_f c66 hq
      refine wp_aload_n (v := x0) ok dX10_monthGoes_24 rfl ?_
      obtain ⟨t67, e68, hq⟩ := bnd_some hq
      obtain ⟨e69, n70, f71⟩ := rK_some e68
      replace f71 := sh_of (e).symm f71
      refine wp_getR ok fl_RX10_31 (sh_of e f_x0) e69 dX10_monthGoes_25 ?_
      refine wp_iload_n (v := v3) ok dX10_monthGoes_28 rfl ?_
      obtain ⟨g72, hq⟩ := gP_some hq
      refine wp_iald ok (sh_of e f71) (ix_of (sh_of e f71) g72) dX10_monthGoes_29 ?_
      refine wp_if_lt (tgt := 82) ok dX10_monthGoes_30 (by decide) (fun c73 => ?_) (fun c73 => ?_)
      · have hq := ite_t c73 hq
        refine wp_sub (L' := [(0, .ref x0), (1, .ref x1)]) [1, 2] rfl ?_
        exact kk6 h hq e
      · have hq := ite_f c73 hq
        refine wp_aload_n (v := x0) ok dX10_monthGoes_33 rfl ?_
        obtain ⟨t74, e75, hq⟩ := bnd_some hq
        obtain ⟨e76, n77, f78⟩ := rK_some e75
        replace f78 := sh_of (e).symm f78
        refine wp_getR ok fl_RX10_31 (sh_of e f_x0) e76 dX10_monthGoes_34 ?_
        refine wp_iload_n (v := v3) ok dX10_monthGoes_37 rfl ?_
        obtain ⟨g79, hq⟩ := gP_some hq
        refine wp_iald ok (sh_of e f78) (ix_of (sh_of e f78) g79) dX10_monthGoes_38 ?_
        refine wp_iconst (v := 0) ok dX10_monthGoes_39 (by decide) ?_
        obtain ⟨v80, e81, hq⟩ := bnd_some hq
        refine wp_callSI (As := [.int (h.2.1 t74 v3.toNatClampNeg), .int 0]) (rest := []) (h1 := h) ok (m_X10_at e81 (Nat.le_refl _)) my_X10_at (w_1301) pd_X10_at (Nat.le_trans (by decide) hfr) rfl rfl rfl rfl dX10_monthGoes_40 (fun e82 => ?_)
        refine wp_istore_n (L' := [(3, .int v80), (2, .int v3), (0, .ref x0), (1, .ref x1)]) ok dX10_monthGoes_43 rfl rfl ?_
        refine wp_aload_n (v := x1) ok dX10_monthGoes_44 rfl ?_
        refine wp_iload_n (v := v80) ok dX10_monthGoes_45 rfl ?_
        obtain ⟨g83, hq⟩ := gP_some hq
        refine wp_iald ok (sh_of e f_x1) (ix_of (sh_of e f_x1) g83) dX10_monthGoes_46 ?_
        obtain ⟨v84, e85, hq⟩ := lt_some hq
        refine wp_nmI e85 ?_
        refine wp_istore (L' := [(4, .int v84), (3, .int v80), (2, .int v3), (0, .ref x0), (1, .ref x1)]) ok dX10_monthGoes_47 rfl rfl ?_
        refine wp_aload_n (v := x1) ok dX10_monthGoes_49 rfl ?_
        refine wp_iload_n (v := v80) ok dX10_monthGoes_50 rfl ?_
        refine wp_ldc (v := 99999) ok (w_1308) dX10_monthGoes_51 ?_
        refine wp_aload_n (v := x1) ok dX10_monthGoes_53 rfl ?_
        refine wp_iload_n (v := v80) ok dX10_monthGoes_54 rfl ?_
        obtain ⟨g86, hq⟩ := gP_some hq
        refine wp_iald ok (sh_of e f_x1) (ix_of (sh_of e f_x1) g86) dX10_monthGoes_55 ?_
        refine wp_aload_n (v := x0) ok dX10_monthGoes_56 rfl ?_
        obtain ⟨t87, e88, hq⟩ := bnd_some hq
        obtain ⟨e89, n90, f91⟩ := rK_some e88
        replace f91 := sh_of (e).symm f91
        refine wp_getR ok fl_RX10_35 (sh_of e f_x0) e89 dX10_monthGoes_57 ?_
        refine wp_iload_n (v := v3) ok dX10_monthGoes_60 rfl ?_
        obtain ⟨g92, hq⟩ := gP_some hq
        refine wp_iald ok (sh_of e f91) (ix_of (sh_of e f91) g92) dX10_monthGoes_61 ?_
        refine wp_iadd ok dX10_monthGoes_62 ?_
        obtain ⟨v93, e94, hq⟩ := bnd_some hq
        refine wp_callSI (As := [.int 99999, .int ((h.2.1 x1 v80.toNatClampNeg) + (h.2.1 t87 v3.toNatClampNeg))]) (rest := [.int v80, .ref x1]) (h1 := h) ok (m_J9_min_7cf53 e94 (Nat.le_refl _)) my_J9_min_7cf53 (w_1211) pd_J9_min_7cf53 (Nat.le_trans (by decide) hfr) rfl rfl rfl rfl dX10_monthGoes_63 (fun e95 => ?_)
        obtain ⟨g96, hq⟩ := gP_some hq
        refine wp_iast ok (sh_of e f_x1) (ix_of (sh_of e f_x1) g96) dX10_monthGoes_66 ?_
        obtain ⟨h97, e98, hq⟩ := lt_some hq
        refine wp_nmH e98 ?_
        have e99 : h97.1 = h0.1 := (congrArg Prod.fst e98).trans e
        refine wp_aload_n (v := x0) ok dX10_monthGoes_67 rfl ?_
        refine wp_dup ok dX10_monthGoes_68 rfl ?_
        refine wp_getI ok fl_RX10_271 (sh_of e99 f_x0) dX10_monthGoes_69 ?_
        refine wp_aload_n (v := x1) ok dX10_monthGoes_72 rfl ?_
        refine wp_iload_n (v := v80) ok dX10_monthGoes_73 rfl ?_
        obtain ⟨g100, hq⟩ := gP_some hq
        refine wp_iald ok (sh_of e99 f_x1) (ix_of (sh_of e99 f_x1) g100) dX10_monthGoes_74 ?_
        refine wp_iload (v := v84) ok dX10_monthGoes_75 rfl ?_
        refine wp_isub ok dX10_monthGoes_77 ?_
        refine wp_iadd ok dX10_monthGoes_78 ?_
        refine wp_putI ok flw_RX10_271 (nr_10_27 _) (sh_of e99 f_x0) dX10_monthGoes_79 ?_
        obtain ⟨h101, e102, hq⟩ := lt_some hq
        refine wp_nmH e102 ?_
        have e103 : h101.1 = h0.1 := (congrArg Prod.fst e102).trans e99
        refine wp_sub (L' := [(0, .ref x0), (1, .ref x1)]) [3, 4] rfl ?_
        exact kk6 h101 hq e103
set_option maxHeartbeats 4000000 in
set_option maxRecDepth 100000 in
theorem s_X10_goesOn_B2 {x : Cx} {h0 : HP} {N fr : Nat} {rr : HP} (ok : Okx x cX10_goesOn yX10_goesOn.cls 4 fr) (hfr : 2 ≤ fr)  {x0 : Nat} {x1 : Nat} {x2 : Int32} {n_x0 : Nat} (f_x0 : h0.1[x0]? = some (10, n_x0)) {n_x1 : Nat} (f_x1 : h0.1[x1]? = some (102, n_x1)) (hF : Fend x h0 none (QV rr)) {rc : Int32 → HP → Option HP} (ih : ∀ (x3 : Int32) (h : HP), rc x3 h = some rr → h.1 = h0.1 → wp x 2 [(3, .int x3), (0, .ref x0), (1, .ref x1), (2, .int x2)] [] h) : ∀ (x3 : Int32) (h : HP), f_X10_goesOn_B2 N x0 x1 x2 rc x3 h = some rr → h.1 = h0.1 → wp x 2 [(3, .int x3), (0, .ref x0), (1, .ref x1), (2, .int x2)] [] h := by
  intro x3 h hq e
  unfold f_X10_goesOn_B2 at hq
  refine wp_iload_n (v := x3) ok dX10_goesOn_2 rfl ?_
  refine wp_iload_n (v := x2) ok dX10_goesOn_3 rfl ?_
  refine wp_icmp_ge (tgt := 18) ok dX10_goesOn_4 (by decide) (fun c1 => ?_) (fun c1 => ?_)
  · have hq := ite_t c1 hq
    exact wp_vret ok hF e (reV hq) dX10_goesOn_18
  · have hq := ite_f c1 hq
    refine wp_aload_n (v := x0) ok dX10_goesOn_7 rfl ?_
    refine wp_aload_n (v := x1) ok dX10_goesOn_8 rfl ?_
    obtain ⟨h2, e3, hq⟩ := bnd_some hq
    refine wp_callVV (As := [.ref x1]) (rest := []) (h1 := h2) ok (m_X10_monthGoes e3 (Nat.le_refl _)) my_X10_monthGoes (w_1343) pd_X10_monthGoes (Nat.le_trans (by decide) hfr) rfl (ci := 10) rfl (by decide) (sh_of e f_x0) rfl rfl rfl dX10_goesOn_9 (fun e4 => ?_)
    have e5 : h2.1 = h0.1 := (e4).trans e
    obtain ⟨v6, e7, hq⟩ := lt_some hq
    refine wp_iinc (v := x3) (w := 1) (L' := [(3, .int v6), (0, .ref x0), (1, .ref x1), (2, .int x2)]) ok dX10_goesOn_12 rfl (by decide) rfl (by rw [← e7]; rfl) ?_
    refine wp_goto (tgt := 2) ok dX10_goesOn_15 (by decide) ?_
    refine wp_sub (L' := [(3, .int v6), (0, .ref x0), (1, .ref x1), (2, .int x2)]) [0, 1, 2, 3] rfl ?_
    exact ih v6 h2 hq e5
set_option maxHeartbeats 4000000 in
set_option maxRecDepth 100000 in
theorem l_X10_goesOn_B2 {x : Cx} {h0 : HP} {N fr : Nat} {rr : HP} (ok : Okx x cX10_goesOn yX10_goesOn.cls 4 fr) (hfr : 2 ≤ fr)  {x0 : Nat} {x1 : Nat} {x2 : Int32} {n_x0 : Nat} (f_x0 : h0.1[x0]? = some (10, n_x0)) {n_x1 : Nat} (f_x1 : h0.1[x1]? = some (102, n_x1)) (hF : Fend x h0 none (QV rr)) : ∀ (n : Nat) (x3 : Int32) (h : HP), lp (fun _ _ => none) (f_X10_goesOn_B2 N x0 x1 x2) n x3 h = some rr → h.1 = h0.1 → wp x 2 [(3, .int x3), (0, .ref x0), (1, .ref x1), (2, .int x2)] [] h := by
  intro n
  induction n with
  | zero => intro x3 h hq e; exact (Option.some_ne_none _ hq.symm).elim
  | succ n ih => exact s_X10_goesOn_B2 ok hfr f_x0 f_x1 hF  ih
set_option maxHeartbeats 4000000 in
set_option maxRecDepth 100000 in
theorem m_X10_goesOn {l : Launch} {h : HP} {N : Nat} {x0 : Nat} {x1 : Nat} {x2 : Int32} {rr : HP} {fr : Nat} (hq : f_X10_goesOn N h x0 x1 x2 = some rr) (hfr : 2 ≤ fr) : Mt l yX10_goesOn cX10_goesOn 4 none fr [.ref x0, .ref x1, .int x2] h (QV rr) := by
  refine Mt.of (by decide +kernel) (Nat.le_of_ble_eq_true rfl) (fun x hl ok hF => ?_)
  subst hl
  show wp x 0 [(0, .ref x0), (1, .ref x1), (2, .int x2)] [] h
  unfold f_X10_goesOn at hq
  obtain ⟨h0, eh0⟩ : ∃ h0 : HP, h = h0 := ⟨h, rfl⟩
  have e : h.1 = h0.1 := by rw [eh0]
  rw [eh0] at hF
  obtain ⟨g_x0, hq⟩ := gP_some hq
  obtain ⟨n_x0, f_x0⟩ := kO_some g_x0
  replace f_x0 := sh_of e.symm f_x0
  obtain ⟨g_x1, hq⟩ := gP_some hq
  obtain ⟨n_x1, f_x1⟩ := kO_some g_x1
  replace f_x1 := sh_of e.symm f_x1
  refine wp_iconst (v := 0) ok dX10_goesOn_0 (by decide) ?_
  refine wp_istore_n (L' := [(3, .int 0), (0, .ref x0), (1, .ref x1), (2, .int x2)]) ok dX10_goesOn_1 rfl rfl ?_
  refine wp_sub (L' := [(3, .int 0), (0, .ref x0), (1, .ref x1), (2, .int x2)]) [0, 1, 2, 3] rfl ?_
  refine l_X10_goesOn_B2 ok hfr f_x0 f_x1 hF  N 0 h hq e
set_option maxHeartbeats 4000000 in
set_option maxRecDepth 100000 in
theorem m_X10_isSome {l : Launch} {h : HP} {x0 : Int32} {rr : Int32} {fr : Nat} (hq : f_X10_isSome x0 = some rr) (hfr : 1 ≤ fr) : Mt l yX10_isSome cX10_isSome 1 (some (.boolean)) fr [.int x0] h (QI rr h) := by
  refine Mt.of (by decide +kernel) (Nat.le_of_ble_eq_true rfl) (fun x hl ok hF => ?_)
  subst hl
  show wp x 0 [(0, .int x0)] [] h
  unfold f_X10_isSome at hq
  refine wp_iload_n (v := x0) ok dX10_isSome_0 rfl ?_
  refine wp_i2l ok dX10_isSome_1 ?_
  refine wp_lconst (v := 1) ok dX10_isSome_2 (by decide) ?_
  refine wp_ldc2 (v := 9999) ok (w_1365) dX10_isSome_3 ?_
  obtain ⟨v1, e2, hq⟩ := bnd_some hq
  refine wp_callSI (As := [.long (x0.toInt64), .long 1, .long 9999]) (rest := []) (h1 := h) ok (m_X10_in e2 (Nat.le_refl _)) my_X10_in (w_1200) pd_X10_in (Nat.le_trans (by decide) hfr) rfl rfl rfl rfl dX10_isSome_6 (fun e3 => ?_)
  obtain ⟨g4, hq⟩ := gP_some hq
  exact wp_iret ok hF (nb_z g4) rfl (re1I hq) dX10_isSome_9
set_option maxHeartbeats 4000000 in
set_option maxRecDepth 100000 in
theorem m_X10_laysBy {l : Launch} {h : HP} {x0 : Nat} {x1 : Int32} {x2 : Int32} {x3 : Int32} {rr : Int32} {rh : HP} {fr : Nat} (hq : f_X10_laysBy h x0 x1 x2 x3 = some (rr, rh)) (hfr : 2 ≤ fr) : Mt l yX10_laysBy cX10_laysBy 5 (some (.int)) fr [.ref x0, .int x1, .int x2, .int x3] h (QI rr rh) := by
  obtain ⟨rp, ep⟩ : ∃ rp : (Int32 × HP), rp = (rr, rh) := ⟨_, rfl⟩
  have e1p : rr = rp.1 := (congrArg Prod.fst ep).symm
  have e2p : rh = rp.2 := (congrArg Prod.snd ep).symm
  rw [← ep] at hq
  rw [e1p, e2p]
  clear e1p e2p ep
  refine Mt.of (by decide +kernel) (Nat.le_of_ble_eq_true rfl) (fun x hl ok hF => ?_)
  subst hl
  show wp x 0 [(0, .ref x0), (1, .int x1), (2, .int x2), (3, .int x3)] [] h
  unfold f_X10_laysBy at hq
  obtain ⟨h0, eh0⟩ : ∃ h0 : HP, h = h0 := ⟨h, rfl⟩
  have e : h.1 = h0.1 := by rw [eh0]
  rw [eh0] at hF
  obtain ⟨g_x0, hq⟩ := gP_some hq
  obtain ⟨n_x0, f_x0⟩ := kO_some g_x0
  replace f_x0 := sh_of e.symm f_x0
  refine wp_aload_n (v := x0) ok dX10_laysBy_0 rfl ?_
  refine wp_iload_n (v := x1) ok dX10_laysBy_1 rfl ?_
  obtain ⟨v1, e2, hq⟩ := bnd_some hq
  refine wp_callVI (As := [.int x1]) (rest := []) (h1 := h) ok (m_X10_isMarket e2 (Nat.le_refl _)) my_X10_isMarket (w_1288) pd_X10_isMarket (Nat.le_trans (by decide) hfr) rfl (ci := 10) rfl (by decide) (sh_of e f_x0) rfl rfl rfl dX10_laysBy_2 (fun e3 => ?_)
  refine wp_if_eq (tgt := 22) ok dX10_laysBy_5 (by decide) (fun c4 => ?_) (fun c4 => ?_)
  · have hq := ite_t c4 hq
    refine wp_iconst (v := -1) ok dX10_laysBy_22 (by decide) ?_
    exact wp_iret ok hF rfl e (re2I hq) dX10_laysBy_23
  · have hq := ite_f c4 hq
    refine wp_iload_n (v := x2) ok dX10_laysBy_8 rfl ?_
    obtain ⟨v5, e6, hq⟩ := bnd_some hq
    refine wp_callSI (As := [.int x2]) (rest := []) (h1 := h) ok (m_X10_isKind e6 (Nat.le_refl _)) my_X10_isKind (w_1359) pd_X10_isKind (Nat.le_trans (by decide) hfr) rfl rfl rfl rfl dX10_laysBy_9 (fun e7 => ?_)
    refine wp_if_eq (tgt := 22) ok dX10_laysBy_12 (by decide) (fun c8 => ?_) (fun c8 => ?_)
    · have hq := ite_t c8 hq
      refine wp_iconst (v := -1) ok dX10_laysBy_22 (by decide) ?_
      exact wp_iret ok hF rfl e (re2I hq) dX10_laysBy_23
    · have hq := ite_f c8 hq
      refine wp_iload_n (v := x3) ok dX10_laysBy_15 rfl ?_
      obtain ⟨v9, e10, hq⟩ := bnd_some hq
      refine wp_callSI (As := [.int x3]) (rest := []) (h1 := h) ok (m_X10_isSome e10 (Nat.le_refl _)) my_X10_isSome (w_1362) pd_X10_isSome (Nat.le_trans (by decide) hfr) rfl rfl rfl rfl dX10_laysBy_16 (fun e11 => ?_)
      refine wp_if_ne (tgt := 24) ok dX10_laysBy_19 (by decide) (fun c12 => ?_) (fun c12 => ?_)
      · have hq := ite_f c12 hq
        refine wp_iload_n (v := x2) ok dX10_laysBy_24 rfl ?_
        refine wp_iload_n (v := x1) ok dX10_laysBy_25 rfl ?_
        obtain ⟨v13, e14, hq⟩ := bnd_some hq
        refine wp_callSI (As := [.int x2, .int x1]) (rest := []) (h1 := h) ok (m_X10_at e14 (Nat.le_refl _)) my_X10_at (w_1301) pd_X10_at (Nat.le_trans (by decide) hfr) rfl rfl rfl rfl dX10_laysBy_26 (fun e15 => ?_)
        refine wp_istore (L' := [(4, .int v13), (0, .ref x0), (1, .int x1), (2, .int x2), (3, .int x3)]) ok dX10_laysBy_29 rfl rfl ?_
        refine wp_aload_n (v := x0) ok dX10_laysBy_31 rfl ?_
        obtain ⟨t16, e17, hq⟩ := bnd_some hq
        obtain ⟨e18, n19, f20⟩ := rK_some e17
        replace f20 := sh_of (e).symm f20
        refine wp_getR ok fl_RX10_41 (sh_of e f_x0) e18 dX10_laysBy_32 ?_
        refine wp_iload (v := v13) ok dX10_laysBy_35 rfl ?_
        obtain ⟨g21, hq⟩ := gP_some hq
        refine wp_iald ok (sh_of e f20) (ix_of (sh_of e f20) g21) dX10_laysBy_37 ?_
        refine wp_iload_n (v := x3) ok dX10_laysBy_38 rfl ?_
        refine wp_icmp_ge (tgt := 45) ok dX10_laysBy_39 (by decide) (fun c22 => ?_) (fun c22 => ?_)
        · have hq := ite_t c22 hq
          refine wp_aload_n (v := x0) ok dX10_laysBy_45 rfl ?_
          obtain ⟨t23, e24, hq⟩ := bnd_some hq
          obtain ⟨e25, n26, f27⟩ := rK_some e24
          replace f27 := sh_of (e).symm f27
          refine wp_getR ok fl_RX10_41 (sh_of e f_x0) e25 dX10_laysBy_46 ?_
          refine wp_bipush (v := 12) ok dX10_laysBy_49 (by decide) ?_
          refine wp_iload (v := v13) ok dX10_laysBy_51 rfl ?_
          refine wp_iadd ok dX10_laysBy_53 ?_
          obtain ⟨g28, hq⟩ := gP_some hq
          refine wp_iald ok (sh_of e f27) (ix_of (sh_of e f27) g28) dX10_laysBy_54 ?_
          refine wp_iload_n (v := x3) ok dX10_laysBy_55 rfl ?_
          refine wp_iadd ok dX10_laysBy_56 ?_
          refine wp_ldc (v := 99999) ok (w_1308) dX10_laysBy_57 ?_
          refine wp_icmp_le (tgt := 65) ok dX10_laysBy_59 (by decide) (fun c29 => ?_) (fun c29 => ?_)
          · have hq := ite_t c29 hq
            refine wp_aload_n (v := x0) ok dX10_laysBy_65 rfl ?_
            obtain ⟨t30, e31, hq⟩ := bnd_some hq
            obtain ⟨e32, n33, f34⟩ := rK_some e31
            replace f34 := sh_of (e).symm f34
            refine wp_getR ok fl_RX10_41 (sh_of e f_x0) e32 dX10_laysBy_66 ?_
            refine wp_iload (v := v13) ok dX10_laysBy_69 rfl ?_
            refine wp_dup2 ok dX10_laysBy_71 rfl rfl ?_
            obtain ⟨g35, hq⟩ := gP_some hq
            refine wp_iald ok (sh_of e f34) (ix_of (sh_of e f34) g35) dX10_laysBy_72 ?_
            refine wp_iload_n (v := x3) ok dX10_laysBy_73 rfl ?_
            refine wp_isub ok dX10_laysBy_74 ?_
            obtain ⟨g36, hq⟩ := gP_some hq
            refine wp_iast ok (sh_of e f34) (ix_of (sh_of e f34) g36) dX10_laysBy_75 ?_
            obtain ⟨h37, e38, hq⟩ := lt_some hq
            refine wp_nmH e38 ?_
            have e39 : h37.1 = h0.1 := (congrArg Prod.fst e38).trans e
            refine wp_aload_n (v := x0) ok dX10_laysBy_76 rfl ?_
            obtain ⟨t40, e41, hq⟩ := bnd_some hq
            obtain ⟨e42, n43, f44⟩ := rK_some e41
            replace f44 := sh_of (e39).symm f44
            refine wp_getR ok fl_RX10_41 (sh_of e39 f_x0) e42 dX10_laysBy_77 ?_
            refine wp_bipush (v := 12) ok dX10_laysBy_80 (by decide) ?_
            refine wp_iload (v := v13) ok dX10_laysBy_82 rfl ?_
            refine wp_iadd ok dX10_laysBy_84 ?_
            obtain ⟨v45, e46, hq⟩ := lt_some hq
            refine wp_nmI e46 ?_
            refine wp_dup2 ok dX10_laysBy_85 rfl rfl ?_
            obtain ⟨g47, hq⟩ := gP_some hq
            refine wp_iald ok (sh_of e39 f44) (ix_of (sh_of e39 f44) g47) dX10_laysBy_86 ?_
            refine wp_iload_n (v := x3) ok dX10_laysBy_87 rfl ?_
            refine wp_iadd ok dX10_laysBy_88 ?_
            obtain ⟨g48, hq⟩ := gP_some hq
            refine wp_iast ok (sh_of e39 f44) (ix_of (sh_of e39 f44) g48) dX10_laysBy_89 ?_
            obtain ⟨h49, e50, hq⟩ := lt_some hq
            refine wp_nmH e50 ?_
            have e51 : h49.1 = h0.1 := (congrArg Prod.fst e50).trans e39
            refine wp_aload_n (v := x0) ok dX10_laysBy_90 rfl ?_
            obtain ⟨t52, e53, hq⟩ := bnd_some hq
            obtain ⟨e54, n55, f56⟩ := rK_some e53
            replace f56 := sh_of (e51).symm f56
            refine wp_getR ok fl_RX10_41 (sh_of e51 f_x0) e54 dX10_laysBy_91 ?_
            refine wp_bipush (v := 12) ok dX10_laysBy_94 (by decide) ?_
            refine wp_iload (v := v13) ok dX10_laysBy_96 rfl ?_
            refine wp_iadd ok dX10_laysBy_98 ?_
            obtain ⟨g57, hq⟩ := gP_some hq
            refine wp_iald ok (sh_of e51 f56) (ix_of (sh_of e51 f56) g57) dX10_laysBy_99 ?_
            exact wp_iret ok hF rfl e51 (re2I hq) dX10_laysBy_100
          · have hq := ite_f c29 hq
            refine wp_bipush (v := -3) ok dX10_laysBy_62 (by decide) ?_
            exact wp_iret ok hF rfl e (re2I hq) dX10_laysBy_64
        · have hq := ite_f c22 hq
          refine wp_bipush (v := -2) ok dX10_laysBy_42 (by decide) ?_
          exact wp_iret ok hF rfl e (re2I hq) dX10_laysBy_44
      · have hq := ite_t c12 hq
        refine wp_iconst (v := -1) ok dX10_laysBy_22 (by decide) ?_
        exact wp_iret ok hF rfl e (re2I hq) dX10_laysBy_23
set_option maxHeartbeats 4000000 in
set_option maxRecDepth 100000 in
theorem m_X10_spendsOf {l : Launch} {h : HP} {x0 : Nat} {x1 : Int32} {x2 : Int32} {x3 : Int32} {rr : Int32} {rh : HP} {fr : Nat} (hq : f_X10_spendsOf h x0 x1 x2 x3 = some (rr, rh)) (hfr : 2 ≤ fr) : Mt l yX10_spendsOf cX10_spendsOf 5 (some (.int)) fr [.ref x0, .int x1, .int x2, .int x3] h (QI rr rh) := by
  obtain ⟨rp, ep⟩ : ∃ rp : (Int32 × HP), rp = (rr, rh) := ⟨_, rfl⟩
  have e1p : rr = rp.1 := (congrArg Prod.fst ep).symm
  have e2p : rh = rp.2 := (congrArg Prod.snd ep).symm
  rw [← ep] at hq
  rw [e1p, e2p]
  clear e1p e2p ep
  refine Mt.of (by decide +kernel) (Nat.le_of_ble_eq_true rfl) (fun x hl ok hF => ?_)
  subst hl
  show wp x 0 [(0, .ref x0), (1, .int x1), (2, .int x2), (3, .int x3)] [] h
  unfold f_X10_spendsOf at hq
  obtain ⟨h0, eh0⟩ : ∃ h0 : HP, h = h0 := ⟨h, rfl⟩
  have e : h.1 = h0.1 := by rw [eh0]
  rw [eh0] at hF
  obtain ⟨g_x0, hq⟩ := gP_some hq
  obtain ⟨n_x0, f_x0⟩ := kO_some g_x0
  replace f_x0 := sh_of e.symm f_x0
  refine wp_aload_n (v := x0) ok dX10_spendsOf_0 rfl ?_
  refine wp_iload_n (v := x1) ok dX10_spendsOf_1 rfl ?_
  obtain ⟨v1, e2, hq⟩ := bnd_some hq
  refine wp_callVI (As := [.int x1]) (rest := []) (h1 := h) ok (m_X10_isMarket e2 (Nat.le_refl _)) my_X10_isMarket (w_1288) pd_X10_isMarket (Nat.le_trans (by decide) hfr) rfl (ci := 10) rfl (by decide) (sh_of e f_x0) rfl rfl rfl dX10_spendsOf_2 (fun e3 => ?_)
  refine wp_if_eq (tgt := 22) ok dX10_spendsOf_5 (by decide) (fun c4 => ?_) (fun c4 => ?_)
  · have hq := ite_t c4 hq
    refine wp_iconst (v := -1) ok dX10_spendsOf_22 (by decide) ?_
    exact wp_iret ok hF rfl e (re2I hq) dX10_spendsOf_23
  · have hq := ite_f c4 hq
    refine wp_iload_n (v := x2) ok dX10_spendsOf_8 rfl ?_
    obtain ⟨v5, e6, hq⟩ := bnd_some hq
    refine wp_callSI (As := [.int x2]) (rest := []) (h1 := h) ok (m_X10_isKind e6 (Nat.le_refl _)) my_X10_isKind (w_1359) pd_X10_isKind (Nat.le_trans (by decide) hfr) rfl rfl rfl rfl dX10_spendsOf_9 (fun e7 => ?_)
    refine wp_if_eq (tgt := 22) ok dX10_spendsOf_12 (by decide) (fun c8 => ?_) (fun c8 => ?_)
    · have hq := ite_t c8 hq
      refine wp_iconst (v := -1) ok dX10_spendsOf_22 (by decide) ?_
      exact wp_iret ok hF rfl e (re2I hq) dX10_spendsOf_23
    · have hq := ite_f c8 hq
      refine wp_iload_n (v := x3) ok dX10_spendsOf_15 rfl ?_
      obtain ⟨v9, e10, hq⟩ := bnd_some hq
      refine wp_callSI (As := [.int x3]) (rest := []) (h1 := h) ok (m_X10_isSome e10 (Nat.le_refl _)) my_X10_isSome (w_1362) pd_X10_isSome (Nat.le_trans (by decide) hfr) rfl rfl rfl rfl dX10_spendsOf_16 (fun e11 => ?_)
      refine wp_if_ne (tgt := 24) ok dX10_spendsOf_19 (by decide) (fun c12 => ?_) (fun c12 => ?_)
      · have hq := ite_f c12 hq
        refine wp_iload_n (v := x2) ok dX10_spendsOf_24 rfl ?_
        refine wp_iload_n (v := x1) ok dX10_spendsOf_25 rfl ?_
        obtain ⟨v13, e14, hq⟩ := bnd_some hq
        refine wp_callSI (As := [.int x2, .int x1]) (rest := []) (h1 := h) ok (m_X10_at e14 (Nat.le_refl _)) my_X10_at (w_1301) pd_X10_at (Nat.le_trans (by decide) hfr) rfl rfl rfl rfl dX10_spendsOf_26 (fun e15 => ?_)
        refine wp_istore (L' := [(4, .int v13), (0, .ref x0), (1, .int x1), (2, .int x2), (3, .int x3)]) ok dX10_spendsOf_29 rfl rfl ?_
        refine wp_aload_n (v := x0) ok dX10_spendsOf_31 rfl ?_
        obtain ⟨t16, e17, hq⟩ := bnd_some hq
        obtain ⟨e18, n19, f20⟩ := rK_some e17
        replace f20 := sh_of (e).symm f20
        refine wp_getR ok fl_RX10_41 (sh_of e f_x0) e18 dX10_spendsOf_32 ?_
        refine wp_bipush (v := 12) ok dX10_spendsOf_35 (by decide) ?_
        refine wp_iload (v := v13) ok dX10_spendsOf_37 rfl ?_
        refine wp_iadd ok dX10_spendsOf_39 ?_
        obtain ⟨g21, hq⟩ := gP_some hq
        refine wp_iald ok (sh_of e f20) (ix_of (sh_of e f20) g21) dX10_spendsOf_40 ?_
        refine wp_iload_n (v := x3) ok dX10_spendsOf_41 rfl ?_
        refine wp_icmp_ge (tgt := 48) ok dX10_spendsOf_42 (by decide) (fun c22 => ?_) (fun c22 => ?_)
        · have hq := ite_t c22 hq
          refine wp_aload_n (v := x0) ok dX10_spendsOf_48 rfl ?_
          obtain ⟨t23, e24, hq⟩ := bnd_some hq
          obtain ⟨e25, n26, f27⟩ := rK_some e24
          replace f27 := sh_of (e).symm f27
          refine wp_getR ok fl_RX10_41 (sh_of e f_x0) e25 dX10_spendsOf_49 ?_
          refine wp_bipush (v := 12) ok dX10_spendsOf_52 (by decide) ?_
          refine wp_iload (v := v13) ok dX10_spendsOf_54 rfl ?_
          refine wp_iadd ok dX10_spendsOf_56 ?_
          obtain ⟨v28, e29, hq⟩ := lt_some hq
          refine wp_nmI e29 ?_
          refine wp_dup2 ok dX10_spendsOf_57 rfl rfl ?_
          obtain ⟨g30, hq⟩ := gP_some hq
          refine wp_iald ok (sh_of e f27) (ix_of (sh_of e f27) g30) dX10_spendsOf_58 ?_
          refine wp_iload_n (v := x3) ok dX10_spendsOf_59 rfl ?_
          refine wp_isub ok dX10_spendsOf_60 ?_
          obtain ⟨g31, hq⟩ := gP_some hq
          refine wp_iast ok (sh_of e f27) (ix_of (sh_of e f27) g31) dX10_spendsOf_61 ?_
          obtain ⟨h32, e33, hq⟩ := lt_some hq
          refine wp_nmH e33 ?_
          have e34 : h32.1 = h0.1 := (congrArg Prod.fst e33).trans e
          refine wp_aload_n (v := x0) ok dX10_spendsOf_62 rfl ?_
          obtain ⟨t35, e36, hq⟩ := bnd_some hq
          obtain ⟨e37, n38, f39⟩ := rK_some e36
          replace f39 := sh_of (e34).symm f39
          refine wp_getR ok fl_RX10_41 (sh_of e34 f_x0) e37 dX10_spendsOf_63 ?_
          refine wp_iload (v := v13) ok dX10_spendsOf_66 rfl ?_
          refine wp_ldc (v := 99999) ok (w_1308) dX10_spendsOf_68 ?_
          refine wp_aload_n (v := x0) ok dX10_spendsOf_70 rfl ?_
          obtain ⟨t40, e41, hq⟩ := bnd_some hq
          obtain ⟨e42, n43, f44⟩ := rK_some e41
          replace f44 := sh_of (e34).symm f44
          refine wp_getR ok fl_RX10_41 (sh_of e34 f_x0) e42 dX10_spendsOf_71 ?_
          refine wp_iload (v := v13) ok dX10_spendsOf_74 rfl ?_
          obtain ⟨g45, hq⟩ := gP_some hq
          refine wp_iald ok (sh_of e34 f44) (ix_of (sh_of e34 f44) g45) dX10_spendsOf_76 ?_
          refine wp_iload_n (v := x3) ok dX10_spendsOf_77 rfl ?_
          refine wp_iadd ok dX10_spendsOf_78 ?_
          obtain ⟨v46, e47, hq⟩ := bnd_some hq
          refine wp_callSI (As := [.int 99999, .int ((h32.2.1 t40 v13.toNatClampNeg) + x3)]) (rest := [.int v13, .ref t35]) (h1 := h32) ok (m_J9_min_7cf53 e47 (Nat.le_refl _)) my_J9_min_7cf53 (w_1211) pd_J9_min_7cf53 (Nat.le_trans (by decide) hfr) rfl rfl rfl rfl dX10_spendsOf_79 (fun e48 => ?_)
          obtain ⟨g49, hq⟩ := gP_some hq
          refine wp_iast ok (sh_of e34 f39) (ix_of (sh_of e34 f39) g49) dX10_spendsOf_82 ?_
          obtain ⟨h50, e51, hq⟩ := lt_some hq
          refine wp_nmH e51 ?_
          have e52 : h50.1 = h0.1 := (congrArg Prod.fst e51).trans e34
          refine wp_aload_n (v := x0) ok dX10_spendsOf_83 rfl ?_
          obtain ⟨t53, e54, hq⟩ := bnd_some hq
          obtain ⟨e55, n56, f57⟩ := rK_some e54
          replace f57 := sh_of (e52).symm f57
          refine wp_getR ok fl_RX10_41 (sh_of e52 f_x0) e55 dX10_spendsOf_84 ?_
          refine wp_bipush (v := 12) ok dX10_spendsOf_87 (by decide) ?_
          refine wp_iload (v := v13) ok dX10_spendsOf_89 rfl ?_
          refine wp_iadd ok dX10_spendsOf_91 ?_
          obtain ⟨g58, hq⟩ := gP_some hq
          refine wp_iald ok (sh_of e52 f57) (ix_of (sh_of e52 f57) g58) dX10_spendsOf_92 ?_
          exact wp_iret ok hF rfl e52 (re2I hq) dX10_spendsOf_93
        · have hq := ite_f c22 hq
          refine wp_bipush (v := -2) ok dX10_spendsOf_45 (by decide) ?_
          exact wp_iret ok hF rfl e (re2I hq) dX10_spendsOf_47
      · have hq := ite_t c12 hq
        refine wp_iconst (v := -1) ok dX10_spendsOf_22 (by decide) ?_
        exact wp_iret ok hF rfl e (re2I hq) dX10_spendsOf_23
set_option maxHeartbeats 4000000 in
set_option maxRecDepth 100000 in
theorem s_X10_taxesOf_B25 {x : Cx} {h0 : HP} {N fr : Nat} {rr : (Int32 × HP)} (ok : Okx x cX10_taxesOf yX10_taxesOf.cls 6 fr) (hfr : 2 ≤ fr)  {x1 : Nat} {x2 : Int32} {x3 : Int32} {n_x1 : Nat} (f_x1 : h0.1[x1]? = some (102, n_x1)) (hF : Fend x h0 (some (.int)) (QI rr.1 rr.2)) {rc : Int32 → HP → Option (Int32 × HP)} (ih : ∀ (x4 : Int32) (h : HP), rc x4 h = some rr → h.1 = h0.1 → wp x 25 [(4, .int x4), (1, .ref x1), (2, .int x2), (3, .int x3)] [] h) : ∀ (x4 : Int32) (h : HP), f_X10_taxesOf_B25 N x1 x2 x3 rc x4 h = some rr → h.1 = h0.1 → wp x 25 [(4, .int x4), (1, .ref x1), (2, .int x2), (3, .int x3)] [] h := by
  intro x4 h hq e
  unfold f_X10_taxesOf_B25 at hq
  refine wp_iload (v := x4) ok dX10_taxesOf_25 rfl ?_
  refine wp_iconst (v := 1) ok dX10_taxesOf_27 (by decide) ?_
  refine wp_icmp_gt (tgt := 82) ok dX10_taxesOf_28 (by decide) (fun c9 => ?_) (fun c9 => ?_)
  · have hq := ite_t c9 hq
    refine wp_aload_n (v := x1) ok dX10_taxesOf_82 rfl ?_
    refine wp_bipush (v := 26) ok dX10_taxesOf_83 (by decide) ?_
    obtain ⟨g10, hq⟩ := gP_some hq
    refine wp_iald ok (sh_of e f_x1) (ix_of (sh_of e f_x1) g10) dX10_taxesOf_85 ?_
    exact wp_iret ok hF rfl e (re2I hq) dX10_taxesOf_86
  · have hq := ite_f c9 hq
    refine wp_aload_n (v := x1) ok dX10_taxesOf_31 rfl ?_
    refine wp_iload (v := x4) ok dX10_taxesOf_32 rfl ?_
    refine wp_iload_n (v := x2) ok dX10_taxesOf_34 rfl ?_
    obtain ⟨v11, e12, hq⟩ := bnd_some hq
    refine wp_callSI (As := [.int x4, .int x2]) (rest := [.ref x1]) (h1 := h) ok (m_X10_at e12 (Nat.le_refl _)) my_X10_at (w_1301) pd_X10_at (Nat.le_trans (by decide) hfr) rfl rfl rfl rfl dX10_taxesOf_35 (fun e13 => ?_)
    obtain ⟨g14, hq⟩ := gP_some hq
    refine wp_iald ok (sh_of e f_x1) (ix_of (sh_of e f_x1) g14) dX10_taxesOf_38 ?_
    refine wp_iload_n (v := x3) ok dX10_taxesOf_39 rfl ?_
    refine wp_imul ok dX10_taxesOf_40 ?_
    refine wp_bipush (v := 10) ok dX10_taxesOf_41 (by decide) ?_
    refine wp_idiv ok dX10_taxesOf_43 (by decide) ?_
    obtain ⟨v15, e16, hq⟩ := lt_some hq
    refine wp_nmI e16 ?_
    refine wp_istore (L' := [(5, .int v15), (4, .int x4), (1, .ref x1), (2, .int x2), (3, .int x3)]) ok dX10_taxesOf_44 rfl rfl ?_
    refine wp_aload_n (v := x1) ok dX10_taxesOf_46 rfl ?_
    refine wp_iload (v := x4) ok dX10_taxesOf_47 rfl ?_
    refine wp_iload_n (v := x2) ok dX10_taxesOf_49 rfl ?_
    obtain ⟨v17, e18, hq⟩ := bnd_some hq
    refine wp_callSI (As := [.int x4, .int x2]) (rest := [.ref x1]) (h1 := h) ok (m_X10_at e18 (Nat.le_refl _)) my_X10_at (w_1301) pd_X10_at (Nat.le_trans (by decide) hfr) rfl rfl rfl rfl dX10_taxesOf_50 (fun e19 => ?_)
    refine wp_dup2 ok dX10_taxesOf_53 rfl rfl ?_
    obtain ⟨g20, hq⟩ := gP_some hq
    refine wp_iald ok (sh_of e f_x1) (ix_of (sh_of e f_x1) g20) dX10_taxesOf_54 ?_
    refine wp_iload (v := v15) ok dX10_taxesOf_55 rfl ?_
    refine wp_isub ok dX10_taxesOf_57 ?_
    obtain ⟨g21, hq⟩ := gP_some hq
    refine wp_iast ok (sh_of e f_x1) (ix_of (sh_of e f_x1) g21) dX10_taxesOf_58 ?_
    obtain ⟨h22, e23, hq⟩ := lt_some hq
    refine wp_nmH e23 ?_
    have e24 : h22.1 = h0.1 := (congrArg Prod.fst e23).trans e
    refine wp_aload_n (v := x1) ok dX10_taxesOf_59 rfl ?_
    refine wp_bipush (v := 26) ok dX10_taxesOf_60 (by decide) ?_
    refine wp_ldcw (v := 999999) ok (w_1395) dX10_taxesOf_62 ?_
    refine wp_aload_n (v := x1) ok dX10_taxesOf_65 rfl ?_
    refine wp_bipush (v := 26) ok dX10_taxesOf_66 (by decide) ?_
    obtain ⟨g25, hq⟩ := gP_some hq
    refine wp_iald ok (sh_of e24 f_x1) (ix_of (sh_of e24 f_x1) g25) dX10_taxesOf_68 ?_
    refine wp_iload (v := v15) ok dX10_taxesOf_69 rfl ?_
    refine wp_iadd ok dX10_taxesOf_71 ?_
    obtain ⟨v26, e27, hq⟩ := bnd_some hq
    refine wp_callSI (As := [.int 999999, .int ((h22.2.1 x1 (26 : Int32).toNatClampNeg) + v15)]) (rest := [.int 26, .ref x1]) (h1 := h22) ok (m_J9_min_7cf53 e27 (Nat.le_refl _)) my_J9_min_7cf53 (w_1211) pd_J9_min_7cf53 (Nat.le_trans (by decide) hfr) rfl rfl rfl rfl dX10_taxesOf_72 (fun e28 => ?_)
    obtain ⟨g29, hq⟩ := gP_some hq
    refine wp_iast ok (sh_of e24 f_x1) (ix_of (sh_of e24 f_x1) g29) dX10_taxesOf_75 ?_
    obtain ⟨h30, e31, hq⟩ := lt_some hq
    refine wp_nmH e31 ?_
    have e32 : h30.1 = h0.1 := (congrArg Prod.fst e31).trans e24
    obtain ⟨v33, e34, hq⟩ := lt_some hq
    refine wp_iinc (v := x4) (w := 1) (L' := [(4, .int v33), (5, .int v15), (1, .ref x1), (2, .int x2), (3, .int x3)]) ok dX10_taxesOf_76 rfl (by decide) rfl (by rw [← e34]; rfl) ?_
    refine wp_goto (tgt := 25) ok dX10_taxesOf_79 (by decide) ?_
    refine wp_sub (L' := [(4, .int v33), (1, .ref x1), (2, .int x2), (3, .int x3)]) [0, 2, 3, 4] rfl ?_
    exact ih v33 h30 hq e32
