/-! ===== walks ===== -/
set_option maxHeartbeats 4000000 in
set_option maxRecDepth 100000 in
theorem s_X0_become_B2 {x : Cx} {h0 : HP} {N fr : Nat} {rr : HP} (ok : Okx x cX0_become yX0_become.cls 3 fr) (hfr : 1 ≤ fr)  {x0 : Nat} {x1 : Nat} {n_x0 : Nat} (f_x0 : h0.1[x0]? = some (0, n_x0)) {n_x1 : Nat} (f_x1 : h0.1[x1]? = some (0, n_x1)) (hF : Fend x h0 none (QV rr)) {k51 : HP → Option HP} (hk51 : ∀ (h : HP), k51 h = some rr → h.1 = h0.1 → wp x 51 [(0, .ref x0), (1, .ref x1)] [] h) {rc : Int32 → HP → Option HP} (ih : ∀ (x2 : Int32) (h : HP), rc x2 h = some rr → h.1 = h0.1 → wp x 2 [(2, .int x2), (0, .ref x0), (1, .ref x1)] [] h) : ∀ (x2 : Int32) (h : HP), f_X0_become_B2 N x0 x1 k51 rc x2 h = some rr → h.1 = h0.1 → wp x 2 [(2, .int x2), (0, .ref x0), (1, .ref x1)] [] h := by
  intro x2 h hq e
  unfold f_X0_become_B2 at hq
  refine wp_iload_n (v := x2) ok dX0_become_2 rfl ?_
  refine wp_iconst (v := 1) ok dX0_become_3 (by decide) ?_
  refine wp_icmp_gt (tgt := 51) ok dX0_become_4 (by decide) (fun c1 => ?_) (fun c1 => ?_)
  · have hq := ite_t c1 hq
    refine wp_sub (L' := [(0, .ref x0), (1, .ref x1)]) [1, 2] rfl ?_
    exact hk51 h hq e
  · have hq := ite_f c1 hq
    refine wp_aload_n (v := x1) ok dX0_become_7 rfl ?_
    obtain ⟨t2, e3, hq⟩ := bnd_some hq
    obtain ⟨e4, n5, f6⟩ := rK_some e3
    replace f6 := sh_of (e).symm f6
    refine wp_getR ok fl_RX0_11 (sh_of e f_x1) e4 dX0_become_8 ?_
    refine wp_iload_n (v := x2) ok dX0_become_11 rfl ?_
    obtain ⟨g7, hq⟩ := gP_some hq
    obtain ⟨t8, e9, hq⟩ := bnd_some hq
    obtain ⟨e10, n11, f12⟩ := rK_some e9
    replace f12 := sh_of (e).symm f12
    refine wp_aald106 ok (sh_of e f6) (ix_of (sh_of e f6) g7) e10 dX0_become_12 ?_
    refine wp_iconst (v := 0) ok dX0_become_13 (by decide) ?_
    refine wp_aload_n (v := x0) ok dX0_become_14 rfl ?_
    obtain ⟨t13, e14, hq⟩ := bnd_some hq
    obtain ⟨e15, n16, f17⟩ := rK_some e14
    replace f17 := sh_of (e).symm f17
    refine wp_getR ok fl_RX0_11 (sh_of e f_x0) e15 dX0_become_15 ?_
    refine wp_iload_n (v := x2) ok dX0_become_18 rfl ?_
    obtain ⟨g18, hq⟩ := gP_some hq
    obtain ⟨t19, e20, hq⟩ := bnd_some hq
    obtain ⟨e21, n22, f23⟩ := rK_some e20
    replace f23 := sh_of (e).symm f23
    refine wp_aald106 ok (sh_of e f17) (ix_of (sh_of e f17) g18) e21 dX0_become_19 ?_
    refine wp_iconst (v := 0) ok dX0_become_20 (by decide) ?_
    refine wp_bipush (v := 6) ok dX0_become_21 (by decide) ?_
    obtain ⟨g24, hq⟩ := gP_some hq
    refine wp_copyI ok (by omega) (w_514) (sh_of e f12) (sh_of e f23) (cp_of (sh_of e f12) (sh_of e f23) g24) rfl dX0_become_23 ?_
    obtain ⟨h25, e26, hq⟩ := lt_some hq
    refine wp_nmH e26 ?_
    have e27 : h25.1 = h0.1 := (congrArg Prod.fst e26).trans e
    refine wp_aload_n (v := x1) ok dX0_become_26 rfl ?_
    obtain ⟨t28, e29, hq⟩ := bnd_some hq
    obtain ⟨e30, n31, f32⟩ := rK_some e29
    replace f32 := sh_of (e27).symm f32
    refine wp_getR ok fl_RX0_16 (sh_of e27 f_x1) e30 dX0_become_27 ?_
    refine wp_iload_n (v := x2) ok dX0_become_30 rfl ?_
    obtain ⟨g33, hq⟩ := gP_some hq
    obtain ⟨t34, e35, hq⟩ := bnd_some hq
    obtain ⟨e36, n37, f38⟩ := rK_some e35
    replace f38 := sh_of (e27).symm f38
    refine wp_aald106 ok (sh_of e27 f32) (ix_of (sh_of e27 f32) g33) e36 dX0_become_31 ?_
    refine wp_iconst (v := 0) ok dX0_become_32 (by decide) ?_
    refine wp_aload_n (v := x0) ok dX0_become_33 rfl ?_
    obtain ⟨t39, e40, hq⟩ := bnd_some hq
    obtain ⟨e41, n42, f43⟩ := rK_some e40
    replace f43 := sh_of (e27).symm f43
    refine wp_getR ok fl_RX0_16 (sh_of e27 f_x0) e41 dX0_become_34 ?_
    refine wp_iload_n (v := x2) ok dX0_become_37 rfl ?_
    obtain ⟨g44, hq⟩ := gP_some hq
    obtain ⟨t45, e46, hq⟩ := bnd_some hq
    obtain ⟨e47, n48, f49⟩ := rK_some e46
    replace f49 := sh_of (e27).symm f49
    refine wp_aald106 ok (sh_of e27 f43) (ix_of (sh_of e27 f43) g44) e47 dX0_become_38 ?_
    refine wp_iconst (v := 0) ok dX0_become_39 (by decide) ?_
    refine wp_bipush (v := 6) ok dX0_become_40 (by decide) ?_
    obtain ⟨g50, hq⟩ := gP_some hq
    refine wp_copyI ok (by omega) (w_514) (sh_of e27 f38) (sh_of e27 f49) (cp_of (sh_of e27 f38) (sh_of e27 f49) g50) rfl dX0_become_42 ?_
    obtain ⟨h51, e52, hq⟩ := lt_some hq
    refine wp_nmH e52 ?_
    have e53 : h51.1 = h0.1 := (congrArg Prod.fst e52).trans e27
    obtain ⟨v54, e55, hq⟩ := lt_some hq
    refine wp_iinc (v := x2) (w := 1) (L' := [(2, .int v54), (0, .ref x0), (1, .ref x1)]) ok dX0_become_45 rfl (by decide) rfl (by rw [← e55]; rfl) ?_
    refine wp_goto (tgt := 2) ok dX0_become_48 (by decide) ?_
    refine wp_sub (L' := [(2, .int v54), (0, .ref x0), (1, .ref x1)]) [0, 1, 2] rfl ?_
    exact ih v54 h51 hq e53
set_option maxHeartbeats 4000000 in
set_option maxRecDepth 100000 in
theorem l_X0_become_B2 {x : Cx} {h0 : HP} {N fr : Nat} {rr : HP} (ok : Okx x cX0_become yX0_become.cls 3 fr) (hfr : 1 ≤ fr)  {x0 : Nat} {x1 : Nat} {n_x0 : Nat} (f_x0 : h0.1[x0]? = some (0, n_x0)) {n_x1 : Nat} (f_x1 : h0.1[x1]? = some (0, n_x1)) (hF : Fend x h0 none (QV rr)) {k51 : HP → Option HP} (hk51 : ∀ (h : HP), k51 h = some rr → h.1 = h0.1 → wp x 51 [(0, .ref x0), (1, .ref x1)] [] h) : ∀ (n : Nat) (x2 : Int32) (h : HP), lp (fun _ _ => none) (f_X0_become_B2 N x0 x1 k51) n x2 h = some rr → h.1 = h0.1 → wp x 2 [(2, .int x2), (0, .ref x0), (1, .ref x1)] [] h := by
  intro n
  induction n with
  | zero => intro x2 h hq e; exact (Option.some_ne_none _ hq.symm).elim
  | succ n ih => exact s_X0_become_B2 ok hfr f_x0 f_x1 hF hk51 ih
set_option maxHeartbeats 4000000 in
set_option maxRecDepth 100000 in
theorem m_X0_become {l : Launch} {h : HP} {N : Nat} {x0 : Nat} {x1 : Nat} {rr : HP} {fr : Nat} (hq : f_X0_become N h x0 x1 = some rr) (hfr : 1 ≤ fr) : Mt l yX0_become cX0_become 3 none fr [.ref x0, .ref x1] h (QV rr) := by
  refine Mt.of (by decide +kernel) (Nat.le_of_ble_eq_true rfl) (fun x hl ok hF => ?_)
  subst hl
  show wp x 0 [(0, .ref x0), (1, .ref x1)] [] h
  unfold f_X0_become at hq
  obtain ⟨h0, eh0⟩ : ∃ h0 : HP, h = h0 := ⟨h, rfl⟩
  have e : h.1 = h0.1 := by rw [eh0]
  rw [eh0] at hF
  obtain ⟨g_x0, hq⟩ := gP_some hq
  obtain ⟨n_x0, f_x0⟩ := kO_some g_x0
  replace f_x0 := sh_of e.symm f_x0
  obtain ⟨g_x1, hq⟩ := gP_some hq
  obtain ⟨n_x1, f_x1⟩ := kO_some g_x1
  replace f_x1 := sh_of e.symm f_x1
  refine wp_iconst (v := 0) ok dX0_become_0 (by decide) ?_
  refine wp_istore_n (L' := [(2, .int 0), (0, .ref x0), (1, .ref x1)]) ok dX0_become_1 rfl rfl ?_
  refine wp_sub (L' := [(2, .int 0), (0, .ref x0), (1, .ref x1)]) [0, 1, 2] rfl ?_
  refine l_X0_become_B2 ok hfr f_x0 f_x1 hF ?_ N 0 h hq e
  · intro h56 hq e57
    refine wp_aload_n (v := x0) ok dX0_become_51 rfl ?_
    refine wp_aload_n (v := x1) ok dX0_become_52 rfl ?_
    refine wp_getI ok fl_RX0_19 (sh_of e57 f_x1) dX0_become_53 ?_
    refine wp_putI ok flw_RX0_19 (nr_0_2 _) (sh_of e57 f_x0) dX0_become_56 ?_
    obtain ⟨h58, e59, hq⟩ := lt_some hq
    refine wp_nmH e59 ?_
    have e60 : h58.1 = h0.1 := (congrArg Prod.fst e59).trans e57
    refine wp_aload_n (v := x0) ok dX0_become_59 rfl ?_
    refine wp_aload_n (v := x1) ok dX0_become_60 rfl ?_
    refine wp_getI ok fl_RX0_23 (sh_of e60 f_x1) dX0_become_61 ?_
    refine wp_putI ok flw_RX0_23 (nr_0_3 _) (sh_of e60 f_x0) dX0_become_64 ?_
    obtain ⟨h61, e62, hq⟩ := lt_some hq
    refine wp_nmH e62 ?_
    have e63 : h61.1 = h0.1 := (congrArg Prod.fst e62).trans e60
    refine wp_aload_n (v := x0) ok dX0_become_67 rfl ?_
    refine wp_aload_n (v := x1) ok dX0_become_68 rfl ?_
    refine wp_getI ok fl_RX0_26 (sh_of e63 f_x1) dX0_become_69 ?_
    refine wp_putI ok flw_RX0_26 (nr_0_4 _) (sh_of e63 f_x0) dX0_become_72 ?_
    obtain ⟨h64, e65, hq⟩ := lt_some hq
    refine wp_nmH e65 ?_
    have e66 : h64.1 = h0.1 := (congrArg Prod.fst e65).trans e63
    refine wp_aload_n (v := x0) ok dX0_become_75 rfl ?_
    refine wp_aload_n (v := x1) ok dX0_become_76 rfl ?_
    refine wp_getI ok fl_RX0_29 (sh_of e66 f_x1) dX0_become_77 ?_
    refine wp_putI ok flw_RX0_29 (nr_0_5 _) (sh_of e66 f_x0) dX0_become_80 ?_
    obtain ⟨h67, e68, hq⟩ := lt_some hq
    refine wp_nmH e68 ?_
    have e69 : h67.1 = h0.1 := (congrArg Prod.fst e68).trans e66
    refine wp_aload_n (v := x0) ok dX0_become_83 rfl ?_
    refine wp_aload_n (v := x1) ok dX0_become_84 rfl ?_
    refine wp_getI ok fl_RX0_32 (sh_of e69 f_x1) dX0_become_85 ?_
    obtain ⟨g70, hq⟩ := gP_some hq
    refine wp_putI ok flw_RX0_32 (nr_0_6 g70) (sh_of e69 f_x0) dX0_become_88 ?_
    obtain ⟨h71, e72, hq⟩ := lt_some hq
    refine wp_nmH e72 ?_
    have e73 : h71.1 = h0.1 := (congrArg Prod.fst e72).trans e69
    exact wp_vret ok hF e73 (reV hq) dX0_become_91
set_option maxHeartbeats 4000000 in
set_option maxRecDepth 100000 in
theorem m_X0_grow {l : Launch} {h : HP} {x0 : Nat} {rr : HP} {fr : Nat} (hq : f_X0_grow h x0 = some rr) (hfr : 0 ≤ fr) : Mt l yX0_grow cX0_grow 1 none fr [.ref x0] h (QV rr) := by
  refine Mt.of (by decide +kernel) (Nat.le_of_ble_eq_true rfl) (fun x hl ok hF => ?_)
  subst hl
  show wp x 0 [(0, .ref x0)] [] h
  unfold f_X0_grow at hq
  obtain ⟨h0, eh0⟩ : ∃ h0 : HP, h = h0 := ⟨h, rfl⟩
  have e : h.1 = h0.1 := by rw [eh0]
  rw [eh0] at hF
  obtain ⟨g_x0, hq⟩ := gP_some hq
  obtain ⟨n_x0, f_x0⟩ := kO_some g_x0
  replace f_x0 := sh_of e.symm f_x0
  refine wp_aload_n (v := x0) ok dX0_grow_0 rfl ?_
  refine wp_getI ok fl_RX0_19 (sh_of e f_x0) dX0_grow_1 ?_
  refine wp_bipush (v := 6) ok dX0_grow_4 (by decide) ?_
  refine wp_icmp_ge (tgt := 19) ok dX0_grow_6 (by decide) (fun c1 => ?_) (fun c1 => ?_)
  · have hq := ite_t c1 hq
    exact wp_vret ok hF e (reV hq) dX0_grow_19
  · have hq := ite_f c1 hq
    refine wp_aload_n (v := x0) ok dX0_grow_9 rfl ?_
    refine wp_dup ok dX0_grow_10 rfl ?_
    refine wp_getI ok fl_RX0_19 (sh_of e f_x0) dX0_grow_11 ?_
    refine wp_iconst (v := 1) ok dX0_grow_14 (by decide) ?_
    refine wp_iadd ok dX0_grow_15 ?_
    refine wp_putI ok flw_RX0_19 (nr_0_2 _) (sh_of e f_x0) dX0_grow_16 ?_
    obtain ⟨h2, e3, hq⟩ := lt_some hq
    refine wp_nmH e3 ?_
    have e4 : h2.1 = h0.1 := (congrArg Prod.fst e3).trans e
    exact wp_vret ok hF e4 (reV hq) dX0_grow_19
set_option maxHeartbeats 4000000 in
set_option maxRecDepth 100000 in
theorem m_X0_has {l : Launch} {h : HP} {x0 : Nat} {x1 : Int32} {rr : Int32} {fr : Nat} (hq : f_X0_has h x0 x1 = some rr) (hfr : 0 ≤ fr) : Mt l yX0_has cX0_has 2 (some (.boolean)) fr [.ref x0, .int x1] h (QI rr h) := by
  refine Mt.of (by decide +kernel) (Nat.le_of_ble_eq_true rfl) (fun x hl ok hF => ?_)
  subst hl
  show wp x 0 [(0, .ref x0), (1, .int x1)] [] h
  unfold f_X0_has at hq
  obtain ⟨g_x0, hq⟩ := gP_some hq
  obtain ⟨n_x0, f_x0⟩ := kO_some g_x0
  refine wp_iload_n (v := x1) ok dX0_has_0 rfl ?_
  refine wp_if_lt (tgt := 16) ok dX0_has_1 (by decide) (fun c1 => ?_) (fun c1 => ?_)
  · have hq := ite_t c1 hq
    refine wp_iconst (v := 0) ok dX0_has_16 (by decide) ?_
    exact wp_iret ok hF (nb_z (Or.inl rfl)) rfl (re1I hq) dX0_has_17
  · have hq := ite_f c1 hq
    refine wp_iload_n (v := x1) ok dX0_has_4 rfl ?_
    refine wp_aload_n (v := x0) ok dX0_has_5 rfl ?_
    refine wp_getI ok fl_RX0_19 (sh_of rfl f_x0) dX0_has_6 ?_
    refine wp_icmp_ge (tgt := 16) ok dX0_has_9 (by decide) (fun c2 => ?_) (fun c2 => ?_)
    · have hq := ite_t c2 hq
      refine wp_iconst (v := 0) ok dX0_has_16 (by decide) ?_
      exact wp_iret ok hF (nb_z (Or.inl rfl)) rfl (re1I hq) dX0_has_17
    · have hq := ite_f c2 hq
      refine wp_iconst (v := 1) ok dX0_has_12 (by decide) ?_
      refine wp_goto (tgt := 17) ok dX0_has_13 (by decide) ?_
      exact wp_iret ok hF (nb_z (Or.inr rfl)) rfl (re1I hq) dX0_has_17
set_option maxHeartbeats 4000000 in
set_option maxRecDepth 100000 in
theorem m_J9_floorMod_7cf53 {l : Launch} {h : HP} {x0 : Int32} {x1 : Int32} {rr : Int32} {fr : Nat} (hq : f_J9_floorMod_7cf53 x0 x1 = some rr) (hfr : 0 ≤ fr) : Mt l yJ9_floorMod_7cf53 cJ9_floorMod_7cf53 3 (some (.int)) fr [.int x0, .int x1] h (QI rr h) := by
  refine Mt.of (by decide +kernel) (Nat.le_of_ble_eq_true rfl) (fun x hl ok hF => ?_)
  subst hl
  show wp x 0 [(0, .int x0), (1, .int x1)] [] h
  unfold f_J9_floorMod_7cf53 at hq
  refine wp_iload_n (v := x0) ok dJ9_floorMod_7cf53_0 rfl ?_
  refine wp_iload_n (v := x1) ok dJ9_floorMod_7cf53_1 rfl ?_
  obtain ⟨g1, hq⟩ := gP_some hq
  refine wp_irem ok dJ9_floorMod_7cf53_2 g1 ?_
  obtain ⟨v2, e3, hq⟩ := lt_some hq
  refine wp_nmI e3 ?_
  refine wp_istore_n (L' := [(2, .int v2), (0, .int x0), (1, .int x1)]) ok dJ9_floorMod_7cf53_3 rfl rfl ?_
  refine wp_iload_n (v := x0) ok dJ9_floorMod_7cf53_4 rfl ?_
  refine wp_iload_n (v := x1) ok dJ9_floorMod_7cf53_5 rfl ?_
  refine wp_ixor ok dJ9_floorMod_7cf53_6 ?_
  refine wp_if_ge (tgt := 18) ok dJ9_floorMod_7cf53_7 (by decide) (fun c4 => ?_) (fun c4 => ?_)
  · have hq := ite_t c4 hq
    refine wp_iload_n (v := v2) ok dJ9_floorMod_7cf53_18 rfl ?_
    exact wp_iret ok hF rfl rfl (re1I hq) dJ9_floorMod_7cf53_19
  · have hq := ite_f c4 hq
    refine wp_iload_n (v := v2) ok dJ9_floorMod_7cf53_10 rfl ?_
    refine wp_if_eq (tgt := 18) ok dJ9_floorMod_7cf53_11 (by decide) (fun c5 => ?_) (fun c5 => ?_)
    · have hq := ite_t c5 hq
      refine wp_iload_n (v := v2) ok dJ9_floorMod_7cf53_18 rfl ?_
      exact wp_iret ok hF rfl rfl (re1I hq) dJ9_floorMod_7cf53_19
    · have hq := ite_f c5 hq
      refine wp_iload_n (v := v2) ok dJ9_floorMod_7cf53_14 rfl ?_
      refine wp_iload_n (v := x1) ok dJ9_floorMod_7cf53_15 rfl ?_
      refine wp_iadd ok dJ9_floorMod_7cf53_16 ?_
      exact wp_iret ok hF rfl rfl (re1I hq) dJ9_floorMod_7cf53_17
set_option maxHeartbeats 4000000 in
set_option maxRecDepth 100000 in
theorem m_X1_atMonth {l : Launch} {h : HP} {x0 : Nat} {x1 : Int32} {rr : Int32} {fr : Nat} (hq : f_X1_atMonth h x0 x1 = some rr) (hfr : 1 ≤ fr) : Mt l yX1_atMonth cX1_atMonth 2 (some (.int)) fr [.ref x0, .int x1] h (QI rr h) := by
  refine Mt.of (by decide +kernel) (Nat.le_of_ble_eq_true rfl) (fun x hl ok hF => ?_)
  subst hl
  show wp x 0 [(0, .ref x0), (1, .int x1)] [] h
  unfold f_X1_atMonth at hq
  obtain ⟨g_x0, hq⟩ := gP_some hq
  obtain ⟨n_x0, f_x0⟩ := kO_some g_x0
  refine wp_aload_n (v := x0) ok dX1_atMonth_0 rfl ?_
  refine wp_getI ok fl_RX1_18 (sh_of rfl f_x0) dX1_atMonth_1 ?_
  refine wp_if_gt (tgt := 11) ok dX1_atMonth_4 (by decide) (fun c1 => ?_) (fun c1 => ?_)
  · have hq := ite_t c1 hq
    refine wp_iload_n (v := x1) ok dX1_atMonth_11 rfl ?_
    refine wp_aload_n (v := x0) ok dX1_atMonth_12 rfl ?_
    refine wp_getI ok fl_RX1_18 (sh_of rfl f_x0) dX1_atMonth_13 ?_
    obtain ⟨v2, e3, hq⟩ := bnd_some hq
    refine wp_callSI (As := [.int x1, .int (h.2.1 x0 2)]) (rest := []) (h1 := h) ok (m_J9_floorMod_7cf53 e3 (Nat.le_refl _)) my_J9_floorMod_7cf53 (w_527) pd_J9_floorMod_7cf53 (Nat.le_trans (by decide) hfr) rfl rfl rfl rfl dX1_atMonth_16 (fun e4 => ?_)
    exact wp_iret ok hF rfl rfl (re1I hq) dX1_atMonth_19
  · have hq := ite_f c1 hq
    refine wp_iconst (v := 0) ok dX1_atMonth_7 (by decide) ?_
    refine wp_goto (tgt := 19) ok dX1_atMonth_8 (by decide) ?_
    exact wp_iret ok hF rfl rfl (re1I hq) dX1_atMonth_19
set_option maxHeartbeats 4000000 in
set_option maxRecDepth 100000 in
theorem m_X9_isKind {l : Launch} {h : HP} {x0 : Int32} {rr : Int32} {fr : Nat} (hq : f_X9_isKind x0 = some rr) (hfr : 0 ≤ fr) : Mt l yX9_isKind cX9_isKind 1 (some (.boolean)) fr [.int x0] h (QI rr h) := by
  refine Mt.of (by decide +kernel) (Nat.le_of_ble_eq_true rfl) (fun x hl ok hF => ?_)
  subst hl
  show wp x 0 [(0, .int x0)] [] h
  unfold f_X9_isKind at hq
  refine wp_iload_n (v := x0) ok dX9_isKind_0 rfl ?_
  refine wp_if_eq (tgt := 9) ok dX9_isKind_1 (by decide) (fun c1 => ?_) (fun c1 => ?_)
  · have hq := ite_t c1 hq
    refine wp_iconst (v := 1) ok dX9_isKind_9 (by decide) ?_
    refine wp_goto (tgt := 14) ok dX9_isKind_10 (by decide) ?_
    exact wp_iret ok hF (nb_z (Or.inr rfl)) rfl (re1I hq) dX9_isKind_14
  · have hq := ite_f c1 hq
    refine wp_iload_n (v := x0) ok dX9_isKind_4 rfl ?_
    refine wp_iconst (v := 1) ok dX9_isKind_5 (by decide) ?_
    refine wp_icmp_ne (tgt := 13) ok dX9_isKind_6 (by decide) (fun c2 => ?_) (fun c2 => ?_)
    · have hq := ite_f c2 hq
      refine wp_iconst (v := 0) ok dX9_isKind_13 (by decide) ?_
      exact wp_iret ok hF (nb_z (Or.inl rfl)) rfl (re1I hq) dX9_isKind_14
    · have hq := ite_t c2 hq
      refine wp_iconst (v := 1) ok dX9_isKind_9 (by decide) ?_
      refine wp_goto (tgt := 14) ok dX9_isKind_10 (by decide) ?_
      exact wp_iret ok hF (nb_z (Or.inr rfl)) rfl (re1I hq) dX9_isKind_14
set_option maxHeartbeats 4000000 in
set_option maxRecDepth 100000 in
theorem m_J9_min_7cf53 {l : Launch} {h : HP} {x0 : Int32} {x1 : Int32} {rr : Int32} {fr : Nat} (hq : f_J9_min_7cf53 x0 x1 = some rr) (hfr : 0 ≤ fr) : Mt l yJ9_min_7cf53 cJ9_min_7cf53 2 (some (.int)) fr [.int x0, .int x1] h (QI rr h) := by
  refine Mt.of (by decide +kernel) (Nat.le_of_ble_eq_true rfl) (fun x hl ok hF => ?_)
  subst hl
  show wp x 0 [(0, .int x0), (1, .int x1)] [] h
  unfold f_J9_min_7cf53 at hq
  refine wp_iload_n (v := x0) ok dJ9_min_7cf53_0 rfl ?_
  refine wp_iload_n (v := x1) ok dJ9_min_7cf53_1 rfl ?_
  refine wp_icmp_gt (tgt := 9) ok dJ9_min_7cf53_2 (by decide) (fun c1 => ?_) (fun c1 => ?_)
  · have hq := ite_t c1 hq
    refine wp_iload_n (v := x1) ok dJ9_min_7cf53_9 rfl ?_
    exact wp_iret ok hF rfl rfl (re1I hq) dJ9_min_7cf53_10
  · have hq := ite_f c1 hq
    refine wp_iload_n (v := x0) ok dJ9_min_7cf53_5 rfl ?_
    refine wp_goto (tgt := 10) ok dJ9_min_7cf53_6 (by decide) ?_
    exact wp_iret ok hF rfl rfl (re1I hq) dJ9_min_7cf53_10
set_option maxHeartbeats 4000000 in
set_option maxRecDepth 100000 in
theorem m_X0_add {l : Launch} {h : HP} {x0 : Nat} {x1 : Int32} {x2 : Int32} {x3 : Int32} {rr : Int32} {rh : HP} {fr : Nat} (hq : f_X0_add h x0 x1 x2 x3 = some (rr, rh)) (hfr : 1 ≤ fr) : Mt l yX0_add cX0_add 5 (some (.int)) fr [.ref x0, .int x1, .int x2, .int x3] h (QI rr rh) := by
  obtain ⟨rp, ep⟩ : ∃ rp : (Int32 × HP), rp = (rr, rh) := ⟨_, rfl⟩
  have e1p : rr = rp.1 := (congrArg Prod.fst ep).symm
  have e2p : rh = rp.2 := (congrArg Prod.snd ep).symm
  rw [← ep] at hq
  rw [e1p, e2p]
  clear e1p e2p ep
  refine Mt.of (by decide +kernel) (Nat.le_of_ble_eq_true rfl) (fun x hl ok hF => ?_)
  subst hl
  show wp x 0 [(0, .ref x0), (1, .int x1), (2, .int x2), (3, .int x3)] [] h
  unfold f_X0_add at hq
  obtain ⟨h0, eh0⟩ : ∃ h0 : HP, h = h0 := ⟨h, rfl⟩
  have e : h.1 = h0.1 := by rw [eh0]
  rw [eh0] at hF
  obtain ⟨g_x0, hq⟩ := gP_some hq
  obtain ⟨n_x0, f_x0⟩ := kO_some g_x0
  replace f_x0 := sh_of e.symm f_x0
  refine wp_aload_n (v := x0) ok dX0_add_0 rfl ?_
  refine wp_iload_n (v := x1) ok dX0_add_1 rfl ?_
  obtain ⟨v1, e2, hq⟩ := bnd_some hq
  refine wp_callVI (As := [.int x1]) (rest := []) (h1 := h) ok (m_X0_has e2 (Nat.le_refl _)) my_X0_has (w_534) pd_X0_has (Nat.le_trans (by decide) hfr) rfl (ci := 0) rfl (by decide) (sh_of e f_x0) rfl rfl rfl dX0_add_2 (fun e3 => ?_)
  refine wp_if_eq (tgt := 15) ok dX0_add_5 (by decide) (fun c4 => ?_) (fun c4 => ?_)
  · have hq := ite_t c4 hq
    refine wp_iconst (v := 0) ok dX0_add_15 (by decide) ?_
    exact wp_iret ok hF rfl e (re2I hq) dX0_add_16
  · have hq := ite_f c4 hq
    refine wp_iload_n (v := x2) ok dX0_add_8 rfl ?_
    obtain ⟨v5, e6, hq⟩ := bnd_some hq
    refine wp_callNI (As := [.int x2]) (rest := []) (h1 := h) ok (m_X9_isKind e6 (Nat.le_refl _)) my_X9_isKind (nestM_at 6 rfl) pd_X9_isKind (Nat.le_trans (by decide) hfr) rfl rfl rfl rfl dX0_add_9 (fun e7 => ?_)
    refine wp_if_ne (tgt := 17) ok dX0_add_12 (by decide) (fun c8 => ?_) (fun c8 => ?_)
    · have hq := ite_f c8 hq
      refine wp_aload_n (v := x0) ok dX0_add_17 rfl ?_
      obtain ⟨t9, e10, hq⟩ := bnd_some hq
      obtain ⟨e11, n12, f13⟩ := rK_some e10
      replace f13 := sh_of (e).symm f13
      refine wp_getR ok fl_RX0_11 (sh_of e f_x0) e11 dX0_add_18 ?_
      refine wp_iload_n (v := x2) ok dX0_add_21 rfl ?_
      obtain ⟨g14, hq⟩ := gP_some hq
      obtain ⟨t15, e16, hq⟩ := bnd_some hq
      obtain ⟨e17, n18, f19⟩ := rK_some e16
      replace f19 := sh_of (e).symm f19
      refine wp_aald106 ok (sh_of e f13) (ix_of (sh_of e f13) g14) e17 dX0_add_22 ?_
      refine wp_iload_n (v := x1) ok dX0_add_23 rfl ?_
      obtain ⟨g20, hq⟩ := gP_some hq
      refine wp_iald ok (sh_of e f19) (ix_of (sh_of e f19) g20) dX0_add_24 ?_
      obtain ⟨v21, e22, hq⟩ := lt_some hq
      refine wp_nmI e22 ?_
      refine wp_istore (L' := [(4, .int v21), (0, .ref x0), (1, .int x1), (2, .int x2), (3, .int x3)]) ok dX0_add_25 rfl rfl ?_
      refine wp_aload_n (v := x0) ok dX0_add_27 rfl ?_
      obtain ⟨t23, e24, hq⟩ := bnd_some hq
      obtain ⟨e25, n26, f27⟩ := rK_some e24
      replace f27 := sh_of (e).symm f27
      refine wp_getR ok fl_RX0_11 (sh_of e f_x0) e25 dX0_add_28 ?_
      refine wp_iload_n (v := x2) ok dX0_add_31 rfl ?_
      obtain ⟨g28, hq⟩ := gP_some hq
      obtain ⟨t29, e30, hq⟩ := bnd_some hq
      obtain ⟨e31, n32, f33⟩ := rK_some e30
      replace f33 := sh_of (e).symm f33
      refine wp_aald106 ok (sh_of e f27) (ix_of (sh_of e f27) g28) e31 dX0_add_32 ?_
      refine wp_iload_n (v := x1) ok dX0_add_33 rfl ?_
      refine wp_ldc (v := 99999) ok (w_541) dX0_add_34 ?_
      refine wp_iload (v := v21) ok dX0_add_36 rfl ?_
      refine wp_iload_n (v := x3) ok dX0_add_38 rfl ?_
      refine wp_iadd ok dX0_add_39 ?_
      obtain ⟨v34, e35, hq⟩ := bnd_some hq
      refine wp_callSI (As := [.int 99999, .int (v21 + x3)]) (rest := [.int x1, .ref t29]) (h1 := h) ok (m_J9_min_7cf53 e35 (Nat.le_refl _)) my_J9_min_7cf53 (w_542) pd_J9_min_7cf53 (Nat.le_trans (by decide) hfr) rfl rfl rfl rfl dX0_add_40 (fun e36 => ?_)
      obtain ⟨g37, hq⟩ := gP_some hq
      refine wp_iast ok (sh_of e f33) (ix_of (sh_of e f33) g37) dX0_add_43 ?_
      obtain ⟨h38, e39, hq⟩ := lt_some hq
      refine wp_nmH e39 ?_
      have e40 : h38.1 = h0.1 := (congrArg Prod.fst e39).trans e
      refine wp_aload_n (v := x0) ok dX0_add_44 rfl ?_
      obtain ⟨t41, e42, hq⟩ := bnd_some hq
      obtain ⟨e43, n44, f45⟩ := rK_some e42
      replace f45 := sh_of (e40).symm f45
      refine wp_getR ok fl_RX0_11 (sh_of e40 f_x0) e43 dX0_add_45 ?_
      refine wp_iload_n (v := x2) ok dX0_add_48 rfl ?_
      obtain ⟨g46, hq⟩ := gP_some hq
      obtain ⟨t47, e48, hq⟩ := bnd_some hq
      obtain ⟨e49, n50, f51⟩ := rK_some e48
      replace f51 := sh_of (e40).symm f51
      refine wp_aald106 ok (sh_of e40 f45) (ix_of (sh_of e40 f45) g46) e49 dX0_add_49 ?_
      refine wp_iload_n (v := x1) ok dX0_add_50 rfl ?_
      obtain ⟨g52, hq⟩ := gP_some hq
      refine wp_iald ok (sh_of e40 f51) (ix_of (sh_of e40 f51) g52) dX0_add_51 ?_
      refine wp_iload (v := v21) ok dX0_add_52 rfl ?_
      refine wp_isub ok dX0_add_54 ?_
      exact wp_iret ok hF rfl e40 (re2I hq) dX0_add_55
    · have hq := ite_t c8 hq
      refine wp_iconst (v := 0) ok dX0_add_15 (by decide) ?_
      exact wp_iret ok hF rfl e (re2I hq) dX0_add_16
set_option maxHeartbeats 4000000 in
set_option maxRecDepth 100000 in
theorem m_X0_land {l : Launch} {h : HP} {x0 : Nat} {x1 : Nat} {rr : Int32} {rh : HP} {fr : Nat} (hq : f_X0_land h x0 x1 = some (rr, rh)) (hfr : 2 ≤ fr) : Mt l yX0_land cX0_land 3 (some (.int)) fr [.ref x0, .ref x1] h (QI rr rh) := by
  obtain ⟨rp, ep⟩ : ∃ rp : (Int32 × HP), rp = (rr, rh) := ⟨_, rfl⟩
  have e1p : rr = rp.1 := (congrArg Prod.fst ep).symm
  have e2p : rh = rp.2 := (congrArg Prod.snd ep).symm
  rw [← ep] at hq
  rw [e1p, e2p]
  clear e1p e2p ep
  refine Mt.of (by decide +kernel) (Nat.le_of_ble_eq_true rfl) (fun x hl ok hF => ?_)
  subst hl
  show wp x 0 [(0, .ref x0), (1, .ref x1)] [] h
  unfold f_X0_land at hq
  obtain ⟨h0, eh0⟩ : ∃ h0 : HP, h = h0 := ⟨h, rfl⟩
  have e : h.1 = h0.1 := by rw [eh0]
  rw [eh0] at hF
  obtain ⟨g_x0, hq⟩ := gP_some hq
  obtain ⟨n_x0, f_x0⟩ := kO_some g_x0
  replace f_x0 := sh_of e.symm f_x0
  obtain ⟨g_x1, hq⟩ := gP_some hq
  obtain ⟨n_x1, f_x1⟩ := kO_some g_x1
  replace f_x1 := sh_of e.symm f_x1
  refine wp_aload_n (v := x1) ok dX0_land_0 rfl ?_
  refine wp_aload_n (v := x0) ok dX0_land_1 rfl ?_
  refine wp_getI ok fl_RX0_26 (sh_of e f_x0) dX0_land_2 ?_
  obtain ⟨v1, e2, hq⟩ := bnd_some hq
  refine wp_callVI (As := [.int (h.2.1 x0 4)]) (rest := []) (h1 := h) ok (m_X1_atMonth e2 (Nat.le_refl _)) my_X1_atMonth (w_523) pd_X1_atMonth (Nat.le_trans (by decide) hfr) rfl (ci := 1) rfl (by decide) (sh_of e f_x1) rfl rfl rfl dX0_land_5 (fun e3 => ?_)
  refine wp_istore_n (L' := [(2, .int v1), (0, .ref x0), (1, .ref x1)]) ok dX0_land_8 rfl rfl ?_
  refine wp_aload_n (v := x0) ok dX0_land_9 rfl ?_
  refine wp_getI ok fl_RX0_32 (sh_of e f_x0) dX0_land_10 ?_
  refine wp_if_ne (tgt := 33) ok dX0_land_13 (by decide) (fun c4 => ?_) (fun c4 => ?_)
  · have hq := ite_f c4 hq
    refine wp_iconst (v := 0) ok dX0_land_33 (by decide) ?_
    exact wp_iret ok hF rfl e (re2I hq) dX0_land_34
  · have hq := ite_t c4 hq
    refine wp_aload_n (v := x0) ok dX0_land_16 rfl ?_
    refine wp_getI ok fl_RX0_19 (sh_of e f_x0) dX0_land_17 ?_
    refine wp_if_eq (tgt := 33) ok dX0_land_20 (by decide) (fun c5 => ?_) (fun c5 => ?_)
    · have hq := ite_t c5 hq
      refine wp_iconst (v := 0) ok dX0_land_33 (by decide) ?_
      exact wp_iret ok hF rfl e (re2I hq) dX0_land_34
    · have hq := ite_f c5 hq
      refine wp_aload_n (v := x1) ok dX0_land_23 rfl ?_
      obtain ⟨t6, e7, hq⟩ := bnd_some hq
      obtain ⟨e8, n9, f10⟩ := rK_some e7
      replace f10 := sh_of (e).symm f10
      refine wp_getR ok fl_RX0_56 (sh_of e f_x1) e8 dX0_land_24 ?_
      refine wp_iload_n (v := v1) ok dX0_land_27 rfl ?_
      obtain ⟨g11, hq⟩ := gP_some hq
      refine wp_iald ok (sh_of e f10) (ix_of (sh_of e f10) g11) dX0_land_28 ?_
      refine wp_iconst (v := -1) ok dX0_land_29 (by decide) ?_
      refine wp_icmp_ne (tgt := 35) ok dX0_land_30 (by decide) (fun c12 => ?_) (fun c12 => ?_)
      · have hq := ite_f c12 hq
        refine wp_aload_n (v := x0) ok dX0_land_35 rfl ?_
        refine wp_iconst (v := 0) ok dX0_land_36 (by decide) ?_
        refine wp_aload_n (v := x1) ok dX0_land_37 rfl ?_
        obtain ⟨t13, e14, hq⟩ := bnd_some hq
        obtain ⟨e15, n16, f17⟩ := rK_some e14
        replace f17 := sh_of (e).symm f17
        refine wp_getR ok fl_RX0_56 (sh_of e f_x1) e15 dX0_land_38 ?_
        refine wp_iload_n (v := v1) ok dX0_land_41 rfl ?_
        obtain ⟨g18, hq⟩ := gP_some hq
        refine wp_iald ok (sh_of e f17) (ix_of (sh_of e f17) g18) dX0_land_42 ?_
        refine wp_aload_n (v := x1) ok dX0_land_43 rfl ?_
        obtain ⟨t19, e20, hq⟩ := bnd_some hq
        obtain ⟨e21, n22, f23⟩ := rK_some e20
        replace f23 := sh_of (e).symm f23
        refine wp_getR ok fl_RX0_60 (sh_of e f_x1) e21 dX0_land_44 ?_
        refine wp_iload_n (v := v1) ok dX0_land_47 rfl ?_
        obtain ⟨g24, hq⟩ := gP_some hq
        refine wp_iald ok (sh_of e f23) (ix_of (sh_of e f23) g24) dX0_land_48 ?_
        obtain ⟨v25, h27, e26, hq⟩ := bnd2_some hq
        refine wp_callVI (As := [.int 0, .int (h.2.1 t13 v1.toNatClampNeg), .int (h.2.1 t19 v1.toNatClampNeg)]) (rest := []) (h1 := h27) ok (m_X0_add e26 (Nat.le_refl _)) my_X0_add (w_530) pd_X0_add (Nat.le_trans (by decide) hfr) rfl (ci := 0) rfl (by decide) (sh_of e f_x0) rfl rfl rfl dX0_land_49 (fun e28 => ?_)
        have e29 : h27.1 = h0.1 := (e28).trans e
        exact wp_iret ok hF rfl e29 (re2I hq) dX0_land_52
      · have hq := ite_t c12 hq
        refine wp_iconst (v := 0) ok dX0_land_33 (by decide) ?_
        exact wp_iret ok hF rfl e (re2I hq) dX0_land_34
set_option maxHeartbeats 4000000 in
set_option maxRecDepth 100000 in
theorem s_X0_drift_B7 {x : Cx} {h0 : HP} {N fr : Nat} {rr : HP} (ok : Okx x cX0_drift yX0_drift.cls 4 fr) (hfr : 2 ≤ fr)  {x0 : Nat} {x1 : Int32} {n_x0 : Nat} (f_x0 : h0.1[x0]? = some (0, n_x0)) (hF : Fend x h0 none (QV rr)) {rc : Int32 → HP → Option HP} (ih : ∀ (x2 : Int32) (h : HP), rc x2 h = some rr → h.1 = h0.1 → wp x 7 [(2, .int x2), (0, .ref x0), (1, .int x1)] [] h) : ∀ (x2 : Int32) (h : HP), f_X0_drift_B7 N x0 x1 rc x2 h = some rr → h.1 = h0.1 → wp x 7 [(2, .int x2), (0, .ref x0), (1, .int x1)] [] h := by
  intro x2 h hq e
  unfold f_X0_drift_B7 at hq
  refine wp_iload_n (v := x2) ok dX0_drift_7 rfl ?_
  refine wp_if_lt (tgt := 56) ok dX0_drift_8 (by decide) (fun c3 => ?_) (fun c3 => ?_)
  · have hq := ite_t c3 hq
    exact wp_vret ok hF e (reV hq) dX0_drift_56
  · have hq := ite_f c3 hq
    refine wp_aload_n (v := x0) ok dX0_drift_11 rfl ?_
    obtain ⟨t4, e5, hq⟩ := bnd_some hq
    obtain ⟨e6, n7, f8⟩ := rK_some e5
    replace f8 := sh_of (e).symm f8
    refine wp_getR ok fl_RX0_11 (sh_of e f_x0) e6 dX0_drift_12 ?_
    refine wp_iload_n (v := x1) ok dX0_drift_15 rfl ?_
    obtain ⟨g9, hq⟩ := gP_some hq
    obtain ⟨t10, e11, hq⟩ := bnd_some hq
    obtain ⟨e12, n13, f14⟩ := rK_some e11
    replace f14 := sh_of (e).symm f14
    refine wp_aald106 ok (sh_of e f8) (ix_of (sh_of e f8) g9) e12 dX0_drift_16 ?_
    refine wp_iload_n (v := x2) ok dX0_drift_17 rfl ?_
    obtain ⟨g15, hq⟩ := gP_some hq
    refine wp_iald ok (sh_of e f14) (ix_of (sh_of e f14) g15) dX0_drift_18 ?_
    refine wp_aload_n (v := x0) ok dX0_drift_19 rfl ?_
    refine wp_getI ok fl_RX0_23 (sh_of e f_x0) dX0_drift_20 ?_
    refine wp_imul ok dX0_drift_23 ?_
    refine wp_bipush (v := 10) ok dX0_drift_24 (by decide) ?_
    refine wp_idiv ok dX0_drift_26 (by decide) ?_
    obtain ⟨v16, e17, hq⟩ := lt_some hq
    refine wp_nmI e17 ?_
    refine wp_istore_n (L' := [(3, .int v16), (2, .int x2), (0, .ref x0), (1, .int x1)]) ok dX0_drift_27 rfl rfl ?_
    refine wp_aload_n (v := x0) ok dX0_drift_28 rfl ?_
    obtain ⟨t18, e19, hq⟩ := bnd_some hq
    obtain ⟨e20, n21, f22⟩ := rK_some e19
    replace f22 := sh_of (e).symm f22
    refine wp_getR ok fl_RX0_11 (sh_of e f_x0) e20 dX0_drift_29 ?_
    refine wp_iload_n (v := x1) ok dX0_drift_32 rfl ?_
    obtain ⟨g23, hq⟩ := gP_some hq
    obtain ⟨t24, e25, hq⟩ := bnd_some hq
    obtain ⟨e26, n27, f28⟩ := rK_some e25
    replace f28 := sh_of (e).symm f28
    refine wp_aald106 ok (sh_of e f22) (ix_of (sh_of e f22) g23) e26 dX0_drift_33 ?_
    refine wp_iload_n (v := x2) ok dX0_drift_34 rfl ?_
    refine wp_dup2 ok dX0_drift_35 rfl rfl ?_
    obtain ⟨g29, hq⟩ := gP_some hq
    refine wp_iald ok (sh_of e f28) (ix_of (sh_of e f28) g29) dX0_drift_36 ?_
    refine wp_iload_n (v := v16) ok dX0_drift_37 rfl ?_
    refine wp_isub ok dX0_drift_38 ?_
    obtain ⟨g30, hq⟩ := gP_some hq
    refine wp_iast ok (sh_of e f28) (ix_of (sh_of e f28) g30) dX0_drift_39 ?_
    obtain ⟨h31, e32, hq⟩ := lt_some hq
    refine wp_nmH e32 ?_
    have e33 : h31.1 = h0.1 := (congrArg Prod.fst e32).trans e
    refine wp_aload_n (v := x0) ok dX0_drift_40 rfl ?_
    refine wp_iload_n (v := x2) ok dX0_drift_41 rfl ?_
    refine wp_iconst (v := 1) ok dX0_drift_42 (by decide) ?_
    refine wp_iadd ok dX0_drift_43 ?_
    refine wp_iload_n (v := x1) ok dX0_drift_44 rfl ?_
    refine wp_iload_n (v := v16) ok dX0_drift_45 rfl ?_
    obtain ⟨v34, h36, e35, hq⟩ := bnd2_some hq
    refine wp_callVI (As := [.int (x2 + 1), .int x1, .int v16]) (rest := []) (h1 := h36) ok (m_X0_add e35 (Nat.le_refl _)) my_X0_add (w_530) pd_X0_add (Nat.le_trans (by decide) hfr) rfl (ci := 0) rfl (by decide) (sh_of e33 f_x0) rfl rfl rfl dX0_drift_46 (fun e37 => ?_)
    have e38 : h36.1 = h0.1 := (e37).trans e33
    refine wp_pop ok dX0_drift_49 rfl ?_
    obtain ⟨v39, e40, hq⟩ := lt_some hq
    refine wp_iinc (v := x2) (w := (-1)) (L' := [(2, .int v39), (3, .int v16), (0, .ref x0), (1, .int x1)]) ok dX0_drift_50 rfl (by decide) rfl (by rw [← e40]; rfl) ?_
    refine wp_goto (tgt := 7) ok dX0_drift_53 (by decide) ?_
    refine wp_sub (L' := [(2, .int v39), (0, .ref x0), (1, .int x1)]) [0, 2, 3] rfl ?_
    exact ih v39 h36 hq e38
set_option maxHeartbeats 4000000 in
set_option maxRecDepth 100000 in
theorem l_X0_drift_B7 {x : Cx} {h0 : HP} {N fr : Nat} {rr : HP} (ok : Okx x cX0_drift yX0_drift.cls 4 fr) (hfr : 2 ≤ fr)  {x0 : Nat} {x1 : Int32} {n_x0 : Nat} (f_x0 : h0.1[x0]? = some (0, n_x0)) (hF : Fend x h0 none (QV rr)) : ∀ (n : Nat) (x2 : Int32) (h : HP), lp (fun _ _ => none) (f_X0_drift_B7 N x0 x1) n x2 h = some rr → h.1 = h0.1 → wp x 7 [(2, .int x2), (0, .ref x0), (1, .int x1)] [] h := by
  intro n
  induction n with
  | zero => intro x2 h hq e; exact (Option.some_ne_none _ hq.symm).elim
  | succ n ih => exact s_X0_drift_B7 ok hfr f_x0 hF  ih
set_option maxHeartbeats 4000000 in
set_option maxRecDepth 100000 in
theorem m_X0_drift {l : Launch} {h : HP} {N : Nat} {x0 : Nat} {x1 : Int32} {rr : HP} {fr : Nat} (hq : f_X0_drift N h x0 x1 = some rr) (hfr : 2 ≤ fr) : Mt l yX0_drift cX0_drift 4 none fr [.ref x0, .int x1] h (QV rr) := by
  refine Mt.of (by decide +kernel) (Nat.le_of_ble_eq_true rfl) (fun x hl ok hF => ?_)
  subst hl
  show wp x 0 [(0, .ref x0), (1, .int x1)] [] h
  unfold f_X0_drift at hq
  obtain ⟨h0, eh0⟩ : ∃ h0 : HP, h = h0 := ⟨h, rfl⟩
  have e : h.1 = h0.1 := by rw [eh0]
  rw [eh0] at hF
  obtain ⟨g_x0, hq⟩ := gP_some hq
  obtain ⟨n_x0, f_x0⟩ := kO_some g_x0
  replace f_x0 := sh_of e.symm f_x0
  refine wp_aload_n (v := x0) ok dX0_drift_0 rfl ?_
  refine wp_getI ok fl_RX0_19 (sh_of e f_x0) dX0_drift_1 ?_
  refine wp_iconst (v := 2) ok dX0_drift_4 (by decide) ?_
  refine wp_isub ok dX0_drift_5 ?_
  obtain ⟨v1, e2, hq⟩ := lt_some hq
  refine wp_nmI e2 ?_
  refine wp_istore_n (L' := [(2, .int v1), (0, .ref x0), (1, .int x1)]) ok dX0_drift_6 rfl rfl ?_
  refine wp_sub (L' := [(2, .int v1), (0, .ref x0), (1, .int x1)]) [0, 1, 2] rfl ?_
  refine l_X0_drift_B7 ok hfr f_x0 hF  N v1 h hq e
set_option maxHeartbeats 4000000 in
set_option maxRecDepth 100000 in
theorem s_X0_pass_B5 {x : Cx} {h0 : HP} {N fr : Nat} {rr : (Int32 × HP)} (ok : Okx x cX0_pass yX0_pass.cls 5 fr) (hfr : 3 ≤ fr)  {x0 : Nat} {x1 : Nat} {x2 : Int32} {n_x0 : Nat} (f_x0 : h0.1[x0]? = some (0, n_x0)) {n_x1 : Nat} (f_x1 : h0.1[x1]? = some (1, n_x1)) (hF : Fend x h0 (some (.int)) (QI rr.1 rr.2)) {rc : Int32 → Int32 → HP → Option (Int32 × HP)} (ih : ∀ (x3 : Int32) (x4 : Int32) (h : HP), rc x3 x4 h = some rr → h.1 = h0.1 → wp x 5 [(3, .int x3), (4, .int x4), (0, .ref x0), (1, .ref x1), (2, .int x2)] [] h) : ∀ (x3 : Int32) (x4 : Int32) (h : HP), f_X0_pass_B5 N x0 x1 x2 rc x3 x4 h = some rr → h.1 = h0.1 → wp x 5 [(3, .int x3), (4, .int x4), (0, .ref x0), (1, .ref x1), (2, .int x2)] [] h := by
  intro x3 x4 h hq e
  unfold f_X0_pass_B5 at hq
  refine wp_iload (v := x4) ok dX0_pass_5 rfl ?_
  refine wp_iload_n (v := x2) ok dX0_pass_7 rfl ?_
  refine wp_icmp_ge (tgt := 45) ok dX0_pass_8 (by decide) (fun c1 => ?_) (fun c1 => ?_)
  · have hq := ite_t c1 hq
    refine wp_iload_n (v := x3) ok dX0_pass_45 rfl ?_
    exact wp_iret ok hF rfl e (re2I hq) dX0_pass_46
  · have hq := ite_f c1 hq
    refine wp_iload_n (v := x3) ok dX0_pass_11 rfl ?_
    refine wp_aload_n (v := x0) ok dX0_pass_12 rfl ?_
    refine wp_aload_n (v := x1) ok dX0_pass_13 rfl ?_
    obtain ⟨v2, h4, e3, hq⟩ := bnd2_some hq
    refine wp_callVI (As := [.ref x1]) (rest := [.int x3]) (h1 := h4) ok (m_X0_land e3 (Nat.le_refl _)) my_X0_land (w_519) pd_X0_land (Nat.le_trans (by decide) hfr) rfl (ci := 0) rfl (by decide) (sh_of e f_x0) rfl rfl rfl dX0_pass_14 (fun e5 => ?_)
    have e6 : h4.1 = h0.1 := (e5).trans e
    refine wp_iadd ok dX0_pass_17 ?_
    obtain ⟨v7, e8, hq⟩ := lt_some hq
    refine wp_nmI e8 ?_
    refine wp_istore_n (L' := [(3, .int v7), (4, .int x4), (0, .ref x0), (1, .ref x1), (2, .int x2)]) ok dX0_pass_18 rfl rfl ?_
    refine wp_aload_n (v := x0) ok dX0_pass_19 rfl ?_
    refine wp_iconst (v := 0) ok dX0_pass_20 (by decide) ?_
    obtain ⟨h9, e10, hq⟩ := bnd_some hq
    refine wp_callVV (As := [.int 0]) (rest := []) (h1 := h9) ok (m_X0_drift e10 (Nat.le_refl _)) my_X0_drift (w_543) pd_X0_drift (Nat.le_trans (by decide) hfr) rfl (ci := 0) rfl (by decide) (sh_of e6 f_x0) rfl rfl rfl dX0_pass_21 (fun e11 => ?_)
    have e12 : h9.1 = h0.1 := (e11).trans e6
    refine wp_aload_n (v := x0) ok dX0_pass_24 rfl ?_
    refine wp_iconst (v := 1) ok dX0_pass_25 (by decide) ?_
    obtain ⟨h13, e14, hq⟩ := bnd_some hq
    refine wp_callVV (As := [.int 1]) (rest := []) (h1 := h13) ok (m_X0_drift e14 (Nat.le_refl _)) my_X0_drift (w_543) pd_X0_drift (Nat.le_trans (by decide) hfr) rfl (ci := 0) rfl (by decide) (sh_of e12 f_x0) rfl rfl rfl dX0_pass_26 (fun e15 => ?_)
    have e16 : h13.1 = h0.1 := (e15).trans e12
    refine wp_aload_n (v := x0) ok dX0_pass_29 rfl ?_
    refine wp_dup ok dX0_pass_30 rfl ?_
    refine wp_getI ok fl_RX0_26 (sh_of e16 f_x0) dX0_pass_31 ?_
    refine wp_iconst (v := 1) ok dX0_pass_34 (by decide) ?_
    refine wp_iadd ok dX0_pass_35 ?_
    refine wp_putI ok flw_RX0_26 (nr_0_4 _) (sh_of e16 f_x0) dX0_pass_36 ?_
    obtain ⟨h17, e18, hq⟩ := lt_some hq
    refine wp_nmH e18 ?_
    have e19 : h17.1 = h0.1 := (congrArg Prod.fst e18).trans e16
    obtain ⟨v20, e21, hq⟩ := lt_some hq
    refine wp_iinc (v := x4) (w := 1) (L' := [(4, .int v20), (3, .int v7), (0, .ref x0), (1, .ref x1), (2, .int x2)]) ok dX0_pass_39 rfl (by decide) rfl (by rw [← e21]; rfl) ?_
    refine wp_goto (tgt := 5) ok dX0_pass_42 (by decide) ?_
    refine wp_sub (L' := [(3, .int v7), (4, .int v20), (0, .ref x0), (1, .ref x1), (2, .int x2)]) [1, 0, 2, 3, 4] rfl ?_
    exact ih v7 v20 h17 hq e19
set_option maxHeartbeats 4000000 in
set_option maxRecDepth 100000 in
theorem l_X0_pass_B5 {x : Cx} {h0 : HP} {N fr : Nat} {rr : (Int32 × HP)} (ok : Okx x cX0_pass yX0_pass.cls 5 fr) (hfr : 3 ≤ fr)  {x0 : Nat} {x1 : Nat} {x2 : Int32} {n_x0 : Nat} (f_x0 : h0.1[x0]? = some (0, n_x0)) {n_x1 : Nat} (f_x1 : h0.1[x1]? = some (1, n_x1)) (hF : Fend x h0 (some (.int)) (QI rr.1 rr.2)) : ∀ (n : Nat) (x3 : Int32) (x4 : Int32) (h : HP), lp (fun _ _ _ => none) (f_X0_pass_B5 N x0 x1 x2) n x3 x4 h = some rr → h.1 = h0.1 → wp x 5 [(3, .int x3), (4, .int x4), (0, .ref x0), (1, .ref x1), (2, .int x2)] [] h := by
  intro n
  induction n with
  | zero => intro x3 x4 h hq e; exact (Option.some_ne_none _ hq.symm).elim
  | succ n ih => exact s_X0_pass_B5 ok hfr f_x0 f_x1 hF  ih
set_option maxHeartbeats 4000000 in
set_option maxRecDepth 100000 in
theorem m_X0_pass {l : Launch} {h : HP} {N : Nat} {x0 : Nat} {x1 : Nat} {x2 : Int32} {rr : Int32} {rh : HP} {fr : Nat} (hq : f_X0_pass N h x0 x1 x2 = some (rr, rh)) (hfr : 3 ≤ fr) : Mt l yX0_pass cX0_pass 5 (some (.int)) fr [.ref x0, .ref x1, .int x2] h (QI rr rh) := by
  obtain ⟨rp, ep⟩ : ∃ rp : (Int32 × HP), rp = (rr, rh) := ⟨_, rfl⟩
  have e1p : rr = rp.1 := (congrArg Prod.fst ep).symm
  have e2p : rh = rp.2 := (congrArg Prod.snd ep).symm
  rw [← ep] at hq
  rw [e1p, e2p]
  clear e1p e2p ep
  refine Mt.of (by decide +kernel) (Nat.le_of_ble_eq_true rfl) (fun x hl ok hF => ?_)
  subst hl
  show wp x 0 [(0, .ref x0), (1, .ref x1), (2, .int x2)] [] h
  unfold f_X0_pass at hq
  obtain ⟨h0, eh0⟩ : ∃ h0 : HP, h = h0 := ⟨h, rfl⟩
  have e : h.1 = h0.1 := by rw [eh0]
  rw [eh0] at hF
  obtain ⟨g_x0, hq⟩ := gP_some hq
  obtain ⟨n_x0, f_x0⟩ := kO_some g_x0
  replace f_x0 := sh_of e.symm f_x0
  obtain ⟨g_x1, hq⟩ := gP_some hq
  obtain ⟨n_x1, f_x1⟩ := kO_some g_x1
  replace f_x1 := sh_of e.symm f_x1
  refine wp_iconst (v := 0) ok dX0_pass_0 (by decide) ?_
  refine wp_istore_n (L' := [(3, .int 0), (0, .ref x0), (1, .ref x1), (2, .int x2)]) ok dX0_pass_1 rfl rfl ?_
  refine wp_iconst (v := 0) ok dX0_pass_2 (by decide) ?_
  refine wp_istore (L' := [(4, .int 0), (3, .int 0), (0, .ref x0), (1, .ref x1), (2, .int x2)]) ok dX0_pass_3 rfl rfl ?_
  refine wp_sub (L' := [(3, .int 0), (4, .int 0), (0, .ref x0), (1, .ref x1), (2, .int x2)]) [1, 0, 2, 3, 4] rfl ?_
  refine l_X0_pass_B5 ok hfr f_x0 f_x1 hF  N 0 0 h hq e
set_option maxHeartbeats 4000000 in
set_option maxRecDepth 100000 in
theorem m_X9_within {l : Launch} {h : HP} {x0 : Int32} {x1 : Int32} {x2 : Int32} {rr : Int32} {fr : Nat} (hq : f_X9_within x0 x1 x2 = some rr) (hfr : 0 ≤ fr) : Mt l yX9_within cX9_within 3 (some (.boolean)) fr [.int x0, .int x1, .int x2] h (QI rr h) := by
  refine Mt.of (by decide +kernel) (Nat.le_of_ble_eq_true rfl) (fun x hl ok hF => ?_)
  subst hl
  show wp x 0 [(0, .int x0), (1, .int x1), (2, .int x2)] [] h
  unfold f_X9_within at hq
  refine wp_iload_n (v := x0) ok dX9_within_0 rfl ?_
  refine wp_iload_n (v := x1) ok dX9_within_1 rfl ?_
  refine wp_icmp_lt (tgt := 14) ok dX9_within_2 (by decide) (fun c1 => ?_) (fun c1 => ?_)
  · have hq := ite_t c1 hq
    refine wp_iconst (v := 0) ok dX9_within_14 (by decide) ?_
    exact wp_iret ok hF (nb_z (Or.inl rfl)) rfl (re1I hq) dX9_within_15
  · have hq := ite_f c1 hq
    refine wp_iload_n (v := x0) ok dX9_within_5 rfl ?_
    refine wp_iload_n (v := x2) ok dX9_within_6 rfl ?_
    refine wp_icmp_gt (tgt := 14) ok dX9_within_7 (by decide) (fun c2 => ?_) (fun c2 => ?_)
    · have hq := ite_t c2 hq
      refine wp_iconst (v := 0) ok dX9_within_14 (by decide) ?_
      exact wp_iret ok hF (nb_z (Or.inl rfl)) rfl (re1I hq) dX9_within_15
    · have hq := ite_f c2 hq
      refine wp_iconst (v := 1) ok dX9_within_10 (by decide) ?_
      refine wp_goto (tgt := 15) ok dX9_within_11 (by decide) ?_
      exact wp_iret ok hF (nb_z (Or.inr rfl)) rfl (re1I hq) dX9_within_15
set_option maxHeartbeats 4000000 in
set_option maxRecDepth 100000 in
theorem m_X0_mayMove {l : Launch} {h : HP} {x0 : Nat} {x1 : Int32} {x2 : Int32} {x3 : Int32} {rr : Int32} {fr : Nat} (hq : f_X0_mayMove h x0 x1 x2 x3 = some rr) (hfr : 1 ≤ fr) : Mt l yX0_mayMove cX0_mayMove 4 (some (.boolean)) fr [.ref x0, .int x1, .int x2, .int x3] h (QI rr h) := by
  refine Mt.of (by decide +kernel) (Nat.le_of_ble_eq_true rfl) (fun x hl ok hF => ?_)
  subst hl
  show wp x 0 [(0, .ref x0), (1, .int x1), (2, .int x2), (3, .int x3)] [] h
  unfold f_X0_mayMove at hq
  obtain ⟨g_x0, hq⟩ := gP_some hq
  obtain ⟨n_x0, f_x0⟩ := kO_some g_x0
  refine wp_aload_n (v := x0) ok dX0_mayMove_0 rfl ?_
  refine wp_iload_n (v := x1) ok dX0_mayMove_1 rfl ?_
  obtain ⟨v1, e2, hq⟩ := bnd_some hq
  refine wp_callVI (As := [.int x1]) (rest := []) (h1 := h) ok (m_X0_has e2 (Nat.le_refl _)) my_X0_has (w_534) pd_X0_has (Nat.le_trans (by decide) hfr) rfl (ci := 0) rfl (by decide) (sh_of rfl f_x0) rfl rfl rfl dX0_mayMove_2 (fun e3 => ?_)
  refine wp_if_eq (tgt := 30) ok dX0_mayMove_5 (by decide) (fun c4 => ?_) (fun c4 => ?_)
  · have hq := ite_t c4 hq
    refine wp_iconst (v := 0) ok dX0_mayMove_30 (by decide) ?_
    exact wp_iret ok hF (nb_z (Or.inl rfl)) rfl (re1I hq) dX0_mayMove_31
  · have hq := ite_f c4 hq
    refine wp_iload_n (v := x2) ok dX0_mayMove_8 rfl ?_
    obtain ⟨v5, e6, hq⟩ := bnd_some hq
    refine wp_callNI (As := [.int x2]) (rest := []) (h1 := h) ok (m_X9_isKind e6 (Nat.le_refl _)) my_X9_isKind (nestM_at 6 rfl) pd_X9_isKind (Nat.le_trans (by decide) hfr) rfl rfl rfl rfl dX0_mayMove_9 (fun e7 => ?_)
    refine wp_if_eq (tgt := 30) ok dX0_mayMove_12 (by decide) (fun c8 => ?_) (fun c8 => ?_)
    · have hq := ite_t c8 hq
      refine wp_iconst (v := 0) ok dX0_mayMove_30 (by decide) ?_
      exact wp_iret ok hF (nb_z (Or.inl rfl)) rfl (re1I hq) dX0_mayMove_31
    · have hq := ite_f c8 hq
      refine wp_iload_n (v := x3) ok dX0_mayMove_15 rfl ?_
      refine wp_iconst (v := 1) ok dX0_mayMove_16 (by decide) ?_
      refine wp_sipush (v := 9999) ok dX0_mayMove_17 (by decide) ?_
      obtain ⟨v9, e10, hq⟩ := bnd_some hq
      refine wp_callNI (As := [.int x3, .int 1, .int 9999]) (rest := []) (h1 := h) ok (m_X9_within e10 (Nat.le_refl _)) my_X9_within (nestM_at 7 rfl) pd_X9_within (Nat.le_trans (by decide) hfr) rfl rfl rfl rfl dX0_mayMove_20 (fun e11 => ?_)
      refine wp_if_eq (tgt := 30) ok dX0_mayMove_23 (by decide) (fun c12 => ?_) (fun c12 => ?_)
      · have hq := ite_t c12 hq
        refine wp_iconst (v := 0) ok dX0_mayMove_30 (by decide) ?_
        exact wp_iret ok hF (nb_z (Or.inl rfl)) rfl (re1I hq) dX0_mayMove_31
      · have hq := ite_f c12 hq
        refine wp_iconst (v := 1) ok dX0_mayMove_26 (by decide) ?_
        refine wp_goto (tgt := 31) ok dX0_mayMove_27 (by decide) ?_
        exact wp_iret ok hF (nb_z (Or.inr rfl)) rfl (re1I hq) dX0_mayMove_31
set_option maxHeartbeats 4000000 in
set_option maxRecDepth 100000 in
theorem m_X0_bring {l : Launch} {h : HP} {x0 : Nat} {x1 : Int32} {x2 : Int32} {x3 : Int32} {rr : Int32} {rh : HP} {fr : Nat} (hq : f_X0_bring h x0 x1 x2 x3 = some (rr, rh)) (hfr : 2 ≤ fr) : Mt l yX0_bring cX0_bring 4 (some (.int)) fr [.ref x0, .int x1, .int x2, .int x3] h (QI rr rh) := by
  obtain ⟨rp, ep⟩ : ∃ rp : (Int32 × HP), rp = (rr, rh) := ⟨_, rfl⟩
  have e1p : rr = rp.1 := (congrArg Prod.fst ep).symm
  have e2p : rh = rp.2 := (congrArg Prod.snd ep).symm
  rw [← ep] at hq
  rw [e1p, e2p]
  clear e1p e2p ep
  refine Mt.of (by decide +kernel) (Nat.le_of_ble_eq_true rfl) (fun x hl ok hF => ?_)
  subst hl
  show wp x 0 [(0, .ref x0), (1, .int x1), (2, .int x2), (3, .int x3)] [] h
  unfold f_X0_bring at hq
  obtain ⟨h0, eh0⟩ : ∃ h0 : HP, h = h0 := ⟨h, rfl⟩
  have e : h.1 = h0.1 := by rw [eh0]
  rw [eh0] at hF
  obtain ⟨g_x0, hq⟩ := gP_some hq
  obtain ⟨n_x0, f_x0⟩ := kO_some g_x0
  replace f_x0 := sh_of e.symm f_x0
  refine wp_aload_n (v := x0) ok dX0_bring_0 rfl ?_
  refine wp_iload_n (v := x1) ok dX0_bring_1 rfl ?_
  refine wp_iload_n (v := x2) ok dX0_bring_2 rfl ?_
  refine wp_iload_n (v := x3) ok dX0_bring_3 rfl ?_
  obtain ⟨v1, e2, hq⟩ := bnd_some hq
  refine wp_callVI (As := [.int x1, .int x2, .int x3]) (rest := []) (h1 := h) ok (m_X0_mayMove e2 (Nat.le_refl _)) my_X0_mayMove (w_587) pd_X0_mayMove (Nat.le_trans (by decide) hfr) rfl (ci := 0) rfl (by decide) (sh_of e f_x0) rfl rfl rfl dX0_bring_4 (fun e3 => ?_)
  refine wp_if_ne (tgt := 12) ok dX0_bring_7 (by decide) (fun c4 => ?_) (fun c4 => ?_)
  · have hq := ite_f c4 hq
    refine wp_aload_n (v := x0) ok dX0_bring_12 rfl ?_
    refine wp_iload_n (v := x1) ok dX0_bring_13 rfl ?_
    refine wp_iload_n (v := x2) ok dX0_bring_14 rfl ?_
    refine wp_iload_n (v := x3) ok dX0_bring_15 rfl ?_
    obtain ⟨v5, h7, e6, hq⟩ := bnd2_some hq
    refine wp_callVI (As := [.int x1, .int x2, .int x3]) (rest := []) (h1 := h7) ok (m_X0_add e6 (Nat.le_refl _)) my_X0_add (w_530) pd_X0_add (Nat.le_trans (by decide) hfr) rfl (ci := 0) rfl (by decide) (sh_of e f_x0) rfl rfl rfl dX0_bring_16 (fun e8 => ?_)
    have e9 : h7.1 = h0.1 := (e8).trans e
    refine wp_pop ok dX0_bring_19 rfl ?_
    refine wp_aload_n (v := x0) ok dX0_bring_20 rfl ?_
    obtain ⟨t10, e11, hq⟩ := bnd_some hq
    obtain ⟨e12, n13, f14⟩ := rK_some e11
    replace f14 := sh_of (e9).symm f14
    refine wp_getR ok fl_RX0_11 (sh_of e9 f_x0) e12 dX0_bring_21 ?_
    refine wp_iload_n (v := x2) ok dX0_bring_24 rfl ?_
    obtain ⟨g15, hq⟩ := gP_some hq
    obtain ⟨t16, e17, hq⟩ := bnd_some hq
    obtain ⟨e18, n19, f20⟩ := rK_some e17
    replace f20 := sh_of (e9).symm f20
    refine wp_aald106 ok (sh_of e9 f14) (ix_of (sh_of e9 f14) g15) e18 dX0_bring_25 ?_
    refine wp_iload_n (v := x1) ok dX0_bring_26 rfl ?_
    obtain ⟨g21, hq⟩ := gP_some hq
    refine wp_iald ok (sh_of e9 f20) (ix_of (sh_of e9 f20) g21) dX0_bring_27 ?_
    exact wp_iret ok hF rfl e9 (re2I hq) dX0_bring_28
  · have hq := ite_t c4 hq
    refine wp_iconst (v := -1) ok dX0_bring_10 (by decide) ?_
    exact wp_iret ok hF rfl e (re2I hq) dX0_bring_11
set_option maxHeartbeats 4000000 in
set_option maxRecDepth 100000 in
theorem m_X0_layBy {l : Launch} {h : HP} {x0 : Nat} {x1 : Int32} {x2 : Int32} {x3 : Int32} {rr : Int32} {rh : HP} {fr : Nat} (hq : f_X0_layBy h x0 x1 x2 x3 = some (rr, rh)) (hfr : 2 ≤ fr) : Mt l yX0_layBy cX0_layBy 4 (some (.int)) fr [.ref x0, .int x1, .int x2, .int x3] h (QI rr rh) := by
  obtain ⟨rp, ep⟩ : ∃ rp : (Int32 × HP), rp = (rr, rh) := ⟨_, rfl⟩
  have e1p : rr = rp.1 := (congrArg Prod.fst ep).symm
  have e2p : rh = rp.2 := (congrArg Prod.snd ep).symm
  rw [← ep] at hq
  rw [e1p, e2p]
  clear e1p e2p ep
  refine Mt.of (by decide +kernel) (Nat.le_of_ble_eq_true rfl) (fun x hl ok hF => ?_)
  subst hl
  show wp x 0 [(0, .ref x0), (1, .int x1), (2, .int x2), (3, .int x3)] [] h
  unfold f_X0_layBy at hq
  obtain ⟨h0, eh0⟩ : ∃ h0 : HP, h = h0 := ⟨h, rfl⟩
  have e : h.1 = h0.1 := by rw [eh0]
  rw [eh0] at hF
  obtain ⟨g_x0, hq⟩ := gP_some hq
  obtain ⟨n_x0, f_x0⟩ := kO_some g_x0
  replace f_x0 := sh_of e.symm f_x0
  refine wp_aload_n (v := x0) ok dX0_layBy_0 rfl ?_
  refine wp_iload_n (v := x1) ok dX0_layBy_1 rfl ?_
  refine wp_iload_n (v := x2) ok dX0_layBy_2 rfl ?_
  refine wp_iload_n (v := x3) ok dX0_layBy_3 rfl ?_
  obtain ⟨v1, e2, hq⟩ := bnd_some hq
  refine wp_callVI (As := [.int x1, .int x2, .int x3]) (rest := []) (h1 := h) ok (m_X0_mayMove e2 (Nat.le_refl _)) my_X0_mayMove (w_587) pd_X0_mayMove (Nat.le_trans (by decide) hfr) rfl (ci := 0) rfl (by decide) (sh_of e f_x0) rfl rfl rfl dX0_layBy_4 (fun e3 => ?_)
  refine wp_if_ne (tgt := 12) ok dX0_layBy_7 (by decide) (fun c4 => ?_) (fun c4 => ?_)
  · have hq := ite_f c4 hq
    refine wp_aload_n (v := x0) ok dX0_layBy_12 rfl ?_
    obtain ⟨t5, e6, hq⟩ := bnd_some hq
    obtain ⟨e7, n8, f9⟩ := rK_some e6
    replace f9 := sh_of (e).symm f9
    refine wp_getR ok fl_RX0_11 (sh_of e f_x0) e7 dX0_layBy_13 ?_
    refine wp_iload_n (v := x2) ok dX0_layBy_16 rfl ?_
    obtain ⟨g10, hq⟩ := gP_some hq
    obtain ⟨t11, e12, hq⟩ := bnd_some hq
    obtain ⟨e13, n14, f15⟩ := rK_some e12
    replace f15 := sh_of (e).symm f15
    refine wp_aald106 ok (sh_of e f9) (ix_of (sh_of e f9) g10) e13 dX0_layBy_17 ?_
    refine wp_iload_n (v := x1) ok dX0_layBy_18 rfl ?_
    obtain ⟨g16, hq⟩ := gP_some hq
    refine wp_iald ok (sh_of e f15) (ix_of (sh_of e f15) g16) dX0_layBy_19 ?_
    refine wp_iload_n (v := x3) ok dX0_layBy_20 rfl ?_
    refine wp_icmp_ge (tgt := 27) ok dX0_layBy_21 (by decide) (fun c17 => ?_) (fun c17 => ?_)
    · have hq := ite_t c17 hq
      refine wp_aload_n (v := x0) ok dX0_layBy_27 rfl ?_
      obtain ⟨t18, e19, hq⟩ := bnd_some hq
      obtain ⟨e20, n21, f22⟩ := rK_some e19
      replace f22 := sh_of (e).symm f22
      refine wp_getR ok fl_RX0_16 (sh_of e f_x0) e20 dX0_layBy_28 ?_
      refine wp_iload_n (v := x2) ok dX0_layBy_31 rfl ?_
      obtain ⟨g23, hq⟩ := gP_some hq
      obtain ⟨t24, e25, hq⟩ := bnd_some hq
      obtain ⟨e26, n27, f28⟩ := rK_some e25
      replace f28 := sh_of (e).symm f28
      refine wp_aald106 ok (sh_of e f22) (ix_of (sh_of e f22) g23) e26 dX0_layBy_32 ?_
      refine wp_iload_n (v := x1) ok dX0_layBy_33 rfl ?_
      obtain ⟨g29, hq⟩ := gP_some hq
      refine wp_iald ok (sh_of e f28) (ix_of (sh_of e f28) g29) dX0_layBy_34 ?_
      refine wp_iload_n (v := x3) ok dX0_layBy_35 rfl ?_
      refine wp_iadd ok dX0_layBy_36 ?_
      refine wp_ldc (v := 99999) ok (w_541) dX0_layBy_37 ?_
      refine wp_icmp_le (tgt := 45) ok dX0_layBy_39 (by decide) (fun c30 => ?_) (fun c30 => ?_)
      · have hq := ite_t c30 hq
        refine wp_aload_n (v := x0) ok dX0_layBy_45 rfl ?_
        obtain ⟨t31, e32, hq⟩ := bnd_some hq
        obtain ⟨e33, n34, f35⟩ := rK_some e32
        replace f35 := sh_of (e).symm f35
        refine wp_getR ok fl_RX0_11 (sh_of e f_x0) e33 dX0_layBy_46 ?_
        refine wp_iload_n (v := x2) ok dX0_layBy_49 rfl ?_
        obtain ⟨g36, hq⟩ := gP_some hq
        obtain ⟨t37, e38, hq⟩ := bnd_some hq
        obtain ⟨e39, n40, f41⟩ := rK_some e38
        replace f41 := sh_of (e).symm f41
        refine wp_aald106 ok (sh_of e f35) (ix_of (sh_of e f35) g36) e39 dX0_layBy_50 ?_
        refine wp_iload_n (v := x1) ok dX0_layBy_51 rfl ?_
        refine wp_dup2 ok dX0_layBy_52 rfl rfl ?_
        obtain ⟨g42, hq⟩ := gP_some hq
        refine wp_iald ok (sh_of e f41) (ix_of (sh_of e f41) g42) dX0_layBy_53 ?_
        refine wp_iload_n (v := x3) ok dX0_layBy_54 rfl ?_
        refine wp_isub ok dX0_layBy_55 ?_
        obtain ⟨g43, hq⟩ := gP_some hq
        refine wp_iast ok (sh_of e f41) (ix_of (sh_of e f41) g43) dX0_layBy_56 ?_
        obtain ⟨h44, e45, hq⟩ := lt_some hq
        refine wp_nmH e45 ?_
        have e46 : h44.1 = h0.1 := (congrArg Prod.fst e45).trans e
        refine wp_aload_n (v := x0) ok dX0_layBy_57 rfl ?_
        obtain ⟨t47, e48, hq⟩ := bnd_some hq
        obtain ⟨e49, n50, f51⟩ := rK_some e48
        replace f51 := sh_of (e46).symm f51
        refine wp_getR ok fl_RX0_16 (sh_of e46 f_x0) e49 dX0_layBy_58 ?_
        refine wp_iload_n (v := x2) ok dX0_layBy_61 rfl ?_
        obtain ⟨g52, hq⟩ := gP_some hq
        obtain ⟨t53, e54, hq⟩ := bnd_some hq
        obtain ⟨e55, n56, f57⟩ := rK_some e54
        replace f57 := sh_of (e46).symm f57
        refine wp_aald106 ok (sh_of e46 f51) (ix_of (sh_of e46 f51) g52) e55 dX0_layBy_62 ?_
        refine wp_iload_n (v := x1) ok dX0_layBy_63 rfl ?_
        refine wp_dup2 ok dX0_layBy_64 rfl rfl ?_
        obtain ⟨g58, hq⟩ := gP_some hq
        refine wp_iald ok (sh_of e46 f57) (ix_of (sh_of e46 f57) g58) dX0_layBy_65 ?_
        refine wp_iload_n (v := x3) ok dX0_layBy_66 rfl ?_
        refine wp_iadd ok dX0_layBy_67 ?_
        obtain ⟨g59, hq⟩ := gP_some hq
        refine wp_iast ok (sh_of e46 f57) (ix_of (sh_of e46 f57) g59) dX0_layBy_68 ?_
        obtain ⟨h60, e61, hq⟩ := lt_some hq
        refine wp_nmH e61 ?_
        have e62 : h60.1 = h0.1 := (congrArg Prod.fst e61).trans e46
        refine wp_aload_n (v := x0) ok dX0_layBy_69 rfl ?_
        obtain ⟨t63, e64, hq⟩ := bnd_some hq
        obtain ⟨e65, n66, f67⟩ := rK_some e64
        replace f67 := sh_of (e62).symm f67
        refine wp_getR ok fl_RX0_16 (sh_of e62 f_x0) e65 dX0_layBy_70 ?_
        refine wp_iload_n (v := x2) ok dX0_layBy_73 rfl ?_
        obtain ⟨g68, hq⟩ := gP_some hq
        obtain ⟨t69, e70, hq⟩ := bnd_some hq
        obtain ⟨e71, n72, f73⟩ := rK_some e70
        replace f73 := sh_of (e62).symm f73
        refine wp_aald106 ok (sh_of e62 f67) (ix_of (sh_of e62 f67) g68) e71 dX0_layBy_74 ?_
        refine wp_iload_n (v := x1) ok dX0_layBy_75 rfl ?_
        obtain ⟨g74, hq⟩ := gP_some hq
        refine wp_iald ok (sh_of e62 f73) (ix_of (sh_of e62 f73) g74) dX0_layBy_76 ?_
        exact wp_iret ok hF rfl e62 (re2I hq) dX0_layBy_77
      · have hq := ite_f c30 hq
        refine wp_bipush (v := -3) ok dX0_layBy_42 (by decide) ?_
        exact wp_iret ok hF rfl e (re2I hq) dX0_layBy_44
    · have hq := ite_f c17 hq
      refine wp_bipush (v := -2) ok dX0_layBy_24 (by decide) ?_
      exact wp_iret ok hF rfl e (re2I hq) dX0_layBy_26
  · have hq := ite_t c4 hq
    refine wp_iconst (v := -1) ok dX0_layBy_10 (by decide) ?_
    exact wp_iret ok hF rfl e (re2I hq) dX0_layBy_11
set_option maxHeartbeats 4000000 in
set_option maxRecDepth 100000 in
theorem m_X0_spend {l : Launch} {h : HP} {x0 : Nat} {x1 : Int32} {x2 : Int32} {x3 : Int32} {rr : Int32} {rh : HP} {fr : Nat} (hq : f_X0_spend h x0 x1 x2 x3 = some (rr, rh)) (hfr : 2 ≤ fr) : Mt l yX0_spend cX0_spend 4 (some (.int)) fr [.ref x0, .int x1, .int x2, .int x3] h (QI rr rh) := by
  obtain ⟨rp, ep⟩ : ∃ rp : (Int32 × HP), rp = (rr, rh) := ⟨_, rfl⟩
  have e1p : rr = rp.1 := (congrArg Prod.fst ep).symm
  have e2p : rh = rp.2 := (congrArg Prod.snd ep).symm
  rw [← ep] at hq
  rw [e1p, e2p]
  clear e1p e2p ep
  refine Mt.of (by decide +kernel) (Nat.le_of_ble_eq_true rfl) (fun x hl ok hF => ?_)
  subst hl
  show wp x 0 [(0, .ref x0), (1, .int x1), (2, .int x2), (3, .int x3)] [] h
  unfold f_X0_spend at hq
  obtain ⟨h0, eh0⟩ : ∃ h0 : HP, h = h0 := ⟨h, rfl⟩
  have e : h.1 = h0.1 := by rw [eh0]
  rw [eh0] at hF
  obtain ⟨g_x0, hq⟩ := gP_some hq
  obtain ⟨n_x0, f_x0⟩ := kO_some g_x0
  replace f_x0 := sh_of e.symm f_x0
  refine wp_aload_n (v := x0) ok dX0_spend_0 rfl ?_
  refine wp_iload_n (v := x1) ok dX0_spend_1 rfl ?_
  refine wp_iload_n (v := x2) ok dX0_spend_2 rfl ?_
  refine wp_iload_n (v := x3) ok dX0_spend_3 rfl ?_
  obtain ⟨v1, e2, hq⟩ := bnd_some hq
  refine wp_callVI (As := [.int x1, .int x2, .int x3]) (rest := []) (h1 := h) ok (m_X0_mayMove e2 (Nat.le_refl _)) my_X0_mayMove (w_587) pd_X0_mayMove (Nat.le_trans (by decide) hfr) rfl (ci := 0) rfl (by decide) (sh_of e f_x0) rfl rfl rfl dX0_spend_4 (fun e3 => ?_)
  refine wp_if_ne (tgt := 12) ok dX0_spend_7 (by decide) (fun c4 => ?_) (fun c4 => ?_)
  · have hq := ite_f c4 hq
    refine wp_aload_n (v := x0) ok dX0_spend_12 rfl ?_
    obtain ⟨t5, e6, hq⟩ := bnd_some hq
    obtain ⟨e7, n8, f9⟩ := rK_some e6
    replace f9 := sh_of (e).symm f9
    refine wp_getR ok fl_RX0_16 (sh_of e f_x0) e7 dX0_spend_13 ?_
    refine wp_iload_n (v := x2) ok dX0_spend_16 rfl ?_
    obtain ⟨g10, hq⟩ := gP_some hq
    obtain ⟨t11, e12, hq⟩ := bnd_some hq
    obtain ⟨e13, n14, f15⟩ := rK_some e12
    replace f15 := sh_of (e).symm f15
    refine wp_aald106 ok (sh_of e f9) (ix_of (sh_of e f9) g10) e13 dX0_spend_17 ?_
    refine wp_iload_n (v := x1) ok dX0_spend_18 rfl ?_
    obtain ⟨g16, hq⟩ := gP_some hq
    refine wp_iald ok (sh_of e f15) (ix_of (sh_of e f15) g16) dX0_spend_19 ?_
    refine wp_iload_n (v := x3) ok dX0_spend_20 rfl ?_
    refine wp_icmp_ge (tgt := 27) ok dX0_spend_21 (by decide) (fun c17 => ?_) (fun c17 => ?_)
    · have hq := ite_t c17 hq
      refine wp_aload_n (v := x0) ok dX0_spend_27 rfl ?_
      obtain ⟨t18, e19, hq⟩ := bnd_some hq
      obtain ⟨e20, n21, f22⟩ := rK_some e19
      replace f22 := sh_of (e).symm f22
      refine wp_getR ok fl_RX0_16 (sh_of e f_x0) e20 dX0_spend_28 ?_
      refine wp_iload_n (v := x2) ok dX0_spend_31 rfl ?_
      obtain ⟨g23, hq⟩ := gP_some hq
      obtain ⟨t24, e25, hq⟩ := bnd_some hq
      obtain ⟨e26, n27, f28⟩ := rK_some e25
      replace f28 := sh_of (e).symm f28
      refine wp_aald106 ok (sh_of e f22) (ix_of (sh_of e f22) g23) e26 dX0_spend_32 ?_
      refine wp_iload_n (v := x1) ok dX0_spend_33 rfl ?_
      refine wp_dup2 ok dX0_spend_34 rfl rfl ?_
      obtain ⟨g29, hq⟩ := gP_some hq
      refine wp_iald ok (sh_of e f28) (ix_of (sh_of e f28) g29) dX0_spend_35 ?_
      refine wp_iload_n (v := x3) ok dX0_spend_36 rfl ?_
      refine wp_isub ok dX0_spend_37 ?_
      obtain ⟨g30, hq⟩ := gP_some hq
      refine wp_iast ok (sh_of e f28) (ix_of (sh_of e f28) g30) dX0_spend_38 ?_
      obtain ⟨h31, e32, hq⟩ := lt_some hq
      refine wp_nmH e32 ?_
      have e33 : h31.1 = h0.1 := (congrArg Prod.fst e32).trans e
      refine wp_aload_n (v := x0) ok dX0_spend_39 rfl ?_
      refine wp_iload_n (v := x1) ok dX0_spend_40 rfl ?_
      refine wp_iload_n (v := x2) ok dX0_spend_41 rfl ?_
      refine wp_iload_n (v := x3) ok dX0_spend_42 rfl ?_
      obtain ⟨v34, h36, e35, hq⟩ := bnd2_some hq
      refine wp_callVI (As := [.int x1, .int x2, .int x3]) (rest := []) (h1 := h36) ok (m_X0_add e35 (Nat.le_refl _)) my_X0_add (w_530) pd_X0_add (Nat.le_trans (by decide) hfr) rfl (ci := 0) rfl (by decide) (sh_of e33 f_x0) rfl rfl rfl dX0_spend_43 (fun e37 => ?_)
      have e38 : h36.1 = h0.1 := (e37).trans e33
      refine wp_pop ok dX0_spend_46 rfl ?_
      refine wp_aload_n (v := x0) ok dX0_spend_47 rfl ?_
      obtain ⟨t39, e40, hq⟩ := bnd_some hq
      obtain ⟨e41, n42, f43⟩ := rK_some e40
      replace f43 := sh_of (e38).symm f43
      refine wp_getR ok fl_RX0_16 (sh_of e38 f_x0) e41 dX0_spend_48 ?_
      refine wp_iload_n (v := x2) ok dX0_spend_51 rfl ?_
      obtain ⟨g44, hq⟩ := gP_some hq
      obtain ⟨t45, e46, hq⟩ := bnd_some hq
      obtain ⟨e47, n48, f49⟩ := rK_some e46
      replace f49 := sh_of (e38).symm f49
      refine wp_aald106 ok (sh_of e38 f43) (ix_of (sh_of e38 f43) g44) e47 dX0_spend_52 ?_
      refine wp_iload_n (v := x1) ok dX0_spend_53 rfl ?_
      obtain ⟨g50, hq⟩ := gP_some hq
      refine wp_iald ok (sh_of e38 f49) (ix_of (sh_of e38 f49) g50) dX0_spend_54 ?_
      exact wp_iret ok hF rfl e38 (re2I hq) dX0_spend_55
    · have hq := ite_f c17 hq
      refine wp_bipush (v := -2) ok dX0_spend_24 (by decide) ?_
      exact wp_iret ok hF rfl e (re2I hq) dX0_spend_26
  · have hq := ite_t c4 hq
    refine wp_iconst (v := -1) ok dX0_spend_10 (by decide) ?_
    exact wp_iret ok hF rfl e (re2I hq) dX0_spend_11
set_option maxHeartbeats 4000000 in
set_option maxRecDepth 100000 in
theorem s_X0_tax_B22 {x : Cx} {h0 : HP} {N fr : Nat} {rr : (Int32 × HP)} (ok : Okx x cX0_tax yX0_tax.cls 5 fr) (hfr : 1 ≤ fr)  {x0 : Nat} {x1 : Int32} {x2 : Int32} {n_x0 : Nat} (f_x0 : h0.1[x0]? = some (0, n_x0)) (hF : Fend x h0 (some (.int)) (QI rr.1 rr.2)) {rc : Int32 → HP → Option (Int32 × HP)} (ih : ∀ (x3 : Int32) (h : HP), rc x3 h = some rr → h.1 = h0.1 → wp x 22 [(3, .int x3), (0, .ref x0), (1, .int x1), (2, .int x2)] [] h) : ∀ (x3 : Int32) (h : HP), f_X0_tax_B22 N x0 x1 x2 rc x3 h = some rr → h.1 = h0.1 → wp x 22 [(3, .int x3), (0, .ref x0), (1, .int x1), (2, .int x2)] [] h := by
  intro x3 h hq e
  unfold f_X0_tax_B22 at hq
  refine wp_iload_n (v := x3) ok dX0_tax_22 rfl ?_
  refine wp_iconst (v := 1) ok dX0_tax_23 (by decide) ?_
  refine wp_icmp_gt (tgt := 77) ok dX0_tax_24 (by decide) (fun c9 => ?_) (fun c9 => ?_)
  · have hq := ite_t c9 hq
    refine wp_aload_n (v := x0) ok dX0_tax_77 rfl ?_
    refine wp_getI ok fl_RX0_29 (sh_of e f_x0) dX0_tax_78 ?_
    exact wp_iret ok hF rfl e (re2I hq) dX0_tax_81
  · have hq := ite_f c9 hq
    refine wp_aload_n (v := x0) ok dX0_tax_27 rfl ?_
    obtain ⟨t10, e11, hq⟩ := bnd_some hq
    obtain ⟨e12, n13, f14⟩ := rK_some e11
    replace f14 := sh_of (e).symm f14
    refine wp_getR ok fl_RX0_11 (sh_of e f_x0) e12 dX0_tax_28 ?_
    refine wp_iload_n (v := x3) ok dX0_tax_31 rfl ?_
    obtain ⟨g15, hq⟩ := gP_some hq
    obtain ⟨t16, e17, hq⟩ := bnd_some hq
    obtain ⟨e18, n19, f20⟩ := rK_some e17
    replace f20 := sh_of (e).symm f20
    refine wp_aald106 ok (sh_of e f14) (ix_of (sh_of e f14) g15) e18 dX0_tax_32 ?_
    refine wp_iload_n (v := x1) ok dX0_tax_33 rfl ?_
    obtain ⟨g21, hq⟩ := gP_some hq
    refine wp_iald ok (sh_of e f20) (ix_of (sh_of e f20) g21) dX0_tax_34 ?_
    refine wp_iload_n (v := x2) ok dX0_tax_35 rfl ?_
    refine wp_imul ok dX0_tax_36 ?_
    refine wp_bipush (v := 10) ok dX0_tax_37 (by decide) ?_
    refine wp_idiv ok dX0_tax_39 (by decide) ?_
    obtain ⟨v22, e23, hq⟩ := lt_some hq
    refine wp_nmI e23 ?_
    refine wp_istore (L' := [(4, .int v22), (3, .int x3), (0, .ref x0), (1, .int x1), (2, .int x2)]) ok dX0_tax_40 rfl rfl ?_
    refine wp_aload_n (v := x0) ok dX0_tax_42 rfl ?_
    obtain ⟨t24, e25, hq⟩ := bnd_some hq
    obtain ⟨e26, n27, f28⟩ := rK_some e25
    replace f28 := sh_of (e).symm f28
    refine wp_getR ok fl_RX0_11 (sh_of e f_x0) e26 dX0_tax_43 ?_
    refine wp_iload_n (v := x3) ok dX0_tax_46 rfl ?_
    obtain ⟨g29, hq⟩ := gP_some hq
    obtain ⟨t30, e31, hq⟩ := bnd_some hq
    obtain ⟨e32, n33, f34⟩ := rK_some e31
    replace f34 := sh_of (e).symm f34
    refine wp_aald106 ok (sh_of e f28) (ix_of (sh_of e f28) g29) e32 dX0_tax_47 ?_
    refine wp_iload_n (v := x1) ok dX0_tax_48 rfl ?_
    refine wp_dup2 ok dX0_tax_49 rfl rfl ?_
    obtain ⟨g35, hq⟩ := gP_some hq
    refine wp_iald ok (sh_of e f34) (ix_of (sh_of e f34) g35) dX0_tax_50 ?_
    refine wp_iload (v := v22) ok dX0_tax_51 rfl ?_
    refine wp_isub ok dX0_tax_53 ?_
    obtain ⟨g36, hq⟩ := gP_some hq
    refine wp_iast ok (sh_of e f34) (ix_of (sh_of e f34) g36) dX0_tax_54 ?_
    obtain ⟨h37, e38, hq⟩ := lt_some hq
    refine wp_nmH e38 ?_
    have e39 : h37.1 = h0.1 := (congrArg Prod.fst e38).trans e
    refine wp_aload_n (v := x0) ok dX0_tax_55 rfl ?_
    refine wp_ldc (v := 999999) ok (w_620) dX0_tax_56 ?_
    refine wp_aload_n (v := x0) ok dX0_tax_58 rfl ?_
    refine wp_getI ok fl_RX0_29 (sh_of e39 f_x0) dX0_tax_59 ?_
    refine wp_iload (v := v22) ok dX0_tax_62 rfl ?_
    refine wp_iadd ok dX0_tax_64 ?_
    obtain ⟨v40, e41, hq⟩ := bnd_some hq
    refine wp_callSI (As := [.int 999999, .int ((h37.2.1 x0 5) + v22)]) (rest := [.ref x0]) (h1 := h37) ok (m_J9_min_7cf53 e41 (Nat.le_refl _)) my_J9_min_7cf53 (w_542) pd_J9_min_7cf53 (Nat.le_trans (by decide) hfr) rfl rfl rfl rfl dX0_tax_65 (fun e42 => ?_)
    refine wp_putI ok flw_RX0_29 (nr_0_5 _) (sh_of e39 f_x0) dX0_tax_68 ?_
    obtain ⟨h43, e44, hq⟩ := lt_some hq
    refine wp_nmH e44 ?_
    have e45 : h43.1 = h0.1 := (congrArg Prod.fst e44).trans e39
    obtain ⟨v46, e47, hq⟩ := lt_some hq
    refine wp_iinc (v := x3) (w := 1) (L' := [(3, .int v46), (4, .int v22), (0, .ref x0), (1, .int x1), (2, .int x2)]) ok dX0_tax_71 rfl (by decide) rfl (by rw [← e47]; rfl) ?_
    refine wp_goto (tgt := 22) ok dX0_tax_74 (by decide) ?_
    refine wp_sub (L' := [(3, .int v46), (0, .ref x0), (1, .int x1), (2, .int x2)]) [0, 2, 3, 4] rfl ?_
    exact ih v46 h43 hq e45
set_option maxHeartbeats 4000000 in
set_option maxRecDepth 100000 in
theorem l_X0_tax_B22 {x : Cx} {h0 : HP} {N fr : Nat} {rr : (Int32 × HP)} (ok : Okx x cX0_tax yX0_tax.cls 5 fr) (hfr : 1 ≤ fr)  {x0 : Nat} {x1 : Int32} {x2 : Int32} {n_x0 : Nat} (f_x0 : h0.1[x0]? = some (0, n_x0)) (hF : Fend x h0 (some (.int)) (QI rr.1 rr.2)) : ∀ (n : Nat) (x3 : Int32) (h : HP), lp (fun _ _ => none) (f_X0_tax_B22 N x0 x1 x2) n x3 h = some rr → h.1 = h0.1 → wp x 22 [(3, .int x3), (0, .ref x0), (1, .int x1), (2, .int x2)] [] h := by
  intro n
  induction n with
  | zero => intro x3 h hq e; exact (Option.some_ne_none _ hq.symm).elim
  | succ n ih => exact s_X0_tax_B22 ok hfr f_x0 hF  ih
set_option maxHeartbeats 4000000 in
set_option maxRecDepth 100000 in
theorem m_X0_tax {l : Launch} {h : HP} {N : Nat} {x0 : Nat} {x1 : Int32} {x2 : Int32} {rr : Int32} {rh : HP} {fr : Nat} (hq : f_X0_tax N h x0 x1 x2 = some (rr, rh)) (hfr : 1 ≤ fr) : Mt l yX0_tax cX0_tax 5 (some (.int)) fr [.ref x0, .int x1, .int x2] h (QI rr rh) := by
  obtain ⟨rp, ep⟩ : ∃ rp : (Int32 × HP), rp = (rr, rh) := ⟨_, rfl⟩
  have e1p : rr = rp.1 := (congrArg Prod.fst ep).symm
  have e2p : rh = rp.2 := (congrArg Prod.snd ep).symm
  rw [← ep] at hq
  rw [e1p, e2p]
  clear e1p e2p ep
  refine Mt.of (by decide +kernel) (Nat.le_of_ble_eq_true rfl) (fun x hl ok hF => ?_)
  subst hl
  show wp x 0 [(0, .ref x0), (1, .int x1), (2, .int x2)] [] h
  unfold f_X0_tax at hq
  obtain ⟨h0, eh0⟩ : ∃ h0 : HP, h = h0 := ⟨h, rfl⟩
  have e : h.1 = h0.1 := by rw [eh0]
  rw [eh0] at hF
  obtain ⟨g_x0, hq⟩ := gP_some hq
  obtain ⟨n_x0, f_x0⟩ := kO_some g_x0
  replace f_x0 := sh_of e.symm f_x0
  refine wp_aload_n (v := x0) ok dX0_tax_0 rfl ?_
  refine wp_iload_n (v := x1) ok dX0_tax_1 rfl ?_
  obtain ⟨v1, e2, hq⟩ := bnd_some hq
  refine wp_callVI (As := [.int x1]) (rest := []) (h1 := h) ok (m_X0_has e2 (Nat.le_refl _)) my_X0_has (w_534) pd_X0_has (Nat.le_trans (by decide) hfr) rfl (ci := 0) rfl (by decide) (sh_of e f_x0) rfl rfl rfl dX0_tax_2 (fun e3 => ?_)
  refine wp_if_eq (tgt := 18) ok dX0_tax_5 (by decide) (fun c4 => ?_) (fun c4 => ?_)
  · have hq := ite_t c4 hq
    refine wp_iconst (v := -1) ok dX0_tax_18 (by decide) ?_
    exact wp_iret ok hF rfl e (re2I hq) dX0_tax_19
  · have hq := ite_f c4 hq
    refine wp_iload_n (v := x2) ok dX0_tax_8 rfl ?_
    refine wp_iconst (v := 1) ok dX0_tax_9 (by decide) ?_
    refine wp_bipush (v := 9) ok dX0_tax_10 (by decide) ?_
    obtain ⟨v5, e6, hq⟩ := bnd_some hq
    refine wp_callNI (As := [.int x2, .int 1, .int 9]) (rest := []) (h1 := h) ok (m_X9_within e6 (Nat.le_refl _)) my_X9_within (nestM_at 7 rfl) pd_X9_within (Nat.le_trans (by decide) hfr) rfl rfl rfl rfl dX0_tax_12 (fun e7 => ?_)
    refine wp_if_ne (tgt := 20) ok dX0_tax_15 (by decide) (fun c8 => ?_) (fun c8 => ?_)
    · have hq := ite_f c8 hq
      refine wp_iconst (v := 0) ok dX0_tax_20 (by decide) ?_
      refine wp_istore_n (L' := [(3, .int 0), (0, .ref x0), (1, .int x1), (2, .int x2)]) ok dX0_tax_21 rfl rfl ?_
      refine wp_sub (L' := [(3, .int 0), (0, .ref x0), (1, .int x1), (2, .int x2)]) [0, 1, 2, 3] rfl ?_
      refine l_X0_tax_B22 ok hfr f_x0 hF  N 0 h hq e
    · have hq := ite_t c8 hq
      refine wp_iconst (v := -1) ok dX0_tax_18 (by decide) ?_
      exact wp_iret ok hF rfl e (re2I hq) dX0_tax_19
set_option maxHeartbeats 4000000 in
set_option maxRecDepth 100000 in
theorem m_X0_burn {l : Launch} {h : HP} {x0 : Nat} {x1 : Int32} {rr : Int32} {rh : HP} {fr : Nat} (hq : f_X0_burn h x0 x1 = some (rr, rh)) (hfr : 1 ≤ fr) : Mt l yX0_burn cX0_burn 3 (some (.int)) fr [.ref x0, .int x1] h (QI rr rh) := by
  obtain ⟨rp, ep⟩ : ∃ rp : (Int32 × HP), rp = (rr, rh) := ⟨_, rfl⟩
  have e1p : rr = rp.1 := (congrArg Prod.fst ep).symm
  have e2p : rh = rp.2 := (congrArg Prod.snd ep).symm
  rw [← ep] at hq
  rw [e1p, e2p]
  clear e1p e2p ep
  refine Mt.of (by decide +kernel) (Nat.le_of_ble_eq_true rfl) (fun x hl ok hF => ?_)
  subst hl
  show wp x 0 [(0, .ref x0), (1, .int x1)] [] h
  unfold f_X0_burn at hq
  obtain ⟨h0, eh0⟩ : ∃ h0 : HP, h = h0 := ⟨h, rfl⟩
  have e : h.1 = h0.1 := by rw [eh0]
  rw [eh0] at hF
  obtain ⟨g_x0, hq⟩ := gP_some hq
  obtain ⟨n_x0, f_x0⟩ := kO_some g_x0
  replace f_x0 := sh_of e.symm f_x0
  refine wp_aload_n (v := x0) ok dX0_burn_0 rfl ?_
  refine wp_iload_n (v := x1) ok dX0_burn_1 rfl ?_
  obtain ⟨v1, e2, hq⟩ := bnd_some hq
  refine wp_callVI (As := [.int x1]) (rest := []) (h1 := h) ok (m_X0_has e2 (Nat.le_refl _)) my_X0_has (w_534) pd_X0_has (Nat.le_trans (by decide) hfr) rfl (ci := 0) rfl (by decide) (sh_of e f_x0) rfl rfl rfl dX0_burn_2 (fun e3 => ?_)
  refine wp_if_ne (tgt := 10) ok dX0_burn_5 (by decide) (fun c4 => ?_) (fun c4 => ?_)
  · have hq := ite_f c4 hq
    refine wp_aload_n (v := x0) ok dX0_burn_10 rfl ?_
    obtain ⟨t5, e6, hq⟩ := bnd_some hq
    obtain ⟨e7, n8, f9⟩ := rK_some e6
    replace f9 := sh_of (e).symm f9
    refine wp_getR ok fl_RX0_11 (sh_of e f_x0) e7 dX0_burn_11 ?_
    refine wp_iconst (v := 1) ok dX0_burn_14 (by decide) ?_
    obtain ⟨g10, hq⟩ := gP_some hq
    obtain ⟨t11, e12, hq⟩ := bnd_some hq
    obtain ⟨e13, n14, f15⟩ := rK_some e12
    replace f15 := sh_of (e).symm f15
    refine wp_aald106 ok (sh_of e f9) (ix_of (sh_of e f9) g10) e13 dX0_burn_15 ?_
    refine wp_iload_n (v := x1) ok dX0_burn_16 rfl ?_
    obtain ⟨g16, hq⟩ := gP_some hq
    refine wp_iald ok (sh_of e f15) (ix_of (sh_of e f15) g16) dX0_burn_17 ?_
    obtain ⟨v17, e18, hq⟩ := lt_some hq
    refine wp_nmI e18 ?_
    refine wp_istore_n (L' := [(2, .int v17), (0, .ref x0), (1, .int x1)]) ok dX0_burn_18 rfl rfl ?_
    refine wp_aload_n (v := x0) ok dX0_burn_19 rfl ?_
    obtain ⟨t19, e20, hq⟩ := bnd_some hq
    obtain ⟨e21, n22, f23⟩ := rK_some e20
    replace f23 := sh_of (e).symm f23
    refine wp_getR ok fl_RX0_11 (sh_of e f_x0) e21 dX0_burn_20 ?_
    refine wp_iconst (v := 1) ok dX0_burn_23 (by decide) ?_
    obtain ⟨g24, hq⟩ := gP_some hq
    obtain ⟨t25, e26, hq⟩ := bnd_some hq
    obtain ⟨e27, n28, f29⟩ := rK_some e26
    replace f29 := sh_of (e).symm f29
    refine wp_aald106 ok (sh_of e f23) (ix_of (sh_of e f23) g24) e27 dX0_burn_24 ?_
    refine wp_iload_n (v := x1) ok dX0_burn_25 rfl ?_
    refine wp_iconst (v := 0) ok dX0_burn_26 (by decide) ?_
    obtain ⟨g30, hq⟩ := gP_some hq
    refine wp_iast ok (sh_of e f29) (ix_of (sh_of e f29) g30) dX0_burn_27 ?_
    obtain ⟨h31, e32, hq⟩ := lt_some hq
    refine wp_nmH e32 ?_
    have e33 : h31.1 = h0.1 := (congrArg Prod.fst e32).trans e
    refine wp_iload_n (v := v17) ok dX0_burn_28 rfl ?_
    refine wp_if_ne (tgt := 37) ok dX0_burn_29 (by decide) (fun c34 => ?_) (fun c34 => ?_)
    · have hq := ite_f c34 hq
      refine wp_iload_n (v := v17) ok dX0_burn_37 rfl ?_
      exact wp_iret ok hF rfl e33 (re2I hq) dX0_burn_38
    · have hq := ite_t c34 hq
      refine wp_bipush (v := -2) ok dX0_burn_32 (by decide) ?_
      refine wp_goto (tgt := 38) ok dX0_burn_34 (by decide) ?_
      exact wp_iret ok hF rfl e33 (re2I hq) dX0_burn_38
  · have hq := ite_t c4 hq
    refine wp_iconst (v := -1) ok dX0_burn_8 (by decide) ?_
    exact wp_iret ok hF rfl e (re2I hq) dX0_burn_9
set_option maxHeartbeats 4000000 in
set_option maxRecDepth 100000 in
theorem m_X0_turnPort {l : Launch} {h : HP} {x0 : Nat} {rr : Int32} {rh : HP} {fr : Nat} (hq : f_X0_turnPort h x0 = some (rr, rh)) (hfr : 0 ≤ fr) : Mt l yX0_turnPort cX0_turnPort 1 (some (.int)) fr [.ref x0] h (QI rr rh) := by
  obtain ⟨rp, ep⟩ : ∃ rp : (Int32 × HP), rp = (rr, rh) := ⟨_, rfl⟩
  have e1p : rr = rp.1 := (congrArg Prod.fst ep).symm
  have e2p : rh = rp.2 := (congrArg Prod.snd ep).symm
  rw [← ep] at hq
  rw [e1p, e2p]
  clear e1p e2p ep
  refine Mt.of (by decide +kernel) (Nat.le_of_ble_eq_true rfl) (fun x hl ok hF => ?_)
  subst hl
  show wp x 0 [(0, .ref x0)] [] h
  unfold f_X0_turnPort at hq
  obtain ⟨h0, eh0⟩ : ∃ h0 : HP, h = h0 := ⟨h, rfl⟩
  have e : h.1 = h0.1 := by rw [eh0]
  rw [eh0] at hF
  obtain ⟨g_x0, hq⟩ := gP_some hq
  obtain ⟨n_x0, f_x0⟩ := kO_some g_x0
  replace f_x0 := sh_of e.symm f_x0
  refine wp_aload_n (v := x0) ok dX0_turnPort_0 rfl ?_
  refine wp_aload_n (v := x0) ok dX0_turnPort_1 rfl ?_
  refine wp_getI ok fl_RX0_32 (sh_of e f_x0) dX0_turnPort_2 ?_
  obtain ⟨k1, ek1, hq⟩ := jn1_some hq
  have kk1 : ∀ (y2 : Int32), k1 y2 = some rp → wp x 13 [(0, .ref x0)] [.int y2, .ref x0] h := by
    intro y2 hq
    have hq := (ek1 y2).symm.trans hq
    obtain ⟨g3, hq⟩ := gP_some hq
    refine wp_putI ok flw_RX0_32 (nr_0_6 g3) (sh_of e f_x0) dX0_turnPort_13 ?_
    obtain ⟨h4, e5, hq⟩ := lt_some hq
    refine wp_nmH e5 ?_
    have e6 : h4.1 = h0.1 := (congrArg Prod.fst e5).trans e
    refine wp_aload_n (v := x0) ok dX0_turnPort_16 rfl ?_
    refine wp_getI ok fl_RX0_32 (sh_of e6 f_x0) dX0_turnPort_17 ?_
    refine wp_if_eq (tgt := 27) ok dX0_turnPort_20 (by decide) (fun c7 => ?_) (fun c7 => ?_)
    · have hq := ite_t c7 hq
      refine wp_iconst (v := 0) ok dX0_turnPort_27 (by decide) ?_
      exact wp_iret ok hF rfl e6 (re2I hq) dX0_turnPort_28
    · have hq := ite_f c7 hq
      refine wp_iconst (v := 1) ok dX0_turnPort_23 (by decide) ?_
      refine wp_goto (tgt := 28) ok dX0_turnPort_24 (by decide) ?_
      exact wp_iret ok hF rfl e6 (re2I hq) dX0_turnPort_28
  refine wp_if_ne (tgt := 12) ok dX0_turnPort_5 (by decide) (fun c8 => ?_) (fun c8 => ?_)
  · have hq := ite_f c8 hq
    refine wp_iconst (v := 0) ok dX0_turnPort_12 (by decide) ?_
    refine wp_sub (L' := [(0, .ref x0)]) [0] rfl ?_
    exact kk1 0 hq
  · have hq := ite_t c8 hq
    refine wp_iconst (v := 1) ok dX0_turnPort_8 (by decide) ?_
    refine wp_goto (tgt := 13) ok dX0_turnPort_9 (by decide) ?_
    refine wp_sub (L' := [(0, .ref x0)]) [0] rfl ?_
    exact kk1 1 hq
set_option maxHeartbeats 4000000 in
set_option maxRecDepth 100000 in
theorem m_X0_setFlow {l : Launch} {h : HP} {x0 : Nat} {x1 : Int32} {rr : Int32} {rh : HP} {fr : Nat} (hq : f_X0_setFlow h x0 x1 = some (rr, rh)) (hfr : 1 ≤ fr) : Mt l yX0_setFlow cX0_setFlow 3 (some (.int)) fr [.ref x0, .int x1] h (QI rr rh) := by
  obtain ⟨rp, ep⟩ : ∃ rp : (Int32 × HP), rp = (rr, rh) := ⟨_, rfl⟩
  have e1p : rr = rp.1 := (congrArg Prod.fst ep).symm
  have e2p : rh = rp.2 := (congrArg Prod.snd ep).symm
  rw [← ep] at hq
  rw [e1p, e2p]
  clear e1p e2p ep
  refine Mt.of (by decide +kernel) (Nat.le_of_ble_eq_true rfl) (fun x hl ok hF => ?_)
  subst hl
  show wp x 0 [(0, .ref x0), (1, .int x1)] [] h
  unfold f_X0_setFlow at hq
  obtain ⟨h0, eh0⟩ : ∃ h0 : HP, h = h0 := ⟨h, rfl⟩
  have e : h.1 = h0.1 := by rw [eh0]
  rw [eh0] at hF
  obtain ⟨g_x0, hq⟩ := gP_some hq
  obtain ⟨n_x0, f_x0⟩ := kO_some g_x0
  replace f_x0 := sh_of e.symm f_x0
  refine wp_iload_n (v := x1) ok dX0_setFlow_0 rfl ?_
  refine wp_iconst (v := 0) ok dX0_setFlow_1 (by decide) ?_
  refine wp_bipush (v := 9) ok dX0_setFlow_2 (by decide) ?_
  obtain ⟨v1, e2, hq⟩ := bnd_some hq
  refine wp_callNI (As := [.int x1, .int 0, .int 9]) (rest := []) (h1 := h) ok (m_X9_within e2 (Nat.le_refl _)) my_X9_within (nestM_at 7 rfl) pd_X9_within (Nat.le_trans (by decide) hfr) rfl rfl rfl rfl dX0_setFlow_4 (fun e3 => ?_)
  refine wp_if_ne (tgt := 12) ok dX0_setFlow_7 (by decide) (fun c4 => ?_) (fun c4 => ?_)
  · have hq := ite_f c4 hq
    refine wp_aload_n (v := x0) ok dX0_setFlow_12 rfl ?_
    refine wp_getI ok fl_RX0_23 (sh_of e f_x0) dX0_setFlow_13 ?_
    obtain ⟨v5, e6, hq⟩ := lt_some hq
    refine wp_nmI e6 ?_
    refine wp_istore_n (L' := [(2, .int v5), (0, .ref x0), (1, .int x1)]) ok dX0_setFlow_16 rfl rfl ?_
    refine wp_aload_n (v := x0) ok dX0_setFlow_17 rfl ?_
    refine wp_iload_n (v := x1) ok dX0_setFlow_18 rfl ?_
    refine wp_putI ok flw_RX0_23 (nr_0_3 _) (sh_of e f_x0) dX0_setFlow_19 ?_
    obtain ⟨h7, e8, hq⟩ := lt_some hq
    refine wp_nmH e8 ?_
    have e9 : h7.1 = h0.1 := (congrArg Prod.fst e8).trans e
    refine wp_iload_n (v := v5) ok dX0_setFlow_22 rfl ?_
    exact wp_iret ok hF rfl e9 (re2I hq) dX0_setFlow_23
  · have hq := ite_t c4 hq
    refine wp_iconst (v := -1) ok dX0_setFlow_10 (by decide) ?_
    exact wp_iret ok hF rfl e (re2I hq) dX0_setFlow_11
set_option maxHeartbeats 4000000 in
set_option maxRecDepth 100000 in
theorem s_X0_sumThere_B4 {x : Cx} {h : HP} {N fr : Nat} {rr : Int32} (ok : Okx x cX0_sumThere yX0_sumThere.cls 4 fr) (hfr : 1 ≤ fr)  {x0 : Nat} {x1 : Int32} {n_x0 : Nat} (f_x0 : h.1[x0]? = some (0, n_x0)) (hF : Fend x h (some (.int)) (QI rr h)) {rc : Int32 → Int32 → Option Int32} (ih : ∀ (x2 : Int32) (x3 : Int32), rc x2 x3 = some rr → wp x 4 [(2, .int x2), (3, .int x3), (0, .ref x0), (1, .int x1)] [] h) : ∀ (x2 : Int32) (x3 : Int32), f_X0_sumThere_B4 N x0 x1 h rc x2 x3 = some rr → wp x 4 [(2, .int x2), (3, .int x3), (0, .ref x0), (1, .int x1)] [] h := by
  intro x2 x3 hq
  unfold f_X0_sumThere_B4 at hq
  refine wp_iload_n (v := x3) ok dX0_sumThere_4 rfl ?_
  refine wp_aload_n (v := x0) ok dX0_sumThere_5 rfl ?_
  refine wp_getI ok fl_RX0_19 (sh_of rfl f_x0) dX0_sumThere_6 ?_
  refine wp_icmp_ge (tgt := 36) ok dX0_sumThere_9 (by decide) (fun c1 => ?_) (fun c1 => ?_)
  · have hq := ite_t c1 hq
    refine wp_iload_n (v := x2) ok dX0_sumThere_36 rfl ?_
    exact wp_iret ok hF rfl rfl (re1I hq) dX0_sumThere_37
  · have hq := ite_f c1 hq
    refine wp_iload_n (v := x1) ok dX0_sumThere_12 rfl ?_
    obtain ⟨v2, e3, hq⟩ := bnd_some hq
    refine wp_callNI (As := [.int x1]) (rest := []) (h1 := h) ok (m_X9_isKind e3 (Nat.le_refl _)) my_X9_isKind (nestM_at 6 rfl) pd_X9_isKind (Nat.le_trans (by decide) hfr) rfl rfl rfl rfl dX0_sumThere_13 (fun e4 => ?_)
    refine wp_if_eq (tgt := 36) ok dX0_sumThere_16 (by decide) (fun c5 => ?_) (fun c5 => ?_)
    · have hq := ite_t c5 hq
      refine wp_iload_n (v := x2) ok dX0_sumThere_36 rfl ?_
      exact wp_iret ok hF rfl rfl (re1I hq) dX0_sumThere_37
    · have hq := ite_f c5 hq
      refine wp_iload_n (v := x2) ok dX0_sumThere_19 rfl ?_
      refine wp_aload_n (v := x0) ok dX0_sumThere_20 rfl ?_
      obtain ⟨t6, e7, hq⟩ := bnd_some hq
      obtain ⟨e8, n9, f10⟩ := rK_some e7
      replace f10 := sh_of (rfl).symm f10
      refine wp_getR ok fl_RX0_11 (sh_of rfl f_x0) e8 dX0_sumThere_21 ?_
      refine wp_iload_n (v := x1) ok dX0_sumThere_24 rfl ?_
      obtain ⟨g11, hq⟩ := gP_some hq
      obtain ⟨t12, e13, hq⟩ := bnd_some hq
      obtain ⟨e14, n15, f16⟩ := rK_some e13
      replace f16 := sh_of (rfl).symm f16
      refine wp_aald106 ok (sh_of rfl f10) (ix_of (sh_of rfl f10) g11) e14 dX0_sumThere_25 ?_
      refine wp_iload_n (v := x3) ok dX0_sumThere_26 rfl ?_
      obtain ⟨g17, hq⟩ := gP_some hq
      refine wp_iald ok (sh_of rfl f16) (ix_of (sh_of rfl f16) g17) dX0_sumThere_27 ?_
      refine wp_iadd ok dX0_sumThere_28 ?_
      obtain ⟨v18, e19, hq⟩ := lt_some hq
      refine wp_nmI e19 ?_
      refine wp_istore_n (L' := [(2, .int v18), (3, .int x3), (0, .ref x0), (1, .int x1)]) ok dX0_sumThere_29 rfl rfl ?_
      obtain ⟨v20, e21, hq⟩ := lt_some hq
      refine wp_iinc (v := x3) (w := 1) (L' := [(3, .int v20), (2, .int v18), (0, .ref x0), (1, .int x1)]) ok dX0_sumThere_30 rfl (by decide) rfl (by rw [← e21]; rfl) ?_
      refine wp_goto (tgt := 4) ok dX0_sumThere_33 (by decide) ?_
      refine wp_sub (L' := [(2, .int v18), (3, .int v20), (0, .ref x0), (1, .int x1)]) [1, 0, 2, 3] rfl ?_
      exact ih v18 v20 hq
set_option maxHeartbeats 4000000 in
set_option maxRecDepth 100000 in
theorem l_X0_sumThere_B4 {x : Cx} {h : HP} {N fr : Nat} {rr : Int32} (ok : Okx x cX0_sumThere yX0_sumThere.cls 4 fr) (hfr : 1 ≤ fr)  {x0 : Nat} {x1 : Int32} {n_x0 : Nat} (f_x0 : h.1[x0]? = some (0, n_x0)) (hF : Fend x h (some (.int)) (QI rr h)) : ∀ (n : Nat) (x2 : Int32) (x3 : Int32), lp (fun _ _ => none) (f_X0_sumThere_B4 N x0 x1 h) n x2 x3 = some rr → wp x 4 [(2, .int x2), (3, .int x3), (0, .ref x0), (1, .int x1)] [] h := by
  intro n
  induction n with
  | zero => intro x2 x3 hq; exact (Option.some_ne_none _ hq.symm).elim
  | succ n ih => exact s_X0_sumThere_B4 ok hfr f_x0 hF  ih
set_option maxHeartbeats 4000000 in
set_option maxRecDepth 100000 in
theorem m_X0_sumThere {l : Launch} {h : HP} {N : Nat} {x0 : Nat} {x1 : Int32} {rr : Int32} {fr : Nat} (hq : f_X0_sumThere N h x0 x1 = some rr) (hfr : 1 ≤ fr) : Mt l yX0_sumThere cX0_sumThere 4 (some (.int)) fr [.ref x0, .int x1] h (QI rr h) := by
  refine Mt.of (by decide +kernel) (Nat.le_of_ble_eq_true rfl) (fun x hl ok hF => ?_)
  subst hl
  show wp x 0 [(0, .ref x0), (1, .int x1)] [] h
  unfold f_X0_sumThere at hq
  obtain ⟨g_x0, hq⟩ := gP_some hq
  obtain ⟨n_x0, f_x0⟩ := kO_some g_x0
  refine wp_iconst (v := 0) ok dX0_sumThere_0 (by decide) ?_
  refine wp_istore_n (L' := [(2, .int 0), (0, .ref x0), (1, .int x1)]) ok dX0_sumThere_1 rfl rfl ?_
  refine wp_iconst (v := 0) ok dX0_sumThere_2 (by decide) ?_
  refine wp_istore_n (L' := [(3, .int 0), (2, .int 0), (0, .ref x0), (1, .int x1)]) ok dX0_sumThere_3 rfl rfl ?_
  refine wp_sub (L' := [(2, .int 0), (3, .int 0), (0, .ref x0), (1, .int x1)]) [1, 0, 2, 3] rfl ?_
  refine l_X0_sumThere_B4 ok hfr f_x0 hF  N 0 0 hq
set_option maxHeartbeats 4000000 in
set_option maxRecDepth 100000 in
theorem s_X0_sumLaidBy_B4 {x : Cx} {h : HP} {N fr : Nat} {rr : Int32} (ok : Okx x cX0_sumLaidBy yX0_sumLaidBy.cls 3 fr) (hfr : 0 ≤ fr)  {x0 : Nat} {n_x0 : Nat} (f_x0 : h.1[x0]? = some (0, n_x0)) (hF : Fend x h (some (.int)) (QI rr h)) {rc : Int32 → Int32 → Option Int32} (ih : ∀ (x1 : Int32) (x2 : Int32), rc x1 x2 = some rr → wp x 4 [(1, .int x1), (2, .int x2), (0, .ref x0)] [] h) : ∀ (x1 : Int32) (x2 : Int32), f_X0_sumLaidBy_B4 N x0 h rc x1 x2 = some rr → wp x 4 [(1, .int x1), (2, .int x2), (0, .ref x0)] [] h := by
  intro x1 x2 hq
  unfold f_X0_sumLaidBy_B4 at hq
  refine wp_iload_n (v := x2) ok dX0_sumLaidBy_4 rfl ?_
  refine wp_aload_n (v := x0) ok dX0_sumLaidBy_5 rfl ?_
  refine wp_getI ok fl_RX0_19 (sh_of rfl f_x0) dX0_sumLaidBy_6 ?_
  refine wp_icmp_ge (tgt := 38) ok dX0_sumLaidBy_9 (by decide) (fun c1 => ?_) (fun c1 => ?_)
  · have hq := ite_t c1 hq
    refine wp_iload_n (v := x1) ok dX0_sumLaidBy_38 rfl ?_
    exact wp_iret ok hF rfl rfl (re1I hq) dX0_sumLaidBy_39
  · have hq := ite_f c1 hq
    refine wp_iload_n (v := x1) ok dX0_sumLaidBy_12 rfl ?_
    refine wp_aload_n (v := x0) ok dX0_sumLaidBy_13 rfl ?_
    obtain ⟨t2, e3, hq⟩ := bnd_some hq
    obtain ⟨e4, n5, f6⟩ := rK_some e3
    replace f6 := sh_of (rfl).symm f6
    refine wp_getR ok fl_RX0_16 (sh_of rfl f_x0) e4 dX0_sumLaidBy_14 ?_
    refine wp_iconst (v := 0) ok dX0_sumLaidBy_17 (by decide) ?_
    obtain ⟨g7, hq⟩ := gP_some hq
    obtain ⟨t8, e9, hq⟩ := bnd_some hq
    obtain ⟨e10, n11, f12⟩ := rK_some e9
    replace f12 := sh_of (rfl).symm f12
    refine wp_aald106 ok (sh_of rfl f6) (ix_of (sh_of rfl f6) g7) e10 dX0_sumLaidBy_18 ?_
    refine wp_iload_n (v := x2) ok dX0_sumLaidBy_19 rfl ?_
    obtain ⟨g13, hq⟩ := gP_some hq
    refine wp_iald ok (sh_of rfl f12) (ix_of (sh_of rfl f12) g13) dX0_sumLaidBy_20 ?_
    refine wp_aload_n (v := x0) ok dX0_sumLaidBy_21 rfl ?_
    obtain ⟨t14, e15, hq⟩ := bnd_some hq
    obtain ⟨e16, n17, f18⟩ := rK_some e15
    replace f18 := sh_of (rfl).symm f18
    refine wp_getR ok fl_RX0_16 (sh_of rfl f_x0) e16 dX0_sumLaidBy_22 ?_
    refine wp_iconst (v := 1) ok dX0_sumLaidBy_25 (by decide) ?_
    obtain ⟨g19, hq⟩ := gP_some hq
    obtain ⟨t20, e21, hq⟩ := bnd_some hq
    obtain ⟨e22, n23, f24⟩ := rK_some e21
    replace f24 := sh_of (rfl).symm f24
    refine wp_aald106 ok (sh_of rfl f18) (ix_of (sh_of rfl f18) g19) e22 dX0_sumLaidBy_26 ?_
    refine wp_iload_n (v := x2) ok dX0_sumLaidBy_27 rfl ?_
    obtain ⟨g25, hq⟩ := gP_some hq
    refine wp_iald ok (sh_of rfl f24) (ix_of (sh_of rfl f24) g25) dX0_sumLaidBy_28 ?_
    refine wp_iadd ok dX0_sumLaidBy_29 ?_
    refine wp_iadd ok dX0_sumLaidBy_30 ?_
    obtain ⟨v26, e27, hq⟩ := lt_some hq
    refine wp_nmI e27 ?_
    refine wp_istore_n (L' := [(1, .int v26), (2, .int x2), (0, .ref x0)]) ok dX0_sumLaidBy_31 rfl rfl ?_
    obtain ⟨v28, e29, hq⟩ := lt_some hq
    refine wp_iinc (v := x2) (w := 1) (L' := [(2, .int v28), (1, .int v26), (0, .ref x0)]) ok dX0_sumLaidBy_32 rfl (by decide) rfl (by rw [← e29]; rfl) ?_
    refine wp_goto (tgt := 4) ok dX0_sumLaidBy_35 (by decide) ?_
    refine wp_sub (L' := [(1, .int v26), (2, .int v28), (0, .ref x0)]) [1, 0, 2] rfl ?_
    exact ih v26 v28 hq
set_option maxHeartbeats 4000000 in
set_option maxRecDepth 100000 in
theorem l_X0_sumLaidBy_B4 {x : Cx} {h : HP} {N fr : Nat} {rr : Int32} (ok : Okx x cX0_sumLaidBy yX0_sumLaidBy.cls 3 fr) (hfr : 0 ≤ fr)  {x0 : Nat} {n_x0 : Nat} (f_x0 : h.1[x0]? = some (0, n_x0)) (hF : Fend x h (some (.int)) (QI rr h)) : ∀ (n : Nat) (x1 : Int32) (x2 : Int32), lp (fun _ _ => none) (f_X0_sumLaidBy_B4 N x0 h) n x1 x2 = some rr → wp x 4 [(1, .int x1), (2, .int x2), (0, .ref x0)] [] h := by
  intro n
  induction n with
  | zero => intro x1 x2 hq; exact (Option.some_ne_none _ hq.symm).elim
  | succ n ih => exact s_X0_sumLaidBy_B4 ok hfr f_x0 hF  ih
set_option maxHeartbeats 4000000 in
set_option maxRecDepth 100000 in
theorem m_X0_sumLaidBy {l : Launch} {h : HP} {N : Nat} {x0 : Nat} {rr : Int32} {fr : Nat} (hq : f_X0_sumLaidBy N h x0 = some rr) (hfr : 0 ≤ fr) : Mt l yX0_sumLaidBy cX0_sumLaidBy 3 (some (.int)) fr [.ref x0] h (QI rr h) := by
  refine Mt.of (by decide +kernel) (Nat.le_of_ble_eq_true rfl) (fun x hl ok hF => ?_)
  subst hl
  show wp x 0 [(0, .ref x0)] [] h
  unfold f_X0_sumLaidBy at hq
  obtain ⟨g_x0, hq⟩ := gP_some hq
  obtain ⟨n_x0, f_x0⟩ := kO_some g_x0
  refine wp_iconst (v := 0) ok dX0_sumLaidBy_0 (by decide) ?_
  refine wp_istore_n (L' := [(1, .int 0), (0, .ref x0)]) ok dX0_sumLaidBy_1 rfl rfl ?_
  refine wp_iconst (v := 0) ok dX0_sumLaidBy_2 (by decide) ?_
  refine wp_istore_n (L' := [(2, .int 0), (1, .int 0), (0, .ref x0)]) ok dX0_sumLaidBy_3 rfl rfl ?_
  refine wp_sub (L' := [(1, .int 0), (2, .int 0), (0, .ref x0)]) [1, 0, 2] rfl ?_
  refine l_X0_sumLaidBy_B4 ok hfr f_x0 hF  N 0 0 hq
set_option maxHeartbeats 4000000 in
set_option maxRecDepth 100000 in
theorem m_X8_at {l : Launch} {h : HP} {x0 : Nat} {x1 : Int32} {x2 : Int32} {rr : Int32} {fr : Nat} (hq : f_X8_at h x0 x1 x2 = some rr) (hfr : 0 ≤ fr) : Mt l yX8_at cX8_at 3 (some (.int)) fr [.ref x0, .int x1, .int x2] h (QI rr h) := by
  refine Mt.of (by decide +kernel) (Nat.le_of_ble_eq_true rfl) (fun x hl ok hF => ?_)
  subst hl
  show wp x 0 [(0, .ref x0), (1, .int x1), (2, .int x2)] [] h
  unfold f_X8_at at hq
  obtain ⟨g_x0, hq⟩ := gP_some hq
  obtain ⟨n_x0, f_x0⟩ := kO_some g_x0
  refine wp_iload_n (v := x1) ok dX8_at_0 rfl ?_
  refine wp_if_lt (tgt := 26) ok dX8_at_1 (by decide) (fun c1 => ?_) (fun c1 => ?_)
  · have hq := ite_t c1 hq
    refine wp_iconst (v := -1) ok dX8_at_26 (by decide) ?_
    exact wp_iret ok hF rfl rfl (re1I hq) dX8_at_27
  · have hq := ite_f c1 hq
    refine wp_iload_n (v := x1) ok dX8_at_4 rfl ?_
    refine wp_aload_n (v := x0) ok dX8_at_5 rfl ?_
    refine wp_getI ok fl_RX8_15 (sh_of rfl f_x0) dX8_at_6 ?_
    refine wp_icmp_ge (tgt := 26) ok dX8_at_9 (by decide) (fun c2 => ?_) (fun c2 => ?_)
    · have hq := ite_t c2 hq
      refine wp_iconst (v := -1) ok dX8_at_26 (by decide) ?_
      exact wp_iret ok hF rfl rfl (re1I hq) dX8_at_27
    · have hq := ite_f c2 hq
      refine wp_iload_n (v := x1) ok dX8_at_12 rfl ?_
      refine wp_iload_n (v := x2) ok dX8_at_13 rfl ?_
      refine wp_icmp_ge (tgt := 26) ok dX8_at_14 (by decide) (fun c3 => ?_) (fun c3 => ?_)
      · have hq := ite_t c3 hq
        refine wp_iconst (v := -1) ok dX8_at_26 (by decide) ?_
        exact wp_iret ok hF rfl rfl (re1I hq) dX8_at_27
      · have hq := ite_f c3 hq
        refine wp_aload_n (v := x0) ok dX8_at_17 rfl ?_
        obtain ⟨t4, e5, hq⟩ := bnd_some hq
        obtain ⟨e6, n7, f8⟩ := rK_some e5
        replace f8 := sh_of (rfl).symm f8
        refine wp_getR ok fl_RX8_9 (sh_of rfl f_x0) e6 dX8_at_18 ?_
        refine wp_iload_n (v := x1) ok dX8_at_21 rfl ?_
        obtain ⟨g9, hq⟩ := gP_some hq
        refine wp_cald ok (sh_of rfl f8) (ix_of (sh_of rfl f8) g9) dX8_at_22 ?_
        refine wp_goto (tgt := 27) ok dX8_at_23 (by decide) ?_
        exact wp_iret ok hF rfl rfl (re1I hq) dX8_at_27
set_option maxHeartbeats 4000000 in
set_option maxRecDepth 100000 in
theorem m_X9_isDigit {l : Launch} {h : HP} {x0 : Int32} {rr : Int32} {fr : Nat} (hq : f_X9_isDigit x0 = some rr) (hfr : 0 ≤ fr) : Mt l yX9_isDigit cX9_isDigit 1 (some (.boolean)) fr [.int x0] h (QI rr h) := by
  refine Mt.of (by decide +kernel) (Nat.le_of_ble_eq_true rfl) (fun x hl ok hF => ?_)
  subst hl
  show wp x 0 [(0, .int x0)] [] h
  unfold f_X9_isDigit at hq
  refine wp_iload_n (v := x0) ok dX9_isDigit_0 rfl ?_
  refine wp_bipush (v := 48) ok dX9_isDigit_1 (by decide) ?_
  refine wp_icmp_lt (tgt := 16) ok dX9_isDigit_3 (by decide) (fun c1 => ?_) (fun c1 => ?_)
  · have hq := ite_t c1 hq
    refine wp_iconst (v := 0) ok dX9_isDigit_16 (by decide) ?_
    exact wp_iret ok hF (nb_z (Or.inl rfl)) rfl (re1I hq) dX9_isDigit_17
  · have hq := ite_f c1 hq
    refine wp_iload_n (v := x0) ok dX9_isDigit_6 rfl ?_
    refine wp_bipush (v := 57) ok dX9_isDigit_7 (by decide) ?_
    refine wp_icmp_gt (tgt := 16) ok dX9_isDigit_9 (by decide) (fun c2 => ?_) (fun c2 => ?_)
    · have hq := ite_t c2 hq
      refine wp_iconst (v := 0) ok dX9_isDigit_16 (by decide) ?_
      exact wp_iret ok hF (nb_z (Or.inl rfl)) rfl (re1I hq) dX9_isDigit_17
    · have hq := ite_f c2 hq
      refine wp_iconst (v := 1) ok dX9_isDigit_12 (by decide) ?_
      refine wp_goto (tgt := 17) ok dX9_isDigit_13 (by decide) ?_
      exact wp_iret ok hF (nb_z (Or.inr rfl)) rfl (re1I hq) dX9_isDigit_17
set_option maxHeartbeats 4000000 in
set_option maxRecDepth 100000 in
theorem s_X8_digits_B3 {x : Cx} {h : HP} {N fr : Nat} {rr : Int32} (ok : Okx x cX8_digits yX8_digits.cls 5 fr) (hfr : 1 ≤ fr)  {x0 : Nat} {x1 : Int32} {x2 : Int32} {x3 : Int32} {n_x0 : Nat} (f_x0 : h.1[x0]? = some (8, n_x0)) (hF : Fend x h (some (.int)) (QI rr h)) {rc : Int32 → Option Int32} (ih : ∀ (x4 : Int32), rc x4 = some rr → wp x 3 [(4, .int x4), (0, .ref x0), (1, .int x1), (2, .int x2), (3, .int x3)] [] h) : ∀ (x4 : Int32), f_X8_digits_B3 N x0 x1 x2 x3 h rc x4 = some rr → wp x 3 [(4, .int x4), (0, .ref x0), (1, .int x1), (2, .int x2), (3, .int x3)] [] h := by
  intro x4 hq
  unfold f_X8_digits_B3 at hq
  refine wp_iload (v := x4) ok dX8_digits_3 rfl ?_
  refine wp_iload_n (v := x2) ok dX8_digits_5 rfl ?_
  refine wp_icmp_ge (tgt := 30) ok dX8_digits_6 (by decide) (fun c1 => ?_) (fun c1 => ?_)
  · have hq := ite_t c1 hq
    refine wp_iload (v := x4) ok dX8_digits_30 rfl ?_
    exact wp_iret ok hF rfl rfl (re1I hq) dX8_digits_32
  · have hq := ite_f c1 hq
    refine wp_aload_n (v := x0) ok dX8_digits_9 rfl ?_
    refine wp_iload_n (v := x1) ok dX8_digits_10 rfl ?_
    refine wp_iload (v := x4) ok dX8_digits_11 rfl ?_
    refine wp_iadd ok dX8_digits_13 ?_
    refine wp_iload_n (v := x3) ok dX8_digits_14 rfl ?_
    obtain ⟨v2, e3, hq⟩ := bnd_some hq
    refine wp_callVI (As := [.int (x1 + x4), .int x3]) (rest := []) (h1 := h) ok (m_X8_at e3 (Nat.le_refl _)) my_X8_at (w_316) pd_X8_at (Nat.le_trans (by decide) hfr) rfl (ci := 8) rfl (by decide) (sh_of rfl f_x0) rfl rfl rfl dX8_digits_15 (fun e4 => ?_)
    obtain ⟨v5, e6, hq⟩ := bnd_some hq
    refine wp_callNI (As := [.int v2]) (rest := []) (h1 := h) ok (m_X9_isDigit e6 (Nat.le_refl _)) my_X9_isDigit (nestM_at 10 rfl) pd_X9_isDigit (Nat.le_trans (by decide) hfr) rfl rfl rfl rfl dX8_digits_18 (fun e7 => ?_)
    refine wp_if_eq (tgt := 30) ok dX8_digits_21 (by decide) (fun c8 => ?_) (fun c8 => ?_)
    · have hq := ite_t c8 hq
      refine wp_iload (v := x4) ok dX8_digits_30 rfl ?_
      exact wp_iret ok hF rfl rfl (re1I hq) dX8_digits_32
    · have hq := ite_f c8 hq
      obtain ⟨v9, e10, hq⟩ := lt_some hq
      refine wp_iinc (v := x4) (w := 1) (L' := [(4, .int v9), (0, .ref x0), (1, .int x1), (2, .int x2), (3, .int x3)]) ok dX8_digits_24 rfl (by decide) rfl (by rw [← e10]; rfl) ?_
      refine wp_goto (tgt := 3) ok dX8_digits_27 (by decide) ?_
      refine wp_sub (L' := [(4, .int v9), (0, .ref x0), (1, .int x1), (2, .int x2), (3, .int x3)]) [0, 1, 2, 3, 4] rfl ?_
      exact ih v9 hq
set_option maxHeartbeats 4000000 in
set_option maxRecDepth 100000 in
theorem l_X8_digits_B3 {x : Cx} {h : HP} {N fr : Nat} {rr : Int32} (ok : Okx x cX8_digits yX8_digits.cls 5 fr) (hfr : 1 ≤ fr)  {x0 : Nat} {x1 : Int32} {x2 : Int32} {x3 : Int32} {n_x0 : Nat} (f_x0 : h.1[x0]? = some (8, n_x0)) (hF : Fend x h (some (.int)) (QI rr h)) : ∀ (n : Nat) (x4 : Int32), lp (fun _ => none) (f_X8_digits_B3 N x0 x1 x2 x3 h) n x4 = some rr → wp x 3 [(4, .int x4), (0, .ref x0), (1, .int x1), (2, .int x2), (3, .int x3)] [] h := by
  intro n
  induction n with
  | zero => intro x4 hq; exact (Option.some_ne_none _ hq.symm).elim
  | succ n ih => exact s_X8_digits_B3 ok hfr f_x0 hF  ih
set_option maxHeartbeats 4000000 in
set_option maxRecDepth 100000 in
theorem m_X8_digits {l : Launch} {h : HP} {N : Nat} {x0 : Nat} {x1 : Int32} {x2 : Int32} {x3 : Int32} {rr : Int32} {fr : Nat} (hq : f_X8_digits N h x0 x1 x2 x3 = some rr) (hfr : 1 ≤ fr) : Mt l yX8_digits cX8_digits 5 (some (.int)) fr [.ref x0, .int x1, .int x2, .int x3] h (QI rr h) := by
  refine Mt.of (by decide +kernel) (Nat.le_of_ble_eq_true rfl) (fun x hl ok hF => ?_)
  subst hl
  show wp x 0 [(0, .ref x0), (1, .int x1), (2, .int x2), (3, .int x3)] [] h
  unfold f_X8_digits at hq
  obtain ⟨g_x0, hq⟩ := gP_some hq
  obtain ⟨n_x0, f_x0⟩ := kO_some g_x0
  refine wp_iconst (v := 0) ok dX8_digits_0 (by decide) ?_
  refine wp_istore (L' := [(4, .int 0), (0, .ref x0), (1, .int x1), (2, .int x2), (3, .int x3)]) ok dX8_digits_1 rfl rfl ?_
  refine wp_sub (L' := [(4, .int 0), (0, .ref x0), (1, .int x1), (2, .int x2), (3, .int x3)]) [0, 1, 2, 3, 4] rfl ?_
  refine l_X8_digits_B3 ok hfr f_x0 hF  N 0 hq
set_option maxHeartbeats 4000000 in
set_option maxRecDepth 100000 in
theorem s_X8_number_B5 {x : Cx} {h : HP} {N fr : Nat} {rr : Int32} (ok : Okx x cX8_number yX8_number.cls 5 fr) (hfr : 1 ≤ fr)  {x0 : Nat} {x1 : Int32} {x2 : Int32} {n_x0 : Nat} (f_x0 : h.1[x0]? = some (8, n_x0)) (hF : Fend x h (some (.int)) (QI rr h)) {rc : Int32 → Int32 → Option Int32} (ih : ∀ (x3 : Int32) (x4 : Int32), rc x3 x4 = some rr → wp x 5 [(3, .int x3), (4, .int x4), (0, .ref x0), (1, .int x1), (2, .int x2)] [] h) : ∀ (x3 : Int32) (x4 : Int32), f_X8_number_B5 N x0 x1 x2 h rc x3 x4 = some rr → wp x 5 [(3, .int x3), (4, .int x4), (0, .ref x0), (1, .int x1), (2, .int x2)] [] h := by
  intro x3 x4 hq
  unfold f_X8_number_B5 at hq
  refine wp_iload (v := x4) ok dX8_number_5 rfl ?_
  refine wp_iload_n (v := x2) ok dX8_number_7 rfl ?_
  refine wp_icmp_ge (tgt := 36) ok dX8_number_8 (by decide) (fun c1 => ?_) (fun c1 => ?_)
  · have hq := ite_t c1 hq
    refine wp_iload_n (v := x3) ok dX8_number_36 rfl ?_
    exact wp_iret ok hF rfl rfl (re1I hq) dX8_number_37
  · have hq := ite_f c1 hq
    refine wp_iload_n (v := x3) ok dX8_number_11 rfl ?_
    refine wp_bipush (v := 10) ok dX8_number_12 (by decide) ?_
    refine wp_imul ok dX8_number_14 ?_
    refine wp_aload_n (v := x0) ok dX8_number_15 rfl ?_
    refine wp_iload_n (v := x1) ok dX8_number_16 rfl ?_
    refine wp_iload (v := x4) ok dX8_number_17 rfl ?_
    refine wp_iadd ok dX8_number_19 ?_
    refine wp_bipush (v := 80) ok dX8_number_20 (by decide) ?_
    obtain ⟨v2, e3, hq⟩ := bnd_some hq
    refine wp_callVI (As := [.int (x1 + x4), .int 80]) (rest := [.int (x3 * 10)]) (h1 := h) ok (m_X8_at e3 (Nat.le_refl _)) my_X8_at (w_316) pd_X8_at (Nat.le_trans (by decide) hfr) rfl (ci := 8) rfl (by decide) (sh_of rfl f_x0) rfl rfl rfl dX8_number_22 (fun e4 => ?_)
    refine wp_iadd ok dX8_number_25 ?_
    refine wp_bipush (v := 48) ok dX8_number_26 (by decide) ?_
    refine wp_isub ok dX8_number_28 ?_
    obtain ⟨v5, e6, hq⟩ := lt_some hq
    refine wp_nmI e6 ?_
    refine wp_istore_n (L' := [(3, .int v5), (4, .int x4), (0, .ref x0), (1, .int x1), (2, .int x2)]) ok dX8_number_29 rfl rfl ?_
    obtain ⟨v7, e8, hq⟩ := lt_some hq
    refine wp_iinc (v := x4) (w := 1) (L' := [(4, .int v7), (3, .int v5), (0, .ref x0), (1, .int x1), (2, .int x2)]) ok dX8_number_30 rfl (by decide) rfl (by rw [← e8]; rfl) ?_
    refine wp_goto (tgt := 5) ok dX8_number_33 (by decide) ?_
    refine wp_sub (L' := [(3, .int v5), (4, .int v7), (0, .ref x0), (1, .int x1), (2, .int x2)]) [1, 0, 2, 3, 4] rfl ?_
    exact ih v5 v7 hq
set_option maxHeartbeats 4000000 in
set_option maxRecDepth 100000 in
theorem l_X8_number_B5 {x : Cx} {h : HP} {N fr : Nat} {rr : Int32} (ok : Okx x cX8_number yX8_number.cls 5 fr) (hfr : 1 ≤ fr)  {x0 : Nat} {x1 : Int32} {x2 : Int32} {n_x0 : Nat} (f_x0 : h.1[x0]? = some (8, n_x0)) (hF : Fend x h (some (.int)) (QI rr h)) : ∀ (n : Nat) (x3 : Int32) (x4 : Int32), lp (fun _ _ => none) (f_X8_number_B5 N x0 x1 x2 h) n x3 x4 = some rr → wp x 5 [(3, .int x3), (4, .int x4), (0, .ref x0), (1, .int x1), (2, .int x2)] [] h := by
  intro n
  induction n with
  | zero => intro x3 x4 hq; exact (Option.some_ne_none _ hq.symm).elim
  | succ n ih => exact s_X8_number_B5 ok hfr f_x0 hF  ih
set_option maxHeartbeats 4000000 in
set_option maxRecDepth 100000 in
theorem m_X8_number {l : Launch} {h : HP} {N : Nat} {x0 : Nat} {x1 : Int32} {x2 : Int32} {rr : Int32} {fr : Nat} (hq : f_X8_number N h x0 x1 x2 = some rr) (hfr : 1 ≤ fr) : Mt l yX8_number cX8_number 5 (some (.int)) fr [.ref x0, .int x1, .int x2] h (QI rr h) := by
  refine Mt.of (by decide +kernel) (Nat.le_of_ble_eq_true rfl) (fun x hl ok hF => ?_)
  subst hl
  show wp x 0 [(0, .ref x0), (1, .int x1), (2, .int x2)] [] h
  unfold f_X8_number at hq
  obtain ⟨g_x0, hq⟩ := gP_some hq
  obtain ⟨n_x0, f_x0⟩ := kO_some g_x0
  refine wp_iconst (v := 0) ok dX8_number_0 (by decide) ?_
  refine wp_istore_n (L' := [(3, .int 0), (0, .ref x0), (1, .int x1), (2, .int x2)]) ok dX8_number_1 rfl rfl ?_
  refine wp_iconst (v := 0) ok dX8_number_2 (by decide) ?_
  refine wp_istore (L' := [(4, .int 0), (3, .int 0), (0, .ref x0), (1, .int x1), (2, .int x2)]) ok dX8_number_3 rfl rfl ?_
  refine wp_sub (L' := [(3, .int 0), (4, .int 0), (0, .ref x0), (1, .int x1), (2, .int x2)]) [1, 0, 2, 3, 4] rfl ?_
  refine l_X8_number_B5 ok hfr f_x0 hF  N 0 0 hq
set_option maxHeartbeats 4000000 in
set_option maxRecDepth 100000 in
theorem s_X1_read_B17 {x : Cx} {h0 : HP} {N fr : Nat} {rr : (Int32 × HP)} (ok : Okx x cX1_read yX1_read.cls 6 fr) (hfr : 2 ≤ fr)  {x0 : Nat} {x1 : Nat} {x2 : Int32} {n_x0 : Nat} (f_x0 : h0.1[x0]? = some (1, n_x0)) {n_x1 : Nat} (f_x1 : h0.1[x1]? = some (8, n_x1)) (hF : Fend x h0 (some (.int)) (QI rr.1 rr.2)) {k173 : HP → Option (Int32 × HP)} (hk173 : ∀ (h : HP), k173 h = some rr → h.1 = h0.1 → wp x 173 [(0, .ref x0), (1, .ref x1), (2, .int x2)] [] h) {rc : Int32 → HP → Option (Int32 × HP)} (ih : ∀ (x3 : Int32) (h : HP), rc x3 h = some rr → h.1 = h0.1 → wp x 17 [(3, .int x3), (0, .ref x0), (1, .ref x1), (2, .int x2)] [] h) : ∀ (x3 : Int32) (h : HP), f_X1_read_B17 N x0 x1 x2 k173 rc x3 h = some rr → h.1 = h0.1 → wp x 17 [(3, .int x3), (0, .ref x0), (1, .ref x1), (2, .int x2)] [] h := by
  intro x3 h hq e
  unfold f_X1_read_B17 at hq
  refine wp_iload_n (v := x3) ok dX1_read_17 rfl ?_
  refine wp_iload_n (v := x2) ok dX1_read_18 rfl ?_
  refine wp_icmp_ge (tgt := 173) ok dX1_read_19 (by decide) (fun c7 => ?_) (fun c7 => ?_)
  · have hq := ite_t c7 hq
    refine wp_sub (L' := [(0, .ref x0), (1, .ref x1), (2, .int x2)]) [1, 2, 3] rfl ?_
    exact hk173 h hq e
  · have hq := ite_f c7 hq
    refine wp_aload_n (v := x1) ok dX1_read_22 rfl ?_
    refine wp_iload_n (v := x3) ok dX1_read_23 rfl ?_
    refine wp_iload_n (v := x2) ok dX1_read_24 rfl ?_
    obtain ⟨v8, e9, hq⟩ := bnd_some hq
    refine wp_callVI (As := [.int x3, .int x2]) (rest := []) (h1 := h) ok (m_X8_at e9 (Nat.le_refl _)) my_X8_at (w_353) pd_X8_at (Nat.le_trans (by decide) hfr) rfl (ci := 8) rfl (by decide) (sh_of e f_x1) rfl rfl rfl dX1_read_25 (fun e10 => ?_)
    refine wp_istore (L' := [(4, .int v8), (3, .int x3), (0, .ref x0), (1, .ref x1), (2, .int x2)]) ok dX1_read_28 rfl rfl ?_
    refine wp_aload_n (v := x0) ok dX1_read_30 rfl ?_
    refine wp_getI ok fl_RX1_18 (sh_of e f_x0) dX1_read_31 ?_
    refine wp_bipush (v := 8) ok dX1_read_34 (by decide) ?_
    refine wp_icmp_eq (tgt := 60) ok dX1_read_36 (by decide) (fun c11 => ?_) (fun c11 => ?_)
    · have hq := ite_t c11 hq
      refine wp_iload_n (v := x3) ok dX1_read_60 rfl ?_
      exact wp_iret ok hF rfl e (re2I hq) dX1_read_61
    · have hq := ite_f c11 hq
      refine wp_iload (v := v8) ok dX1_read_39 rfl ?_
      refine wp_bipush (v := 46) ok dX1_read_41 (by decide) ?_
      obtain ⟨k12, ek12, hq⟩ := jn0_some hq
      have kk12 : k12 = some rr → wp x 62 [(4, .int v8), (3, .int x3), (0, .ref x0), (1, .ref x1), (2, .int x2)] [] h := by
        intro hq
        rw [ek12] at hq
        refine wp_iload (v := v8) ok dX1_read_62 rfl ?_
        refine wp_bipush (v := 46) ok dX1_read_64 (by decide) ?_
        obtain ⟨k13, ek13, hq⟩ := jn1_some hq
        have kk13 : ∀ (y14 : Int32), k13 y14 = some rr → wp x 82 [(4, .int v8), (3, .int x3), (0, .ref x0), (1, .ref x1), (2, .int x2)] [.int y14] h := by
          intro y14 hq
          have hq := (ek13 y14).symm.trans hq
          refine wp_istore (L' := [(5, .int y14), (4, .int v8), (3, .int x3), (0, .ref x0), (1, .ref x1), (2, .int x2)]) ok dX1_read_82 rfl rfl ?_
          refine wp_iload (v := v8) ok dX1_read_84 rfl ?_
          refine wp_bipush (v := 46) ok dX1_read_86 (by decide) ?_
          obtain ⟨k15, ek15, hq⟩ := jn0_some hq
          have kk15 : k15 = some rr → wp x 100 [(5, .int y14), (4, .int v8), (3, .int x3), (0, .ref x0), (1, .ref x1), (2, .int x2)] [] h := by
            intro hq
            rw [ek15] at hq
            refine wp_aload_n (v := x0) ok dX1_read_100 rfl ?_
            obtain ⟨t16, e17, hq⟩ := bnd_some hq
            obtain ⟨e18, n19, f20⟩ := rK_some e17
            replace f20 := sh_of (e).symm f20
            refine wp_getR ok fl_RX1_9 (sh_of e f_x0) e18 dX1_read_101 ?_
            refine wp_aload_n (v := x0) ok dX1_read_104 rfl ?_
            refine wp_getI ok fl_RX1_18 (sh_of e f_x0) dX1_read_105 ?_
            refine wp_iload (v := v8) ok dX1_read_108 rfl ?_
            refine wp_bipush (v := 46) ok dX1_read_110 (by decide) ?_
            obtain ⟨k21, ek21, hq⟩ := jn1_some hq
            have kk21 : ∀ (y22 : Int32), k21 y22 = some rr → wp x 131 [(5, .int y14), (3, .int x3), (0, .ref x0), (1, .ref x1), (2, .int x2)] [.int y22, .int (h.2.1 x0 2), .ref t16] h := by
              intro y22 hq
              have hq := (ek21 y22).symm.trans hq
              obtain ⟨g23, hq⟩ := gP_some hq
              refine wp_iast ok (sh_of e f20) (ix_of (sh_of e f20) g23) dX1_read_131 ?_
              obtain ⟨h24, e25, hq⟩ := lt_some hq
              refine wp_nmH e25 ?_
              have e26 : h24.1 = h0.1 := (congrArg Prod.fst e25).trans e
              refine wp_aload_n (v := x0) ok dX1_read_132 rfl ?_
              obtain ⟨t27, e28, hq⟩ := bnd_some hq
              obtain ⟨e29, n30, f31⟩ := rK_some e28
              replace f31 := sh_of (e26).symm f31
              refine wp_getR ok fl_RX1_15 (sh_of e26 f_x0) e29 dX1_read_133 ?_
              refine wp_aload_n (v := x0) ok dX1_read_136 rfl ?_
              refine wp_getI ok fl_RX1_18 (sh_of e26 f_x0) dX1_read_137 ?_
              refine wp_bipush (v := 10) ok dX1_read_140 (by decide) ?_
              refine wp_aload_n (v := x1) ok dX1_read_142 rfl ?_
              refine wp_iload_n (v := x3) ok dX1_read_143 rfl ?_
              refine wp_iconst (v := 1) ok dX1_read_144 (by decide) ?_
              refine wp_iadd ok dX1_read_145 ?_
              refine wp_iload (v := y14) ok dX1_read_146 rfl ?_
              obtain ⟨v32, e33, hq⟩ := bnd_some hq
              refine wp_callVI (As := [.int (x3 + 1), .int y14]) (rest := [.int 10, .int (h24.2.1 x0 2), .ref t27]) (h1 := h24) ok (m_X8_number e33 (Nat.le_refl _)) my_X8_number (w_355) pd_X8_number (Nat.le_trans (by decide) hfr) rfl (ci := 8) rfl (by decide) (sh_of e26 f_x1) rfl rfl rfl dX1_read_148 (fun e34 => ?_)
              refine wp_imul ok dX1_read_151 ?_
              obtain ⟨g35, hq⟩ := gP_some hq
              refine wp_iast ok (sh_of e26 f31) (ix_of (sh_of e26 f31) g35) dX1_read_152 ?_
              obtain ⟨h36, e37, hq⟩ := lt_some hq
              refine wp_nmH e37 ?_
              have e38 : h36.1 = h0.1 := (congrArg Prod.fst e37).trans e26
              refine wp_aload_n (v := x0) ok dX1_read_153 rfl ?_
              refine wp_dup ok dX1_read_154 rfl ?_
              refine wp_getI ok fl_RX1_18 (sh_of e38 f_x0) dX1_read_155 ?_
              refine wp_iconst (v := 1) ok dX1_read_158 (by decide) ?_
              refine wp_iadd ok dX1_read_159 ?_
              refine wp_putI ok flw_RX1_18 (nr_1_2 _) (sh_of e38 f_x0) dX1_read_160 ?_
              obtain ⟨h39, e40, hq⟩ := lt_some hq
              refine wp_nmH e40 ?_
              have e41 : h39.1 = h0.1 := (congrArg Prod.fst e40).trans e38
              refine wp_iload_n (v := x3) ok dX1_read_163 rfl ?_
              refine wp_iconst (v := 1) ok dX1_read_164 (by decide) ?_
              refine wp_iload (v := y14) ok dX1_read_165 rfl ?_
              refine wp_iadd ok dX1_read_167 ?_
              refine wp_iadd ok dX1_read_168 ?_
              obtain ⟨v42, e43, hq⟩ := lt_some hq
              refine wp_nmI e43 ?_
              refine wp_istore_n (L' := [(3, .int v42), (5, .int y14), (0, .ref x0), (1, .ref x1), (2, .int x2)]) ok dX1_read_169 rfl rfl ?_
              refine wp_goto (tgt := 17) ok dX1_read_170 (by decide) ?_
              refine wp_sub (L' := [(3, .int v42), (0, .ref x0), (1, .ref x1), (2, .int x2)]) [0, 2, 3, 4] rfl ?_
              exact ih v42 h39 hq e41
            refine wp_icmp_ne (tgt := 119) ok dX1_read_112 (by decide) (fun c44 => ?_) (fun c44 => ?_)
            · have hq := ite_f c44 hq
              refine wp_iload (v := v8) ok dX1_read_119 rfl ?_
              refine wp_bipush (v := 111) ok dX1_read_121 (by decide) ?_
              refine wp_icmp_ne (tgt := 130) ok dX1_read_123 (by decide) (fun c45 => ?_) (fun c45 => ?_)
              · have hq := ite_f c45 hq
                refine wp_iconst (v := 1) ok dX1_read_130 (by decide) ?_
                refine wp_sub (L' := [(5, .int y14), (3, .int x3), (0, .ref x0), (1, .ref x1), (2, .int x2)]) [0, 2, 3, 4, 5] rfl ?_
                exact kk21 1 hq
              · have hq := ite_t c45 hq
                refine wp_iconst (v := 0) ok dX1_read_126 (by decide) ?_
                refine wp_goto (tgt := 131) ok dX1_read_127 (by decide) ?_
                refine wp_sub (L' := [(5, .int y14), (3, .int x3), (0, .ref x0), (1, .ref x1), (2, .int x2)]) [0, 2, 3, 4, 5] rfl ?_
                exact kk21 0 hq
            · have hq := ite_t c44 hq
              refine wp_iconst (v := -1) ok dX1_read_115 (by decide) ?_
              refine wp_goto (tgt := 131) ok dX1_read_116 (by decide) ?_
              refine wp_sub (L' := [(5, .int y14), (3, .int x3), (0, .ref x0), (1, .ref x1), (2, .int x2)]) [0, 2, 3, 4, 5] rfl ?_
              exact kk21 (-1) hq
          refine wp_icmp_eq (tgt := 100) ok dX1_read_88 (by decide) (fun c46 => ?_) (fun c46 => ?_)
          · have hq := ite_t c46 hq
            refine wp_sub (L' := [(5, .int y14), (4, .int v8), (3, .int x3), (0, .ref x0), (1, .ref x1), (2, .int x2)]) [0, 1, 2, 3, 4, 5] rfl ?_
            exact kk15 hq
          · have hq := ite_f c46 hq
            refine wp_iload (v := y14) ok dX1_read_91 rfl ?_
            refine wp_if_ne (tgt := 100) ok dX1_read_93 (by decide) (fun c47 => ?_) (fun c47 => ?_)
            · have hq := ite_f c47 hq
              refine wp_sub (L' := [(5, .int y14), (4, .int v8), (3, .int x3), (0, .ref x0), (1, .ref x1), (2, .int x2)]) [0, 1, 2, 3, 4, 5] rfl ?_
              exact kk15 hq
            · have hq := ite_t c47 hq
              refine wp_iload_n (v := x3) ok dX1_read_96 rfl ?_
              refine wp_iconst (v := 1) ok dX1_read_97 (by decide) ?_
              refine wp_iadd ok dX1_read_98 ?_
              exact wp_iret ok hF rfl e (re2I hq) dX1_read_99
        refine wp_icmp_ne (tgt := 73) ok dX1_read_66 (by decide) (fun c48 => ?_) (fun c48 => ?_)
        · have hq := ite_f c48 hq
          refine wp_aload_n (v := x1) ok dX1_read_73 rfl ?_
          refine wp_iload_n (v := x3) ok dX1_read_74 rfl ?_
          refine wp_iconst (v := 1) ok dX1_read_75 (by decide) ?_
          refine wp_iadd ok dX1_read_76 ?_
          refine wp_iconst (v := 3) ok dX1_read_77 (by decide) ?_
          refine wp_iload_n (v := x2) ok dX1_read_78 rfl ?_
          obtain ⟨v49, e50, hq⟩ := bnd_some hq
          refine wp_callVI (As := [.int (x3 + 1), .int 3, .int x2]) (rest := []) (h1 := h) ok (m_X8_digits e50 (Nat.le_refl _)) my_X8_digits (w_354) pd_X8_digits (Nat.le_trans (by decide) hfr) rfl (ci := 8) rfl (by decide) (sh_of e f_x1) rfl rfl rfl dX1_read_79 (fun e51 => ?_)
          refine wp_sub (L' := [(4, .int v8), (3, .int x3), (0, .ref x0), (1, .ref x1), (2, .int x2)]) [0, 1, 2, 3, 4] rfl ?_
          exact kk13 v49 hq
        · have hq := ite_t c48 hq
          refine wp_iconst (v := 0) ok dX1_read_69 (by decide) ?_
          refine wp_goto (tgt := 82) ok dX1_read_70 (by decide) ?_
          refine wp_sub (L' := [(4, .int v8), (3, .int x3), (0, .ref x0), (1, .ref x1), (2, .int x2)]) [0, 1, 2, 3, 4] rfl ?_
          exact kk13 0 hq
      refine wp_icmp_eq (tgt := 62) ok dX1_read_43 (by decide) (fun c52 => ?_) (fun c52 => ?_)
      · have hq := ite_t c52 hq
        refine wp_sub (L' := [(4, .int v8), (3, .int x3), (0, .ref x0), (1, .ref x1), (2, .int x2)]) [0, 1, 2, 3, 4] rfl ?_
        exact kk12 hq
      · have hq := ite_f c52 hq
        refine wp_iload (v := v8) ok dX1_read_46 rfl ?_
        refine wp_bipush (v := 111) ok dX1_read_48 (by decide) ?_
        refine wp_icmp_eq (tgt := 62) ok dX1_read_50 (by decide) (fun c53 => ?_) (fun c53 => ?_)
        · have hq := ite_t c53 hq
          refine wp_sub (L' := [(4, .int v8), (3, .int x3), (0, .ref x0), (1, .ref x1), (2, .int x2)]) [0, 1, 2, 3, 4] rfl ?_
          exact kk12 hq
        · have hq := ite_f c53 hq
          refine wp_iload (v := v8) ok dX1_read_53 rfl ?_
          refine wp_bipush (v := 110) ok dX1_read_55 (by decide) ?_
          refine wp_icmp_eq (tgt := 62) ok dX1_read_57 (by decide) (fun c54 => ?_) (fun c54 => ?_)
          · have hq := ite_t c54 hq
            refine wp_sub (L' := [(4, .int v8), (3, .int x3), (0, .ref x0), (1, .ref x1), (2, .int x2)]) [0, 1, 2, 3, 4] rfl ?_
            exact kk12 hq
          · have hq := ite_f c54 hq
            refine wp_iload_n (v := x3) ok dX1_read_60 rfl ?_
            exact wp_iret ok hF rfl e (re2I hq) dX1_read_61
set_option maxHeartbeats 4000000 in
set_option maxRecDepth 100000 in
theorem l_X1_read_B17 {x : Cx} {h0 : HP} {N fr : Nat} {rr : (Int32 × HP)} (ok : Okx x cX1_read yX1_read.cls 6 fr) (hfr : 2 ≤ fr)  {x0 : Nat} {x1 : Nat} {x2 : Int32} {n_x0 : Nat} (f_x0 : h0.1[x0]? = some (1, n_x0)) {n_x1 : Nat} (f_x1 : h0.1[x1]? = some (8, n_x1)) (hF : Fend x h0 (some (.int)) (QI rr.1 rr.2)) {k173 : HP → Option (Int32 × HP)} (hk173 : ∀ (h : HP), k173 h = some rr → h.1 = h0.1 → wp x 173 [(0, .ref x0), (1, .ref x1), (2, .int x2)] [] h) : ∀ (n : Nat) (x3 : Int32) (h : HP), lp (fun _ _ => none) (f_X1_read_B17 N x0 x1 x2 k173) n x3 h = some rr → h.1 = h0.1 → wp x 17 [(3, .int x3), (0, .ref x0), (1, .ref x1), (2, .int x2)] [] h := by
  intro n
  induction n with
  | zero => intro x3 h hq e; exact (Option.some_ne_none _ hq.symm).elim
  | succ n ih => exact s_X1_read_B17 ok hfr f_x0 f_x1 hF hk173 ih
set_option maxHeartbeats 4000000 in
set_option maxRecDepth 100000 in
theorem m_X1_read {l : Launch} {h : HP} {N : Nat} {x0 : Nat} {x1 : Nat} {rr : Int32} {rh : HP} {fr : Nat} (hq : f_X1_read N h x0 x1 = some (rr, rh)) (hfr : 2 ≤ fr) : Mt l yX1_read cX1_read 6 (some (.int)) fr [.ref x0, .ref x1] h (QI rr rh) := by
  obtain ⟨rp, ep⟩ : ∃ rp : (Int32 × HP), rp = (rr, rh) := ⟨_, rfl⟩
  have e1p : rr = rp.1 := (congrArg Prod.fst ep).symm
  have e2p : rh = rp.2 := (congrArg Prod.snd ep).symm
  rw [← ep] at hq
  rw [e1p, e2p]
  clear e1p e2p ep
  refine Mt.of (by decide +kernel) (Nat.le_of_ble_eq_true rfl) (fun x hl ok hF => ?_)
  subst hl
  show wp x 0 [(0, .ref x0), (1, .ref x1)] [] h
  unfold f_X1_read at hq
  obtain ⟨h0, eh0⟩ : ∃ h0 : HP, h = h0 := ⟨h, rfl⟩
  have e : h.1 = h0.1 := by rw [eh0]
  rw [eh0] at hF
  obtain ⟨g_x0, hq⟩ := gP_some hq
  obtain ⟨n_x0, f_x0⟩ := kO_some g_x0
  replace f_x0 := sh_of e.symm f_x0
  obtain ⟨g_x1, hq⟩ := gP_some hq
  obtain ⟨n_x1, f_x1⟩ := kO_some g_x1
  replace f_x1 := sh_of e.symm f_x1
  refine wp_aload_n (v := x1) ok dX1_read_0 rfl ?_
  refine wp_getI ok fl_RX1_22 (sh_of e f_x1) dX1_read_1 ?_
  refine wp_bipush (v := 32) ok dX1_read_4 (by decide) ?_
  obtain ⟨v1, e2, hq⟩ := bnd_some hq
  refine wp_callSI (As := [.int (h.2.1 x1 1), .int 32]) (rest := []) (h1 := h) ok (m_J9_min_7cf53 e2 (Nat.le_refl _)) my_J9_min_7cf53 (w_352) pd_J9_min_7cf53 (Nat.le_trans (by decide) hfr) rfl rfl rfl rfl dX1_read_6 (fun e3 => ?_)
  refine wp_istore_n (L' := [(2, .int v1), (0, .ref x0), (1, .ref x1)]) ok dX1_read_9 rfl rfl ?_
  refine wp_iconst (v := 0) ok dX1_read_10 (by decide) ?_
  refine wp_istore_n (L' := [(3, .int 0), (2, .int v1), (0, .ref x0), (1, .ref x1)]) ok dX1_read_11 rfl rfl ?_
  refine wp_aload_n (v := x0) ok dX1_read_12 rfl ?_
  refine wp_iconst (v := 0) ok dX1_read_13 (by decide) ?_
  refine wp_putI ok flw_RX1_18 (nr_1_2 _) (sh_of e f_x0) dX1_read_14 ?_
  obtain ⟨h4, e5, hq⟩ := lt_some hq
  refine wp_nmH e5 ?_
  have e6 : h4.1 = h0.1 := (congrArg Prod.fst e5).trans e
  refine wp_sub (L' := [(3, .int 0), (0, .ref x0), (1, .ref x1), (2, .int v1)]) [0, 2, 3, 1] rfl ?_
  refine l_X1_read_B17 ok hfr f_x0 f_x1 hF ?_ N 0 h4 hq e6
  · intro h55 hq e56
    refine wp_aload_n (v := x0) ok dX1_read_173 rfl ?_
    refine wp_getI ok fl_RX1_18 (sh_of e56 f_x0) dX1_read_174 ?_
    refine wp_if_eq (tgt := 188) ok dX1_read_177 (by decide) (fun c57 => ?_) (fun c57 => ?_)
    · have hq := ite_t c57 hq
      refine wp_iload_n (v := v1) ok dX1_read_188 rfl ?_
      refine wp_goto (tgt := 193) ok dX1_read_189 (by decide) ?_
      exact wp_iret ok hF rfl e56 (re2I hq) dX1_read_193
    · have hq := ite_f c57 hq
      refine wp_aload_n (v := x1) ok dX1_read_180 rfl ?_
      refine wp_getI ok fl_RX1_22 (sh_of e56 f_x1) dX1_read_181 ?_
      refine wp_iload_n (v := v1) ok dX1_read_184 rfl ?_
      refine wp_icmp_le (tgt := 192) ok dX1_read_185 (by decide) (fun c58 => ?_) (fun c58 => ?_)
      · have hq := ite_t c58 hq
        refine wp_iconst (v := -1) ok dX1_read_192 (by decide) ?_
        exact wp_iret ok hF rfl e56 (re2I hq) dX1_read_193
      · have hq := ite_f c58 hq
        refine wp_iload_n (v := v1) ok dX1_read_188 rfl ?_
        refine wp_goto (tgt := 193) ok dX1_read_189 (by decide) ?_
        exact wp_iret ok hF rfl e56 (re2I hq) dX1_read_193
set_option maxHeartbeats 4000000 in
set_option maxRecDepth 100000 in
theorem m_X2_hear {l : Launch} {h : HP} {x0 : Nat} {x1 : Int32} {x2 : Int32} {rr : Int32} {rh : HP} {fr : Nat} (hq : f_X2_hear h x0 x1 x2 = some (rr, rh)) (hfr : 0 ≤ fr) : Mt l yX2_hear cX2_hear 3 (some (.boolean)) fr [.ref x0, .int x1, .int x2] h (QI rr rh) := by
  obtain ⟨rp, ep⟩ : ∃ rp : (Int32 × HP), rp = (rr, rh) := ⟨_, rfl⟩
  have e1p : rr = rp.1 := (congrArg Prod.fst ep).symm
  have e2p : rh = rp.2 := (congrArg Prod.snd ep).symm
  rw [← ep] at hq
  rw [e1p, e2p]
  clear e1p e2p ep
  refine Mt.of (by decide +kernel) (Nat.le_of_ble_eq_true rfl) (fun x hl ok hF => ?_)
  subst hl
  show wp x 0 [(0, .ref x0), (1, .int x1), (2, .int x2)] [] h
  unfold f_X2_hear at hq
  obtain ⟨h0, eh0⟩ : ∃ h0 : HP, h = h0 := ⟨h, rfl⟩
  have e : h.1 = h0.1 := by rw [eh0]
  rw [eh0] at hF
  obtain ⟨g_x0, hq⟩ := gP_some hq
  obtain ⟨n_x0, f_x0⟩ := kO_some g_x0
  replace f_x0 := sh_of e.symm f_x0
  refine wp_aload_n (v := x0) ok dX2_hear_0 rfl ?_
  refine wp_getI ok fl_RX2_22 (sh_of e f_x0) dX2_hear_1 ?_
  refine wp_bipush (v := 8) ok dX2_hear_4 (by decide) ?_
  refine wp_icmp_lt (tgt := 11) ok dX2_hear_6 (by decide) (fun c1 => ?_) (fun c1 => ?_)
  · have hq := ite_t c1 hq
    refine wp_aload_n (v := x0) ok dX2_hear_11 rfl ?_
    obtain ⟨t2, e3, hq⟩ := bnd_some hq
    obtain ⟨e4, n5, f6⟩ := rK_some e3
    replace f6 := sh_of (e).symm f6
    refine wp_getR ok fl_RX2_9 (sh_of e f_x0) e4 dX2_hear_12 ?_
    refine wp_aload_n (v := x0) ok dX2_hear_15 rfl ?_
    refine wp_getI ok fl_RX2_22 (sh_of e f_x0) dX2_hear_16 ?_
    refine wp_iload_n (v := x1) ok dX2_hear_19 rfl ?_
    obtain ⟨g7, hq⟩ := gP_some hq
    refine wp_iast ok (sh_of e f6) (ix_of (sh_of e f6) g7) dX2_hear_20 ?_
    obtain ⟨h8, e9, hq⟩ := lt_some hq
    refine wp_nmH e9 ?_
    have e10 : h8.1 = h0.1 := (congrArg Prod.fst e9).trans e
    refine wp_aload_n (v := x0) ok dX2_hear_21 rfl ?_
    obtain ⟨t11, e12, hq⟩ := bnd_some hq
    obtain ⟨e13, n14, f15⟩ := rK_some e12
    replace f15 := sh_of (e10).symm f15
    refine wp_getR ok fl_RX2_15 (sh_of e10 f_x0) e13 dX2_hear_22 ?_
    refine wp_aload_n (v := x0) ok dX2_hear_25 rfl ?_
    refine wp_getI ok fl_RX2_22 (sh_of e10 f_x0) dX2_hear_26 ?_
    refine wp_iload_n (v := x2) ok dX2_hear_29 rfl ?_
    obtain ⟨g16, hq⟩ := gP_some hq
    refine wp_iast ok (sh_of e10 f15) (ix_of (sh_of e10 f15) g16) dX2_hear_30 ?_
    obtain ⟨h17, e18, hq⟩ := lt_some hq
    refine wp_nmH e18 ?_
    have e19 : h17.1 = h0.1 := (congrArg Prod.fst e18).trans e10
    refine wp_aload_n (v := x0) ok dX2_hear_31 rfl ?_
    refine wp_dup ok dX2_hear_32 rfl ?_
    refine wp_getI ok fl_RX2_22 (sh_of e19 f_x0) dX2_hear_33 ?_
    refine wp_iconst (v := 1) ok dX2_hear_36 (by decide) ?_
    refine wp_iadd ok dX2_hear_37 ?_
    refine wp_putI ok flw_RX2_22 (nr_2_3 _) (sh_of e19 f_x0) dX2_hear_38 ?_
    obtain ⟨h20, e21, hq⟩ := lt_some hq
    refine wp_nmH e21 ?_
    have e22 : h20.1 = h0.1 := (congrArg Prod.fst e21).trans e19
    refine wp_iconst (v := 1) ok dX2_hear_41 (by decide) ?_
    exact wp_iret ok hF (nb_z (Or.inr rfl)) e22 (re2I hq) dX2_hear_42
  · have hq := ite_f c1 hq
    refine wp_iconst (v := 0) ok dX2_hear_9 (by decide) ?_
    exact wp_iret ok hF (nb_z (Or.inl rfl)) e (re2I hq) dX2_hear_10
set_option maxHeartbeats 4000000 in
set_option maxRecDepth 100000 in
theorem s_X2_isFitting_B2 {x : Cx} {h : HP} {N fr : Nat} {rr : Int32} (ok : Okx x cX2_isFitting yX2_isFitting.cls 3 fr) (hfr : 0 ≤ fr)  {x0 : Nat} {x1 : Int32} {n_x0 : Nat} (f_x0 : h.1[x0]? = some (2, n_x0)) (hF : Fend x h (some (.boolean)) (QI rr h)) {rc : Int32 → Option Int32} (ih : ∀ (x2 : Int32), rc x2 = some rr → wp x 2 [(2, .int x2), (0, .ref x0), (1, .int x1)] [] h) : ∀ (x2 : Int32), f_X2_isFitting_B2 N x0 x1 h rc x2 = some rr → wp x 2 [(2, .int x2), (0, .ref x0), (1, .int x1)] [] h := by
  intro x2 hq
  unfold f_X2_isFitting_B2 at hq
  refine wp_iload_n (v := x2) ok dX2_isFitting_2 rfl ?_
  refine wp_aload_n (v := x0) ok dX2_isFitting_3 rfl ?_
  refine wp_getI ok fl_RX2_22 (sh_of rfl f_x0) dX2_isFitting_4 ?_
  refine wp_icmp_ge (tgt := 44) ok dX2_isFitting_7 (by decide) (fun c1 => ?_) (fun c1 => ?_)
  · have hq := ite_t c1 hq
    refine wp_iconst (v := 1) ok dX2_isFitting_44 (by decide) ?_
    exact wp_iret ok hF (nb_z (Or.inr rfl)) rfl (re1I hq) dX2_isFitting_45
  · have hq := ite_f c1 hq
    refine wp_aload_n (v := x0) ok dX2_isFitting_10 rfl ?_
    obtain ⟨t2, e3, hq⟩ := bnd_some hq
    obtain ⟨e4, n5, f6⟩ := rK_some e3
    replace f6 := sh_of (rfl).symm f6
    refine wp_getR ok fl_RX2_9 (sh_of rfl f_x0) e4 dX2_isFitting_11 ?_
    refine wp_iload_n (v := x2) ok dX2_isFitting_14 rfl ?_
    obtain ⟨g7, hq⟩ := gP_some hq
    refine wp_iald ok (sh_of rfl f6) (ix_of (sh_of rfl f6) g7) dX2_isFitting_15 ?_
    refine wp_if_le (tgt := 38) ok dX2_isFitting_16 (by decide) (fun c8 => ?_) (fun c8 => ?_)
    · have hq := ite_t c8 hq
      obtain ⟨v9, e10, hq⟩ := lt_some hq
      refine wp_iinc (v := x2) (w := 1) (L' := [(2, .int v9), (0, .ref x0), (1, .int x1)]) ok dX2_isFitting_38 rfl (by decide) rfl (by rw [← e10]; rfl) ?_
      refine wp_goto (tgt := 2) ok dX2_isFitting_41 (by decide) ?_
      refine wp_sub (L' := [(2, .int v9), (0, .ref x0), (1, .int x1)]) [0, 1, 2] rfl ?_
      exact ih v9 hq
    · have hq := ite_f c8 hq
      refine wp_iload_n (v := x1) ok dX2_isFitting_19 rfl ?_
      refine wp_aload_n (v := x0) ok dX2_isFitting_20 rfl ?_
      obtain ⟨t11, e12, hq⟩ := bnd_some hq
      obtain ⟨e13, n14, f15⟩ := rK_some e12
      replace f15 := sh_of (rfl).symm f15
      refine wp_getR ok fl_RX2_9 (sh_of rfl f_x0) e13 dX2_isFitting_21 ?_
      refine wp_iload_n (v := x2) ok dX2_isFitting_24 rfl ?_
      obtain ⟨g16, hq⟩ := gP_some hq
      refine wp_iald ok (sh_of rfl f15) (ix_of (sh_of rfl f15) g16) dX2_isFitting_25 ?_
      obtain ⟨g17, hq⟩ := gP_some hq
      refine wp_irem ok dX2_isFitting_26 g17 ?_
      refine wp_aload_n (v := x0) ok dX2_isFitting_27 rfl ?_
      obtain ⟨t18, e19, hq⟩ := bnd_some hq
      obtain ⟨e20, n21, f22⟩ := rK_some e19
      replace f22 := sh_of (rfl).symm f22
      refine wp_getR ok fl_RX2_15 (sh_of rfl f_x0) e20 dX2_isFitting_28 ?_
      refine wp_iload_n (v := x2) ok dX2_isFitting_31 rfl ?_
      obtain ⟨g23, hq⟩ := gP_some hq
      refine wp_iald ok (sh_of rfl f22) (ix_of (sh_of rfl f22) g23) dX2_isFitting_32 ?_
      refine wp_icmp_eq (tgt := 38) ok dX2_isFitting_33 (by decide) (fun c24 => ?_) (fun c24 => ?_)
      · have hq := ite_t c24 hq
        obtain ⟨v25, e26, hq⟩ := lt_some hq
        refine wp_iinc (v := x2) (w := 1) (L' := [(2, .int v25), (0, .ref x0), (1, .int x1)]) ok dX2_isFitting_38 rfl (by decide) rfl (by rw [← e26]; rfl) ?_
        refine wp_goto (tgt := 2) ok dX2_isFitting_41 (by decide) ?_
        refine wp_sub (L' := [(2, .int v25), (0, .ref x0), (1, .int x1)]) [0, 1, 2] rfl ?_
        exact ih v25 hq
      · have hq := ite_f c24 hq
        refine wp_iconst (v := 0) ok dX2_isFitting_36 (by decide) ?_
        exact wp_iret ok hF (nb_z (Or.inl rfl)) rfl (re1I hq) dX2_isFitting_37
set_option maxHeartbeats 4000000 in
set_option maxRecDepth 100000 in
theorem l_X2_isFitting_B2 {x : Cx} {h : HP} {N fr : Nat} {rr : Int32} (ok : Okx x cX2_isFitting yX2_isFitting.cls 3 fr) (hfr : 0 ≤ fr)  {x0 : Nat} {x1 : Int32} {n_x0 : Nat} (f_x0 : h.1[x0]? = some (2, n_x0)) (hF : Fend x h (some (.boolean)) (QI rr h)) : ∀ (n : Nat) (x2 : Int32), lp (fun _ => none) (f_X2_isFitting_B2 N x0 x1 h) n x2 = some rr → wp x 2 [(2, .int x2), (0, .ref x0), (1, .int x1)] [] h := by
  intro n
  induction n with
  | zero => intro x2 hq; exact (Option.some_ne_none _ hq.symm).elim
  | succ n ih => exact s_X2_isFitting_B2 ok hfr f_x0 hF  ih
set_option maxHeartbeats 4000000 in
set_option maxRecDepth 100000 in
theorem m_X2_isFitting {l : Launch} {h : HP} {N : Nat} {x0 : Nat} {x1 : Int32} {rr : Int32} {fr : Nat} (hq : f_X2_isFitting N h x0 x1 = some rr) (hfr : 0 ≤ fr) : Mt l yX2_isFitting cX2_isFitting 3 (some (.boolean)) fr [.ref x0, .int x1] h (QI rr h) := by
  refine Mt.of (by decide +kernel) (Nat.le_of_ble_eq_true rfl) (fun x hl ok hF => ?_)
  subst hl
  show wp x 0 [(0, .ref x0), (1, .int x1)] [] h
  unfold f_X2_isFitting at hq
  obtain ⟨g_x0, hq⟩ := gP_some hq
  obtain ⟨n_x0, f_x0⟩ := kO_some g_x0
  refine wp_iconst (v := 0) ok dX2_isFitting_0 (by decide) ?_
  refine wp_istore_n (L' := [(2, .int 0), (0, .ref x0), (1, .int x1)]) ok dX2_isFitting_1 rfl rfl ?_
  refine wp_sub (L' := [(2, .int 0), (0, .ref x0), (1, .int x1)]) [0, 1, 2] rfl ?_
  refine l_X2_isFitting_B2 ok hfr f_x0 hF  N 0 hq
set_option maxHeartbeats 4000000 in
set_option maxRecDepth 100000 in
theorem s_X2_sift_B2 {x : Cx} {h0 : HP} {N fr : Nat} {rr : HP} (ok : Okx x cX2_sift yX2_sift.cls 2 fr) (hfr : 1 ≤ fr)  {x0 : Nat} {n_x0 : Nat} (f_x0 : h0.1[x0]? = some (2, n_x0)) (hF : Fend x h0 none (QV rr)) {rc : Int32 → HP → Option HP} (ih : ∀ (x1 : Int32) (h : HP), rc x1 h = some rr → h.1 = h0.1 → wp x 2 [(1, .int x1), (0, .ref x0)] [] h) : ∀ (x1 : Int32) (h : HP), f_X2_sift_B2 N x0 rc x1 h = some rr → h.1 = h0.1 → wp x 2 [(1, .int x1), (0, .ref x0)] [] h := by
  intro x1 h hq e
  unfold f_X2_sift_B2 at hq
  refine wp_iload_n (v := x1) ok dX2_sift_2 rfl ?_
  refine wp_sipush (v := 999) ok dX2_sift_3 (by decide) ?_
  refine wp_icmp_gt (tgt := 26) ok dX2_sift_6 (by decide) (fun c1 => ?_) (fun c1 => ?_)
  · have hq := ite_t c1 hq
    exact wp_vret ok hF e (reV hq) dX2_sift_26
  · have hq := ite_f c1 hq
    refine wp_aload_n (v := x0) ok dX2_sift_9 rfl ?_
    obtain ⟨t2, e3, hq⟩ := bnd_some hq
    obtain ⟨e4, n5, f6⟩ := rK_some e3
    replace f6 := sh_of (e).symm f6
    refine wp_getR ok fl_RX2_18 (sh_of e f_x0) e4 dX2_sift_10 ?_
    refine wp_iload_n (v := x1) ok dX2_sift_13 rfl ?_
    refine wp_aload_n (v := x0) ok dX2_sift_14 rfl ?_
    refine wp_iload_n (v := x1) ok dX2_sift_15 rfl ?_
    obtain ⟨v7, e8, hq⟩ := bnd_some hq
    refine wp_callVI (As := [.int x1]) (rest := [.int x1, .ref t2]) (h1 := h) ok (m_X2_isFitting e8 (Nat.le_refl _)) my_X2_isFitting (w_869) pd_X2_isFitting (Nat.le_trans (by decide) hfr) rfl (ci := 2) rfl (by decide) (sh_of e f_x0) rfl rfl rfl dX2_sift_16 (fun e9 => ?_)
    obtain ⟨g10, hq⟩ := gP_some hq
    refine wp_zast ok (sh_of e f6) (ix_of (sh_of e f6) g10) dX2_sift_19 ?_
    obtain ⟨h11, e12, hq⟩ := lt_some hq
    refine wp_nmH e12 ?_
    have e13 : h11.1 = h0.1 := (congrArg Prod.fst e12).trans e
    obtain ⟨v14, e15, hq⟩ := lt_some hq
    refine wp_iinc (v := x1) (w := 1) (L' := [(1, .int v14), (0, .ref x0)]) ok dX2_sift_20 rfl (by decide) rfl (by rw [← e15]; rfl) ?_
    refine wp_goto (tgt := 2) ok dX2_sift_23 (by decide) ?_
    refine wp_sub (L' := [(1, .int v14), (0, .ref x0)]) [0, 1] rfl ?_
    exact ih v14 h11 hq e13
set_option maxHeartbeats 4000000 in
set_option maxRecDepth 100000 in
theorem l_X2_sift_B2 {x : Cx} {h0 : HP} {N fr : Nat} {rr : HP} (ok : Okx x cX2_sift yX2_sift.cls 2 fr) (hfr : 1 ≤ fr)  {x0 : Nat} {n_x0 : Nat} (f_x0 : h0.1[x0]? = some (2, n_x0)) (hF : Fend x h0 none (QV rr)) : ∀ (n : Nat) (x1 : Int32) (h : HP), lp (fun _ _ => none) (f_X2_sift_B2 N x0) n x1 h = some rr → h.1 = h0.1 → wp x 2 [(1, .int x1), (0, .ref x0)] [] h := by
  intro n
  induction n with
  | zero => intro x1 h hq e; exact (Option.some_ne_none _ hq.symm).elim
  | succ n ih => exact s_X2_sift_B2 ok hfr f_x0 hF  ih
set_option maxHeartbeats 4000000 in
set_option maxRecDepth 100000 in
theorem m_X2_sift {l : Launch} {h : HP} {N : Nat} {x0 : Nat} {rr : HP} {fr : Nat} (hq : f_X2_sift N h x0 = some rr) (hfr : 1 ≤ fr) : Mt l yX2_sift cX2_sift 2 none fr [.ref x0] h (QV rr) := by
  refine Mt.of (by decide +kernel) (Nat.le_of_ble_eq_true rfl) (fun x hl ok hF => ?_)
  subst hl
  show wp x 0 [(0, .ref x0)] [] h
  unfold f_X2_sift at hq
  obtain ⟨h0, eh0⟩ : ∃ h0 : HP, h = h0 := ⟨h, rfl⟩
  have e : h.1 = h0.1 := by rw [eh0]
  rw [eh0] at hF
  obtain ⟨g_x0, hq⟩ := gP_some hq
  obtain ⟨n_x0, f_x0⟩ := kO_some g_x0
  replace f_x0 := sh_of e.symm f_x0
  refine wp_iconst (v := 1) ok dX2_sift_0 (by decide) ?_
  refine wp_istore_n (L' := [(1, .int 1), (0, .ref x0)]) ok dX2_sift_1 rfl rfl ?_
  refine wp_sub (L' := [(1, .int 1), (0, .ref x0)]) [0, 1] rfl ?_
  refine l_X2_sift_B2 ok hfr f_x0 hF  N 1 h hq e
set_option maxHeartbeats 4000000 in
set_option maxRecDepth 100000 in
theorem m_J9_max_7cf53 {l : Launch} {h : HP} {x0 : Int32} {x1 : Int32} {rr : Int32} {fr : Nat} (hq : f_J9_max_7cf53 x0 x1 = some rr) (hfr : 0 ≤ fr) : Mt l yJ9_max_7cf53 cJ9_max_7cf53 2 (some (.int)) fr [.int x0, .int x1] h (QI rr h) := by
  refine Mt.of (by decide +kernel) (Nat.le_of_ble_eq_true rfl) (fun x hl ok hF => ?_)
  subst hl
  show wp x 0 [(0, .int x0), (1, .int x1)] [] h
  unfold f_J9_max_7cf53 at hq
  refine wp_iload_n (v := x0) ok dJ9_max_7cf53_0 rfl ?_
  refine wp_iload_n (v := x1) ok dJ9_max_7cf53_1 rfl ?_
  refine wp_icmp_lt (tgt := 9) ok dJ9_max_7cf53_2 (by decide) (fun c1 => ?_) (fun c1 => ?_)
  · have hq := ite_t c1 hq
    refine wp_iload_n (v := x1) ok dJ9_max_7cf53_9 rfl ?_
    exact wp_iret ok hF rfl rfl (re1I hq) dJ9_max_7cf53_10
  · have hq := ite_f c1 hq
    refine wp_iload_n (v := x0) ok dJ9_max_7cf53_5 rfl ?_
    refine wp_goto (tgt := 10) ok dJ9_max_7cf53_6 (by decide) ?_
    exact wp_iret ok hF rfl rfl (re1I hq) dJ9_max_7cf53_10
set_option maxHeartbeats 4000000 in
set_option maxRecDepth 100000 in
theorem s_X2_mostLeft_B15 {x : Cx} {h : HP} {N fr : Nat} {rr : Int32} (ok : Okx x cX2_mostLeft yX2_mostLeft.cls 6 fr) (hfr : 1 ≤ fr)  {x0 : Nat} {x1 : Int32} {x2 : Int32} {x3 : Int32} {n_x0 : Nat} (f_x0 : h.1[x0]? = some (2, n_x0)) (hF : Fend x h (some (.int)) (QI rr h)) {k56 : Int32 → Option Int32} (hk56 : ∀ (x4 : Int32), k56 x4 = some rr → wp x 56 [(4, .int x4), (0, .ref x0), (1, .int x1), (2, .int x2), (3, .int x3)] [] h) {rc : Int32 → Int32 → Option Int32} (ih : ∀ (x4 : Int32) (x5 : Int32), rc x4 x5 = some rr → wp x 15 [(4, .int x4), (5, .int x5), (0, .ref x0), (1, .int x1), (2, .int x2), (3, .int x3)] [] h) : ∀ (x4 : Int32) (x5 : Int32), f_X2_mostLeft_B15 N x0 x1 x2 x3 h k56 rc x4 x5 = some rr → wp x 15 [(4, .int x4), (5, .int x5), (0, .ref x0), (1, .int x1), (2, .int x2), (3, .int x3)] [] h := by
  intro x4 x5 hq
  unfold f_X2_mostLeft_B15 at hq
  refine wp_iload (v := x5) ok dX2_mostLeft_15 rfl ?_
  refine wp_sipush (v := 999) ok dX2_mostLeft_17 (by decide) ?_
  refine wp_icmp_gt (tgt := 56) ok dX2_mostLeft_20 (by decide) (fun c2 => ?_) (fun c2 => ?_)
  · have hq := ite_t c2 hq
    refine wp_sub (L' := [(4, .int x4), (0, .ref x0), (1, .int x1), (2, .int x2), (3, .int x3)]) [0, 2, 3, 4, 5] rfl ?_
    exact hk56 x4 hq
  · have hq := ite_f c2 hq
    refine wp_iload_n (v := x1) ok dX2_mostLeft_23 rfl ?_
    refine wp_if_le (tgt := 56) ok dX2_mostLeft_24 (by decide) (fun c3 => ?_) (fun c3 => ?_)
    · have hq := ite_t c3 hq
      refine wp_sub (L' := [(4, .int x4), (0, .ref x0), (1, .int x1), (2, .int x2), (3, .int x3)]) [0, 2, 3, 4, 5] rfl ?_
      exact hk56 x4 hq
    · have hq := ite_f c3 hq
      refine wp_iload (v := x4) ok dX2_mostLeft_27 rfl ?_
      refine wp_aload_n (v := x0) ok dX2_mostLeft_29 rfl ?_
      obtain ⟨t4, e5, hq⟩ := bnd_some hq
      obtain ⟨e6, n7, f8⟩ := rK_some e5
      replace f8 := sh_of (rfl).symm f8
      refine wp_getR ok fl_RX2_18 (sh_of rfl f_x0) e6 dX2_mostLeft_30 ?_
      refine wp_iload (v := x5) ok dX2_mostLeft_33 rfl ?_
      obtain ⟨g9, hq⟩ := gP_some hq
      refine wp_zald ok (sh_of rfl f8) (ix_of (sh_of rfl f8) g9) dX2_mostLeft_35 ?_
      refine wp_if_eq (tgt := 43) ok dX2_mostLeft_36 (by decide) (fun c10 => ?_) (fun c10 => ?_)
      · have hq := ite_t c10 hq
        refine wp_iconst (v := 0) ok dX2_mostLeft_43 (by decide) ?_
        refine wp_iadd ok dX2_mostLeft_44 ?_
        obtain ⟨v11, e12, hq⟩ := lt_some hq
        refine wp_nmI e12 ?_
        refine wp_istore (L' := [(4, .int v11), (5, .int x5), (0, .ref x0), (1, .int x1), (2, .int x2), (3, .int x3)]) ok dX2_mostLeft_45 rfl rfl ?_
        refine wp_iload (v := x5) ok dX2_mostLeft_47 rfl ?_
        refine wp_iload_n (v := x1) ok dX2_mostLeft_49 rfl ?_
        refine wp_iadd ok dX2_mostLeft_50 ?_
        obtain ⟨v13, e14, hq⟩ := lt_some hq
        refine wp_nmI e14 ?_
        refine wp_istore (L' := [(5, .int v13), (4, .int v11), (0, .ref x0), (1, .int x1), (2, .int x2), (3, .int x3)]) ok dX2_mostLeft_51 rfl rfl ?_
        refine wp_goto (tgt := 15) ok dX2_mostLeft_53 (by decide) ?_
        refine wp_sub (L' := [(4, .int v11), (5, .int v13), (0, .ref x0), (1, .int x1), (2, .int x2), (3, .int x3)]) [1, 0, 2, 3, 4, 5] rfl ?_
        exact ih v11 v13 hq
      · have hq := ite_f c10 hq
        refine wp_iconst (v := 1) ok dX2_mostLeft_39 (by decide) ?_
        refine wp_goto (tgt := 44) ok dX2_mostLeft_40 (by decide) ?_
        refine wp_iadd ok dX2_mostLeft_44 ?_
        obtain ⟨v15, e16, hq⟩ := lt_some hq
        refine wp_nmI e16 ?_
        refine wp_istore (L' := [(4, .int v15), (5, .int x5), (0, .ref x0), (1, .int x1), (2, .int x2), (3, .int x3)]) ok dX2_mostLeft_45 rfl rfl ?_
        refine wp_iload (v := x5) ok dX2_mostLeft_47 rfl ?_
        refine wp_iload_n (v := x1) ok dX2_mostLeft_49 rfl ?_
        refine wp_iadd ok dX2_mostLeft_50 ?_
        obtain ⟨v17, e18, hq⟩ := lt_some hq
        refine wp_nmI e18 ?_
        refine wp_istore (L' := [(5, .int v17), (4, .int v15), (0, .ref x0), (1, .int x1), (2, .int x2), (3, .int x3)]) ok dX2_mostLeft_51 rfl rfl ?_
        refine wp_goto (tgt := 15) ok dX2_mostLeft_53 (by decide) ?_
        refine wp_sub (L' := [(4, .int v15), (5, .int v17), (0, .ref x0), (1, .int x1), (2, .int x2), (3, .int x3)]) [1, 0, 2, 3, 4, 5] rfl ?_
        exact ih v15 v17 hq
set_option maxHeartbeats 4000000 in
set_option maxRecDepth 100000 in
theorem l_X2_mostLeft_B15 {x : Cx} {h : HP} {N fr : Nat} {rr : Int32} (ok : Okx x cX2_mostLeft yX2_mostLeft.cls 6 fr) (hfr : 1 ≤ fr)  {x0 : Nat} {x1 : Int32} {x2 : Int32} {x3 : Int32} {n_x0 : Nat} (f_x0 : h.1[x0]? = some (2, n_x0)) (hF : Fend x h (some (.int)) (QI rr h)) {k56 : Int32 → Option Int32} (hk56 : ∀ (x4 : Int32), k56 x4 = some rr → wp x 56 [(4, .int x4), (0, .ref x0), (1, .int x1), (2, .int x2), (3, .int x3)] [] h) : ∀ (n : Nat) (x4 : Int32) (x5 : Int32), lp (fun _ _ => none) (f_X2_mostLeft_B15 N x0 x1 x2 x3 h k56) n x4 x5 = some rr → wp x 15 [(4, .int x4), (5, .int x5), (0, .ref x0), (1, .int x1), (2, .int x2), (3, .int x3)] [] h := by
  intro n
  induction n with
  | zero => intro x4 x5 hq; exact (Option.some_ne_none _ hq.symm).elim
  | succ n ih => exact s_X2_mostLeft_B15 ok hfr f_x0 hF hk56 ih
set_option maxHeartbeats 4000000 in
set_option maxRecDepth 100000 in
theorem s_X2_mostLeft_B4 {x : Cx} {h : HP} {N fr : Nat} {rr : Int32} (ok : Okx x cX2_mostLeft yX2_mostLeft.cls 6 fr) (hfr : 1 ≤ fr)  {x0 : Nat} {x1 : Int32} {n_x0 : Nat} (f_x0 : h.1[x0]? = some (2, n_x0)) (hF : Fend x h (some (.int)) (QI rr h)) {rc : Int32 → Int32 → Option Int32} (ih : ∀ (x2 : Int32) (x3 : Int32), rc x2 x3 = some rr → wp x 4 [(2, .int x2), (3, .int x3), (0, .ref x0), (1, .int x1)] [] h) : ∀ (x2 : Int32) (x3 : Int32), f_X2_mostLeft_B4 N x0 x1 h rc x2 x3 = some rr → wp x 4 [(2, .int x2), (3, .int x3), (0, .ref x0), (1, .int x1)] [] h := by
  intro x2 x3 hq
  unfold f_X2_mostLeft_B4 at hq
  refine wp_iload_n (v := x3) ok dX2_mostLeft_4 rfl ?_
  refine wp_iload_n (v := x1) ok dX2_mostLeft_5 rfl ?_
  refine wp_icmp_ge (tgt := 69) ok dX2_mostLeft_6 (by decide) (fun c1 => ?_) (fun c1 => ?_)
  · have hq := ite_t c1 hq
    refine wp_iload_n (v := x2) ok dX2_mostLeft_69 rfl ?_
    exact wp_iret ok hF rfl rfl (re1I hq) dX2_mostLeft_70
  · have hq := ite_f c1 hq
    refine wp_iconst (v := 0) ok dX2_mostLeft_9 (by decide) ?_
    refine wp_istore (L' := [(4, .int 0), (2, .int x2), (3, .int x3), (0, .ref x0), (1, .int x1)]) ok dX2_mostLeft_10 rfl rfl ?_
    refine wp_iload_n (v := x3) ok dX2_mostLeft_12 rfl ?_
    refine wp_istore (L' := [(5, .int x3), (4, .int 0), (2, .int x2), (3, .int x3), (0, .ref x0), (1, .int x1)]) ok dX2_mostLeft_13 rfl rfl ?_
    refine wp_sub (L' := [(4, .int 0), (5, .int x3), (0, .ref x0), (1, .int x1), (2, .int x2), (3, .int x3)]) [1, 0, 4, 5, 2, 3] rfl ?_
    refine l_X2_mostLeft_B15 ok hfr f_x0 hF ?_ N 0 x3 hq
    · intro x19 hq
      refine wp_iload_n (v := x2) ok dX2_mostLeft_56 rfl ?_
      refine wp_iload (v := x19) ok dX2_mostLeft_57 rfl ?_
      obtain ⟨v20, e21, hq⟩ := bnd_some hq
      refine wp_callSI (As := [.int x2, .int x19]) (rest := []) (h1 := h) ok (m_J9_max_7cf53 e21 (Nat.le_refl _)) my_J9_max_7cf53 (w_881) pd_J9_max_7cf53 (Nat.le_trans (by decide) hfr) rfl rfl rfl rfl dX2_mostLeft_59 (fun e22 => ?_)
      refine wp_istore_n (L' := [(2, .int v20), (4, .int x19), (0, .ref x0), (1, .int x1), (3, .int x3)]) ok dX2_mostLeft_62 rfl rfl ?_
      obtain ⟨v23, e24, hq⟩ := lt_some hq
      refine wp_iinc (v := x3) (w := 1) (L' := [(3, .int v23), (2, .int v20), (4, .int x19), (0, .ref x0), (1, .int x1)]) ok dX2_mostLeft_63 rfl (by decide) rfl (by rw [← e24]; rfl) ?_
      refine wp_goto (tgt := 4) ok dX2_mostLeft_66 (by decide) ?_
      refine wp_sub (L' := [(2, .int v20), (3, .int v23), (0, .ref x0), (1, .int x1)]) [1, 0, 3, 4] rfl ?_
      exact ih v20 v23 hq
set_option maxHeartbeats 4000000 in
set_option maxRecDepth 100000 in
theorem l_X2_mostLeft_B4 {x : Cx} {h : HP} {N fr : Nat} {rr : Int32} (ok : Okx x cX2_mostLeft yX2_mostLeft.cls 6 fr) (hfr : 1 ≤ fr)  {x0 : Nat} {x1 : Int32} {n_x0 : Nat} (f_x0 : h.1[x0]? = some (2, n_x0)) (hF : Fend x h (some (.int)) (QI rr h)) : ∀ (n : Nat) (x2 : Int32) (x3 : Int32), lp (fun _ _ => none) (f_X2_mostLeft_B4 N x0 x1 h) n x2 x3 = some rr → wp x 4 [(2, .int x2), (3, .int x3), (0, .ref x0), (1, .int x1)] [] h := by
  intro n
  induction n with
  | zero => intro x2 x3 hq; exact (Option.some_ne_none _ hq.symm).elim
  | succ n ih => exact s_X2_mostLeft_B4 ok hfr f_x0 hF  ih
set_option maxHeartbeats 4000000 in
set_option maxRecDepth 100000 in
theorem m_X2_mostLeft {l : Launch} {h : HP} {N : Nat} {x0 : Nat} {x1 : Int32} {rr : Int32} {fr : Nat} (hq : f_X2_mostLeft N h x0 x1 = some rr) (hfr : 1 ≤ fr) : Mt l yX2_mostLeft cX2_mostLeft 6 (some (.int)) fr [.ref x0, .int x1] h (QI rr h) := by
  refine Mt.of (by decide +kernel) (Nat.le_of_ble_eq_true rfl) (fun x hl ok hF => ?_)
  subst hl
  show wp x 0 [(0, .ref x0), (1, .int x1)] [] h
  unfold f_X2_mostLeft at hq
  obtain ⟨g_x0, hq⟩ := gP_some hq
  obtain ⟨n_x0, f_x0⟩ := kO_some g_x0
  refine wp_iconst (v := 0) ok dX2_mostLeft_0 (by decide) ?_
  refine wp_istore_n (L' := [(2, .int 0), (0, .ref x0), (1, .int x1)]) ok dX2_mostLeft_1 rfl rfl ?_
  refine wp_iconst (v := 0) ok dX2_mostLeft_2 (by decide) ?_
  refine wp_istore_n (L' := [(3, .int 0), (2, .int 0), (0, .ref x0), (1, .int x1)]) ok dX2_mostLeft_3 rfl rfl ?_
  refine wp_sub (L' := [(2, .int 0), (3, .int 0), (0, .ref x0), (1, .int x1)]) [1, 0, 2, 3] rfl ?_
  refine l_X2_mostLeft_B4 ok hfr f_x0 hF  N 0 0 hq
set_option maxHeartbeats 4000000 in
set_option maxRecDepth 100000 in
theorem s_X3_read_B30 {x : Cx} {h0 : HP} {N fr : Nat} {rr : (Int32 × HP)} (ok : Okx x cX3_read yX3_read.cls 9 fr) (hfr : 2 ≤ fr)  {x0 : Nat} {x1 : Nat} {x3 : Int32} {x4 : Int32} {x5 : Int32} {n_x0 : Nat} (f_x0 : h0.1[x0]? = some (3, n_x0)) {n_x1 : Nat} (f_x1 : h0.1[x1]? = some (8, n_x1)) (hF : Fend x h0 (some (.int)) (QI rr.1 rr.2)) {k118 : HP → Option (Int32 × HP)} (hk118 : ∀ (h : HP), k118 h = some rr → h.1 = h0.1 → wp x 118 [(1, .ref x1), (5, .int x5)] [] h) {rc : Int32 → Int32 → HP → Option (Int32 × HP)} (ih : ∀ (x6 : Int32) (x7 : Int32) (h : HP), rc x6 x7 h = some rr → h.1 = h0.1 → wp x 30 [(6, .int x6), (7, .int x7), (0, .ref x0), (1, .ref x1), (3, .int x3), (4, .int x4), (5, .int x5)] [] h) : ∀ (x6 : Int32) (x7 : Int32) (h : HP), f_X3_read_B30 N x0 x1 x3 x4 x5 k118 rc x6 x7 h = some rr → h.1 = h0.1 → wp x 30 [(6, .int x6), (7, .int x7), (0, .ref x0), (1, .ref x1), (3, .int x3), (4, .int x4), (5, .int x5)] [] h := by
  intro x6 x7 h hq e
  unfold f_X3_read_B30 at hq
  refine wp_iload (v := x7) ok dX3_read_30 rfl ?_
  refine wp_iload_n (v := x3) ok dX3_read_32 rfl ?_
  refine wp_icmp_ge (tgt := 159) ok dX3_read_33 (by decide) (fun c8 => ?_) (fun c8 => ?_)
  · have hq := ite_t c8 hq
    refine wp_iload (v := x6) ok dX3_read_159 rfl ?_
    exact wp_iret ok hF rfl e (re2I hq) dX3_read_161
  · have hq := ite_f c8 hq
    refine wp_iload (v := x7) ok dX3_read_36 rfl ?_
    refine wp_aload_n (v := x0) ok dX3_read_38 rfl ?_
    obtain ⟨t9, e10, hq⟩ := bnd_some hq
    obtain ⟨e11, n12, f13⟩ := rK_some e10
    replace f13 := sh_of (e).symm f13
    refine wp_getR ok fl_RX3_9 (sh_of e f_x0) e11 dX3_read_39 ?_
    refine wp_alen102 ok (sh_of e f13) (congrArg Int32.ofNat (len_of (sh_of e f13)).symm) dX3_read_42 ?_
    refine wp_icmp_ge (tgt := 159) ok dX3_read_43 (by decide) (fun c14 => ?_) (fun c14 => ?_)
    · have hq := ite_t c14 hq
      refine wp_iload (v := x6) ok dX3_read_159 rfl ?_
      exact wp_iret ok hF rfl e (re2I hq) dX3_read_161
    · have hq := ite_f c14 hq
      refine wp_aload_n (v := x1) ok dX3_read_46 rfl ?_
      refine wp_iload (v := x6) ok dX3_read_47 rfl ?_
      refine wp_iload (v := x4) ok dX3_read_49 rfl ?_
      refine wp_iload (v := x5) ok dX3_read_51 rfl ?_
      obtain ⟨v15, e16, hq⟩ := bnd_some hq
      refine wp_callVI (As := [.int x6, .int x4, .int x5]) (rest := []) (h1 := h) ok (m_X8_digits e16 (Nat.le_refl _)) my_X8_digits (w_312) pd_X8_digits (Nat.le_trans (by decide) hfr) rfl (ci := 8) rfl (by decide) (sh_of e f_x1) rfl rfl rfl dX3_read_53 (fun e17 => ?_)
      refine wp_istore (L' := [(8, .int v15), (6, .int x6), (7, .int x7), (0, .ref x0), (1, .ref x1), (3, .int x3), (4, .int x4), (5, .int x5)]) ok dX3_read_56 rfl rfl ?_
      refine wp_iload (v := v15) ok dX3_read_58 rfl ?_
      refine wp_if_ne (tgt := 66) ok dX3_read_60 (by decide) (fun c18 => ?_) (fun c18 => ?_)
      · have hq := ite_f c18 hq
        refine wp_aload_n (v := x0) ok dX3_read_66 rfl ?_
        obtain ⟨t19, e20, hq⟩ := bnd_some hq
        obtain ⟨e21, n22, f23⟩ := rK_some e20
        replace f23 := sh_of (e).symm f23
        refine wp_getR ok fl_RX3_9 (sh_of e f_x0) e21 dX3_read_67 ?_
        refine wp_iload (v := x7) ok dX3_read_70 rfl ?_
        refine wp_aload_n (v := x1) ok dX3_read_72 rfl ?_
        refine wp_iload (v := x6) ok dX3_read_73 rfl ?_
        refine wp_iload (v := v15) ok dX3_read_75 rfl ?_
        obtain ⟨v24, e25, hq⟩ := bnd_some hq
        refine wp_callVI (As := [.int x6, .int v15]) (rest := [.int x7, .ref t19]) (h1 := h) ok (m_X8_number e25 (Nat.le_refl _)) my_X8_number (w_323) pd_X8_number (Nat.le_trans (by decide) hfr) rfl (ci := 8) rfl (by decide) (sh_of e f_x1) rfl rfl rfl dX3_read_77 (fun e26 => ?_)
        obtain ⟨g27, hq⟩ := gP_some hq
        refine wp_iast ok (sh_of e f23) (ix_of (sh_of e f23) g27) dX3_read_80 ?_
        obtain ⟨h28, e29, hq⟩ := lt_some hq
        refine wp_nmH e29 ?_
        have e30 : h28.1 = h0.1 := (congrArg Prod.fst e29).trans e
        refine wp_aload_n (v := x0) ok dX3_read_81 rfl ?_
        refine wp_iload (v := x7) ok dX3_read_82 rfl ?_
        refine wp_iconst (v := 1) ok dX3_read_84 (by decide) ?_
        refine wp_iadd ok dX3_read_85 ?_
        refine wp_putI ok flw_RX3_15 (nr_3_1 _) (sh_of e30 f_x0) dX3_read_86 ?_
        obtain ⟨h31, e32, hq⟩ := lt_some hq
        refine wp_nmH e32 ?_
        have e33 : h31.1 = h0.1 := (congrArg Prod.fst e32).trans e30
        refine wp_iload (v := x6) ok dX3_read_89 rfl ?_
        refine wp_iload (v := v15) ok dX3_read_91 rfl ?_
        refine wp_iadd ok dX3_read_93 ?_
        obtain ⟨v34, e35, hq⟩ := lt_some hq
        refine wp_nmI e35 ?_
        refine wp_istore (L' := [(6, .int v34), (8, .int v15), (7, .int x7), (0, .ref x0), (1, .ref x1), (3, .int x3), (4, .int x4), (5, .int x5)]) ok dX3_read_94 rfl rfl ?_
        refine wp_aload_n (v := x0) ok dX3_read_96 rfl ?_
        obtain ⟨t36, e37, hq⟩ := bnd_some hq
        obtain ⟨e38, n39, f40⟩ := rK_some e37
        replace f40 := sh_of (e33).symm f40
        refine wp_getR ok fl_RX3_9 (sh_of e33 f_x0) e38 dX3_read_97 ?_
        refine wp_iload (v := x7) ok dX3_read_100 rfl ?_
        obtain ⟨g41, hq⟩ := gP_some hq
        refine wp_iald ok (sh_of e33 f40) (ix_of (sh_of e33 f40) g41) dX3_read_102 ?_
        refine wp_if_ne (tgt := 111) ok dX3_read_103 (by decide) (fun c42 => ?_) (fun c42 => ?_)
        · have hq := ite_f c42 hq
          refine wp_iload (v := v34) ok dX3_read_111 rfl ?_
          refine wp_iload (v := x5) ok dX3_read_113 rfl ?_
          refine wp_icmp_ne (tgt := 134) ok dX3_read_115 (by decide) (fun c43 => ?_) (fun c43 => ?_)
          · have hq := ite_f c43 hq
            refine wp_aload_n (v := x1) ok dX3_read_134 rfl ?_
            refine wp_iload (v := v34) ok dX3_read_135 rfl ?_
            refine wp_iload (v := x5) ok dX3_read_137 rfl ?_
            obtain ⟨v44, e45, hq⟩ := bnd_some hq
            refine wp_callVI (As := [.int v34, .int x5]) (rest := []) (h1 := h31) ok (m_X8_at e45 (Nat.le_refl _)) my_X8_at (w_327) pd_X8_at (Nat.le_trans (by decide) hfr) rfl (ci := 8) rfl (by decide) (sh_of e33 f_x1) rfl rfl rfl dX3_read_139 (fun e46 => ?_)
            refine wp_bipush (v := 59) ok dX3_read_142 (by decide) ?_
            refine wp_icmp_eq (tgt := 150) ok dX3_read_144 (by decide) (fun c47 => ?_) (fun c47 => ?_)
            · have hq := ite_t c47 hq
              obtain ⟨v48, e49, hq⟩ := lt_some hq
              refine wp_iinc (v := v34) (w := 1) (L' := [(6, .int v48), (8, .int v15), (7, .int x7), (0, .ref x0), (1, .ref x1), (3, .int x3), (4, .int x4), (5, .int x5)]) ok dX3_read_150 rfl (by decide) rfl (by rw [← e49]; rfl) ?_
              obtain ⟨v50, e51, hq⟩ := lt_some hq
              refine wp_iinc (v := x7) (w := 1) (L' := [(7, .int v50), (6, .int v48), (8, .int v15), (0, .ref x0), (1, .ref x1), (3, .int x3), (4, .int x4), (5, .int x5)]) ok dX3_read_153 rfl (by decide) rfl (by rw [← e51]; rfl) ?_
              refine wp_goto (tgt := 30) ok dX3_read_156 (by decide) ?_
              refine wp_sub (L' := [(6, .int v48), (7, .int v50), (0, .ref x0), (1, .ref x1), (3, .int x3), (4, .int x4), (5, .int x5)]) [1, 0, 3, 4, 5, 6, 7] rfl ?_
              exact ih v48 v50 h31 hq e33
            · have hq := ite_f c47 hq
              refine wp_iload (v := v34) ok dX3_read_147 rfl ?_
              exact wp_iret ok hF rfl e33 (re2I hq) dX3_read_149
          · have hq := ite_t c43 hq
            refine wp_sub (L' := [(1, .ref x1), (5, .int x5)]) [4, 7] rfl ?_
            exact hk118 h31 hq e33
        · have hq := ite_t c42 hq
          refine wp_iload (v := v34) ok dX3_read_106 rfl ?_
          refine wp_iconst (v := 1) ok dX3_read_108 (by decide) ?_
          refine wp_isub ok dX3_read_109 ?_
          exact wp_iret ok hF rfl e33 (re2I hq) dX3_read_110
      · have hq := ite_t c18 hq
        refine wp_iload (v := x6) ok dX3_read_63 rfl ?_
        exact wp_iret ok hF rfl e (re2I hq) dX3_read_65
set_option maxHeartbeats 4000000 in
set_option maxRecDepth 100000 in
theorem l_X3_read_B30 {x : Cx} {h0 : HP} {N fr : Nat} {rr : (Int32 × HP)} (ok : Okx x cX3_read yX3_read.cls 9 fr) (hfr : 2 ≤ fr)  {x0 : Nat} {x1 : Nat} {x3 : Int32} {x4 : Int32} {x5 : Int32} {n_x0 : Nat} (f_x0 : h0.1[x0]? = some (3, n_x0)) {n_x1 : Nat} (f_x1 : h0.1[x1]? = some (8, n_x1)) (hF : Fend x h0 (some (.int)) (QI rr.1 rr.2)) {k118 : HP → Option (Int32 × HP)} (hk118 : ∀ (h : HP), k118 h = some rr → h.1 = h0.1 → wp x 118 [(1, .ref x1), (5, .int x5)] [] h) : ∀ (n : Nat) (x6 : Int32) (x7 : Int32) (h : HP), lp (fun _ _ _ => none) (f_X3_read_B30 N x0 x1 x3 x4 x5 k118) n x6 x7 h = some rr → h.1 = h0.1 → wp x 30 [(6, .int x6), (7, .int x7), (0, .ref x0), (1, .ref x1), (3, .int x3), (4, .int x4), (5, .int x5)] [] h := by
  intro n
  induction n with
  | zero => intro x6 x7 h hq e; exact (Option.some_ne_none _ hq.symm).elim
  | succ n ih => exact s_X3_read_B30 ok hfr f_x0 f_x1 hF hk118 ih
set_option maxHeartbeats 4000000 in
set_option maxRecDepth 100000 in
theorem m_X3_read {l : Launch} {h : HP} {N : Nat} {x0 : Nat} {x1 : Nat} {x2 : Int32} {x3 : Int32} {x4 : Int32} {rr : Int32} {rh : HP} {fr : Nat} (hq : f_X3_read N h x0 x1 x2 x3 x4 = some (rr, rh)) (hfr : 2 ≤ fr) : Mt l yX3_read cX3_read 9 (some (.int)) fr [.ref x0, .ref x1, .int x2, .int x3, .int x4] h (QI rr rh) := by
  obtain ⟨rp, ep⟩ : ∃ rp : (Int32 × HP), rp = (rr, rh) := ⟨_, rfl⟩
  have e1p : rr = rp.1 := (congrArg Prod.fst ep).symm
  have e2p : rh = rp.2 := (congrArg Prod.snd ep).symm
  rw [← ep] at hq
  rw [e1p, e2p]
  clear e1p e2p ep
  refine Mt.of (by decide +kernel) (Nat.le_of_ble_eq_true rfl) (fun x hl ok hF => ?_)
  subst hl
  show wp x 0 [(0, .ref x0), (1, .ref x1), (2, .int x2), (3, .int x3), (4, .int x4)] [] h
  unfold f_X3_read at hq
  obtain ⟨h0, eh0⟩ : ∃ h0 : HP, h = h0 := ⟨h, rfl⟩
  have e : h.1 = h0.1 := by rw [eh0]
  rw [eh0] at hF
  obtain ⟨g_x0, hq⟩ := gP_some hq
  obtain ⟨n_x0, f_x0⟩ := kO_some g_x0
  replace f_x0 := sh_of e.symm f_x0
  obtain ⟨g_x1, hq⟩ := gP_some hq
  obtain ⟨n_x1, f_x1⟩ := kO_some g_x1
  replace f_x1 := sh_of e.symm f_x1
  refine wp_aload_n (v := x0) ok dX3_read_0 rfl ?_
  refine wp_iconst (v := 0) ok dX3_read_1 (by decide) ?_
  refine wp_putI ok flw_RX3_15 (nr_3_1 _) (sh_of e f_x0) dX3_read_2 ?_
  obtain ⟨h1, e2, hq⟩ := lt_some hq
  refine wp_nmH e2 ?_
  have e3 : h1.1 = h0.1 := (congrArg Prod.fst e2).trans e
  refine wp_aload_n (v := x1) ok dX3_read_5 rfl ?_
  refine wp_getI ok fl_RX3_19 (sh_of e3 f_x1) dX3_read_6 ?_
  refine wp_if_ne (tgt := 14) ok dX3_read_9 (by decide) (fun c4 => ?_) (fun c4 => ?_)
  · have hq := ite_f c4 hq
    refine wp_aload_n (v := x1) ok dX3_read_14 rfl ?_
    refine wp_getI ok fl_RX3_19 (sh_of e3 f_x1) dX3_read_15 ?_
    refine wp_iload_n (v := x2) ok dX3_read_18 rfl ?_
    obtain ⟨v5, e6, hq⟩ := bnd_some hq
    refine wp_callSI (As := [.int (h1.2.1 x1 1), .int x2]) (rest := []) (h1 := h1) ok (m_J9_min_7cf53 e6 (Nat.le_refl _)) my_J9_min_7cf53 (w_309) pd_J9_min_7cf53 (Nat.le_trans (by decide) hfr) rfl rfl rfl rfl dX3_read_19 (fun e7 => ?_)
    refine wp_istore (L' := [(5, .int v5), (0, .ref x0), (1, .ref x1), (2, .int x2), (3, .int x3), (4, .int x4)]) ok dX3_read_22 rfl rfl ?_
    refine wp_iconst (v := 0) ok dX3_read_24 (by decide) ?_
    refine wp_istore (L' := [(6, .int 0), (5, .int v5), (0, .ref x0), (1, .ref x1), (2, .int x2), (3, .int x3), (4, .int x4)]) ok dX3_read_25 rfl rfl ?_
    refine wp_iconst (v := 0) ok dX3_read_27 (by decide) ?_
    refine wp_istore (L' := [(7, .int 0), (6, .int 0), (5, .int v5), (0, .ref x0), (1, .ref x1), (2, .int x2), (3, .int x3), (4, .int x4)]) ok dX3_read_28 rfl rfl ?_
    refine wp_sub (L' := [(6, .int 0), (7, .int 0), (0, .ref x0), (1, .ref x1), (3, .int x3), (4, .int x4), (5, .int v5)]) [1, 0, 3, 4, 6, 7, 2] rfl ?_
    refine l_X3_read_B30 ok hfr f_x0 f_x1 hF ?_ N 0 0 h1 hq e3
    · intro h52 hq e53
      refine wp_aload_n (v := x1) ok dX3_read_118 rfl ?_
      refine wp_getI ok fl_RX3_19 (sh_of e53 f_x1) dX3_read_119 ?_
      refine wp_iload (v := v5) ok dX3_read_122 rfl ?_
      refine wp_icmp_le (tgt := 132) ok dX3_read_124 (by decide) (fun c54 => ?_) (fun c54 => ?_)
      · have hq := ite_t c54 hq
        refine wp_iconst (v := -1) ok dX3_read_132 (by decide) ?_
        exact wp_iret ok hF rfl e53 (re2I hq) dX3_read_133
      · have hq := ite_f c54 hq
        refine wp_iload (v := v5) ok dX3_read_127 rfl ?_
        refine wp_goto (tgt := 133) ok dX3_read_129 (by decide) ?_
        exact wp_iret ok hF rfl e53 (re2I hq) dX3_read_133
  · have hq := ite_t c4 hq
    refine wp_iconst (v := -1) ok dX3_read_12 (by decide) ?_
    exact wp_iret ok hF rfl e3 (re2I hq) dX3_read_13
set_option maxHeartbeats 4000000 in
set_option maxRecDepth 100000 in
theorem s_X3_sum_B4 {x : Cx} {h : HP} {N fr : Nat} {rr : Int32} (ok : Okx x cX3_sum yX3_sum.cls 4 fr) (hfr : 0 ≤ fr)  {x0 : Nat} {x1 : Int32} {n_x0 : Nat} (f_x0 : h.1[x0]? = some (3, n_x0)) (hF : Fend x h (some (.int)) (QI rr h)) {rc : Int32 → Int32 → Option Int32} (ih : ∀ (x2 : Int32) (x3 : Int32), rc x2 x3 = some rr → wp x 4 [(2, .int x2), (3, .int x3), (0, .ref x0), (1, .int x1)] [] h) : ∀ (x2 : Int32) (x3 : Int32), f_X3_sum_B4 N x0 x1 h rc x2 x3 = some rr → wp x 4 [(2, .int x2), (3, .int x3), (0, .ref x0), (1, .int x1)] [] h := by
  intro x2 x3 hq
  unfold f_X3_sum_B4 at hq
  refine wp_iload_n (v := x3) ok dX3_sum_4 rfl ?_
  refine wp_aload_n (v := x0) ok dX3_sum_5 rfl ?_
  refine wp_getI ok fl_RX3_15 (sh_of rfl f_x0) dX3_sum_6 ?_
  refine wp_icmp_ge (tgt := 33) ok dX3_sum_9 (by decide) (fun c1 => ?_) (fun c1 => ?_)
  · have hq := ite_t c1 hq
    refine wp_iload_n (v := x2) ok dX3_sum_33 rfl ?_
    exact wp_iret ok hF rfl rfl (re1I hq) dX3_sum_34
  · have hq := ite_f c1 hq
    refine wp_iload_n (v := x2) ok dX3_sum_12 rfl ?_
    refine wp_iload_n (v := x1) ok dX3_sum_13 rfl ?_
    refine wp_iload_n (v := x3) ok dX3_sum_14 rfl ?_
    refine wp_ishr ok dX3_sum_15 ?_
    refine wp_iconst (v := 1) ok dX3_sum_16 (by decide) ?_
    refine wp_iand ok dX3_sum_17 ?_
    refine wp_aload_n (v := x0) ok dX3_sum_18 rfl ?_
    obtain ⟨t2, e3, hq⟩ := bnd_some hq
    obtain ⟨e4, n5, f6⟩ := rK_some e3
    replace f6 := sh_of (rfl).symm f6
    refine wp_getR ok fl_RX3_9 (sh_of rfl f_x0) e4 dX3_sum_19 ?_
    refine wp_iload_n (v := x3) ok dX3_sum_22 rfl ?_
    obtain ⟨g7, hq⟩ := gP_some hq
    refine wp_iald ok (sh_of rfl f6) (ix_of (sh_of rfl f6) g7) dX3_sum_23 ?_
    refine wp_imul ok dX3_sum_24 ?_
    refine wp_iadd ok dX3_sum_25 ?_
    obtain ⟨v8, e9, hq⟩ := lt_some hq
    refine wp_nmI e9 ?_
    refine wp_istore_n (L' := [(2, .int v8), (3, .int x3), (0, .ref x0), (1, .int x1)]) ok dX3_sum_26 rfl rfl ?_
    obtain ⟨v10, e11, hq⟩ := lt_some hq
    refine wp_iinc (v := x3) (w := 1) (L' := [(3, .int v10), (2, .int v8), (0, .ref x0), (1, .int x1)]) ok dX3_sum_27 rfl (by decide) rfl (by rw [← e11]; rfl) ?_
    refine wp_goto (tgt := 4) ok dX3_sum_30 (by decide) ?_
    refine wp_sub (L' := [(2, .int v8), (3, .int v10), (0, .ref x0), (1, .int x1)]) [1, 0, 2, 3] rfl ?_
    exact ih v8 v10 hq
set_option maxHeartbeats 4000000 in
set_option maxRecDepth 100000 in
theorem l_X3_sum_B4 {x : Cx} {h : HP} {N fr : Nat} {rr : Int32} (ok : Okx x cX3_sum yX3_sum.cls 4 fr) (hfr : 0 ≤ fr)  {x0 : Nat} {x1 : Int32} {n_x0 : Nat} (f_x0 : h.1[x0]? = some (3, n_x0)) (hF : Fend x h (some (.int)) (QI rr h)) : ∀ (n : Nat) (x2 : Int32) (x3 : Int32), lp (fun _ _ => none) (f_X3_sum_B4 N x0 x1 h) n x2 x3 = some rr → wp x 4 [(2, .int x2), (3, .int x3), (0, .ref x0), (1, .int x1)] [] h := by
  intro n
  induction n with
  | zero => intro x2 x3 hq; exact (Option.some_ne_none _ hq.symm).elim
  | succ n ih => exact s_X3_sum_B4 ok hfr f_x0 hF  ih
set_option maxHeartbeats 4000000 in
set_option maxRecDepth 100000 in
theorem m_X3_sum {l : Launch} {h : HP} {N : Nat} {x0 : Nat} {x1 : Int32} {rr : Int32} {fr : Nat} (hq : f_X3_sum N h x0 x1 = some rr) (hfr : 0 ≤ fr) : Mt l yX3_sum cX3_sum 4 (some (.int)) fr [.ref x0, .int x1] h (QI rr h) := by
  refine Mt.of (by decide +kernel) (Nat.le_of_ble_eq_true rfl) (fun x hl ok hF => ?_)
  subst hl
  show wp x 0 [(0, .ref x0), (1, .int x1)] [] h
  unfold f_X3_sum at hq
  obtain ⟨g_x0, hq⟩ := gP_some hq
  obtain ⟨n_x0, f_x0⟩ := kO_some g_x0
  refine wp_iconst (v := 0) ok dX3_sum_0 (by decide) ?_
  refine wp_istore_n (L' := [(2, .int 0), (0, .ref x0), (1, .int x1)]) ok dX3_sum_1 rfl rfl ?_
  refine wp_iconst (v := 0) ok dX3_sum_2 (by decide) ?_
  refine wp_istore_n (L' := [(3, .int 0), (2, .int 0), (0, .ref x0), (1, .int x1)]) ok dX3_sum_3 rfl rfl ?_
  refine wp_sub (L' := [(2, .int 0), (3, .int 0), (0, .ref x0), (1, .int x1)]) [1, 0, 2, 3] rfl ?_
  refine l_X3_sum_B4 ok hfr f_x0 hF  N 0 0 hq
set_option maxHeartbeats 4000000 in
set_option maxRecDepth 100000 in
theorem m_X4_begin {l : Launch} {h : HP} {x0 : Nat} {x1 : Int32} {rr : HP} {fr : Nat} (hq : f_X4_begin h x0 x1 = some rr) (hfr : 0 ≤ fr) : Mt l yX4_begin cX4_begin 2 none fr [.ref x0, .int x1] h (QV rr) := by
  refine Mt.of (by decide +kernel) (Nat.le_of_ble_eq_true rfl) (fun x hl ok hF => ?_)
  subst hl
  show wp x 0 [(0, .ref x0), (1, .int x1)] [] h
  unfold f_X4_begin at hq
  obtain ⟨h0, eh0⟩ : ∃ h0 : HP, h = h0 := ⟨h, rfl⟩
  have e : h.1 = h0.1 := by rw [eh0]
  rw [eh0] at hF
  obtain ⟨g_x0, hq⟩ := gP_some hq
  obtain ⟨n_x0, f_x0⟩ := kO_some g_x0
  replace f_x0 := sh_of e.symm f_x0
  refine wp_aload_n (v := x0) ok dX4_begin_0 rfl ?_
  refine wp_iload_n (v := x1) ok dX4_begin_1 rfl ?_
  refine wp_putI ok flw_RX4_7 (nr_4_0 _) (sh_of e f_x0) dX4_begin_2 ?_
  obtain ⟨h1, e2, hq⟩ := lt_some hq
  refine wp_nmH e2 ?_
  have e3 : h1.1 = h0.1 := (congrArg Prod.fst e2).trans e
  exact wp_vret ok hF e3 (reV hq) dX4_begin_5
set_option maxHeartbeats 4000000 in
set_option maxRecDepth 100000 in
theorem m_X4_draw {l : Launch} {h : HP} {x0 : Nat} {x1 : Int32} {rr : Int32} {rh : HP} {fr : Nat} (hq : f_X4_draw h x0 x1 = some (rr, rh)) (hfr : 0 ≤ fr) : Mt l yX4_draw cX4_draw 2 (some (.int)) fr [.ref x0, .int x1] h (QI rr rh) := by
  obtain ⟨rp, ep⟩ : ∃ rp : (Int32 × HP), rp = (rr, rh) := ⟨_, rfl⟩
  have e1p : rr = rp.1 := (congrArg Prod.fst ep).symm
  have e2p : rh = rp.2 := (congrArg Prod.snd ep).symm
  rw [← ep] at hq
  rw [e1p, e2p]
  clear e1p e2p ep
  refine Mt.of (by decide +kernel) (Nat.le_of_ble_eq_true rfl) (fun x hl ok hF => ?_)
  subst hl
  show wp x 0 [(0, .ref x0), (1, .int x1)] [] h
  unfold f_X4_draw at hq
  obtain ⟨h0, eh0⟩ : ∃ h0 : HP, h = h0 := ⟨h, rfl⟩
  have e : h.1 = h0.1 := by rw [eh0]
  rw [eh0] at hF
  obtain ⟨g_x0, hq⟩ := gP_some hq
  obtain ⟨n_x0, f_x0⟩ := kO_some g_x0
  replace f_x0 := sh_of e.symm f_x0
  refine wp_aload_n (v := x0) ok dX4_draw_0 rfl ?_
  refine wp_aload_n (v := x0) ok dX4_draw_1 rfl ?_
  refine wp_getI ok fl_RX4_7 (sh_of e f_x0) dX4_draw_2 ?_
  refine wp_ldc (v := 1103515245) ok (w_932) dX4_draw_5 ?_
  refine wp_imul ok dX4_draw_7 ?_
  refine wp_sipush (v := 12345) ok dX4_draw_8 (by decide) ?_
  refine wp_iadd ok dX4_draw_11 ?_
  refine wp_putI ok flw_RX4_7 (nr_4_0 _) (sh_of e f_x0) dX4_draw_12 ?_
  obtain ⟨h1, e2, hq⟩ := lt_some hq
  refine wp_nmH e2 ?_
  have e3 : h1.1 = h0.1 := (congrArg Prod.fst e2).trans e
  refine wp_iload_n (v := x1) ok dX4_draw_15 rfl ?_
  refine wp_if_gt (tgt := 23) ok dX4_draw_16 (by decide) (fun c4 => ?_) (fun c4 => ?_)
  · have hq := ite_t c4 hq
    refine wp_aload_n (v := x0) ok dX4_draw_23 rfl ?_
    refine wp_getI ok fl_RX4_7 (sh_of e3 f_x0) dX4_draw_24 ?_
    refine wp_bipush (v := 16) ok dX4_draw_27 (by decide) ?_
    refine wp_iushr ok dX4_draw_29 ?_
    refine wp_iload_n (v := x1) ok dX4_draw_30 rfl ?_
    obtain ⟨g5, hq⟩ := gP_some hq
    refine wp_irem ok dX4_draw_31 g5 ?_
    exact wp_iret ok hF rfl e3 (re2I hq) dX4_draw_32
  · have hq := ite_f c4 hq
    refine wp_iconst (v := 0) ok dX4_draw_19 (by decide) ?_
    refine wp_goto (tgt := 32) ok dX4_draw_20 (by decide) ?_
    exact wp_iret ok hF rfl e3 (re2I hq) dX4_draw_32
set_option maxHeartbeats 4000000 in
set_option maxRecDepth 100000 in
theorem m_X5_put {l : Launch} {h : HP} {N : Nat} {x0 : Nat} {x1 : Nat} {rr : HP} {fr : Nat} (hq : f_X5_put N h x0 x1 = some rr) (hfr : 2 ≤ fr) : Mt l yX5_put cX5_put 2 none fr [.ref x0, .ref x1] h (QV rr) := by
  refine Mt.of (by decide +kernel) (Nat.le_of_ble_eq_true rfl) (fun x hl ok hF => ?_)
  subst hl
  show wp x 0 [(0, .ref x0), (1, .ref x1)] [] h
  unfold f_X5_put at hq
  obtain ⟨h0, eh0⟩ : ∃ h0 : HP, h = h0 := ⟨h, rfl⟩
  have e : h.1 = h0.1 := by rw [eh0]
  rw [eh0] at hF
  obtain ⟨g_x0, hq⟩ := gP_some hq
  obtain ⟨n_x0, f_x0⟩ := kO_some g_x0
  replace f_x0 := sh_of e.symm f_x0
  obtain ⟨g_x1, hq⟩ := gP_some hq
  obtain ⟨n_x1, f_x1⟩ := kO_some g_x1
  replace f_x1 := sh_of e.symm f_x1
  refine wp_aload_n (v := x0) ok dX5_put_0 rfl ?_
  obtain ⟨t1, e2, hq⟩ := bnd_some hq
  obtain ⟨e3, n4, f5⟩ := rK_some e2
  replace f5 := sh_of (e).symm f5
  refine wp_getR ok fl_RX5_11 (sh_of e f_x0) e3 dX5_put_1 ?_
  refine wp_aload_n (v := x0) ok dX5_put_4 rfl ?_
  refine wp_getI ok fl_RX5_17 (sh_of e f_x0) dX5_put_5 ?_
  obtain ⟨g6, hq⟩ := gP_some hq
  obtain ⟨t7, e8, hq⟩ := bnd_some hq
  obtain ⟨e9, n10, f11⟩ := rK_some e8
  replace f11 := sh_of (e).symm f11
  refine wp_aald105 ok (sh_of e f5) (ix_of (sh_of e f5) g6) e9 dX5_put_8 ?_
  refine wp_aload_n (v := x1) ok dX5_put_9 rfl ?_
  obtain ⟨h12, e13, hq⟩ := bnd_some hq
  refine wp_callVV (As := [.ref x1]) (rest := []) (h1 := h12) ok (m_X0_become e13 (Nat.le_refl _)) my_X0_become (w_551) pd_X0_become (Nat.le_trans (by decide) hfr) rfl (ci := 0) rfl (by decide) (sh_of e f11) rfl rfl rfl dX5_put_10 (fun e14 => ?_)
  have e15 : h12.1 = h0.1 := (e14).trans e
  refine wp_aload_n (v := x0) ok dX5_put_13 rfl ?_
  refine wp_aload_n (v := x0) ok dX5_put_14 rfl ?_
  refine wp_getI ok fl_RX5_17 (sh_of e15 f_x0) dX5_put_15 ?_
  refine wp_bipush (v := 14) ok dX5_put_18 (by decide) ?_
  obtain ⟨k16, ek16, hq⟩ := jn1_some hq
  have kk16 : ∀ (y17 : Int32), k16 y17 = some rr → wp x 33 [(0, .ref x0)] [.int y17, .ref x0] h12 := by
    intro y17 hq
    have hq := (ek16 y17).symm.trans hq
    refine wp_putI ok flw_RX5_17 (nr_5_1 _) (sh_of e15 f_x0) dX5_put_33 ?_
    obtain ⟨h18, e19, hq⟩ := lt_some hq
    refine wp_nmH e19 ?_
    have e20 : h18.1 = h0.1 := (congrArg Prod.fst e19).trans e15
    refine wp_aload_n (v := x0) ok dX5_put_36 rfl ?_
    refine wp_bipush (v := 15) ok dX5_put_37 (by decide) ?_
    refine wp_aload_n (v := x0) ok dX5_put_39 rfl ?_
    refine wp_getI ok fl_RX5_21 (sh_of e20 f_x0) dX5_put_40 ?_
    refine wp_iconst (v := 1) ok dX5_put_43 (by decide) ?_
    refine wp_iadd ok dX5_put_44 ?_
    obtain ⟨v21, e22, hq⟩ := bnd_some hq
    refine wp_callSI (As := [.int 15, .int ((h18.2.1 x0 2) + 1)]) (rest := [.ref x0]) (h1 := h18) ok (m_J9_min_7cf53 e22 (Nat.le_refl _)) my_J9_min_7cf53 (w_552) pd_J9_min_7cf53 (Nat.le_trans (by decide) hfr) rfl rfl rfl rfl dX5_put_45 (fun e23 => ?_)
    refine wp_putI ok flw_RX5_21 (nr_5_2 _) (sh_of e20 f_x0) dX5_put_48 ?_
    obtain ⟨h24, e25, hq⟩ := lt_some hq
    refine wp_nmH e25 ?_
    have e26 : h24.1 = h0.1 := (congrArg Prod.fst e25).trans e20
    exact wp_vret ok hF e26 (reV hq) dX5_put_51
  refine wp_icmp_ne (tgt := 27) ok dX5_put_20 (by decide) (fun c27 => ?_) (fun c27 => ?_)
  · have hq := ite_f c27 hq
    refine wp_aload_n (v := x0) ok dX5_put_27 rfl ?_
    refine wp_getI ok fl_RX5_17 (sh_of e15 f_x0) dX5_put_28 ?_
    refine wp_iconst (v := 1) ok dX5_put_31 (by decide) ?_
    refine wp_iadd ok dX5_put_32 ?_
    refine wp_sub (L' := [(0, .ref x0)]) [0] rfl ?_
    exact kk16 ((h12.2.1 x0 1) + 1) hq
  · have hq := ite_t c27 hq
    refine wp_iconst (v := 0) ok dX5_put_23 (by decide) ?_
    refine wp_goto (tgt := 33) ok dX5_put_24 (by decide) ?_
    refine wp_sub (L' := [(0, .ref x0)]) [0] rfl ?_
    exact kk16 0 hq
set_option maxHeartbeats 4000000 in
set_option maxRecDepth 100000 in
theorem m_X5_giveBack {l : Launch} {h : HP} {N : Nat} {x0 : Nat} {x1 : Nat} {rr : Int32} {rh : HP} {fr : Nat} (hq : f_X5_giveBack N h x0 x1 = some (rr, rh)) (hfr : 2 ≤ fr) : Mt l yX5_giveBack cX5_giveBack 2 (some (.boolean)) fr [.ref x0, .ref x1] h (QI rr rh) := by
  obtain ⟨rp, ep⟩ : ∃ rp : (Int32 × HP), rp = (rr, rh) := ⟨_, rfl⟩
  have e1p : rr = rp.1 := (congrArg Prod.fst ep).symm
  have e2p : rh = rp.2 := (congrArg Prod.snd ep).symm
  rw [← ep] at hq
  rw [e1p, e2p]
  clear e1p e2p ep
  refine Mt.of (by decide +kernel) (Nat.le_of_ble_eq_true rfl) (fun x hl ok hF => ?_)
  subst hl
  show wp x 0 [(0, .ref x0), (1, .ref x1)] [] h
  unfold f_X5_giveBack at hq
  obtain ⟨h0, eh0⟩ : ∃ h0 : HP, h = h0 := ⟨h, rfl⟩
  have e : h.1 = h0.1 := by rw [eh0]
  rw [eh0] at hF
  obtain ⟨g_x0, hq⟩ := gP_some hq
  obtain ⟨n_x0, f_x0⟩ := kO_some g_x0
  replace f_x0 := sh_of e.symm f_x0
  obtain ⟨g_x1, hq⟩ := gP_some hq
  obtain ⟨n_x1, f_x1⟩ := kO_some g_x1
  replace f_x1 := sh_of e.symm f_x1
  refine wp_aload_n (v := x0) ok dX5_giveBack_0 rfl ?_
  refine wp_getI ok fl_RX5_21 (sh_of e f_x0) dX5_giveBack_1 ?_
  refine wp_if_ne (tgt := 9) ok dX5_giveBack_4 (by decide) (fun c1 => ?_) (fun c1 => ?_)
  · have hq := ite_f c1 hq
    refine wp_aload_n (v := x0) ok dX5_giveBack_9 rfl ?_
    refine wp_aload_n (v := x0) ok dX5_giveBack_10 rfl ?_
    refine wp_getI ok fl_RX5_17 (sh_of e f_x0) dX5_giveBack_11 ?_
    obtain ⟨k2, ek2, hq⟩ := jn1_some hq
    have kk2 : ∀ (y3 : Int32), k2 y3 = some rp → wp x 28 [(0, .ref x0), (1, .ref x1)] [.int y3, .ref x0] h := by
      intro y3 hq
      have hq := (ek2 y3).symm.trans hq
      refine wp_putI ok flw_RX5_17 (nr_5_1 _) (sh_of e f_x0) dX5_giveBack_28 ?_
      obtain ⟨h4, e5, hq⟩ := lt_some hq
      refine wp_nmH e5 ?_
      have e6 : h4.1 = h0.1 := (congrArg Prod.fst e5).trans e
      refine wp_aload_n (v := x0) ok dX5_giveBack_31 rfl ?_
      refine wp_dup ok dX5_giveBack_32 rfl ?_
      refine wp_getI ok fl_RX5_21 (sh_of e6 f_x0) dX5_giveBack_33 ?_
      refine wp_iconst (v := 1) ok dX5_giveBack_36 (by decide) ?_
      refine wp_isub ok dX5_giveBack_37 ?_
      refine wp_putI ok flw_RX5_21 (nr_5_2 _) (sh_of e6 f_x0) dX5_giveBack_38 ?_
      obtain ⟨h7, e8, hq⟩ := lt_some hq
      refine wp_nmH e8 ?_
      have e9 : h7.1 = h0.1 := (congrArg Prod.fst e8).trans e6
      refine wp_aload_n (v := x1) ok dX5_giveBack_41 rfl ?_
      refine wp_aload_n (v := x0) ok dX5_giveBack_42 rfl ?_
      obtain ⟨t10, e11, hq⟩ := bnd_some hq
      obtain ⟨e12, n13, f14⟩ := rK_some e11
      replace f14 := sh_of (e9).symm f14
      refine wp_getR ok fl_RX5_11 (sh_of e9 f_x0) e12 dX5_giveBack_43 ?_
      refine wp_aload_n (v := x0) ok dX5_giveBack_46 rfl ?_
      refine wp_getI ok fl_RX5_17 (sh_of e9 f_x0) dX5_giveBack_47 ?_
      obtain ⟨g15, hq⟩ := gP_some hq
      obtain ⟨t16, e17, hq⟩ := bnd_some hq
      obtain ⟨e18, n19, f20⟩ := rK_some e17
      replace f20 := sh_of (e9).symm f20
      refine wp_aald105 ok (sh_of e9 f14) (ix_of (sh_of e9 f14) g15) e18 dX5_giveBack_50 ?_
      obtain ⟨h21, e22, hq⟩ := bnd_some hq
      refine wp_callVV (As := [.ref t16]) (rest := []) (h1 := h21) ok (m_X0_become e22 (Nat.le_refl _)) my_X0_become (w_551) pd_X0_become (Nat.le_trans (by decide) hfr) rfl (ci := 0) rfl (by decide) (sh_of e9 f_x1) rfl rfl rfl dX5_giveBack_51 (fun e23 => ?_)
      have e24 : h21.1 = h0.1 := (e23).trans e9
      refine wp_iconst (v := 1) ok dX5_giveBack_54 (by decide) ?_
      exact wp_iret ok hF (nb_z (Or.inr rfl)) e24 (re2I hq) dX5_giveBack_55
    refine wp_if_ne (tgt := 22) ok dX5_giveBack_14 (by decide) (fun c25 => ?_) (fun c25 => ?_)
    · have hq := ite_f c25 hq
      refine wp_aload_n (v := x0) ok dX5_giveBack_22 rfl ?_
      refine wp_getI ok fl_RX5_17 (sh_of e f_x0) dX5_giveBack_23 ?_
      refine wp_iconst (v := 1) ok dX5_giveBack_26 (by decide) ?_
      refine wp_isub ok dX5_giveBack_27 ?_
      refine wp_sub (L' := [(0, .ref x0), (1, .ref x1)]) [0, 1] rfl ?_
      exact kk2 ((h.2.1 x0 1) - 1) hq
    · have hq := ite_t c25 hq
      refine wp_bipush (v := 14) ok dX5_giveBack_17 (by decide) ?_
      refine wp_goto (tgt := 28) ok dX5_giveBack_19 (by decide) ?_
      refine wp_sub (L' := [(0, .ref x0), (1, .ref x1)]) [0, 1] rfl ?_
      exact kk2 14 hq
  · have hq := ite_t c1 hq
    refine wp_iconst (v := 0) ok dX5_giveBack_7 (by decide) ?_
    exact wp_iret ok hF (nb_z (Or.inl rfl)) e (re2I hq) dX5_giveBack_8
set_option maxHeartbeats 4000000 in
set_option maxRecDepth 100000 in
theorem m_X5_clear {l : Launch} {h : HP} {x0 : Nat} {rr : HP} {fr : Nat} (hq : f_X5_clear h x0 = some rr) (hfr : 0 ≤ fr) : Mt l yX5_clear cX5_clear 1 none fr [.ref x0] h (QV rr) := by
  refine Mt.of (by decide +kernel) (Nat.le_of_ble_eq_true rfl) (fun x hl ok hF => ?_)
  subst hl
  show wp x 0 [(0, .ref x0)] [] h
  unfold f_X5_clear at hq
  obtain ⟨h0, eh0⟩ : ∃ h0 : HP, h = h0 := ⟨h, rfl⟩
  have e : h.1 = h0.1 := by rw [eh0]
  rw [eh0] at hF
  obtain ⟨g_x0, hq⟩ := gP_some hq
  obtain ⟨n_x0, f_x0⟩ := kO_some g_x0
  replace f_x0 := sh_of e.symm f_x0
  refine wp_aload_n (v := x0) ok dX5_clear_0 rfl ?_
  refine wp_iconst (v := 0) ok dX5_clear_1 (by decide) ?_
  refine wp_putI ok flw_RX5_21 (nr_5_2 _) (sh_of e f_x0) dX5_clear_2 ?_
  obtain ⟨h1, e2, hq⟩ := lt_some hq
  refine wp_nmH e2 ?_
  have e3 : h1.1 = h0.1 := (congrArg Prod.fst e2).trans e
  exact wp_vret ok hF e3 (reV hq) dX5_clear_5
set_option maxHeartbeats 4000000 in
set_option maxRecDepth 100000 in
theorem m_X6_clear {l : Launch} {h : HP} {x0 : Nat} {rr : HP} {fr : Nat} (hq : f_X6_clear h x0 = some rr) (hfr : 0 ≤ fr) : Mt l yX6_clear cX6_clear 1 none fr [.ref x0] h (QV rr) := by
  refine Mt.of (by decide +kernel) (Nat.le_of_ble_eq_true rfl) (fun x hl ok hF => ?_)
  subst hl
  show wp x 0 [(0, .ref x0)] [] h
  unfold f_X6_clear at hq
  obtain ⟨h0, eh0⟩ : ∃ h0 : HP, h = h0 := ⟨h, rfl⟩
  have e : h.1 = h0.1 := by rw [eh0]
  rw [eh0] at hF
  obtain ⟨g_x0, hq⟩ := gP_some hq
  obtain ⟨n_x0, f_x0⟩ := kO_some g_x0
  replace f_x0 := sh_of e.symm f_x0
  refine wp_aload_n (v := x0) ok dX6_clear_0 rfl ?_
  refine wp_iconst (v := 0) ok dX6_clear_1 (by decide) ?_
  refine wp_putI ok flw_RX6_15 (nr_6_1 _) (sh_of e f_x0) dX6_clear_2 ?_
  obtain ⟨h1, e2, hq⟩ := lt_some hq
  refine wp_nmH e2 ?_
  have e3 : h1.1 = h0.1 := (congrArg Prod.fst e2).trans e
  exact wp_vret ok hF e3 (reV hq) dX6_clear_5
set_option maxHeartbeats 4000000 in
set_option maxRecDepth 100000 in
theorem m_X6_add {l : Launch} {h : HP} {x0 : Nat} {x1 : Int64} {rr : HP} {fr : Nat} (hq : f_X6_add h x0 x1 = some rr) (hfr : 0 ≤ fr) : Mt l yX6_add cX6_add 3 none fr [.ref x0, .long x1] h (QV rr) := by
  refine Mt.of (by decide +kernel) (Nat.le_of_ble_eq_true rfl) (fun x hl ok hF => ?_)
  subst hl
  show wp x 0 [(0, .ref x0), (1, .long x1)] [] h
  unfold f_X6_add at hq
  obtain ⟨h0, eh0⟩ : ∃ h0 : HP, h = h0 := ⟨h, rfl⟩
  have e : h.1 = h0.1 := by rw [eh0]
  rw [eh0] at hF
  obtain ⟨g_x0, hq⟩ := gP_some hq
  obtain ⟨n_x0, f_x0⟩ := kO_some g_x0
  replace f_x0 := sh_of e.symm f_x0
  refine wp_aload_n (v := x0) ok dX6_add_0 rfl ?_
  refine wp_getI ok fl_RX6_15 (sh_of e f_x0) dX6_add_1 ?_
  refine wp_aload_n (v := x0) ok dX6_add_4 rfl ?_
  obtain ⟨t1, e2, hq⟩ := bnd_some hq
  obtain ⟨e3, n4, f5⟩ := rK_some e2
  replace f5 := sh_of (e).symm f5
  refine wp_getR ok fl_RX6_9 (sh_of e f_x0) e3 dX6_add_5 ?_
  refine wp_alen103 ok (sh_of e f5) (congrArg Int32.ofNat (len_of (sh_of e f5)).symm) dX6_add_8 ?_
  refine wp_icmp_ge (tgt := 32) ok dX6_add_9 (by decide) (fun c6 => ?_) (fun c6 => ?_)
  · have hq := ite_t c6 hq
    exact wp_vret ok hF e (reV hq) dX6_add_32
  · have hq := ite_f c6 hq
    refine wp_aload_n (v := x0) ok dX6_add_12 rfl ?_
    obtain ⟨t7, e8, hq⟩ := bnd_some hq
    obtain ⟨e9, n10, f11⟩ := rK_some e8
    replace f11 := sh_of (e).symm f11
    refine wp_getR ok fl_RX6_9 (sh_of e f_x0) e9 dX6_add_13 ?_
    refine wp_aload_n (v := x0) ok dX6_add_16 rfl ?_
    refine wp_getI ok fl_RX6_15 (sh_of e f_x0) dX6_add_17 ?_
    refine wp_lload_n (v := x1) ok dX6_add_20 rfl ?_
    obtain ⟨g12, hq⟩ := gP_some hq
    refine wp_last ok (sh_of e f11) (ix_of (sh_of e f11) g12) dX6_add_21 ?_
    obtain ⟨h13, e14, hq⟩ := lt_some hq
    refine wp_nmH e14 ?_
    have e15 : h13.1 = h0.1 := (congrArg Prod.fst e14).trans e
    refine wp_aload_n (v := x0) ok dX6_add_22 rfl ?_
    refine wp_dup ok dX6_add_23 rfl ?_
    refine wp_getI ok fl_RX6_15 (sh_of e15 f_x0) dX6_add_24 ?_
    refine wp_iconst (v := 1) ok dX6_add_27 (by decide) ?_
    refine wp_iadd ok dX6_add_28 ?_
    refine wp_putI ok flw_RX6_15 (nr_6_1 _) (sh_of e15 f_x0) dX6_add_29 ?_
    obtain ⟨h16, e17, hq⟩ := lt_some hq
    refine wp_nmH e17 ?_
    have e18 : h16.1 = h0.1 := (congrArg Prod.fst e17).trans e15
    exact wp_vret ok hF e18 (reV hq) dX6_add_32
set_option maxHeartbeats 4000000 in
set_option maxRecDepth 100000 in
theorem m_X6_tell {l : Launch} {h : HP} {x0 : Nat} {x1 : Int64} {rr : HP} {fr : Nat} (hq : f_X6_tell h x0 x1 = some rr) (hfr : 1 ≤ fr) : Mt l yX6_tell cX6_tell 3 none fr [.ref x0, .long x1] h (QV rr) := by
  refine Mt.of (by decide +kernel) (Nat.le_of_ble_eq_true rfl) (fun x hl ok hF => ?_)
  subst hl
  show wp x 0 [(0, .ref x0), (1, .long x1)] [] h
  unfold f_X6_tell at hq
  obtain ⟨h0, eh0⟩ : ∃ h0 : HP, h = h0 := ⟨h, rfl⟩
  have e : h.1 = h0.1 := by rw [eh0]
  rw [eh0] at hF
  obtain ⟨g_x0, hq⟩ := gP_some hq
  obtain ⟨n_x0, f_x0⟩ := kO_some g_x0
  replace f_x0 := sh_of e.symm f_x0
  refine wp_aload_n (v := x0) ok dX6_tell_0 rfl ?_
  refine wp_iconst (v := 0) ok dX6_tell_1 (by decide) ?_
  refine wp_putI ok flw_RX6_15 (nr_6_1 _) (sh_of e f_x0) dX6_tell_2 ?_
  obtain ⟨h1, e2, hq⟩ := lt_some hq
  refine wp_nmH e2 ?_
  have e3 : h1.1 = h0.1 := (congrArg Prod.fst e2).trans e
  refine wp_aload_n (v := x0) ok dX6_tell_5 rfl ?_
  refine wp_lload_n (v := x1) ok dX6_tell_6 rfl ?_
  obtain ⟨h4, e5, hq⟩ := bnd_some hq
  refine wp_callVV (As := [.long x1]) (rest := []) (h1 := h4) ok (m_X6_add e5 (Nat.le_refl _)) my_X6_add (w_575) pd_X6_add (Nat.le_trans (by decide) hfr) rfl (ci := 6) rfl (by decide) (sh_of e3 f_x0) rfl rfl rfl dX6_tell_7 (fun e6 => ?_)
  have e7 : h4.1 = h0.1 := (e6).trans e3
  exact wp_vret ok hF e7 (reV hq) dX6_tell_10
set_option maxHeartbeats 4000000 in
set_option maxRecDepth 100000 in
theorem m_X6_tell_ {l : Launch} {h : HP} {x0 : Nat} {x1 : Int64} {x3 : Int64} {rr : HP} {fr : Nat} (hq : f_X6_tell_ h x0 x1 x3 = some rr) (hfr : 1 ≤ fr) : Mt l yX6_tell_ cX6_tell_ 5 none fr [.ref x0, .long x1, .long x3] h (QV rr) := by
  refine Mt.of (by decide +kernel) (Nat.le_of_ble_eq_true rfl) (fun x hl ok hF => ?_)
  subst hl
  show wp x 0 [(0, .ref x0), (1, .long x1), (3, .long x3)] [] h
  unfold f_X6_tell_ at hq
  obtain ⟨h0, eh0⟩ : ∃ h0 : HP, h = h0 := ⟨h, rfl⟩
  have e : h.1 = h0.1 := by rw [eh0]
  rw [eh0] at hF
  obtain ⟨g_x0, hq⟩ := gP_some hq
  obtain ⟨n_x0, f_x0⟩ := kO_some g_x0
  replace f_x0 := sh_of e.symm f_x0
  refine wp_aload_n (v := x0) ok dX6_tell__0 rfl ?_
  refine wp_iconst (v := 0) ok dX6_tell__1 (by decide) ?_
  refine wp_putI ok flw_RX6_15 (nr_6_1 _) (sh_of e f_x0) dX6_tell__2 ?_
  obtain ⟨h1, e2, hq⟩ := lt_some hq
  refine wp_nmH e2 ?_
  have e3 : h1.1 = h0.1 := (congrArg Prod.fst e2).trans e
  refine wp_aload_n (v := x0) ok dX6_tell__5 rfl ?_
  refine wp_lload_n (v := x1) ok dX6_tell__6 rfl ?_
  obtain ⟨h4, e5, hq⟩ := bnd_some hq
  refine wp_callVV (As := [.long x1]) (rest := []) (h1 := h4) ok (m_X6_add e5 (Nat.le_refl _)) my_X6_add (w_575) pd_X6_add (Nat.le_trans (by decide) hfr) rfl (ci := 6) rfl (by decide) (sh_of e3 f_x0) rfl rfl rfl dX6_tell__7 (fun e6 => ?_)
  have e7 : h4.1 = h0.1 := (e6).trans e3
  refine wp_aload_n (v := x0) ok dX6_tell__10 rfl ?_
  refine wp_lload_n (v := x3) ok dX6_tell__11 rfl ?_
  obtain ⟨h8, e9, hq⟩ := bnd_some hq
  refine wp_callVV (As := [.long x3]) (rest := []) (h1 := h8) ok (m_X6_add e9 (Nat.le_refl _)) my_X6_add (w_575) pd_X6_add (Nat.le_trans (by decide) hfr) rfl (ci := 6) rfl (by decide) (sh_of e7 f_x0) rfl rfl rfl dX6_tell__12 (fun e10 => ?_)
  have e11 : h8.1 = h0.1 := (e10).trans e7
  exact wp_vret ok hF e11 (reV hq) dX6_tell__15
set_option maxHeartbeats 4000000 in
set_option maxRecDepth 100000 in
theorem m_X7_beFirstRule {l : Launch} {h : HP} {x0 : Nat} {rr : HP} {fr : Nat} (hq : f_X7_beFirstRule h x0 = some rr) (hfr : 1 ≤ fr) : Mt l yX7_beFirstRule cX7_beFirstRule 1 none fr [.ref x0] h (QV rr) := by
  refine Mt.of (by decide +kernel) (Nat.le_of_ble_eq_true rfl) (fun x hl ok hF => ?_)
  subst hl
  show wp x 0 [(0, .ref x0)] [] h
  unfold f_X7_beFirstRule at hq
  obtain ⟨h0, eh0⟩ : ∃ h0 : HP, h = h0 := ⟨h, rfl⟩
  have e : h.1 = h0.1 := by rw [eh0]
  rw [eh0] at hF
  obtain ⟨g_x0, hq⟩ := gP_some hq
  obtain ⟨n_x0, f_x0⟩ := kO_some g_x0
  replace f_x0 := sh_of e.symm f_x0
  refine wp_aload_n (v := x0) ok dX7_beFirstRule_0 rfl ?_
  refine wp_getsN (i := 0) ok rfl (nestF_at 0 rfl) dX7_beFirstRule_1 ?_
  refine wp_tlen (i := 0) (v := 7) ok rfl (by decide) dX7_beFirstRule_4 ?_
  refine wp_putI ok flw_RX7_34 (nr_7_5 _) (sh_of e f_x0) dX7_beFirstRule_5 ?_
  obtain ⟨h1, e2, hq⟩ := lt_some hq
  refine wp_nmH e2 ?_
  have e3 : h1.1 = h0.1 := (congrArg Prod.fst e2).trans e
  refine wp_getsN (i := 0) ok rfl (nestF_at 0 rfl) dX7_beFirstRule_8 ?_
  refine wp_iconst (v := 0) ok dX7_beFirstRule_11 (by decide) ?_
  refine wp_aload_n (v := x0) ok dX7_beFirstRule_12 rfl ?_
  obtain ⟨t4, e5, hq⟩ := bnd_some hq
  obtain ⟨e6, n7, f8⟩ := rK_some e5
  replace f8 := sh_of (e3).symm f8
  refine wp_getR ok fl_RX7_9 (sh_of e3 f_x0) e6 dX7_beFirstRule_13 ?_
  refine wp_iconst (v := 0) ok dX7_beFirstRule_16 (by decide) ?_
  refine wp_aload_n (v := x0) ok dX7_beFirstRule_17 rfl ?_
  refine wp_getI ok fl_RX7_34 (sh_of e3 f_x0) dX7_beFirstRule_18 ?_
  obtain ⟨g9, hq⟩ := gP_some hq
  refine wp_copyT (i := 0) ok (by omega) rfl (w_205) (sh_of e3 f8) (cpT_of (sh_of e3 f8) g9) rfl dX7_beFirstRule_21 ?_
  obtain ⟨h10, e11, hq⟩ := lt_some hq
  refine wp_nmH e11 ?_
  have e12 : h10.1 = h0.1 := (congrArg Prod.fst e11).trans e3
  exact wp_vret ok hF e12 (reV hq) dX7_beFirstRule_24
set_option maxHeartbeats 4000000 in
set_option maxRecDepth 100000 in
theorem m_X7_await {l : Launch} {h : HP} {x0 : Nat} {x1 : Int32} {rr : HP} {fr : Nat} (hq : f_X7_await h x0 x1 = some rr) (hfr : 0 ≤ fr) : Mt l yX7_await cX7_await 2 none fr [.ref x0, .int x1] h (QV rr) := by
  refine Mt.of (by decide +kernel) (Nat.le_of_ble_eq_true rfl) (fun x hl ok hF => ?_)
  subst hl
  show wp x 0 [(0, .ref x0), (1, .int x1)] [] h
  unfold f_X7_await at hq
  obtain ⟨h0, eh0⟩ : ∃ h0 : HP, h = h0 := ⟨h, rfl⟩
  have e : h.1 = h0.1 := by rw [eh0]
  rw [eh0] at hF
  obtain ⟨g_x0, hq⟩ := gP_some hq
  obtain ⟨n_x0, f_x0⟩ := kO_some g_x0
  replace f_x0 := sh_of e.symm f_x0
  refine wp_aload_n (v := x0) ok dX7_await_0 rfl ?_
  refine wp_getI ok fl_RX7_55 (sh_of e f_x0) dX7_await_1 ?_
  refine wp_aload_n (v := x0) ok dX7_await_4 rfl ?_
  obtain ⟨t1, e2, hq⟩ := bnd_some hq
  obtain ⟨e3, n4, f5⟩ := rK_some e2
  replace f5 := sh_of (e).symm f5
  refine wp_getR ok fl_RX7_15 (sh_of e f_x0) e3 dX7_await_5 ?_
  refine wp_alen102 ok (sh_of e f5) (congrArg Int32.ofNat (len_of (sh_of e f5)).symm) dX7_await_8 ?_
  refine wp_icmp_ge (tgt := 32) ok dX7_await_9 (by decide) (fun c6 => ?_) (fun c6 => ?_)
  · have hq := ite_t c6 hq
    exact wp_vret ok hF e (reV hq) dX7_await_32
  · have hq := ite_f c6 hq
    refine wp_aload_n (v := x0) ok dX7_await_12 rfl ?_
    obtain ⟨t7, e8, hq⟩ := bnd_some hq
    obtain ⟨e9, n10, f11⟩ := rK_some e8
    replace f11 := sh_of (e).symm f11
    refine wp_getR ok fl_RX7_15 (sh_of e f_x0) e9 dX7_await_13 ?_
    refine wp_aload_n (v := x0) ok dX7_await_16 rfl ?_
    refine wp_getI ok fl_RX7_55 (sh_of e f_x0) dX7_await_17 ?_
    refine wp_iload_n (v := x1) ok dX7_await_20 rfl ?_
    obtain ⟨g12, hq⟩ := gP_some hq
    refine wp_iast ok (sh_of e f11) (ix_of (sh_of e f11) g12) dX7_await_21 ?_
    obtain ⟨h13, e14, hq⟩ := lt_some hq
    refine wp_nmH e14 ?_
    have e15 : h13.1 = h0.1 := (congrArg Prod.fst e14).trans e
    refine wp_aload_n (v := x0) ok dX7_await_22 rfl ?_
    refine wp_dup ok dX7_await_23 rfl ?_
    refine wp_getI ok fl_RX7_55 (sh_of e15 f_x0) dX7_await_24 ?_
    refine wp_iconst (v := 1) ok dX7_await_27 (by decide) ?_
    refine wp_iadd ok dX7_await_28 ?_
    refine wp_putI ok flw_RX7_55 (nr_7_6 _) (sh_of e15 f_x0) dX7_await_29 ?_
    obtain ⟨h16, e17, hq⟩ := lt_some hq
    refine wp_nmH e17 ?_
    have e18 : h16.1 = h0.1 := (congrArg Prod.fst e17).trans e15
    exact wp_vret ok hF e18 (reV hq) dX7_await_32
set_option maxHeartbeats 4000000 in
set_option maxRecDepth 100000 in
theorem m_X7_open {l : Launch} {h : HP} {x0 : Nat} {rr : Int32} {rh : HP} {fr : Nat} (hq : f_X7_open h x0 = some (rr, rh)) (hfr : 1 ≤ fr) : Mt l yX7_open cX7_open 1 (some (.boolean)) fr [.ref x0] h (QI rr rh) := by
  obtain ⟨rp, ep⟩ : ∃ rp : (Int32 × HP), rp = (rr, rh) := ⟨_, rfl⟩
  have e1p : rr = rp.1 := (congrArg Prod.fst ep).symm
  have e2p : rh = rp.2 := (congrArg Prod.snd ep).symm
  rw [← ep] at hq
  rw [e1p, e2p]
  clear e1p e2p ep
  refine Mt.of (by decide +kernel) (Nat.le_of_ble_eq_true rfl) (fun x hl ok hF => ?_)
  subst hl
  show wp x 0 [(0, .ref x0)] [] h
  unfold f_X7_open at hq
  obtain ⟨h0, eh0⟩ : ∃ h0 : HP, h = h0 := ⟨h, rfl⟩
  have e : h.1 = h0.1 := by rw [eh0]
  rw [eh0] at hF
  obtain ⟨g_x0, hq⟩ := gP_some hq
  obtain ⟨n_x0, f_x0⟩ := kO_some g_x0
  replace f_x0 := sh_of e.symm f_x0
  refine wp_aload_n (v := x0) ok dX7_open_0 rfl ?_
  refine wp_getI ok fl_RX7_58 (sh_of e f_x0) dX7_open_1 ?_
  refine wp_iconst (v := 4) ok dX7_open_4 (by decide) ?_
  refine wp_icmp_lt (tgt := 10) ok dX7_open_5 (by decide) (fun c1 => ?_) (fun c1 => ?_)
  · have hq := ite_t c1 hq
    refine wp_aload_n (v := x0) ok dX7_open_10 rfl ?_
    refine wp_dup ok dX7_open_11 rfl ?_
    refine wp_getI ok fl_RX7_58 (sh_of e f_x0) dX7_open_12 ?_
    refine wp_iconst (v := 1) ok dX7_open_15 (by decide) ?_
    refine wp_iadd ok dX7_open_16 ?_
    refine wp_putI ok flw_RX7_58 (nr_7_7 _) (sh_of e f_x0) dX7_open_17 ?_
    obtain ⟨h2, e3, hq⟩ := lt_some hq
    refine wp_nmH e3 ?_
    have e4 : h2.1 = h0.1 := (congrArg Prod.fst e3).trans e
    refine wp_aload_n (v := x0) ok dX7_open_20 rfl ?_
    obtain ⟨t5, e6, hq⟩ := bnd_some hq
    obtain ⟨e7, n8, f9⟩ := rK_some e6
    replace f9 := sh_of (e4).symm f9
    refine wp_getR ok fl_RX7_24 (sh_of e4 f_x0) e7 dX7_open_21 ?_
    refine wp_aload_n (v := x0) ok dX7_open_24 rfl ?_
    refine wp_getI ok fl_RX7_58 (sh_of e4 f_x0) dX7_open_25 ?_
    refine wp_iconst (v := 0) ok dX7_open_28 (by decide) ?_
    obtain ⟨g10, hq⟩ := gP_some hq
    refine wp_zast ok (sh_of e4 f9) (ix_of (sh_of e4 f9) g10) dX7_open_29 ?_
    obtain ⟨h11, e12, hq⟩ := lt_some hq
    refine wp_nmH e12 ?_
    have e13 : h11.1 = h0.1 := (congrArg Prod.fst e12).trans e4
    refine wp_aload_n (v := x0) ok dX7_open_30 rfl ?_
    refine wp_sipush (v := 2008) ok dX7_open_31 (by decide) ?_
    obtain ⟨h14, e15, hq⟩ := bnd_some hq
    refine wp_callVV (As := [.int 2008]) (rest := []) (h1 := h14) ok (m_X7_await e15 (Nat.le_refl _)) my_X7_await (w_370) pd_X7_await (Nat.le_trans (by decide) hfr) rfl (ci := 7) rfl (by decide) (sh_of e13 f_x0) rfl rfl rfl dX7_open_34 (fun e16 => ?_)
    have e17 : h14.1 = h0.1 := (e16).trans e13
    refine wp_iconst (v := 1) ok dX7_open_37 (by decide) ?_
    exact wp_iret ok hF (nb_z (Or.inr rfl)) e17 (re2I hq) dX7_open_38
  · have hq := ite_f c1 hq
    refine wp_iconst (v := 0) ok dX7_open_8 (by decide) ?_
    exact wp_iret ok hF (nb_z (Or.inl rfl)) e (re2I hq) dX7_open_9
set_option maxHeartbeats 4000000 in
set_option maxRecDepth 100000 in
theorem m_X7_step {l : Launch} {h : HP} {x0 : Nat} {x1 : Int32} {rr : HP} {fr : Nat} (hq : f_X7_step h x0 x1 = some rr) (hfr : 0 ≤ fr) : Mt l yX7_step cX7_step 2 none fr [.ref x0, .int x1] h (QV rr) := by
  refine Mt.of (by decide +kernel) (Nat.le_of_ble_eq_true rfl) (fun x hl ok hF => ?_)
  subst hl
  show wp x 0 [(0, .ref x0), (1, .int x1)] [] h
  unfold f_X7_step at hq
  obtain ⟨h0, eh0⟩ : ∃ h0 : HP, h = h0 := ⟨h, rfl⟩
  have e : h.1 = h0.1 := by rw [eh0]
  rw [eh0] at hF
  obtain ⟨g_x0, hq⟩ := gP_some hq
  obtain ⟨n_x0, f_x0⟩ := kO_some g_x0
  replace f_x0 := sh_of e.symm f_x0
  refine wp_aload_n (v := x0) ok dX7_step_0 rfl ?_
  refine wp_getI ok fl_RX7_34 (sh_of e f_x0) dX7_step_1 ?_
  refine wp_aload_n (v := x0) ok dX7_step_4 rfl ?_
  obtain ⟨t1, e2, hq⟩ := bnd_some hq
  obtain ⟨e3, n4, f5⟩ := rK_some e2
  replace f5 := sh_of (e).symm f5
  refine wp_getR ok fl_RX7_9 (sh_of e f_x0) e3 dX7_step_5 ?_
  refine wp_alen102 ok (sh_of e f5) (congrArg Int32.ofNat (len_of (sh_of e f5)).symm) dX7_step_8 ?_
  refine wp_icmp_ge (tgt := 32) ok dX7_step_9 (by decide) (fun c6 => ?_) (fun c6 => ?_)
  · have hq := ite_t c6 hq
    exact wp_vret ok hF e (reV hq) dX7_step_32
  · have hq := ite_f c6 hq
    refine wp_aload_n (v := x0) ok dX7_step_12 rfl ?_
    obtain ⟨t7, e8, hq⟩ := bnd_some hq
    obtain ⟨e9, n10, f11⟩ := rK_some e8
    replace f11 := sh_of (e).symm f11
    refine wp_getR ok fl_RX7_9 (sh_of e f_x0) e9 dX7_step_13 ?_
    refine wp_aload_n (v := x0) ok dX7_step_16 rfl ?_
    refine wp_getI ok fl_RX7_34 (sh_of e f_x0) dX7_step_17 ?_
    refine wp_iload_n (v := x1) ok dX7_step_20 rfl ?_
    obtain ⟨g12, hq⟩ := gP_some hq
    refine wp_iast ok (sh_of e f11) (ix_of (sh_of e f11) g12) dX7_step_21 ?_
    obtain ⟨h13, e14, hq⟩ := lt_some hq
    refine wp_nmH e14 ?_
    have e15 : h13.1 = h0.1 := (congrArg Prod.fst e14).trans e
    refine wp_aload_n (v := x0) ok dX7_step_22 rfl ?_
    refine wp_dup ok dX7_step_23 rfl ?_
    refine wp_getI ok fl_RX7_34 (sh_of e15 f_x0) dX7_step_24 ?_
    refine wp_iconst (v := 1) ok dX7_step_27 (by decide) ?_
    refine wp_iadd ok dX7_step_28 ?_
    refine wp_putI ok flw_RX7_34 (nr_7_5 _) (sh_of e15 f_x0) dX7_step_29 ?_
    obtain ⟨h16, e17, hq⟩ := lt_some hq
    refine wp_nmH e17 ?_
    have e18 : h16.1 = h0.1 := (congrArg Prod.fst e17).trans e15
    exact wp_vret ok hF e18 (reV hq) dX7_step_32
set_option maxHeartbeats 4000000 in
set_option maxRecDepth 100000 in
theorem m_X7_readThing {l : Launch} {h : HP} {N : Nat} {x0 : Nat} {x1 : Nat} {x2 : Int32} {x3 : Int32} {rr : Int32} {rh : HP} {fr : Nat} (hq : f_X7_readThing N h x0 x1 x2 x3 = some (rr, rh)) (hfr : 4 ≤ fr) : Mt l yX7_readThing cX7_readThing 7 (some (.int)) fr [.ref x0, .ref x1, .int x2, .int x3] h (QI rr rh) := by
  obtain ⟨rp, ep⟩ : ∃ rp : (Int32 × HP), rp = (rr, rh) := ⟨_, rfl⟩
  have e1p : rr = rp.1 := (congrArg Prod.fst ep).symm
  have e2p : rh = rp.2 := (congrArg Prod.snd ep).symm
  rw [← ep] at hq
  rw [e1p, e2p]
  clear e1p e2p ep
  refine Mt.of (by decide +kernel) (Nat.le_of_ble_eq_true rfl) (fun x hl ok hF => ?_)
  subst hl
  show wp x 0 [(0, .ref x0), (1, .ref x1), (2, .int x2), (3, .int x3)] [] h
  unfold f_X7_readThing at hq
  obtain ⟨h0, eh0⟩ : ∃ h0 : HP, h = h0 := ⟨h, rfl⟩
  have e : h.1 = h0.1 := by rw [eh0]
  rw [eh0] at hF
  obtain ⟨g_x0, hq⟩ := gP_some hq
  obtain ⟨n_x0, f_x0⟩ := kO_some g_x0
  replace f_x0 := sh_of e.symm f_x0
  obtain ⟨g_x1, hq⟩ := gP_some hq
  obtain ⟨n_x1, f_x1⟩ := kO_some g_x1
  replace f_x1 := sh_of e.symm f_x1
  refine wp_aload_n (v := x1) ok dX7_readThing_0 rfl ?_
  refine wp_iload_n (v := x2) ok dX7_readThing_1 rfl ?_
  refine wp_iload_n (v := x3) ok dX7_readThing_2 rfl ?_
  obtain ⟨v1, e2, hq⟩ := bnd_some hq
  refine wp_callVI (As := [.int x2, .int x3]) (rest := []) (h1 := h) ok (m_X8_at e2 (Nat.le_refl _)) my_X8_at (w_369) pd_X8_at (Nat.le_trans (by decide) hfr) rfl (ci := 8) rfl (by decide) (sh_of e f_x1) rfl rfl rfl dX7_readThing_3 (fun e3 => ?_)
  refine wp_istore (L' := [(4, .int v1), (0, .ref x0), (1, .ref x1), (2, .int x2), (3, .int x3)]) ok dX7_readThing_6 rfl rfl ?_
  refine wp_iload (v := v1) ok dX7_readThing_8 rfl ?_
  refine wp_bipush (v := 45) ok dX7_readThing_10 (by decide) ?_
  refine wp_icmp_ne (tgt := 24) ok dX7_readThing_12 (by decide) (fun c4 => ?_) (fun c4 => ?_)
  · have hq := ite_f c4 hq
    refine wp_iload (v := v1) ok dX7_readThing_24 rfl ?_
    refine wp_bipush (v := 40) ok dX7_readThing_26 (by decide) ?_
    refine wp_icmp_ne (tgt := 44) ok dX7_readThing_28 (by decide) (fun c5 => ?_) (fun c5 => ?_)
    · have hq := ite_f c5 hq
      refine wp_ldcS (i := 8) ok rfl rfl rfl dX7_readThing_44 ?_
      refine wp_iload (v := v1) ok dX7_readThing_46 rfl ?_
      refine wp_i2c ok dX7_readThing_48 ?_
      obtain ⟨v6, e7, hq⟩ := bnd_some hq
      refine wp_callTI (As := [.int (i2c v1)]) (rest := []) (h1 := h) ok (m_J0_indexOf_0f7a4 e7 (Nat.le_refl _)) my_J0_indexOf_0f7a4 (w_379) pd_J0_indexOf_0f7a4 (Nat.le_trans (by decide) hfr) rfl (iS_J0_indexOf_0f7a4 e7) rfl rfl rfl rfl dX7_readThing_49 (fun e8 => ?_)
      refine wp_istore (L' := [(5, .int v6), (4, .int v1), (0, .ref x0), (1, .ref x1), (2, .int x2), (3, .int x3)]) ok dX7_readThing_52 rfl rfl ?_
      refine wp_aload_n (v := x1) ok dX7_readThing_54 rfl ?_
      refine wp_iload_n (v := x2) ok dX7_readThing_55 rfl ?_
      refine wp_iconst (v := 3) ok dX7_readThing_56 (by decide) ?_
      refine wp_iload_n (v := x3) ok dX7_readThing_57 rfl ?_
      obtain ⟨v9, e10, hq⟩ := bnd_some hq
      refine wp_callVI (As := [.int x2, .int 3, .int x3]) (rest := []) (h1 := h) ok (m_X8_digits e10 (Nat.le_refl _)) my_X8_digits (w_463) pd_X8_digits (Nat.le_trans (by decide) hfr) rfl (ci := 8) rfl (by decide) (sh_of e f_x1) rfl rfl rfl dX7_readThing_58 (fun e11 => ?_)
      refine wp_istore (L' := [(6, .int v9), (5, .int v6), (4, .int v1), (0, .ref x0), (1, .ref x1), (2, .int x2), (3, .int x3)]) ok dX7_readThing_61 rfl rfl ?_
      refine wp_iload (v := v6) ok dX7_readThing_63 rfl ?_
      obtain ⟨k12, ek12, hq⟩ := jn1_some hq
      have kk12 : ∀ (h13 : HP), k12 h13 = some rp → h13.1 = h0.1 → wp x 102 [(6, .int v9), (5, .int v6), (0, .ref x0)] [] h13 := by
        intro h13 hq e14
        have hq := (ek12 h13).symm.trans hq
        refine wp_aload_n (v := x0) ok dX7_readThing_102 rfl ?_
        refine wp_iconst (v := 0) ok dX7_readThing_103 (by decide) ?_
        refine wp_putI ok flw_RX7_61 (nr_7_8 (Or.inl rfl)) (sh_of e14 f_x0) dX7_readThing_104 ?_
        obtain ⟨h15, e16, hq⟩ := lt_some hq
        refine wp_nmH e16 ?_
        have e17 : h15.1 = h0.1 := (congrArg Prod.fst e16).trans e14
        refine wp_iload (v := v6) ok dX7_readThing_107 rfl ?_
        refine wp_if_lt (tgt := 116) ok dX7_readThing_109 (by decide) (fun c18 => ?_) (fun c18 => ?_)
        · have hq := ite_t c18 hq
          refine wp_iload (v := v9) ok dX7_readThing_116 rfl ?_
          exact wp_iret ok hF rfl e17 (re2I hq) dX7_readThing_118
        · have hq := ite_f c18 hq
          refine wp_iconst (v := 1) ok dX7_readThing_112 (by decide) ?_
          refine wp_goto (tgt := 118) ok dX7_readThing_113 (by decide) ?_
          exact wp_iret ok hF rfl e17 (re2I hq) dX7_readThing_118
      refine wp_if_lt (tgt := 81) ok dX7_readThing_65 (by decide) (fun c19 => ?_) (fun c19 => ?_)
      · have hq := ite_t c19 hq
        refine wp_iload (v := v9) ok dX7_readThing_81 rfl ?_
        refine wp_if_le (tgt := 100) ok dX7_readThing_83 (by decide) (fun c20 => ?_) (fun c20 => ?_)
        · have hq := ite_t c20 hq
          refine wp_iconst (v := 0) ok dX7_readThing_100 (by decide) ?_
          exact wp_iret ok hF rfl e (re2I hq) dX7_readThing_101
        · have hq := ite_f c20 hq
          refine wp_aload_n (v := x0) ok dX7_readThing_86 rfl ?_
          refine wp_aload_n (v := x1) ok dX7_readThing_87 rfl ?_
          refine wp_iload_n (v := x2) ok dX7_readThing_88 rfl ?_
          refine wp_iload (v := v9) ok dX7_readThing_89 rfl ?_
          obtain ⟨v21, e22, hq⟩ := bnd_some hq
          refine wp_callVI (As := [.int x2, .int v9]) (rest := [.ref x0]) (h1 := h) ok (m_X8_number e22 (Nat.le_refl _)) my_X8_number (w_468) pd_X8_number (Nat.le_trans (by decide) hfr) rfl (ci := 8) rfl (by decide) (sh_of e f_x1) rfl rfl rfl dX7_readThing_91 (fun e23 => ?_)
          obtain ⟨h24, e25, hq⟩ := bnd_some hq
          refine wp_callVV (As := [.int v21]) (rest := []) (h1 := h24) ok (m_X7_step e25 (Nat.le_refl _)) my_X7_step (w_464) pd_X7_step (Nat.le_trans (by decide) hfr) rfl (ci := 7) rfl (by decide) (sh_of e f_x0) rfl rfl rfl dX7_readThing_94 (fun e26 => ?_)
          have e27 : h24.1 = h0.1 := (e26).trans e
          refine wp_goto (tgt := 102) ok dX7_readThing_97 (by decide) ?_
          refine wp_sub (L' := [(6, .int v9), (5, .int v6), (0, .ref x0)]) [0, 1, 3] rfl ?_
          exact kk12 h24 hq e27
      · have hq := ite_f c19 hq
        refine wp_aload_n (v := x0) ok dX7_readThing_68 rfl ?_
        refine wp_sipush (v := 1000) ok dX7_readThing_69 (by decide) ?_
        refine wp_iload (v := v6) ok dX7_readThing_72 rfl ?_
        refine wp_iadd ok dX7_readThing_74 ?_
        obtain ⟨h28, e29, hq⟩ := bnd_some hq
        refine wp_callVV (As := [.int (1000 + v6)]) (rest := []) (h1 := h28) ok (m_X7_step e29 (Nat.le_refl _)) my_X7_step (w_464) pd_X7_step (Nat.le_trans (by decide) hfr) rfl (ci := 7) rfl (by decide) (sh_of e f_x0) rfl rfl rfl dX7_readThing_75 (fun e30 => ?_)
        have e31 : h28.1 = h0.1 := (e30).trans e
        refine wp_goto (tgt := 102) ok dX7_readThing_78 (by decide) ?_
        refine wp_sub (L' := [(6, .int v9), (5, .int v6), (0, .ref x0)]) [0, 1, 3] rfl ?_
        exact kk12 h28 hq e31
    · have hq := ite_t c5 hq
      refine wp_aload_n (v := x0) ok dX7_readThing_31 rfl ?_
      obtain ⟨v32, h34, e33, hq⟩ := bnd2_some hq
      refine wp_callVI (As := []) (rest := []) (h1 := h34) ok (m_X7_open e33 (Nat.le_refl _)) my_X7_open (w_374) pd_X7_open (Nat.le_trans (by decide) hfr) rfl (ci := 7) rfl (by decide) (sh_of e f_x0) rfl rfl rfl dX7_readThing_32 (fun e35 => ?_)
      have e36 : h34.1 = h0.1 := (e35).trans e
      refine wp_if_eq (tgt := 42) ok dX7_readThing_35 (by decide) (fun c37 => ?_) (fun c37 => ?_)
      · have hq := ite_t c37 hq
        refine wp_iconst (v := 0) ok dX7_readThing_42 (by decide) ?_
        exact wp_iret ok hF rfl e36 (re2I hq) dX7_readThing_43
      · have hq := ite_f c37 hq
        refine wp_iconst (v := 1) ok dX7_readThing_38 (by decide) ?_
        refine wp_goto (tgt := 43) ok dX7_readThing_39 (by decide) ?_
        exact wp_iret ok hF rfl e36 (re2I hq) dX7_readThing_43
  · have hq := ite_t c4 hq
    refine wp_aload_n (v := x0) ok dX7_readThing_15 rfl ?_
    refine wp_sipush (v := 2007) ok dX7_readThing_16 (by decide) ?_
    obtain ⟨h38, e39, hq⟩ := bnd_some hq
    refine wp_callVV (As := [.int 2007]) (rest := []) (h1 := h38) ok (m_X7_await e39 (Nat.le_refl _)) my_X7_await (w_370) pd_X7_await (Nat.le_trans (by decide) hfr) rfl (ci := 7) rfl (by decide) (sh_of e f_x0) rfl rfl rfl dX7_readThing_19 (fun e40 => ?_)
    have e41 : h38.1 = h0.1 := (e40).trans e
    refine wp_iconst (v := 1) ok dX7_readThing_22 (by decide) ?_
    exact wp_iret ok hF rfl e41 (re2I hq) dX7_readThing_23
set_option maxHeartbeats 4000000 in
set_option maxRecDepth 100000 in
theorem m_X7_rank {l : Launch} {h : HP} {x0 : Int32} {rr : Int32} {fr : Nat} (hq : f_X7_rank x0 = some rr) (hfr : 0 ≤ fr) : Mt l yX7_rank cX7_rank 1 (some (.int)) fr [.int x0] h (QI rr h) := by
  refine Mt.of (by decide +kernel) (Nat.le_of_ble_eq_true rfl) (fun x hl ok hF => ?_)
  subst hl
  show wp x 0 [(0, .int x0)] [] h
  unfold f_X7_rank at hq
  refine wp_iload_n (v := x0) ok dX7_rank_0 rfl ?_
  refine wp_sipush (v := 2008) ok dX7_rank_1 (by decide) ?_
  refine wp_icmp_ne (tgt := 9) ok dX7_rank_4 (by decide) (fun c1 => ?_) (fun c1 => ?_)
  · have hq := ite_f c1 hq
    refine wp_iload_n (v := x0) ok dX7_rank_9 rfl ?_
    refine wp_sipush (v := 2002) ok dX7_rank_10 (by decide) ?_
    refine wp_icmp_gt (tgt := 18) ok dX7_rank_13 (by decide) (fun c2 => ?_) (fun c2 => ?_)
    · have hq := ite_t c2 hq
      refine wp_iload_n (v := x0) ok dX7_rank_18 rfl ?_
      refine wp_sipush (v := 2004) ok dX7_rank_19 (by decide) ?_
      refine wp_icmp_gt (tgt := 27) ok dX7_rank_22 (by decide) (fun c3 => ?_) (fun c3 => ?_)
      · have hq := ite_t c3 hq
        refine wp_iload_n (v := x0) ok dX7_rank_27 rfl ?_
        refine wp_sipush (v := 2007) ok dX7_rank_28 (by decide) ?_
        refine wp_icmp_ne (tgt := 38) ok dX7_rank_31 (by decide) (fun c4 => ?_) (fun c4 => ?_)
        · have hq := ite_f c4 hq
          refine wp_iconst (v := 3) ok dX7_rank_38 (by decide) ?_
          exact wp_iret ok hF rfl rfl (re1I hq) dX7_rank_39
        · have hq := ite_t c4 hq
          refine wp_iconst (v := 4) ok dX7_rank_34 (by decide) ?_
          refine wp_goto (tgt := 39) ok dX7_rank_35 (by decide) ?_
          exact wp_iret ok hF rfl rfl (re1I hq) dX7_rank_39
      · have hq := ite_f c3 hq
        refine wp_iconst (v := 2) ok dX7_rank_25 (by decide) ?_
        exact wp_iret ok hF rfl rfl (re1I hq) dX7_rank_26
    · have hq := ite_f c2 hq
      refine wp_iconst (v := 1) ok dX7_rank_16 (by decide) ?_
      exact wp_iret ok hF rfl rfl (re1I hq) dX7_rank_17
  · have hq := ite_t c1 hq
    refine wp_iconst (v := 0) ok dX7_rank_7 (by decide) ?_
    exact wp_iret ok hF rfl rfl (re1I hq) dX7_rank_8
set_option maxHeartbeats 4000000 in
set_option maxRecDepth 100000 in
theorem s_X7_release_B0 {x : Cx} {h0 : HP} {N fr : Nat} {rr : HP} (ok : Okx x cX7_release yX7_release.cls 2 fr) (hfr : 1 ≤ fr)  {x0 : Nat} {x1 : Int32} {n_x0 : Nat} (f_x0 : h0.1[x0]? = some (7, n_x0)) (hF : Fend x h0 none (QV rr)) {rc : HP → Option HP} (ih : ∀ (h : HP), rc h = some rr → h.1 = h0.1 → wp x 0 [(0, .ref x0), (1, .int x1)] [] h) : ∀ (h : HP), f_X7_release_B0 N x0 x1 rc h = some rr → h.1 = h0.1 → wp x 0 [(0, .ref x0), (1, .int x1)] [] h := by
  intro h hq e
  unfold f_X7_release_B0 at hq
  refine wp_aload_n (v := x0) ok dX7_release_0 rfl ?_
  refine wp_getI ok fl_RX7_55 (sh_of e f_x0) dX7_release_1 ?_
  refine wp_if_le (tgt := 51) ok dX7_release_4 (by decide) (fun c1 => ?_) (fun c1 => ?_)
  · have hq := ite_t c1 hq
    exact wp_vret ok hF e (reV hq) dX7_release_51
  · have hq := ite_f c1 hq
    refine wp_aload_n (v := x0) ok dX7_release_7 rfl ?_
    obtain ⟨t2, e3, hq⟩ := bnd_some hq
    obtain ⟨e4, n5, f6⟩ := rK_some e3
    replace f6 := sh_of (e).symm f6
    refine wp_getR ok fl_RX7_15 (sh_of e f_x0) e4 dX7_release_8 ?_
    refine wp_aload_n (v := x0) ok dX7_release_11 rfl ?_
    refine wp_getI ok fl_RX7_55 (sh_of e f_x0) dX7_release_12 ?_
    refine wp_iconst (v := 1) ok dX7_release_15 (by decide) ?_
    refine wp_isub ok dX7_release_16 ?_
    obtain ⟨g7, hq⟩ := gP_some hq
    refine wp_iald ok (sh_of e f6) (ix_of (sh_of e f6) g7) dX7_release_17 ?_
    obtain ⟨v8, e9, hq⟩ := bnd_some hq
    refine wp_callSI (As := [.int (h.2.1 t2 ((h.2.1 x0 6) - 1).toNatClampNeg)]) (rest := []) (h1 := h) ok (m_X7_rank e9 (Nat.le_refl _)) my_X7_rank (w_481) pd_X7_rank (Nat.le_trans (by decide) hfr) rfl rfl rfl rfl dX7_release_18 (fun e10 => ?_)
    refine wp_iload_n (v := x1) ok dX7_release_21 rfl ?_
    refine wp_icmp_lt (tgt := 51) ok dX7_release_22 (by decide) (fun c11 => ?_) (fun c11 => ?_)
    · have hq := ite_t c11 hq
      exact wp_vret ok hF e (reV hq) dX7_release_51
    · have hq := ite_f c11 hq
      refine wp_aload_n (v := x0) ok dX7_release_25 rfl ?_
      refine wp_dup ok dX7_release_26 rfl ?_
      refine wp_getI ok fl_RX7_55 (sh_of e f_x0) dX7_release_27 ?_
      refine wp_iconst (v := 1) ok dX7_release_30 (by decide) ?_
      refine wp_isub ok dX7_release_31 ?_
      refine wp_putI ok flw_RX7_55 (nr_7_6 _) (sh_of e f_x0) dX7_release_32 ?_
      obtain ⟨h12, e13, hq⟩ := lt_some hq
      refine wp_nmH e13 ?_
      have e14 : h12.1 = h0.1 := (congrArg Prod.fst e13).trans e
      refine wp_aload_n (v := x0) ok dX7_release_35 rfl ?_
      refine wp_aload_n (v := x0) ok dX7_release_36 rfl ?_
      obtain ⟨t15, e16, hq⟩ := bnd_some hq
      obtain ⟨e17, n18, f19⟩ := rK_some e16
      replace f19 := sh_of (e14).symm f19
      refine wp_getR ok fl_RX7_15 (sh_of e14 f_x0) e17 dX7_release_37 ?_
      refine wp_aload_n (v := x0) ok dX7_release_40 rfl ?_
      refine wp_getI ok fl_RX7_55 (sh_of e14 f_x0) dX7_release_41 ?_
      obtain ⟨g20, hq⟩ := gP_some hq
      refine wp_iald ok (sh_of e14 f19) (ix_of (sh_of e14 f19) g20) dX7_release_44 ?_
      obtain ⟨h21, e22, hq⟩ := bnd_some hq
      refine wp_callVV (As := [.int (h12.2.1 t15 (h12.2.1 x0 6).toNatClampNeg)]) (rest := []) (h1 := h21) ok (m_X7_step e22 (Nat.le_refl _)) my_X7_step (w_464) pd_X7_step (Nat.le_trans (by decide) hfr) rfl (ci := 7) rfl (by decide) (sh_of e14 f_x0) rfl rfl rfl dX7_release_45 (fun e23 => ?_)
      have e24 : h21.1 = h0.1 := (e23).trans e14
      refine wp_goto (tgt := 0) ok dX7_release_48 (by decide) ?_
      refine wp_sub (L' := [(0, .ref x0), (1, .int x1)]) [0, 1] rfl ?_
      exact ih h21 hq e24
set_option maxHeartbeats 4000000 in
set_option maxRecDepth 100000 in
theorem l_X7_release_B0 {x : Cx} {h0 : HP} {N fr : Nat} {rr : HP} (ok : Okx x cX7_release yX7_release.cls 2 fr) (hfr : 1 ≤ fr)  {x0 : Nat} {x1 : Int32} {n_x0 : Nat} (f_x0 : h0.1[x0]? = some (7, n_x0)) (hF : Fend x h0 none (QV rr)) : ∀ (n : Nat) (h : HP), lp (fun _ => none) (f_X7_release_B0 N x0 x1) n h = some rr → h.1 = h0.1 → wp x 0 [(0, .ref x0), (1, .int x1)] [] h := by
  intro n
  induction n with
  | zero => intro h hq e; exact (Option.some_ne_none _ hq.symm).elim
  | succ n ih => exact s_X7_release_B0 ok hfr f_x0 hF  ih
set_option maxHeartbeats 4000000 in
set_option maxRecDepth 100000 in
theorem m_X7_release {l : Launch} {h : HP} {N : Nat} {x0 : Nat} {x1 : Int32} {rr : HP} {fr : Nat} (hq : f_X7_release N h x0 x1 = some rr) (hfr : 1 ≤ fr) : Mt l yX7_release cX7_release 2 none fr [.ref x0, .int x1] h (QV rr) := by
  refine Mt.of (by decide +kernel) (Nat.le_of_ble_eq_true rfl) (fun x hl ok hF => ?_)
  subst hl
  show wp x 0 [(0, .ref x0), (1, .int x1)] [] h
  unfold f_X7_release at hq
  obtain ⟨h0, eh0⟩ : ∃ h0 : HP, h = h0 := ⟨h, rfl⟩
  have e : h.1 = h0.1 := by rw [eh0]
  rw [eh0] at hF
  obtain ⟨g_x0, hq⟩ := gP_some hq
  obtain ⟨n_x0, f_x0⟩ := kO_some g_x0
  replace f_x0 := sh_of e.symm f_x0
  refine wp_sub (L' := [(0, .ref x0), (1, .int x1)]) [0, 1] rfl ?_
  refine l_X7_release_B0 ok hfr f_x0 hF  N h hq e
set_option maxHeartbeats 4000000 in
set_option maxRecDepth 100000 in
theorem m_X7_shut {l : Launch} {h : HP} {N : Nat} {x0 : Nat} {rr : Int32} {rh : HP} {fr : Nat} (hq : f_X7_shut N h x0 = some (rr, rh)) (hfr : 2 ≤ fr) : Mt l yX7_shut cX7_shut 1 (some (.boolean)) fr [.ref x0] h (QI rr rh) := by
  obtain ⟨rp, ep⟩ : ∃ rp : (Int32 × HP), rp = (rr, rh) := ⟨_, rfl⟩
  have e1p : rr = rp.1 := (congrArg Prod.fst ep).symm
  have e2p : rh = rp.2 := (congrArg Prod.snd ep).symm
  rw [← ep] at hq
  rw [e1p, e2p]
  clear e1p e2p ep
  refine Mt.of (by decide +kernel) (Nat.le_of_ble_eq_true rfl) (fun x hl ok hF => ?_)
  subst hl
  show wp x 0 [(0, .ref x0)] [] h
  unfold f_X7_shut at hq
  obtain ⟨h0, eh0⟩ : ∃ h0 : HP, h = h0 := ⟨h, rfl⟩
  have e : h.1 = h0.1 := by rw [eh0]
  rw [eh0] at hF
  obtain ⟨g_x0, hq⟩ := gP_some hq
  obtain ⟨n_x0, f_x0⟩ := kO_some g_x0
  replace f_x0 := sh_of e.symm f_x0
  refine wp_aload_n (v := x0) ok dX7_shut_0 rfl ?_
  refine wp_getI ok fl_RX7_58 (sh_of e f_x0) dX7_shut_1 ?_
  refine wp_if_ne (tgt := 9) ok dX7_shut_4 (by decide) (fun c1 => ?_) (fun c1 => ?_)
  · have hq := ite_f c1 hq
    refine wp_aload_n (v := x0) ok dX7_shut_9 rfl ?_
    refine wp_iconst (v := 1) ok dX7_shut_10 (by decide) ?_
    obtain ⟨h2, e3, hq⟩ := bnd_some hq
    refine wp_callVV (As := [.int 1]) (rest := []) (h1 := h2) ok (m_X7_release e3 (Nat.le_refl _)) my_X7_release (w_477) pd_X7_release (Nat.le_trans (by decide) hfr) rfl (ci := 7) rfl (by decide) (sh_of e f_x0) rfl rfl rfl dX7_shut_11 (fun e4 => ?_)
    have e5 : h2.1 = h0.1 := (e4).trans e
    refine wp_aload_n (v := x0) ok dX7_shut_14 rfl ?_
    refine wp_iconst (v := 0) ok dX7_shut_15 (by decide) ?_
    refine wp_aload_n (v := x0) ok dX7_shut_16 rfl ?_
    refine wp_getI ok fl_RX7_55 (sh_of e5 f_x0) dX7_shut_17 ?_
    refine wp_iconst (v := 1) ok dX7_shut_20 (by decide) ?_
    refine wp_isub ok dX7_shut_21 ?_
    obtain ⟨v6, e7, hq⟩ := bnd_some hq
    refine wp_callSI (As := [.int 0, .int ((h2.2.1 x0 6) - 1)]) (rest := [.ref x0]) (h1 := h2) ok (m_J9_max_7cf53 e7 (Nat.le_refl _)) my_J9_max_7cf53 (w_484) pd_J9_max_7cf53 (Nat.le_trans (by decide) hfr) rfl rfl rfl rfl dX7_shut_22 (fun e8 => ?_)
    refine wp_putI ok flw_RX7_55 (nr_7_6 _) (sh_of e5 f_x0) dX7_shut_25 ?_
    obtain ⟨h9, e10, hq⟩ := lt_some hq
    refine wp_nmH e10 ?_
    have e11 : h9.1 = h0.1 := (congrArg Prod.fst e10).trans e5
    refine wp_aload_n (v := x0) ok dX7_shut_28 rfl ?_
    refine wp_dup ok dX7_shut_29 rfl ?_
    refine wp_getI ok fl_RX7_58 (sh_of e11 f_x0) dX7_shut_30 ?_
    refine wp_iconst (v := 1) ok dX7_shut_33 (by decide) ?_
    refine wp_isub ok dX7_shut_34 ?_
    refine wp_putI ok flw_RX7_58 (nr_7_7 _) (sh_of e11 f_x0) dX7_shut_35 ?_
    obtain ⟨h12, e13, hq⟩ := lt_some hq
    refine wp_nmH e13 ?_
    have e14 : h12.1 = h0.1 := (congrArg Prod.fst e13).trans e11
    refine wp_iconst (v := 1) ok dX7_shut_38 (by decide) ?_
    exact wp_iret ok hF (nb_z (Or.inr rfl)) e14 (re2I hq) dX7_shut_39
  · have hq := ite_t c1 hq
    refine wp_iconst (v := 0) ok dX7_shut_7 (by decide) ?_
    exact wp_iret ok hF (nb_z (Or.inl rfl)) e (re2I hq) dX7_shut_8
set_option maxHeartbeats 4000000 in
set_option maxRecDepth 100000 in
theorem m_X7_readOperator {l : Launch} {h : HP} {N : Nat} {x0 : Nat} {x1 : Int32} {rr : Int32} {rh : HP} {fr : Nat} (hq : f_X7_readOperator N h x0 x1 = some (rr, rh)) (hfr : 4 ≤ fr) : Mt l yX7_readOperator cX7_readOperator 3 (some (.int)) fr [.ref x0, .int x1] h (QI rr rh) := by
  obtain ⟨rp, ep⟩ : ∃ rp : (Int32 × HP), rp = (rr, rh) := ⟨_, rfl⟩
  have e1p : rr = rp.1 := (congrArg Prod.fst ep).symm
  have e2p : rh = rp.2 := (congrArg Prod.snd ep).symm
  rw [← ep] at hq
  rw [e1p, e2p]
  clear e1p e2p ep
  refine Mt.of (by decide +kernel) (Nat.le_of_ble_eq_true rfl) (fun x hl ok hF => ?_)
  subst hl
  show wp x 0 [(0, .ref x0), (1, .int x1)] [] h
  unfold f_X7_readOperator at hq
  obtain ⟨h0, eh0⟩ : ∃ h0 : HP, h = h0 := ⟨h, rfl⟩
  have e : h.1 = h0.1 := by rw [eh0]
  rw [eh0] at hF
  obtain ⟨g_x0, hq⟩ := gP_some hq
  obtain ⟨n_x0, f_x0⟩ := kO_some g_x0
  replace f_x0 := sh_of e.symm f_x0
  refine wp_iload_n (v := x1) ok dX7_readOperator_0 rfl ?_
  refine wp_bipush (v := 41) ok dX7_readOperator_1 (by decide) ?_
  refine wp_icmp_ne (tgt := 19) ok dX7_readOperator_3 (by decide) (fun c1 => ?_) (fun c1 => ?_)
  · have hq := ite_f c1 hq
    refine wp_ldcS (i := 9) ok rfl rfl rfl dX7_readOperator_19 ?_
    refine wp_iload_n (v := x1) ok dX7_readOperator_21 rfl ?_
    refine wp_i2c ok dX7_readOperator_22 ?_
    obtain ⟨v2, e3, hq⟩ := bnd_some hq
    refine wp_callTI (As := [.int (i2c x1)]) (rest := []) (h1 := h) ok (m_J0_indexOf_0f7a4 e3 (Nat.le_refl _)) my_J0_indexOf_0f7a4 (w_379) pd_J0_indexOf_0f7a4 (Nat.le_trans (by decide) hfr) rfl (iS_J0_indexOf_0f7a4 e3) rfl rfl rfl rfl dX7_readOperator_23 (fun e4 => ?_)
    refine wp_sipush (v := 2000) ok dX7_readOperator_26 (by decide) ?_
    refine wp_iadd ok dX7_readOperator_29 ?_
    obtain ⟨v5, e6, hq⟩ := lt_some hq
    refine wp_nmI e6 ?_
    refine wp_istore_n (L' := [(2, .int v5), (0, .ref x0), (1, .int x1)]) ok dX7_readOperator_30 rfl rfl ?_
    refine wp_iload_n (v := v5) ok dX7_readOperator_31 rfl ?_
    refine wp_sipush (v := 2000) ok dX7_readOperator_32 (by decide) ?_
    refine wp_icmp_ge (tgt := 40) ok dX7_readOperator_35 (by decide) (fun c7 => ?_) (fun c7 => ?_)
    · have hq := ite_t c7 hq
      refine wp_iload_n (v := v5) ok dX7_readOperator_40 rfl ?_
      refine wp_sipush (v := 2002) ok dX7_readOperator_41 (by decide) ?_
      obtain ⟨k8, ek8, hq⟩ := jn1_some hq
      have kk8 : ∀ (h9 : HP), k8 h9 = some rp → h9.1 = h0.1 → wp x 71 [(2, .int v5), (0, .ref x0)] [] h9 := by
        intro h9 hq e10
        have hq := (ek8 h9).symm.trans hq
        refine wp_aload_n (v := x0) ok dX7_readOperator_71 rfl ?_
        refine wp_iload_n (v := v5) ok dX7_readOperator_72 rfl ?_
        obtain ⟨v11, e12, hq⟩ := bnd_some hq
        refine wp_callSI (As := [.int v5]) (rest := [.ref x0]) (h1 := h9) ok (m_X7_rank e12 (Nat.le_refl _)) my_X7_rank (w_481) pd_X7_rank (Nat.le_trans (by decide) hfr) rfl rfl rfl rfl dX7_readOperator_73 (fun e13 => ?_)
        obtain ⟨h14, e15, hq⟩ := bnd_some hq
        refine wp_callVV (As := [.int v11]) (rest := []) (h1 := h14) ok (m_X7_release e15 (Nat.le_refl _)) my_X7_release (w_477) pd_X7_release (Nat.le_trans (by decide) hfr) rfl (ci := 7) rfl (by decide) (sh_of e10 f_x0) rfl rfl rfl dX7_readOperator_76 (fun e16 => ?_)
        have e17 : h14.1 = h0.1 := (e16).trans e10
        refine wp_aload_n (v := x0) ok dX7_readOperator_79 rfl ?_
        refine wp_iload_n (v := v5) ok dX7_readOperator_80 rfl ?_
        obtain ⟨h18, e19, hq⟩ := bnd_some hq
        refine wp_callVV (As := [.int v5]) (rest := []) (h1 := h18) ok (m_X7_await e19 (Nat.le_refl _)) my_X7_await (w_370) pd_X7_await (Nat.le_trans (by decide) hfr) rfl (ci := 7) rfl (by decide) (sh_of e17 f_x0) rfl rfl rfl dX7_readOperator_81 (fun e20 => ?_)
        have e21 : h18.1 = h0.1 := (e20).trans e17
        refine wp_aload_n (v := x0) ok dX7_readOperator_84 rfl ?_
        refine wp_iconst (v := 1) ok dX7_readOperator_85 (by decide) ?_
        refine wp_putI ok flw_RX7_61 (nr_7_8 (Or.inr rfl)) (sh_of e21 f_x0) dX7_readOperator_86 ?_
        obtain ⟨h22, e23, hq⟩ := lt_some hq
        refine wp_nmH e23 ?_
        have e24 : h22.1 = h0.1 := (congrArg Prod.fst e23).trans e21
        refine wp_iconst (v := 1) ok dX7_readOperator_89 (by decide) ?_
        exact wp_iret ok hF rfl e24 (re2I hq) dX7_readOperator_90
      refine wp_icmp_gt (tgt := 71) ok dX7_readOperator_44 (by decide) (fun c25 => ?_) (fun c25 => ?_)
      · have hq := ite_t c25 hq
        refine wp_sub (L' := [(2, .int v5), (0, .ref x0)]) [0, 1] rfl ?_
        exact kk8 h hq e
      · have hq := ite_f c25 hq
        refine wp_aload_n (v := x0) ok dX7_readOperator_47 rfl ?_
        obtain ⟨t26, e27, hq⟩ := bnd_some hq
        obtain ⟨e28, n29, f30⟩ := rK_some e27
        replace f30 := sh_of (e).symm f30
        refine wp_getR ok fl_RX7_24 (sh_of e f_x0) e28 dX7_readOperator_48 ?_
        refine wp_aload_n (v := x0) ok dX7_readOperator_51 rfl ?_
        refine wp_getI ok fl_RX7_58 (sh_of e f_x0) dX7_readOperator_52 ?_
        obtain ⟨g31, hq⟩ := gP_some hq
        refine wp_zald ok (sh_of e f30) (ix_of (sh_of e f30) g31) dX7_readOperator_55 ?_
        refine wp_if_eq (tgt := 61) ok dX7_readOperator_56 (by decide) (fun c32 => ?_) (fun c32 => ?_)
        · have hq := ite_t c32 hq
          refine wp_aload_n (v := x0) ok dX7_readOperator_61 rfl ?_
          obtain ⟨t33, e34, hq⟩ := bnd_some hq
          obtain ⟨e35, n36, f37⟩ := rK_some e34
          replace f37 := sh_of (e).symm f37
          refine wp_getR ok fl_RX7_24 (sh_of e f_x0) e35 dX7_readOperator_62 ?_
          refine wp_aload_n (v := x0) ok dX7_readOperator_65 rfl ?_
          refine wp_getI ok fl_RX7_58 (sh_of e f_x0) dX7_readOperator_66 ?_
          refine wp_iconst (v := 1) ok dX7_readOperator_69 (by decide) ?_
          obtain ⟨g38, hq⟩ := gP_some hq
          refine wp_zast ok (sh_of e f37) (ix_of (sh_of e f37) g38) dX7_readOperator_70 ?_
          obtain ⟨h39, e40, hq⟩ := lt_some hq
          refine wp_nmH e40 ?_
          have e41 : h39.1 = h0.1 := (congrArg Prod.fst e40).trans e
          refine wp_sub (L' := [(2, .int v5), (0, .ref x0)]) [0, 1] rfl ?_
          exact kk8 h39 hq e41
        · have hq := ite_f c32 hq
          refine wp_iconst (v := 0) ok dX7_readOperator_59 (by decide) ?_
          exact wp_iret ok hF rfl e (re2I hq) dX7_readOperator_60
    · have hq := ite_f c7 hq
      refine wp_iconst (v := 0) ok dX7_readOperator_38 (by decide) ?_
      exact wp_iret ok hF rfl e (re2I hq) dX7_readOperator_39
  · have hq := ite_t c1 hq
    refine wp_aload_n (v := x0) ok dX7_readOperator_6 rfl ?_
    obtain ⟨v42, h44, e43, hq⟩ := bnd2_some hq
    refine wp_callVI (As := []) (rest := []) (h1 := h44) ok (m_X7_shut e43 (Nat.le_refl _)) my_X7_shut (w_473) pd_X7_shut (Nat.le_trans (by decide) hfr) rfl (ci := 7) rfl (by decide) (sh_of e f_x0) rfl rfl rfl dX7_readOperator_7 (fun e45 => ?_)
    have e46 : h44.1 = h0.1 := (e45).trans e
    refine wp_if_eq (tgt := 17) ok dX7_readOperator_10 (by decide) (fun c47 => ?_) (fun c47 => ?_)
    · have hq := ite_t c47 hq
      refine wp_iconst (v := 0) ok dX7_readOperator_17 (by decide) ?_
      exact wp_iret ok hF rfl e46 (re2I hq) dX7_readOperator_18
    · have hq := ite_f c47 hq
      refine wp_iconst (v := 1) ok dX7_readOperator_13 (by decide) ?_
      refine wp_goto (tgt := 18) ok dX7_readOperator_14 (by decide) ?_
      exact wp_iret ok hF rfl e46 (re2I hq) dX7_readOperator_18
set_option maxHeartbeats 4000000 in
set_option maxRecDepth 100000 in
theorem s_X7_read_B52 {x : Cx} {h0 : HP} {N fr : Nat} {rr : (Int32 × HP)} (ok : Okx x cX7_read yX7_read.cls 5 fr) (hfr : 5 ≤ fr)  {x0 : Nat} {x1 : Nat} {x2 : Int32} {n_x0 : Nat} (f_x0 : h0.1[x0]? = some (7, n_x0)) {n_x1 : Nat} (f_x1 : h0.1[x1]? = some (8, n_x1)) (hF : Fend x h0 (some (.int)) (QI rr.1 rr.2)) {k101 : HP → Option (Int32 × HP)} (hk101 : ∀ (h : HP), k101 h = some rr → h.1 = h0.1 → wp x 101 [(0, .ref x0), (1, .ref x1), (2, .int x2)] [] h) {rc : Int32 → HP → Option (Int32 × HP)} (ih : ∀ (x3 : Int32) (h : HP), rc x3 h = some rr → h.1 = h0.1 → wp x 52 [(3, .int x3), (0, .ref x0), (1, .ref x1), (2, .int x2)] [] h) : ∀ (x3 : Int32) (h : HP), f_X7_read_B52 N x0 x1 x2 k101 rc x3 h = some rr → h.1 = h0.1 → wp x 52 [(3, .int x3), (0, .ref x0), (1, .ref x1), (2, .int x2)] [] h := by
  intro x3 h hq e
  unfold f_X7_read_B52 at hq
  refine wp_iload_n (v := x3) ok dX7_read_52 rfl ?_
  refine wp_iload_n (v := x2) ok dX7_read_53 rfl ?_
  refine wp_icmp_ge (tgt := 101) ok dX7_read_54 (by decide) (fun c26 => ?_) (fun c26 => ?_)
  · have hq := ite_t c26 hq
    refine wp_sub (L' := [(0, .ref x0), (1, .ref x1), (2, .int x2)]) [1, 2, 3] rfl ?_
    exact hk101 h hq e
  · have hq := ite_f c26 hq
    refine wp_aload_n (v := x0) ok dX7_read_57 rfl ?_
    refine wp_getI ok fl_RX7_61 (sh_of e f_x0) dX7_read_58 ?_
    obtain ⟨k27, ek27, hq⟩ := jn2_some hq
    have kk27 : ∀ (y28 : Int32) (h29 : HP), k27 y28 h29 = some rr → h29.1 = h0.1 → wp x 84 [(3, .int x3), (0, .ref x0), (1, .ref x1), (2, .int x2)] [.int y28] h29 := by
      intro y28 h29 hq e30
      have hq := (ek27 y28 h29).symm.trans hq
      refine wp_istore (L' := [(4, .int y28), (3, .int x3), (0, .ref x0), (1, .ref x1), (2, .int x2)]) ok dX7_read_84 rfl rfl ?_
      refine wp_iload (v := y28) ok dX7_read_86 rfl ?_
      refine wp_if_gt (tgt := 93) ok dX7_read_88 (by decide) (fun c31 => ?_) (fun c31 => ?_)
      · have hq := ite_t c31 hq
        refine wp_iload_n (v := x3) ok dX7_read_93 rfl ?_
        refine wp_iload (v := y28) ok dX7_read_94 rfl ?_
        refine wp_iadd ok dX7_read_96 ?_
        obtain ⟨v32, e33, hq⟩ := lt_some hq
        refine wp_nmI e33 ?_
        refine wp_istore_n (L' := [(3, .int v32), (4, .int y28), (0, .ref x0), (1, .ref x1), (2, .int x2)]) ok dX7_read_97 rfl rfl ?_
        refine wp_goto (tgt := 52) ok dX7_read_98 (by decide) ?_
        refine wp_sub (L' := [(3, .int v32), (0, .ref x0), (1, .ref x1), (2, .int x2)]) [0, 2, 3, 4] rfl ?_
        exact ih v32 h29 hq e30
      · have hq := ite_f c31 hq
        refine wp_iload_n (v := x3) ok dX7_read_91 rfl ?_
        exact wp_iret ok hF rfl e30 (re2I hq) dX7_read_92
    refine wp_if_eq (tgt := 74) ok dX7_read_61 (by decide) (fun c34 => ?_) (fun c34 => ?_)
    · have hq := ite_t c34 hq
      refine wp_aload_n (v := x0) ok dX7_read_74 rfl ?_
      refine wp_aload_n (v := x1) ok dX7_read_75 rfl ?_
      refine wp_iload_n (v := x3) ok dX7_read_76 rfl ?_
      refine wp_iload_n (v := x2) ok dX7_read_77 rfl ?_
      obtain ⟨v35, e36, hq⟩ := bnd_some hq
      refine wp_callVI (As := [.int x3, .int x2]) (rest := [.ref x0]) (h1 := h) ok (m_X8_at e36 (Nat.le_refl _)) my_X8_at (w_369) pd_X8_at (Nat.le_trans (by decide) hfr) rfl (ci := 8) rfl (by decide) (sh_of e f_x1) rfl rfl rfl dX7_read_78 (fun e37 => ?_)
      obtain ⟨v38, h40, e39, hq⟩ := bnd2_some hq
      refine wp_callVI (As := [.int v35]) (rest := []) (h1 := h40) ok (m_X7_readOperator e39 (Nat.le_refl _)) my_X7_readOperator (w_469) pd_X7_readOperator (Nat.le_trans (by decide) hfr) rfl (ci := 7) rfl (by decide) (sh_of e f_x0) rfl rfl rfl dX7_read_81 (fun e41 => ?_)
      have e42 : h40.1 = h0.1 := (e41).trans e
      refine wp_sub (L' := [(3, .int x3), (0, .ref x0), (1, .ref x1), (2, .int x2)]) [0, 1, 2, 3] rfl ?_
      exact kk27 v38 h40 hq e42
    · have hq := ite_f c34 hq
      refine wp_aload_n (v := x0) ok dX7_read_64 rfl ?_
      refine wp_aload_n (v := x1) ok dX7_read_65 rfl ?_
      refine wp_iload_n (v := x3) ok dX7_read_66 rfl ?_
      refine wp_iload_n (v := x2) ok dX7_read_67 rfl ?_
      obtain ⟨v43, h45, e44, hq⟩ := bnd2_some hq
      refine wp_callVI (As := [.ref x1, .int x3, .int x2]) (rest := []) (h1 := h45) ok (m_X7_readThing e44 (Nat.le_refl _)) my_X7_readThing (w_365) pd_X7_readThing (Nat.le_trans (by decide) hfr) rfl (ci := 7) rfl (by decide) (sh_of e f_x0) rfl rfl rfl dX7_read_68 (fun e46 => ?_)
      have e47 : h45.1 = h0.1 := (e46).trans e
      refine wp_goto (tgt := 84) ok dX7_read_71 (by decide) ?_
      refine wp_sub (L' := [(3, .int x3), (0, .ref x0), (1, .ref x1), (2, .int x2)]) [0, 1, 2, 3] rfl ?_
      exact kk27 v43 h45 hq e47
set_option maxHeartbeats 4000000 in
set_option maxRecDepth 100000 in
theorem l_X7_read_B52 {x : Cx} {h0 : HP} {N fr : Nat} {rr : (Int32 × HP)} (ok : Okx x cX7_read yX7_read.cls 5 fr) (hfr : 5 ≤ fr)  {x0 : Nat} {x1 : Nat} {x2 : Int32} {n_x0 : Nat} (f_x0 : h0.1[x0]? = some (7, n_x0)) {n_x1 : Nat} (f_x1 : h0.1[x1]? = some (8, n_x1)) (hF : Fend x h0 (some (.int)) (QI rr.1 rr.2)) {k101 : HP → Option (Int32 × HP)} (hk101 : ∀ (h : HP), k101 h = some rr → h.1 = h0.1 → wp x 101 [(0, .ref x0), (1, .ref x1), (2, .int x2)] [] h) : ∀ (n : Nat) (x3 : Int32) (h : HP), lp (fun _ _ => none) (f_X7_read_B52 N x0 x1 x2 k101) n x3 h = some rr → h.1 = h0.1 → wp x 52 [(3, .int x3), (0, .ref x0), (1, .ref x1), (2, .int x2)] [] h := by
  intro n
  induction n with
  | zero => intro x3 h hq e; exact (Option.some_ne_none _ hq.symm).elim
  | succ n ih => exact s_X7_read_B52 ok hfr f_x0 f_x1 hF hk101 ih
set_option maxHeartbeats 4000000 in
set_option maxRecDepth 100000 in
theorem m_X7_read {l : Launch} {h : HP} {N : Nat} {x0 : Nat} {x1 : Nat} {rr : Int32} {rh : HP} {fr : Nat} (hq : f_X7_read N h x0 x1 = some (rr, rh)) (hfr : 5 ≤ fr) : Mt l yX7_read cX7_read 5 (some (.int)) fr [.ref x0, .ref x1] h (QI rr rh) := by
  obtain ⟨rp, ep⟩ : ∃ rp : (Int32 × HP), rp = (rr, rh) := ⟨_, rfl⟩
  have e1p : rr = rp.1 := (congrArg Prod.fst ep).symm
  have e2p : rh = rp.2 := (congrArg Prod.snd ep).symm
  rw [← ep] at hq
  rw [e1p, e2p]
  clear e1p e2p ep
  refine Mt.of (by decide +kernel) (Nat.le_of_ble_eq_true rfl) (fun x hl ok hF => ?_)
  subst hl
  show wp x 0 [(0, .ref x0), (1, .ref x1)] [] h
  unfold f_X7_read at hq
  obtain ⟨h0, eh0⟩ : ∃ h0 : HP, h = h0 := ⟨h, rfl⟩
  have e : h.1 = h0.1 := by rw [eh0]
  rw [eh0] at hF
  obtain ⟨g_x0, hq⟩ := gP_some hq
  obtain ⟨n_x0, f_x0⟩ := kO_some g_x0
  replace f_x0 := sh_of e.symm f_x0
  obtain ⟨g_x1, hq⟩ := gP_some hq
  obtain ⟨n_x1, f_x1⟩ := kO_some g_x1
  replace f_x1 := sh_of e.symm f_x1
  refine wp_aload_n (v := x1) ok dX7_read_0 rfl ?_
  refine wp_getI ok fl_RX7_44 (sh_of e f_x1) dX7_read_1 ?_
  refine wp_if_ne (tgt := 13) ok dX7_read_4 (by decide) (fun c1 => ?_) (fun c1 => ?_)
  · have hq := ite_f c1 hq
    refine wp_aload_n (v := x1) ok dX7_read_13 rfl ?_
    refine wp_getI ok fl_RX7_44 (sh_of e f_x1) dX7_read_14 ?_
    refine wp_bipush (v := 40) ok dX7_read_17 (by decide) ?_
    obtain ⟨v2, e3, hq⟩ := bnd_some hq
    refine wp_callSI (As := [.int (h.2.1 x1 1), .int 40]) (rest := []) (h1 := h) ok (m_J9_min_7cf53 e3 (Nat.le_refl _)) my_J9_min_7cf53 (w_364) pd_J9_min_7cf53 (Nat.le_trans (by decide) hfr) rfl rfl rfl rfl dX7_read_19 (fun e4 => ?_)
    refine wp_istore_n (L' := [(2, .int v2), (0, .ref x0), (1, .ref x1)]) ok dX7_read_22 rfl rfl ?_
    refine wp_aload_n (v := x0) ok dX7_read_23 rfl ?_
    refine wp_iconst (v := 0) ok dX7_read_24 (by decide) ?_
    refine wp_putI ok flw_RX7_34 (nr_7_5 _) (sh_of e f_x0) dX7_read_25 ?_
    obtain ⟨h5, e6, hq⟩ := lt_some hq
    refine wp_nmH e6 ?_
    have e7 : h5.1 = h0.1 := (congrArg Prod.fst e6).trans e
    refine wp_aload_n (v := x0) ok dX7_read_28 rfl ?_
    refine wp_iconst (v := 0) ok dX7_read_29 (by decide) ?_
    refine wp_putI ok flw_RX7_55 (nr_7_6 _) (sh_of e7 f_x0) dX7_read_30 ?_
    obtain ⟨h8, e9, hq⟩ := lt_some hq
    refine wp_nmH e9 ?_
    have e10 : h8.1 = h0.1 := (congrArg Prod.fst e9).trans e7
    refine wp_aload_n (v := x0) ok dX7_read_33 rfl ?_
    refine wp_iconst (v := 0) ok dX7_read_34 (by decide) ?_
    refine wp_putI ok flw_RX7_58 (nr_7_7 _) (sh_of e10 f_x0) dX7_read_35 ?_
    obtain ⟨h11, e12, hq⟩ := lt_some hq
    refine wp_nmH e12 ?_
    have e13 : h11.1 = h0.1 := (congrArg Prod.fst e12).trans e10
    refine wp_aload_n (v := x0) ok dX7_read_38 rfl ?_
    obtain ⟨t14, e15, hq⟩ := bnd_some hq
    obtain ⟨e16, n17, f18⟩ := rK_some e15
    replace f18 := sh_of (e13).symm f18
    refine wp_getR ok fl_RX7_24 (sh_of e13 f_x0) e16 dX7_read_39 ?_
    refine wp_iconst (v := 0) ok dX7_read_42 (by decide) ?_
    refine wp_iconst (v := 0) ok dX7_read_43 (by decide) ?_
    obtain ⟨g19, hq⟩ := gP_some hq
    refine wp_zast ok (sh_of e13 f18) (ix_of (sh_of e13 f18) g19) dX7_read_44 ?_
    obtain ⟨h20, e21, hq⟩ := lt_some hq
    refine wp_nmH e21 ?_
    have e22 : h20.1 = h0.1 := (congrArg Prod.fst e21).trans e13
    refine wp_aload_n (v := x0) ok dX7_read_45 rfl ?_
    refine wp_iconst (v := 1) ok dX7_read_46 (by decide) ?_
    refine wp_putI ok flw_RX7_61 (nr_7_8 (Or.inr rfl)) (sh_of e22 f_x0) dX7_read_47 ?_
    obtain ⟨h23, e24, hq⟩ := lt_some hq
    refine wp_nmH e24 ?_
    have e25 : h23.1 = h0.1 := (congrArg Prod.fst e24).trans e22
    refine wp_iconst (v := 0) ok dX7_read_50 (by decide) ?_
    refine wp_istore_n (L' := [(3, .int 0), (2, .int v2), (0, .ref x0), (1, .ref x1)]) ok dX7_read_51 rfl rfl ?_
    refine wp_sub (L' := [(3, .int 0), (0, .ref x0), (1, .ref x1), (2, .int v2)]) [0, 2, 3, 1] rfl ?_
    refine l_X7_read_B52 ok hfr f_x0 f_x1 hF ?_ N 0 h23 hq e25
    · intro h48 hq e49
      refine wp_aload_n (v := x0) ok dX7_read_101 rfl ?_
      refine wp_getI ok fl_RX7_61 (sh_of e49 f_x0) dX7_read_102 ?_
      refine wp_if_ne (tgt := 123) ok dX7_read_105 (by decide) (fun c50 => ?_) (fun c50 => ?_)
      · have hq := ite_f c50 hq
        refine wp_iload_n (v := v2) ok dX7_read_123 rfl ?_
        exact wp_iret ok hF rfl e49 (re2I hq) dX7_read_124
      · have hq := ite_t c50 hq
        refine wp_aload_n (v := x0) ok dX7_read_108 rfl ?_
        refine wp_getI ok fl_RX7_58 (sh_of e49 f_x0) dX7_read_109 ?_
        refine wp_if_gt (tgt := 123) ok dX7_read_112 (by decide) (fun c51 => ?_) (fun c51 => ?_)
        · have hq := ite_t c51 hq
          refine wp_iload_n (v := v2) ok dX7_read_123 rfl ?_
          exact wp_iret ok hF rfl e49 (re2I hq) dX7_read_124
        · have hq := ite_f c51 hq
          refine wp_aload_n (v := x1) ok dX7_read_115 rfl ?_
          refine wp_getI ok fl_RX7_44 (sh_of e49 f_x1) dX7_read_116 ?_
          refine wp_iload_n (v := v2) ok dX7_read_119 rfl ?_
          refine wp_icmp_le (tgt := 125) ok dX7_read_120 (by decide) (fun c52 => ?_) (fun c52 => ?_)
          · have hq := ite_t c52 hq
            refine wp_aload_n (v := x0) ok dX7_read_125 rfl ?_
            refine wp_iconst (v := 1) ok dX7_read_126 (by decide) ?_
            obtain ⟨h53, e54, hq⟩ := bnd_some hq
            refine wp_callVV (As := [.int 1]) (rest := []) (h1 := h53) ok (m_X7_release e54 (Nat.le_refl _)) my_X7_release (w_477) pd_X7_release (Nat.le_trans (by decide) hfr) rfl (ci := 7) rfl (by decide) (sh_of e49 f_x0) rfl rfl rfl dX7_read_127 (fun e55 => ?_)
            have e56 : h53.1 = h0.1 := (e55).trans e49
            refine wp_iconst (v := -1) ok dX7_read_130 (by decide) ?_
            exact wp_iret ok hF rfl e56 (re2I hq) dX7_read_131
          · have hq := ite_f c52 hq
            refine wp_iload_n (v := v2) ok dX7_read_123 rfl ?_
            exact wp_iret ok hF rfl e49 (re2I hq) dX7_read_124
  · have hq := ite_t c1 hq
    refine wp_aload_n (v := x0) ok dX7_read_7 rfl ?_
    obtain ⟨h57, e58, hq⟩ := bnd_some hq
    refine wp_callVV (As := []) (rest := []) (h1 := h57) ok (m_X7_beFirstRule e58 (Nat.le_refl _)) my_X7_beFirstRule (w_199) pd_X7_beFirstRule (Nat.le_trans (by decide) hfr) rfl (ci := 7) rfl (by decide) (sh_of e f_x0) rfl rfl rfl dX7_read_8 (fun e59 => ?_)
    have e60 : h57.1 = h0.1 := (e59).trans e
    refine wp_iconst (v := -1) ok dX7_read_11 (by decide) ?_
    exact wp_iret ok hF rfl e60 (re2I hq) dX7_read_12
set_option maxHeartbeats 4000000 in
set_option maxRecDepth 100000 in
theorem m_X7_joined {l : Launch} {h : HP} {x0 : Int32} {x1 : Int32} {x2 : Int32} {rr : Int32} {fr : Nat} (hq : f_X7_joined x0 x1 x2 = some rr) (hfr : 0 ≤ fr) : Mt l yX7_joined cX7_joined 3 (some (.int)) fr [.int x0, .int x1, .int x2] h (QI rr h) := by
  refine Mt.of (by decide +kernel) (Nat.le_of_ble_eq_true rfl) (fun x hl ok hF => ?_)
  subst hl
  show wp x 0 [(0, .int x0), (1, .int x1), (2, .int x2)] [] h
  unfold f_X7_joined at hq
  refine wp_iload_n (v := x0) ok dX7_joined_0 rfl ?_
  by_cases c1 : x0 = 2000
  · have hq := ite_t c1 hq
    refine wp_tabIn (v := 2000) (tgt := 44) ok dX7_joined_1 c1 (by decide) (by decide) rfl (by decide) ?_
    refine wp_iload_n (v := x1) ok dX7_joined_44 rfl ?_
    refine wp_iload_n (v := x2) ok dX7_joined_45 rfl ?_
    refine wp_icmp_ge (tgt := 53) ok dX7_joined_46 (by decide) (fun c2 => ?_) (fun c2 => ?_)
    · have hq := ite_t c2 hq
      refine wp_iconst (v := 0) ok dX7_joined_53 (by decide) ?_
      exact wp_iret ok hF rfl rfl (re1I hq) dX7_joined_54
    · have hq := ite_f c2 hq
      refine wp_iconst (v := 1) ok dX7_joined_49 (by decide) ?_
      refine wp_goto (tgt := 54) ok dX7_joined_50 (by decide) ?_
      exact wp_iret ok hF rfl rfl (re1I hq) dX7_joined_54
  · have hq := ite_f c1 hq
    by_cases c3 : x0 = 2001
    · have hq := ite_t c3 hq
      refine wp_tabIn (v := 2001) (tgt := 55) ok dX7_joined_1 c3 (by decide) (by decide) rfl (by decide) ?_
      refine wp_iload_n (v := x1) ok dX7_joined_55 rfl ?_
      refine wp_iload_n (v := x2) ok dX7_joined_56 rfl ?_
      refine wp_icmp_le (tgt := 64) ok dX7_joined_57 (by decide) (fun c4 => ?_) (fun c4 => ?_)
      · have hq := ite_t c4 hq
        refine wp_iconst (v := 0) ok dX7_joined_64 (by decide) ?_
        exact wp_iret ok hF rfl rfl (re1I hq) dX7_joined_65
      · have hq := ite_f c4 hq
        refine wp_iconst (v := 1) ok dX7_joined_60 (by decide) ?_
        refine wp_goto (tgt := 65) ok dX7_joined_61 (by decide) ?_
        exact wp_iret ok hF rfl rfl (re1I hq) dX7_joined_65
    · have hq := ite_f c3 hq
      by_cases c5 : x0 = 2002
      · have hq := ite_t c5 hq
        refine wp_tabIn (v := 2002) (tgt := 66) ok dX7_joined_1 c5 (by decide) (by decide) rfl (by decide) ?_
        refine wp_iload_n (v := x1) ok dX7_joined_66 rfl ?_
        refine wp_iload_n (v := x2) ok dX7_joined_67 rfl ?_
        refine wp_icmp_ne (tgt := 75) ok dX7_joined_68 (by decide) (fun c6 => ?_) (fun c6 => ?_)
        · have hq := ite_f c6 hq
          refine wp_iconst (v := 0) ok dX7_joined_75 (by decide) ?_
          exact wp_iret ok hF rfl rfl (re1I hq) dX7_joined_76
        · have hq := ite_t c6 hq
          refine wp_iconst (v := 1) ok dX7_joined_71 (by decide) ?_
          refine wp_goto (tgt := 76) ok dX7_joined_72 (by decide) ?_
          exact wp_iret ok hF rfl rfl (re1I hq) dX7_joined_76
      · have hq := ite_f c5 hq
        by_cases c7 : x0 = 2003
        · have hq := ite_t c7 hq
          refine wp_tabIn (v := 2003) (tgt := 77) ok dX7_joined_1 c7 (by decide) (by decide) rfl (by decide) ?_
          refine wp_iload_n (v := x1) ok dX7_joined_77 rfl ?_
          refine wp_iload_n (v := x2) ok dX7_joined_78 rfl ?_
          refine wp_iadd ok dX7_joined_79 ?_
          exact wp_iret ok hF rfl rfl (re1I hq) dX7_joined_80
        · have hq := ite_f c7 hq
          by_cases c8 : x0 = 2004
          · have hq := ite_t c8 hq
            refine wp_tabIn (v := 2004) (tgt := 81) ok dX7_joined_1 c8 (by decide) (by decide) rfl (by decide) ?_
            refine wp_iload_n (v := x1) ok dX7_joined_81 rfl ?_
            refine wp_iload_n (v := x2) ok dX7_joined_82 rfl ?_
            refine wp_isub ok dX7_joined_83 ?_
            exact wp_iret ok hF rfl rfl (re1I hq) dX7_joined_84
          · have hq := ite_f c8 hq
            by_cases c9 : x0 = 2005
            · have hq := ite_t c9 hq
              refine wp_tabIn (v := 2005) (tgt := 85) ok dX7_joined_1 c9 (by decide) (by decide) rfl (by decide) ?_
              refine wp_iload_n (v := x1) ok dX7_joined_85 rfl ?_
              refine wp_iload_n (v := x2) ok dX7_joined_86 rfl ?_
              refine wp_imul ok dX7_joined_87 ?_
              exact wp_iret ok hF rfl rfl (re1I hq) dX7_joined_88
            · have hq := ite_f c9 hq
              by_cases c10 : x0 = 2006
              · have hq := ite_t c10 hq
                refine wp_tabIn (v := 2006) (tgt := 89) ok dX7_joined_1 c10 (by decide) (by decide) rfl (by decide) ?_
                refine wp_iload_n (v := x2) ok dX7_joined_89 rfl ?_
                refine wp_if_ne (tgt := 97) ok dX7_joined_90 (by decide) (fun c11 => ?_) (fun c11 => ?_)
                · have hq := ite_f c11 hq
                  refine wp_iload_n (v := x1) ok dX7_joined_97 rfl ?_
                  refine wp_iload_n (v := x2) ok dX7_joined_98 rfl ?_
                  obtain ⟨g12, hq⟩ := gP_some hq
                  refine wp_idiv ok dX7_joined_99 g12 ?_
                  exact wp_iret ok hF rfl rfl (re1I hq) dX7_joined_100
                · have hq := ite_t c11 hq
                  refine wp_iconst (v := 0) ok dX7_joined_93 (by decide) ?_
                  refine wp_goto (tgt := 100) ok dX7_joined_94 (by decide) ?_
                  exact wp_iret ok hF rfl rfl (re1I hq) dX7_joined_100
              · have hq := ite_f c10 hq
                refine wp_tabOut (tgt := 101) ok dX7_joined_1 (tab_out [2000, 2001, 2002, 2003, 2004, 2005, 2006] (by decide) (fun w hw => by simp only [List.mem_cons, List.not_mem_nil, or_false] at hw; rcases hw with rfl | rfl | rfl | rfl | rfl | rfl | rfl <;> assumption)) (by decide) ?_
                refine wp_iconst (v := 0) ok dX7_joined_101 (by decide) ?_
                exact wp_iret ok hF rfl rfl (re1I hq) dX7_joined_102
set_option maxHeartbeats 4000000 in
set_option maxRecDepth 100000 in
theorem m_X9_put {l : Launch} {h : HP} {x0 : Int32} {x1 : Int32} {x2 : Int32} {rr : Int32} {fr : Nat} (hq : f_X9_put x0 x1 x2 = some rr) (hfr : 1 ≤ fr) : Mt l yX9_put cX9_put 3 (some (.int)) fr [.int x0, .int x1, .int x2] h (QI rr h) := by
  refine Mt.of (by decide +kernel) (Nat.le_of_ble_eq_true rfl) (fun x hl ok hF => ?_)
  subst hl
  show wp x 0 [(0, .int x0), (1, .int x1), (2, .int x2)] [] h
  unfold f_X9_put at hq
  refine wp_iload_n (v := x1) ok dX9_put_0 rfl ?_
  refine wp_iload_n (v := x2) ok dX9_put_1 rfl ?_
  refine wp_iload_n (v := x0) ok dX9_put_2 rfl ?_
  obtain ⟨v1, e2, hq⟩ := bnd_some hq
  refine wp_callSI (As := [.int x2, .int x0]) (rest := [.int x1]) (h1 := h) ok (m_J9_min_7cf53 e2 (Nat.le_refl _)) my_J9_min_7cf53 (w_504) pd_J9_min_7cf53 (Nat.le_trans (by decide) hfr) rfl rfl rfl rfl dX9_put_3 (fun e3 => ?_)
  obtain ⟨v4, e5, hq⟩ := bnd_some hq
  refine wp_callSI (As := [.int x1, .int v1]) (rest := []) (h1 := h) ok (m_J9_max_7cf53 e5 (Nat.le_refl _)) my_J9_max_7cf53 (w_505) pd_J9_max_7cf53 (Nat.le_trans (by decide) hfr) rfl rfl rfl rfl dX9_put_6 (fun e6 => ?_)
  exact wp_iret ok hF rfl rfl (re1I hq) dX9_put_9
set_option maxHeartbeats 4000000 in
set_option maxRecDepth 100000 in
theorem s_X7_price_B51 {x : Cx} {h0 : HP} {N fr : Nat} {rr : (Int32 × HP)} (ok : Okx x cX7_price yX7_price.cls 10 fr) (hfr : 2 ≤ fr)  {x0 : Nat} {n_x0 : Nat} (f_x0 : h0.1[x0]? = some (7, n_x0)) (hF : Fend x h0 (some (.int)) (QI rr.1 rr.2)) {k205 : HP → Option (Int32 × HP)} (hk205 : ∀ (h : HP), k205 h = some rr → h.1 = h0.1 → wp x 205 [(0, .ref x0)] [] h) {rc : Int32 → Int32 → HP → Option (Int32 × HP)} (ih : ∀ (x7 : Int32) (x8 : Int32) (h : HP), rc x7 x8 h = some rr → h.1 = h0.1 → wp x 51 [(7, .int x7), (8, .int x8), (0, .ref x0)] [] h) : ∀ (x7 : Int32) (x8 : Int32) (h : HP), f_X7_price_B51 N x0 k205 rc x7 x8 h = some rr → h.1 = h0.1 → wp x 51 [(7, .int x7), (8, .int x8), (0, .ref x0)] [] h := by
  intro x7 x8 h hq e
  unfold f_X7_price_B51 at hq
  refine wp_iload (v := x8) ok dX7_price_51 rfl ?_
  refine wp_aload_n (v := x0) ok dX7_price_53 rfl ?_
  refine wp_getI ok fl_RX7_34 (sh_of e f_x0) dX7_price_54 ?_
  refine wp_icmp_ge (tgt := 205) ok dX7_price_57 (by decide) (fun c55 => ?_) (fun c55 => ?_)
  · have hq := ite_t c55 hq
    refine wp_sub (L' := [(0, .ref x0)]) [2] rfl ?_
    exact hk205 h hq e
  · have hq := ite_f c55 hq
    refine wp_aload_n (v := x0) ok dX7_price_60 rfl ?_
    obtain ⟨t56, e57, hq⟩ := bnd_some hq
    obtain ⟨e58, n59, f60⟩ := rK_some e57
    replace f60 := sh_of (e).symm f60
    refine wp_getR ok fl_RX7_9 (sh_of e f_x0) e58 dX7_price_61 ?_
    refine wp_iload (v := x8) ok dX7_price_64 rfl ?_
    obtain ⟨g61, hq⟩ := gP_some hq
    refine wp_iald ok (sh_of e f60) (ix_of (sh_of e f60) g61) dX7_price_66 ?_
    obtain ⟨v62, e63, hq⟩ := lt_some hq
    refine wp_nmI e63 ?_
    refine wp_istore (L' := [(9, .int v62), (7, .int x7), (8, .int x8), (0, .ref x0)]) ok dX7_price_67 rfl rfl ?_
    refine wp_iload (v := v62) ok dX7_price_69 rfl ?_
    refine wp_sipush (v := 2000) ok dX7_price_71 (by decide) ?_
    obtain ⟨k64, ek64, hq⟩ := jn0_some hq
    have kk64 : k64 = some rr → wp x 124 [(9, .int v62), (7, .int x7), (8, .int x8), (0, .ref x0)] [] h := by
      intro hq
      rw [ek64] at hq
      refine wp_iload (v := v62) ok dX7_price_124 rfl ?_
      refine wp_sipush (v := 2007) ok dX7_price_126 (by decide) ?_
      obtain ⟨k65, ek65, hq⟩ := jn0_some hq
      have kk65 : k65 = some rr → wp x 160 [(9, .int v62), (7, .int x7), (8, .int x8), (0, .ref x0)] [] h := by
        intro hq
        rw [ek65] at hq
        refine wp_iload (v := x7) ok dX7_price_160 rfl ?_
        refine wp_iconst (v := 2) ok dX7_price_162 (by decide) ?_
        refine wp_icmp_lt (tgt := 199) ok dX7_price_163 (by decide) (fun c66 => ?_) (fun c66 => ?_)
        · have hq := ite_t c66 hq
          obtain ⟨v67, e68, hq⟩ := lt_some hq
          refine wp_iinc (v := x8) (w := 1) (L' := [(8, .int v67), (9, .int v62), (7, .int x7), (0, .ref x0)]) ok dX7_price_199 rfl (by decide) rfl (by rw [← e68]; rfl) ?_
          refine wp_goto (tgt := 51) ok dX7_price_202 (by decide) ?_
          refine wp_sub (L' := [(7, .int x7), (8, .int v67), (0, .ref x0)]) [2, 0, 3] rfl ?_
          exact ih x7 v67 h hq e
        · have hq := ite_f c66 hq
          obtain ⟨v69, e70, hq⟩ := lt_some hq
          refine wp_iinc (v := x7) (w := (-1)) (L' := [(7, .int v69), (9, .int v62), (8, .int x8), (0, .ref x0)]) ok dX7_price_166 rfl (by decide) rfl (by rw [← e70]; rfl) ?_
          refine wp_aload_n (v := x0) ok dX7_price_169 rfl ?_
          obtain ⟨t71, e72, hq⟩ := bnd_some hq
          obtain ⟨e73, n74, f75⟩ := rK_some e72
          replace f75 := sh_of (e).symm f75
          refine wp_getR ok fl_RX7_18 (sh_of e f_x0) e73 dX7_price_170 ?_
          refine wp_iload (v := v69) ok dX7_price_173 rfl ?_
          refine wp_iconst (v := 1) ok dX7_price_175 (by decide) ?_
          refine wp_isub ok dX7_price_176 ?_
          refine wp_iload (v := v62) ok dX7_price_177 rfl ?_
          refine wp_aload_n (v := x0) ok dX7_price_179 rfl ?_
          obtain ⟨t76, e77, hq⟩ := bnd_some hq
          obtain ⟨e78, n79, f80⟩ := rK_some e77
          replace f80 := sh_of (e).symm f80
          refine wp_getR ok fl_RX7_18 (sh_of e f_x0) e78 dX7_price_180 ?_
          refine wp_iload (v := v69) ok dX7_price_183 rfl ?_
          refine wp_iconst (v := 1) ok dX7_price_185 (by decide) ?_
          refine wp_isub ok dX7_price_186 ?_
          obtain ⟨g81, hq⟩ := gP_some hq
          refine wp_iald ok (sh_of e f80) (ix_of (sh_of e f80) g81) dX7_price_187 ?_
          refine wp_aload_n (v := x0) ok dX7_price_188 rfl ?_
          obtain ⟨t82, e83, hq⟩ := bnd_some hq
          obtain ⟨e84, n85, f86⟩ := rK_some e83
          replace f86 := sh_of (e).symm f86
          refine wp_getR ok fl_RX7_18 (sh_of e f_x0) e84 dX7_price_189 ?_
          refine wp_iload (v := v69) ok dX7_price_192 rfl ?_
          obtain ⟨g87, hq⟩ := gP_some hq
          refine wp_iald ok (sh_of e f86) (ix_of (sh_of e f86) g87) dX7_price_194 ?_
          obtain ⟨v88, e89, hq⟩ := bnd_some hq
          refine wp_callSI (As := [.int v62, .int (h.2.1 t76 (v69 - 1).toNatClampNeg), .int (h.2.1 t82 v69.toNatClampNeg)]) (rest := [.int (v69 - 1), .ref t71]) (h1 := h) ok (m_X7_joined e89 (Nat.le_refl _)) my_X7_joined (w_566) pd_X7_joined (Nat.le_trans (by decide) hfr) rfl rfl rfl rfl dX7_price_195 (fun e90 => ?_)
          obtain ⟨g91, hq⟩ := gP_some hq
          refine wp_iast ok (sh_of e f75) (ix_of (sh_of e f75) g91) dX7_price_198 ?_
          obtain ⟨h92, e93, hq⟩ := lt_some hq
          refine wp_nmH e93 ?_
          have e94 : h92.1 = h0.1 := (congrArg Prod.fst e93).trans e
          obtain ⟨v95, e96, hq⟩ := lt_some hq
          refine wp_iinc (v := x8) (w := 1) (L' := [(8, .int v95), (7, .int v69), (9, .int v62), (0, .ref x0)]) ok dX7_price_199 rfl (by decide) rfl (by rw [← e96]; rfl) ?_
          refine wp_goto (tgt := 51) ok dX7_price_202 (by decide) ?_
          refine wp_sub (L' := [(7, .int v69), (8, .int v95), (0, .ref x0)]) [1, 0, 3] rfl ?_
          exact ih v69 v95 h92 hq e94
      refine wp_icmp_ne (tgt := 160) ok dX7_price_129 (by decide) (fun c97 => ?_) (fun c97 => ?_)
      · have hq := ite_f c97 hq
        refine wp_sub (L' := [(9, .int v62), (7, .int x7), (8, .int x8), (0, .ref x0)]) [0, 1, 2, 3] rfl ?_
        exact kk65 hq
      · have hq := ite_t c97 hq
        refine wp_iload (v := x7) ok dX7_price_132 rfl ?_
        refine wp_iconst (v := 1) ok dX7_price_134 (by decide) ?_
        refine wp_icmp_lt (tgt := 160) ok dX7_price_135 (by decide) (fun c98 => ?_) (fun c98 => ?_)
        · have hq := ite_t c98 hq
          refine wp_sub (L' := [(9, .int v62), (7, .int x7), (8, .int x8), (0, .ref x0)]) [0, 1, 2, 3] rfl ?_
          exact kk65 hq
        · have hq := ite_f c98 hq
          refine wp_aload_n (v := x0) ok dX7_price_138 rfl ?_
          obtain ⟨t99, e100, hq⟩ := bnd_some hq
          obtain ⟨e101, n102, f103⟩ := rK_some e100
          replace f103 := sh_of (e).symm f103
          refine wp_getR ok fl_RX7_18 (sh_of e f_x0) e101 dX7_price_139 ?_
          refine wp_iload (v := x7) ok dX7_price_142 rfl ?_
          refine wp_iconst (v := 1) ok dX7_price_144 (by decide) ?_
          refine wp_isub ok dX7_price_145 ?_
          refine wp_aload_n (v := x0) ok dX7_price_146 rfl ?_
          obtain ⟨t104, e105, hq⟩ := bnd_some hq
          obtain ⟨e106, n107, f108⟩ := rK_some e105
          replace f108 := sh_of (e).symm f108
          refine wp_getR ok fl_RX7_18 (sh_of e f_x0) e106 dX7_price_147 ?_
          refine wp_iload (v := x7) ok dX7_price_150 rfl ?_
          refine wp_iconst (v := 1) ok dX7_price_152 (by decide) ?_
          refine wp_isub ok dX7_price_153 ?_
          obtain ⟨g109, hq⟩ := gP_some hq
          refine wp_iald ok (sh_of e f108) (ix_of (sh_of e f108) g109) dX7_price_154 ?_
          refine wp_ineg ok dX7_price_155 ?_
          obtain ⟨g110, hq⟩ := gP_some hq
          refine wp_iast ok (sh_of e f103) (ix_of (sh_of e f103) g110) dX7_price_156 ?_
          obtain ⟨h111, e112, hq⟩ := lt_some hq
          refine wp_nmH e112 ?_
          have e113 : h111.1 = h0.1 := (congrArg Prod.fst e112).trans e
          refine wp_goto (tgt := 199) ok dX7_price_157 (by decide) ?_
          obtain ⟨v114, e115, hq⟩ := lt_some hq
          refine wp_iinc (v := x8) (w := 1) (L' := [(8, .int v114), (9, .int v62), (7, .int x7), (0, .ref x0)]) ok dX7_price_199 rfl (by decide) rfl (by rw [← e115]; rfl) ?_
          refine wp_goto (tgt := 51) ok dX7_price_202 (by decide) ?_
          refine wp_sub (L' := [(7, .int x7), (8, .int v114), (0, .ref x0)]) [2, 0, 3] rfl ?_
          exact ih x7 v114 h111 hq e113
    refine wp_icmp_ge (tgt := 124) ok dX7_price_74 (by decide) (fun c116 => ?_) (fun c116 => ?_)
    · have hq := ite_t c116 hq
      refine wp_sub (L' := [(9, .int v62), (7, .int x7), (8, .int x8), (0, .ref x0)]) [0, 1, 2, 3] rfl ?_
      exact kk64 hq
    · have hq := ite_f c116 hq
      refine wp_iload (v := x7) ok dX7_price_77 rfl ?_
      refine wp_aload_n (v := x0) ok dX7_price_79 rfl ?_
      obtain ⟨t117, e118, hq⟩ := bnd_some hq
      obtain ⟨e119, n120, f121⟩ := rK_some e118
      replace f121 := sh_of (e).symm f121
      refine wp_getR ok fl_RX7_18 (sh_of e f_x0) e119 dX7_price_80 ?_
      refine wp_alen102 ok (sh_of e f121) (congrArg Int32.ofNat (len_of (sh_of e f121)).symm) dX7_price_83 ?_
      refine wp_icmp_ge (tgt := 124) ok dX7_price_84 (by decide) (fun c122 => ?_) (fun c122 => ?_)
      · have hq := ite_t c122 hq
        refine wp_sub (L' := [(9, .int v62), (7, .int x7), (8, .int x8), (0, .ref x0)]) [0, 1, 2, 3] rfl ?_
        exact kk64 hq
      · have hq := ite_f c122 hq
        refine wp_aload_n (v := x0) ok dX7_price_87 rfl ?_
        obtain ⟨t123, e124, hq⟩ := bnd_some hq
        obtain ⟨e125, n126, f127⟩ := rK_some e124
        replace f127 := sh_of (e).symm f127
        refine wp_getR ok fl_RX7_18 (sh_of e f_x0) e125 dX7_price_88 ?_
        refine wp_iload (v := x7) ok dX7_price_91 rfl ?_
        refine wp_iload (v := v62) ok dX7_price_93 rfl ?_
        refine wp_sipush (v := 1000) ok dX7_price_95 (by decide) ?_
        refine wp_icmp_ge (tgt := 106) ok dX7_price_98 (by decide) (fun c128 => ?_) (fun c128 => ?_)
        · have hq := ite_t c128 hq
          refine wp_aload_n (v := x0) ok dX7_price_106 rfl ?_
          obtain ⟨t129, e130, hq⟩ := bnd_some hq
          obtain ⟨e131, n132, f133⟩ := rK_some e130
          replace f133 := sh_of (e).symm f133
          refine wp_getR ok fl_RX7_21 (sh_of e f_x0) e131 dX7_price_107 ?_
          refine wp_iload (v := v62) ok dX7_price_110 rfl ?_
          refine wp_sipush (v := 1000) ok dX7_price_112 (by decide) ?_
          refine wp_isub ok dX7_price_115 ?_
          obtain ⟨g134, hq⟩ := gP_some hq
          refine wp_iald ok (sh_of e f133) (ix_of (sh_of e f133) g134) dX7_price_116 ?_
          obtain ⟨g135, hq⟩ := gP_some hq
          refine wp_iast ok (sh_of e f127) (ix_of (sh_of e f127) g135) dX7_price_117 ?_
          obtain ⟨h136, e137, hq⟩ := lt_some hq
          refine wp_nmH e137 ?_
          have e138 : h136.1 = h0.1 := (congrArg Prod.fst e137).trans e
          obtain ⟨v139, e140, hq⟩ := lt_some hq
          refine wp_iinc (v := x7) (w := 1) (L' := [(7, .int v139), (9, .int v62), (8, .int x8), (0, .ref x0)]) ok dX7_price_118 rfl (by decide) rfl (by rw [← e140]; rfl) ?_
          refine wp_goto (tgt := 199) ok dX7_price_121 (by decide) ?_
          obtain ⟨v141, e142, hq⟩ := lt_some hq
          refine wp_iinc (v := x8) (w := 1) (L' := [(8, .int v141), (7, .int v139), (9, .int v62), (0, .ref x0)]) ok dX7_price_199 rfl (by decide) rfl (by rw [← e142]; rfl) ?_
          refine wp_goto (tgt := 51) ok dX7_price_202 (by decide) ?_
          refine wp_sub (L' := [(7, .int v139), (8, .int v141), (0, .ref x0)]) [1, 0, 3] rfl ?_
          exact ih v139 v141 h136 hq e138
        · have hq := ite_f c128 hq
          refine wp_iload (v := v62) ok dX7_price_101 rfl ?_
          refine wp_goto (tgt := 117) ok dX7_price_103 (by decide) ?_
          obtain ⟨g143, hq⟩ := gP_some hq
          refine wp_iast ok (sh_of e f127) (ix_of (sh_of e f127) g143) dX7_price_117 ?_
          obtain ⟨h144, e145, hq⟩ := lt_some hq
          refine wp_nmH e145 ?_
          have e146 : h144.1 = h0.1 := (congrArg Prod.fst e145).trans e
          obtain ⟨v147, e148, hq⟩ := lt_some hq
          refine wp_iinc (v := x7) (w := 1) (L' := [(7, .int v147), (9, .int v62), (8, .int x8), (0, .ref x0)]) ok dX7_price_118 rfl (by decide) rfl (by rw [← e148]; rfl) ?_
          refine wp_goto (tgt := 199) ok dX7_price_121 (by decide) ?_
          obtain ⟨v149, e150, hq⟩ := lt_some hq
          refine wp_iinc (v := x8) (w := 1) (L' := [(8, .int v149), (7, .int v147), (9, .int v62), (0, .ref x0)]) ok dX7_price_199 rfl (by decide) rfl (by rw [← e150]; rfl) ?_
          refine wp_goto (tgt := 51) ok dX7_price_202 (by decide) ?_
          refine wp_sub (L' := [(7, .int v147), (8, .int v149), (0, .ref x0)]) [1, 0, 3] rfl ?_
          exact ih v147 v149 h144 hq e146
set_option maxHeartbeats 4000000 in
set_option maxRecDepth 100000 in
theorem l_X7_price_B51 {x : Cx} {h0 : HP} {N fr : Nat} {rr : (Int32 × HP)} (ok : Okx x cX7_price yX7_price.cls 10 fr) (hfr : 2 ≤ fr)  {x0 : Nat} {n_x0 : Nat} (f_x0 : h0.1[x0]? = some (7, n_x0)) (hF : Fend x h0 (some (.int)) (QI rr.1 rr.2)) {k205 : HP → Option (Int32 × HP)} (hk205 : ∀ (h : HP), k205 h = some rr → h.1 = h0.1 → wp x 205 [(0, .ref x0)] [] h) : ∀ (n : Nat) (x7 : Int32) (x8 : Int32) (h : HP), lp (fun _ _ _ => none) (f_X7_price_B51 N x0 k205) n x7 x8 h = some rr → h.1 = h0.1 → wp x 51 [(7, .int x7), (8, .int x8), (0, .ref x0)] [] h := by
  intro n
  induction n with
  | zero => intro x7 x8 h hq e; exact (Option.some_ne_none _ hq.symm).elim
  | succ n ih => exact s_X7_price_B51 ok hfr f_x0 hF hk205 ih
set_option maxHeartbeats 4000000 in
set_option maxRecDepth 100000 in
theorem m_X7_price {l : Launch} {h : HP} {N : Nat} {x0 : Nat} {x1 : Int32} {x2 : Int32} {x3 : Int32} {x4 : Int32} {x5 : Int32} {x6 : Int32} {rr : Int32} {rh : HP} {fr : Nat} (hq : f_X7_price N h x0 x1 x2 x3 x4 x5 x6 = some (rr, rh)) (hfr : 2 ≤ fr) : Mt l yX7_price cX7_price 10 (some (.int)) fr [.ref x0, .int x1, .int x2, .int x3, .int x4, .int x5, .int x6] h (QI rr rh) := by
  obtain ⟨rp, ep⟩ : ∃ rp : (Int32 × HP), rp = (rr, rh) := ⟨_, rfl⟩
  have e1p : rr = rp.1 := (congrArg Prod.fst ep).symm
  have e2p : rh = rp.2 := (congrArg Prod.snd ep).symm
  rw [← ep] at hq
  rw [e1p, e2p]
  clear e1p e2p ep
  refine Mt.of (by decide +kernel) (Nat.le_of_ble_eq_true rfl) (fun x hl ok hF => ?_)
  subst hl
  show wp x 0 [(0, .ref x0), (1, .int x1), (2, .int x2), (3, .int x3), (4, .int x4), (5, .int x5), (6, .int x6)] [] h
  unfold f_X7_price at hq
  obtain ⟨h0, eh0⟩ : ∃ h0 : HP, h = h0 := ⟨h, rfl⟩
  have e : h.1 = h0.1 := by rw [eh0]
  rw [eh0] at hF
  obtain ⟨g_x0, hq⟩ := gP_some hq
  obtain ⟨n_x0, f_x0⟩ := kO_some g_x0
  replace f_x0 := sh_of e.symm f_x0
  refine wp_aload_n (v := x0) ok dX7_price_0 rfl ?_
  obtain ⟨t1, e2, hq⟩ := bnd_some hq
  obtain ⟨e3, n4, f5⟩ := rK_some e2
  replace f5 := sh_of (e).symm f5
  refine wp_getR ok fl_RX7_21 (sh_of e f_x0) e3 dX7_price_1 ?_
  refine wp_iconst (v := 0) ok dX7_price_4 (by decide) ?_
  refine wp_iload_n (v := x1) ok dX7_price_5 rfl ?_
  obtain ⟨g6, hq⟩ := gP_some hq
  refine wp_iast ok (sh_of e f5) (ix_of (sh_of e f5) g6) dX7_price_6 ?_
  obtain ⟨h7, e8, hq⟩ := lt_some hq
  refine wp_nmH e8 ?_
  have e9 : h7.1 = h0.1 := (congrArg Prod.fst e8).trans e
  refine wp_aload_n (v := x0) ok dX7_price_7 rfl ?_
  obtain ⟨t10, e11, hq⟩ := bnd_some hq
  obtain ⟨e12, n13, f14⟩ := rK_some e11
  replace f14 := sh_of (e9).symm f14
  refine wp_getR ok fl_RX7_21 (sh_of e9 f_x0) e12 dX7_price_8 ?_
  refine wp_iconst (v := 1) ok dX7_price_11 (by decide) ?_
  refine wp_iload_n (v := x2) ok dX7_price_12 rfl ?_
  obtain ⟨g15, hq⟩ := gP_some hq
  refine wp_iast ok (sh_of e9 f14) (ix_of (sh_of e9 f14) g15) dX7_price_13 ?_
  obtain ⟨h16, e17, hq⟩ := lt_some hq
  refine wp_nmH e17 ?_
  have e18 : h16.1 = h0.1 := (congrArg Prod.fst e17).trans e9
  refine wp_aload_n (v := x0) ok dX7_price_14 rfl ?_
  obtain ⟨t19, e20, hq⟩ := bnd_some hq
  obtain ⟨e21, n22, f23⟩ := rK_some e20
  replace f23 := sh_of (e18).symm f23
  refine wp_getR ok fl_RX7_21 (sh_of e18 f_x0) e21 dX7_price_15 ?_
  refine wp_iconst (v := 2) ok dX7_price_18 (by decide) ?_
  refine wp_iload_n (v := x3) ok dX7_price_19 rfl ?_
  obtain ⟨g24, hq⟩ := gP_some hq
  refine wp_iast ok (sh_of e18 f23) (ix_of (sh_of e18 f23) g24) dX7_price_20 ?_
  obtain ⟨h25, e26, hq⟩ := lt_some hq
  refine wp_nmH e26 ?_
  have e27 : h25.1 = h0.1 := (congrArg Prod.fst e26).trans e18
  refine wp_aload_n (v := x0) ok dX7_price_21 rfl ?_
  obtain ⟨t28, e29, hq⟩ := bnd_some hq
  obtain ⟨e30, n31, f32⟩ := rK_some e29
  replace f32 := sh_of (e27).symm f32
  refine wp_getR ok fl_RX7_21 (sh_of e27 f_x0) e30 dX7_price_22 ?_
  refine wp_iconst (v := 3) ok dX7_price_25 (by decide) ?_
  refine wp_iload (v := x4) ok dX7_price_26 rfl ?_
  obtain ⟨g33, hq⟩ := gP_some hq
  refine wp_iast ok (sh_of e27 f32) (ix_of (sh_of e27 f32) g33) dX7_price_28 ?_
  obtain ⟨h34, e35, hq⟩ := lt_some hq
  refine wp_nmH e35 ?_
  have e36 : h34.1 = h0.1 := (congrArg Prod.fst e35).trans e27
  refine wp_aload_n (v := x0) ok dX7_price_29 rfl ?_
  obtain ⟨t37, e38, hq⟩ := bnd_some hq
  obtain ⟨e39, n40, f41⟩ := rK_some e38
  replace f41 := sh_of (e36).symm f41
  refine wp_getR ok fl_RX7_21 (sh_of e36 f_x0) e39 dX7_price_30 ?_
  refine wp_iconst (v := 4) ok dX7_price_33 (by decide) ?_
  refine wp_iload (v := x5) ok dX7_price_34 rfl ?_
  obtain ⟨g42, hq⟩ := gP_some hq
  refine wp_iast ok (sh_of e36 f41) (ix_of (sh_of e36 f41) g42) dX7_price_36 ?_
  obtain ⟨h43, e44, hq⟩ := lt_some hq
  refine wp_nmH e44 ?_
  have e45 : h43.1 = h0.1 := (congrArg Prod.fst e44).trans e36
  refine wp_aload_n (v := x0) ok dX7_price_37 rfl ?_
  obtain ⟨t46, e47, hq⟩ := bnd_some hq
  obtain ⟨e48, n49, f50⟩ := rK_some e47
  replace f50 := sh_of (e45).symm f50
  refine wp_getR ok fl_RX7_21 (sh_of e45 f_x0) e48 dX7_price_38 ?_
  refine wp_iconst (v := 5) ok dX7_price_41 (by decide) ?_
  refine wp_iload (v := x6) ok dX7_price_42 rfl ?_
  obtain ⟨g51, hq⟩ := gP_some hq
  refine wp_iast ok (sh_of e45 f50) (ix_of (sh_of e45 f50) g51) dX7_price_44 ?_
  obtain ⟨h52, e53, hq⟩ := lt_some hq
  refine wp_nmH e53 ?_
  have e54 : h52.1 = h0.1 := (congrArg Prod.fst e53).trans e45
  refine wp_iconst (v := 0) ok dX7_price_45 (by decide) ?_
  refine wp_istore (L' := [(7, .int 0), (0, .ref x0), (1, .int x1), (2, .int x2), (3, .int x3), (4, .int x4), (5, .int x5), (6, .int x6)]) ok dX7_price_46 rfl rfl ?_
  refine wp_iconst (v := 0) ok dX7_price_48 (by decide) ?_
  refine wp_istore (L' := [(8, .int 0), (7, .int 0), (0, .ref x0), (1, .int x1), (2, .int x2), (3, .int x3), (4, .int x4), (5, .int x5), (6, .int x6)]) ok dX7_price_49 rfl rfl ?_
  refine wp_sub (L' := [(7, .int 0), (8, .int 0), (0, .ref x0)]) [1, 0, 2] rfl ?_
  refine l_X7_price_B51 ok hfr f_x0 hF ?_ N 0 0 h52 hq e54
  · intro h151 hq e152
    refine wp_aload_n (v := x0) ok dX7_price_205 rfl ?_
    obtain ⟨t153, e154, hq⟩ := bnd_some hq
    obtain ⟨e155, n156, f157⟩ := rK_some e154
    replace f157 := sh_of (e152).symm f157
    refine wp_getR ok fl_RX7_18 (sh_of e152 f_x0) e155 dX7_price_206 ?_
    refine wp_iconst (v := 0) ok dX7_price_209 (by decide) ?_
    obtain ⟨g158, hq⟩ := gP_some hq
    refine wp_iald ok (sh_of e152 f157) (ix_of (sh_of e152 f157) g158) dX7_price_210 ?_
    refine wp_iconst (v := 0) ok dX7_price_211 (by decide) ?_
    refine wp_ldc (v := 99999) ok (w_569) dX7_price_212 ?_
    obtain ⟨v159, e160, hq⟩ := bnd_some hq
    refine wp_callNI (As := [.int (h151.2.1 t153 (0 : Int32).toNatClampNeg), .int 0, .int 99999]) (rest := []) (h1 := h151) ok (m_X9_put e160 (Nat.le_refl _)) my_X9_put (nestM_at 9 rfl) pd_X9_put (Nat.le_trans (by decide) hfr) rfl rfl rfl rfl dX7_price_214 (fun e161 => ?_)
    exact wp_iret ok hF rfl e152 (re2I hq) dX7_price_217
set_option maxHeartbeats 4000000 in
set_option maxRecDepth 100000 in
theorem s_X8_add_B19 {x : Cx} {h0 : HP} {N fr : Nat} {rr : (Int32 × HP)} (ok : Okx x cX8_add yX8_add.cls 3 fr) (hfr : 0 ≤ fr)  {x0 : Nat} {x1 : Int32} {n_x0 : Nat} (f_x0 : h0.1[x0]? = some (8, n_x0)) (hF : Fend x h0 (some (.boolean)) (QI rr.1 rr.2)) {rc : Int32 → HP → Option (Int32 × HP)} (ih : ∀ (x2 : Int32) (h : HP), rc x2 h = some rr → h.1 = h0.1 → wp x 19 [(2, .int x2), (0, .ref x0), (1, .int x1)] [] h) : ∀ (x2 : Int32) (h : HP), f_X8_add_B19 N x0 x1 rc x2 h = some rr → h.1 = h0.1 → wp x 19 [(2, .int x2), (0, .ref x0), (1, .int x1)] [] h := by
  intro x2 h hq e
  unfold f_X8_add_B19 at hq
  refine wp_iload_n (v := x2) ok dX8_add_19 rfl ?_
  refine wp_if_lt (tgt := 56) ok dX8_add_20 (by decide) (fun c7 => ?_) (fun c7 => ?_)
  · have hq := ite_t c7 hq
    refine wp_iconst (v := 1) ok dX8_add_56 (by decide) ?_
    exact wp_iret ok hF (nb_z (Or.inr rfl)) e (re2I hq) dX8_add_57
  · have hq := ite_f c7 hq
    refine wp_aload_n (v := x0) ok dX8_add_23 rfl ?_
    obtain ⟨t8, e9, hq⟩ := bnd_some hq
    obtain ⟨e10, n11, f12⟩ := rK_some e9
    replace f12 := sh_of (e).symm f12
    refine wp_getR ok fl_RX8_9 (sh_of e f_x0) e10 dX8_add_24 ?_
    refine wp_aload_n (v := x0) ok dX8_add_27 rfl ?_
    refine wp_getI ok fl_RX8_15 (sh_of e f_x0) dX8_add_28 ?_
    refine wp_iload_n (v := x1) ok dX8_add_31 rfl ?_
    refine wp_iload_n (v := x2) ok dX8_add_32 rfl ?_
    refine wp_iushr ok dX8_add_33 ?_
    refine wp_sipush (v := 255) ok dX8_add_34 (by decide) ?_
    refine wp_iand ok dX8_add_37 ?_
    refine wp_i2c ok dX8_add_38 ?_
    obtain ⟨g13, hq⟩ := gP_some hq
    refine wp_cast ok (sh_of e f12) (ix_of (sh_of e f12) g13) dX8_add_39 ?_
    obtain ⟨h14, e15, hq⟩ := lt_some hq
    refine wp_nmH e15 ?_
    have e16 : h14.1 = h0.1 := (congrArg Prod.fst e15).trans e
    refine wp_aload_n (v := x0) ok dX8_add_40 rfl ?_
    refine wp_dup ok dX8_add_41 rfl ?_
    refine wp_getI ok fl_RX8_15 (sh_of e16 f_x0) dX8_add_42 ?_
    refine wp_iconst (v := 1) ok dX8_add_45 (by decide) ?_
    refine wp_iadd ok dX8_add_46 ?_
    refine wp_putI ok flw_RX8_15 (nr_8_1 _) (sh_of e16 f_x0) dX8_add_47 ?_
    obtain ⟨h17, e18, hq⟩ := lt_some hq
    refine wp_nmH e18 ?_
    have e19 : h17.1 = h0.1 := (congrArg Prod.fst e18).trans e16
    obtain ⟨v20, e21, hq⟩ := lt_some hq
    refine wp_iinc (v := x2) (w := (-8)) (L' := [(2, .int v20), (0, .ref x0), (1, .int x1)]) ok dX8_add_50 rfl (by decide) rfl (by rw [← e21]; rfl) ?_
    refine wp_goto (tgt := 19) ok dX8_add_53 (by decide) ?_
    refine wp_sub (L' := [(2, .int v20), (0, .ref x0), (1, .int x1)]) [0, 1, 2] rfl ?_
    exact ih v20 h17 hq e19
