/-! ===== walks ===== -/
set_option maxHeartbeats 4000000 in
set_option maxRecDepth 100000 in
theorem l_X9_grows_B41 {x : Cx} {h0 : HP} {N fr : Nat} {rr : (Int32 × HP)} (ok : Okx x cX9_grows yX9_grows.cls 5 fr) (hfr : 6 ≤ fr)  {x0 : Nat} {n_x0 : Nat} (f_x0 : h0.1[x0]? = some (9, n_x0)) (hF : Fend x h0 (some (.int)) (QI rr.1 rr.2)) {k79 : Int32 → Int32 → HP → Option (Int32 × HP)} (hk79 : ∀ (x2 : Int32) (x3 : Int32) (h : HP), k79 x2 x3 h = some rr → h.1 = h0.1 → wp x 79 [(2, .int x2), (3, .int x3), (0, .ref x0)] [] h) : ∀ (n : Nat) (x2 : Int32) (x3 : Int32) (x4 : Int32) (h : HP), lp (fun _ _ _ _ => none) (f_X9_grows_B41 N x0 k79) n x2 x3 x4 h = some rr → h.1 = h0.1 → wp x 41 [(2, .int x2), (3, .int x3), (4, .int x4), (0, .ref x0)] [] h := by
  intro n
  induction n with
  | zero => intro x2 x3 x4 h hq e; exact (Option.some_ne_none _ hq.symm).elim
  | succ n ih => exact s_X9_grows_B41 ok hfr f_x0 hF hk79 ih
set_option maxHeartbeats 4000000 in
set_option maxRecDepth 100000 in
theorem m_X9_grows {l : Launch} {h : HP} {N : Nat} {x0 : Nat} {x1 : Int32} {rr : Int32} {rh : HP} {fr : Nat} (hq : f_X9_grows N h x0 x1 = some (rr, rh)) (hfr : 6 ≤ fr) : Mt l yX9_grows cX9_grows 5 (some (.int)) fr [.ref x0, .int x1] h (QI rr rh) := by
  obtain ⟨rp, ep⟩ : ∃ rp : (Int32 × HP), rp = (rr, rh) := ⟨_, rfl⟩
  have e1p : rr = rp.1 := (congrArg Prod.fst ep).symm
  have e2p : rh = rp.2 := (congrArg Prod.snd ep).symm
  rw [← ep] at hq
  rw [e1p, e2p]
  clear e1p e2p ep
  refine Mt.of (by decide +kernel) (Nat.le_of_ble_eq_true rfl) (fun x hl ok hF => ?_)
  subst hl
  show wp x 0 [(0, .ref x0), (1, .int x1)] [] h
  unfold f_X9_grows at hq
  obtain ⟨h0, eh0⟩ : ∃ h0 : HP, h = h0 := ⟨h, rfl⟩
  have e : h.1 = h0.1 := by rw [eh0]
  rw [eh0] at hF
  obtain ⟨g_x0, hq⟩ := gP_some hq
  obtain ⟨n_x0, f_x0⟩ := kO_some g_x0
  replace f_x0 := sh_of e.symm f_x0
  refine wp_iload_n (v := x1) ok dX9_grows_0 rfl ?_
  refine wp_iconst (v := 1) ok dX9_grows_1 (by decide) ?_
  refine wp_bipush (v := 60) ok dX9_grows_2 (by decide) ?_
  obtain ⟨v1, e2, hq⟩ := bnd_some hq
  refine wp_callSI (As := [.int x1, .int 1, .int 60]) (rest := []) (h1 := h) ok (m_X9_within e2 (Nat.le_refl _)) my_X9_within (w_491) pd_X9_within (Nat.le_trans (by decide) hfr) rfl rfl rfl rfl dX9_grows_4 (fun e3 => ?_)
  refine wp_if_ne (tgt := 12) ok dX9_grows_7 (by decide) (fun c4 => ?_) (fun c4 => ?_)
  · have hq := ite_f c4 hq
    refine wp_aload_n (v := x0) ok dX9_grows_12 rfl ?_
    obtain ⟨t5, e6, hq⟩ := bnd_some hq
    obtain ⟨e7, n8, f9⟩ := rK_some e6
    replace f9 := sh_of (e).symm f9
    refine wp_getR ok fl_RX9_26 (sh_of e f_x0) e7 dX9_grows_13 ?_
    refine wp_getI ok fl_RX9_47 (sh_of e f9) dX9_grows_16 ?_
    refine wp_if_ne (tgt := 25) ok dX9_grows_19 (by decide) (fun c10 => ?_) (fun c10 => ?_)
    · have hq := ite_f c10 hq
      refine wp_aload_n (v := x0) ok dX9_grows_25 rfl ?_
      refine wp_iload_n (v := x1) ok dX9_grows_26 rfl ?_
      obtain ⟨h11, e12, hq⟩ := bnd_some hq
      refine wp_callVV (As := [.int x1]) (rest := []) (h1 := h11) ok (m_X9_tryMonths e12 (Nat.le_refl _)) my_X9_tryMonths (w_710) pd_X9_tryMonths (Nat.le_trans (by decide) hfr) rfl (ci := 9) rfl (by decide) (sh_of e f_x0) rfl rfl rfl dX9_grows_27 (fun e13 => ?_)
      have e14 : h11.1 = h0.1 := (e13).trans e
      refine wp_iconst (v := 0) ok dX9_grows_30 (by decide) ?_
      refine wp_istore_n (L' := [(2, .int 0), (0, .ref x0), (1, .int x1)]) ok dX9_grows_31 rfl rfl ?_
      refine wp_aload_n (v := x0) ok dX9_grows_32 rfl ?_
      refine wp_iconst (v := 0) ok dX9_grows_33 (by decide) ?_
      obtain ⟨v15, h17, e16, hq⟩ := bnd2_some hq
      refine wp_callVI (As := [.int 0]) (rest := []) (h1 := h17) ok (m_X9_growth e16 (Nat.le_refl _)) my_X9_growth (w_778) pd_X9_growth (Nat.le_trans (by decide) hfr) rfl (ci := 9) rfl (by decide) (sh_of e14 f_x0) rfl rfl rfl dX9_grows_34 (fun e18 => ?_)
      have e19 : h17.1 = h0.1 := (e18).trans e14
      refine wp_istore_n (L' := [(3, .int v15), (2, .int 0), (0, .ref x0), (1, .int x1)]) ok dX9_grows_37 rfl rfl ?_
      refine wp_iconst (v := 1) ok dX9_grows_38 (by decide) ?_
      refine wp_istore (L' := [(4, .int 1), (3, .int v15), (2, .int 0), (0, .ref x0), (1, .int x1)]) ok dX9_grows_39 rfl rfl ?_
      refine wp_sub (L' := [(2, .int 0), (3, .int v15), (4, .int 1), (0, .ref x0)]) [2, 1, 0, 3] rfl ?_
      refine l_X9_grows_B41 ok hfr f_x0 hF ?_ N 0 v15 1 h17 hq e19
      · intro x41 x42 h43 hq e44
        refine wp_aload_n (v := x0) ok dX9_grows_79 rfl ?_
        obtain ⟨t45, e46, hq⟩ := bnd_some hq
        obtain ⟨e47, n48, f49⟩ := rK_some e46
        replace f49 := sh_of (e44).symm f49
        refine wp_getR ok fl_RX9_19 (sh_of e44 f_x0) e47 dX9_grows_80 ?_
        refine wp_iload_n (v := x42) ok dX9_grows_83 rfl ?_
        refine wp_i2l ok dX9_grows_84 ?_
        obtain ⟨h50, e51, hq⟩ := bnd_some hq
        refine wp_callVV (As := [.long (x42.toInt64)]) (rest := []) (h1 := h50) ok (m_X6_tell e51 (Nat.le_refl _)) my_X6_tell (w_718) pd_X6_tell (Nat.le_trans (by decide) hfr) rfl (ci := 6) rfl (by decide) (sh_of e44 f49) rfl rfl rfl dX9_grows_85 (fun e52 => ?_)
        have e53 : h50.1 = h0.1 := (e52).trans e44
        refine wp_iload_n (v := x41) ok dX9_grows_88 rfl ?_
        exact wp_iret ok hF rfl e53 (re2I hq) dX9_grows_89
    · have hq := ite_t c10 hq
      refine wp_bipush (v := -2) ok dX9_grows_22 (by decide) ?_
      exact wp_iret ok hF rfl e (re2I hq) dX9_grows_24
  · have hq := ite_t c4 hq
    refine wp_iconst (v := -1) ok dX9_grows_10 (by decide) ?_
    exact wp_iret ok hF rfl e (re2I hq) dX9_grows_11
set_option maxHeartbeats 4000000 in
set_option maxRecDepth 100000 in
theorem s_X9_tryTaxes_B14 {x : Cx} {h0 : HP} {N fr : Nat} {rr : HP} (ok : Okx x cX9_tryTaxes yX9_tryTaxes.cls 5 fr) (hfr : 4 ≤ fr)  {x0 : Nat} {x1 : Int32} {x2 : Int32} {x3 : Int32} {n_x0 : Nat} (f_x0 : h0.1[x0]? = some (9, n_x0)) (hF : Fend x h0 none (QV rr)) {rc : Int32 → HP → Option HP} (ih : ∀ (x4 : Int32) (h : HP), rc x4 h = some rr → h.1 = h0.1 → wp x 14 [(4, .int x4), (0, .ref x0), (1, .int x1), (2, .int x2), (3, .int x3)] [] h) : ∀ (x4 : Int32) (h : HP), f_X9_tryTaxes_B14 N x0 x1 x2 x3 rc x4 h = some rr → h.1 = h0.1 → wp x 14 [(4, .int x4), (0, .ref x0), (1, .int x1), (2, .int x2), (3, .int x3)] [] h := by
  intro x4 h hq e
  unfold f_X9_tryTaxes_B14 at hq
  refine wp_iload (v := x4) ok dX9_tryTaxes_14 rfl ?_
  refine wp_iload_n (v := x1) ok dX9_tryTaxes_16 rfl ?_
  refine wp_icmp_ge (tgt := 59) ok dX9_tryTaxes_17 (by decide) (fun c15 => ?_) (fun c15 => ?_)
  · have hq := ite_t c15 hq
    exact wp_vret ok hF e (reV hq) dX9_tryTaxes_59
  · have hq := ite_f c15 hq
    refine wp_aload_n (v := x0) ok dX9_tryTaxes_20 rfl ?_
    obtain ⟨t16, e17, hq⟩ := bnd_some hq
    obtain ⟨e18, n19, f20⟩ := rK_some e17
    replace f20 := sh_of (e).symm f20
    refine wp_getR ok fl_RX9_33 (sh_of e f_x0) e18 dX9_tryTaxes_21 ?_
    refine wp_aload_n (v := x0) ok dX9_tryTaxes_24 rfl ?_
    obtain ⟨t21, e22, hq⟩ := bnd_some hq
    obtain ⟨e23, n24, f25⟩ := rK_some e22
    replace f25 := sh_of (e).symm f25
    refine wp_getR ok fl_RX9_84 (sh_of e f_x0) e23 dX9_tryTaxes_25 ?_
    refine wp_iconst (v := 1) ok dX9_tryTaxes_28 (by decide) ?_
    obtain ⟨v26, h28, e27, hq⟩ := bnd2_some hq
    refine wp_callVI (As := [.ref t21, .int 1]) (rest := []) (h1 := h28) ok (m_X0_pass e27 (Nat.le_refl _)) my_X0_pass (w_515) pd_X0_pass (Nat.le_trans (by decide) hfr) rfl (ci := 0) rfl (by decide) (sh_of e f20) rfl rfl rfl dX9_tryTaxes_29 (fun e29 => ?_)
    have e30 : h28.1 = h0.1 := (e29).trans e
    refine wp_pop ok dX9_tryTaxes_32 rfl ?_
    refine wp_iload_n (v := x3) ok dX9_tryTaxes_33 rfl ?_
    refine wp_iload (v := x4) ok dX9_tryTaxes_34 rfl ?_
    refine wp_ishr ok dX9_tryTaxes_36 ?_
    refine wp_iconst (v := 1) ok dX9_tryTaxes_37 (by decide) ?_
    refine wp_iand ok dX9_tryTaxes_38 ?_
    refine wp_iconst (v := 1) ok dX9_tryTaxes_39 (by decide) ?_
    refine wp_icmp_ne (tgt := 53) ok dX9_tryTaxes_40 (by decide) (fun c31 => ?_) (fun c31 => ?_)
    · have hq := ite_f c31 hq
      obtain ⟨v32, e33, hq⟩ := lt_some hq
      refine wp_iinc (v := x4) (w := 1) (L' := [(4, .int v32), (0, .ref x0), (1, .int x1), (2, .int x2), (3, .int x3)]) ok dX9_tryTaxes_53 rfl (by decide) rfl (by rw [← e33]; rfl) ?_
      refine wp_goto (tgt := 14) ok dX9_tryTaxes_56 (by decide) ?_
      refine wp_sub (L' := [(4, .int v32), (0, .ref x0), (1, .int x1), (2, .int x2), (3, .int x3)]) [0, 1, 2, 3, 4] rfl ?_
      exact ih v32 h28 hq e30
    · have hq := ite_t c31 hq
      refine wp_aload_n (v := x0) ok dX9_tryTaxes_43 rfl ?_
      obtain ⟨t34, e35, hq⟩ := bnd_some hq
      obtain ⟨e36, n37, f38⟩ := rK_some e35
      replace f38 := sh_of (e30).symm f38
      refine wp_getR ok fl_RX9_33 (sh_of e30 f_x0) e36 dX9_tryTaxes_44 ?_
      refine wp_iconst (v := 0) ok dX9_tryTaxes_47 (by decide) ?_
      refine wp_iload_n (v := x2) ok dX9_tryTaxes_48 rfl ?_
      obtain ⟨v39, h41, e40, hq⟩ := bnd2_some hq
      refine wp_callVI (As := [.int 0, .int x2]) (rest := []) (h1 := h41) ok (m_X0_tax e40 (Nat.le_refl _)) my_X0_tax (w_616) pd_X0_tax (Nat.le_trans (by decide) hfr) rfl (ci := 0) rfl (by decide) (sh_of e30 f38) rfl rfl rfl dX9_tryTaxes_49 (fun e42 => ?_)
      have e43 : h41.1 = h0.1 := (e42).trans e30
      refine wp_pop ok dX9_tryTaxes_52 rfl ?_
      obtain ⟨v44, e45, hq⟩ := lt_some hq
      refine wp_iinc (v := x4) (w := 1) (L' := [(4, .int v44), (0, .ref x0), (1, .int x1), (2, .int x2), (3, .int x3)]) ok dX9_tryTaxes_53 rfl (by decide) rfl (by rw [← e45]; rfl) ?_
      refine wp_goto (tgt := 14) ok dX9_tryTaxes_56 (by decide) ?_
      refine wp_sub (L' := [(4, .int v44), (0, .ref x0), (1, .int x1), (2, .int x2), (3, .int x3)]) [0, 1, 2, 3, 4] rfl ?_
      exact ih v44 h41 hq e43
set_option maxHeartbeats 4000000 in
set_option maxRecDepth 100000 in
theorem l_X9_tryTaxes_B14 {x : Cx} {h0 : HP} {N fr : Nat} {rr : HP} (ok : Okx x cX9_tryTaxes yX9_tryTaxes.cls 5 fr) (hfr : 4 ≤ fr)  {x0 : Nat} {x1 : Int32} {x2 : Int32} {x3 : Int32} {n_x0 : Nat} (f_x0 : h0.1[x0]? = some (9, n_x0)) (hF : Fend x h0 none (QV rr)) : ∀ (n : Nat) (x4 : Int32) (h : HP), lp (fun _ _ => none) (f_X9_tryTaxes_B14 N x0 x1 x2 x3) n x4 h = some rr → h.1 = h0.1 → wp x 14 [(4, .int x4), (0, .ref x0), (1, .int x1), (2, .int x2), (3, .int x3)] [] h := by
  intro n
  induction n with
  | zero => intro x4 h hq e; exact (Option.some_ne_none _ hq.symm).elim
  | succ n ih => exact s_X9_tryTaxes_B14 ok hfr f_x0 hF  ih
set_option maxHeartbeats 4000000 in
set_option maxRecDepth 100000 in
theorem m_X9_tryTaxes {l : Launch} {h : HP} {N : Nat} {x0 : Nat} {x1 : Int32} {x2 : Int32} {x3 : Int32} {rr : HP} {fr : Nat} (hq : f_X9_tryTaxes N h x0 x1 x2 x3 = some rr) (hfr : 4 ≤ fr) : Mt l yX9_tryTaxes cX9_tryTaxes 5 none fr [.ref x0, .int x1, .int x2, .int x3] h (QV rr) := by
  refine Mt.of (by decide +kernel) (Nat.le_of_ble_eq_true rfl) (fun x hl ok hF => ?_)
  subst hl
  show wp x 0 [(0, .ref x0), (1, .int x1), (2, .int x2), (3, .int x3)] [] h
  unfold f_X9_tryTaxes at hq
  obtain ⟨h0, eh0⟩ : ∃ h0 : HP, h = h0 := ⟨h, rfl⟩
  have e : h.1 = h0.1 := by rw [eh0]
  rw [eh0] at hF
  obtain ⟨g_x0, hq⟩ := gP_some hq
  obtain ⟨n_x0, f_x0⟩ := kO_some g_x0
  replace f_x0 := sh_of e.symm f_x0
  refine wp_aload_n (v := x0) ok dX9_tryTaxes_0 rfl ?_
  obtain ⟨t1, e2, hq⟩ := bnd_some hq
  obtain ⟨e3, n4, f5⟩ := rK_some e2
  replace f5 := sh_of (e).symm f5
  refine wp_getR ok fl_RX9_33 (sh_of e f_x0) e3 dX9_tryTaxes_1 ?_
  refine wp_aload_n (v := x0) ok dX9_tryTaxes_4 rfl ?_
  obtain ⟨t6, e7, hq⟩ := bnd_some hq
  obtain ⟨e8, n9, f10⟩ := rK_some e7
  replace f10 := sh_of (e).symm f10
  refine wp_getR ok fl_RX9_26 (sh_of e f_x0) e8 dX9_tryTaxes_5 ?_
  obtain ⟨h11, e12, hq⟩ := bnd_some hq
  refine wp_callVV (As := [.ref t6]) (rest := []) (h1 := h11) ok (m_X0_become e12 (Nat.le_refl _)) my_X0_become (w_510) pd_X0_become (Nat.le_trans (by decide) hfr) rfl (ci := 0) rfl (by decide) (sh_of e f5) rfl rfl rfl dX9_tryTaxes_8 (fun e13 => ?_)
  have e14 : h11.1 = h0.1 := (e13).trans e
  refine wp_iconst (v := 0) ok dX9_tryTaxes_11 (by decide) ?_
  refine wp_istore (L' := [(4, .int 0), (0, .ref x0), (1, .int x1), (2, .int x2), (3, .int x3)]) ok dX9_tryTaxes_12 rfl rfl ?_
  refine wp_sub (L' := [(4, .int 0), (0, .ref x0), (1, .int x1), (2, .int x2), (3, .int x3)]) [0, 1, 2, 3, 4] rfl ?_
  refine l_X9_tryTaxes_B14 ok hfr f_x0 hF  N 0 h11 hq e14
set_option maxHeartbeats 4000000 in
set_option maxRecDepth 100000 in
theorem s_X9_reign_B55 {x : Cx} {h0 : HP} {N fr : Nat} {rr : (Int32 × HP)} (ok : Okx x cX9_reign yX9_reign.cls 8 fr) (hfr : 5 ≤ fr)  {x0 : Nat} {x1 : Int32} {x2 : Int32} {x3 : Int32} {n_x0 : Nat} (f_x0 : h0.1[x0]? = some (9, n_x0)) (hF : Fend x h0 (some (.int)) (QI rr.1 rr.2)) {k137 : Int32 → Int32 → HP → Option (Int32 × HP)} (hk137 : ∀ (x4 : Int32) (x5 : Int32) (h : HP), k137 x4 x5 h = some rr → h.1 = h0.1 → wp x 137 [(4, .int x4), (5, .int x5), (0, .ref x0)] [] h) {rc : Int32 → Int32 → Int32 → HP → Option (Int32 × HP)} (ih : ∀ (x4 : Int32) (x5 : Int32) (x6 : Int32) (h : HP), rc x4 x5 x6 h = some rr → h.1 = h0.1 → wp x 55 [(4, .int x4), (5, .int x5), (6, .int x6), (0, .ref x0), (1, .int x1), (2, .int x2), (3, .int x3)] [] h) : ∀ (x4 : Int32) (x5 : Int32) (x6 : Int32) (h : HP), f_X9_reign_B55 N x0 x1 x2 x3 k137 rc x4 x5 x6 h = some rr → h.1 = h0.1 → wp x 55 [(4, .int x4), (5, .int x5), (6, .int x6), (0, .ref x0), (1, .int x1), (2, .int x2), (3, .int x3)] [] h := by
  intro x4 x5 x6 h hq e
  unfold f_X9_reign_B55 at hq
  refine wp_iload (v := x6) ok dX9_reign_55 rfl ?_
  refine wp_iconst (v := 1) ok dX9_reign_57 (by decide) ?_
  refine wp_iload_n (v := x1) ok dX9_reign_58 rfl ?_
  refine wp_ishl ok dX9_reign_59 ?_
  refine wp_icmp_ge (tgt := 137) ok dX9_reign_60 (by decide) (fun c19 => ?_) (fun c19 => ?_)
  · have hq := ite_t c19 hq
    refine wp_sub (L' := [(4, .int x4), (5, .int x5), (0, .ref x0)]) [0, 1, 3] rfl ?_
    exact hk137 x4 x5 h hq e
  · have hq := ite_f c19 hq
    refine wp_aload_n (v := x0) ok dX9_reign_63 rfl ?_
    refine wp_iload_n (v := x1) ok dX9_reign_64 rfl ?_
    refine wp_iload_n (v := x2) ok dX9_reign_65 rfl ?_
    refine wp_iload (v := x6) ok dX9_reign_66 rfl ?_
    obtain ⟨h20, e21, hq⟩ := bnd_some hq
    refine wp_callVV (As := [.int x1, .int x2, .int x6]) (rest := []) (h1 := h20) ok (m_X9_tryTaxes e21 (Nat.le_refl _)) my_X9_tryTaxes (w_787) pd_X9_tryTaxes (Nat.le_trans (by decide) hfr) rfl (ci := 9) rfl (by decide) (sh_of e f_x0) rfl rfl rfl dX9_reign_68 (fun e22 => ?_)
    have e23 : h20.1 = h0.1 := (e22).trans e
    refine wp_aload_n (v := x0) ok dX9_reign_71 rfl ?_
    refine wp_aload_n (v := x0) ok dX9_reign_72 rfl ?_
    obtain ⟨t24, e25, hq⟩ := bnd_some hq
    obtain ⟨e26, n27, f28⟩ := rK_some e25
    replace f28 := sh_of (e23).symm f28
    refine wp_getR ok fl_RX9_33 (sh_of e23 f_x0) e26 dX9_reign_73 ?_
    refine wp_iconst (v := 0) ok dX9_reign_76 (by decide) ?_
    obtain ⟨v29, h31, e30, hq⟩ := bnd2_some hq
    refine wp_callVI (As := [.ref t24, .int 0]) (rest := []) (h1 := h31) ok (m_X9_priceOf e30 (Nat.le_refl _)) my_X9_priceOf (w_553) pd_X9_priceOf (Nat.le_trans (by decide) hfr) rfl (ci := 9) rfl (by decide) (sh_of e23 f_x0) rfl rfl rfl dX9_reign_77 (fun e32 => ?_)
    have e33 : h31.1 = h0.1 := (e32).trans e23
    refine wp_iload_n (v := x3) ok dX9_reign_80 rfl ?_
    refine wp_icmp_lt (tgt := 131) ok dX9_reign_81 (by decide) (fun c34 => ?_) (fun c34 => ?_)
    · have hq := ite_t c34 hq
      obtain ⟨v35, e36, hq⟩ := lt_some hq
      refine wp_iinc (v := x6) (w := 1) (L' := [(6, .int v35), (4, .int x4), (5, .int x5), (0, .ref x0), (1, .int x1), (2, .int x2), (3, .int x3)]) ok dX9_reign_131 rfl (by decide) rfl (by rw [← e36]; rfl) ?_
      refine wp_goto (tgt := 55) ok dX9_reign_134 (by decide) ?_
      refine wp_sub (L' := [(4, .int x4), (5, .int x5), (6, .int v35), (0, .ref x0), (1, .int x1), (2, .int x2), (3, .int x3)]) [1, 2, 0, 3, 4, 5, 6] rfl ?_
      exact ih x4 x5 v35 h31 hq e33
    · have hq := ite_f c34 hq
      refine wp_aload_n (v := x0) ok dX9_reign_84 rfl ?_
      obtain ⟨t37, e38, hq⟩ := bnd_some hq
      obtain ⟨e39, n40, f41⟩ := rK_some e38
      replace f41 := sh_of (e33).symm f41
      refine wp_getR ok fl_RX9_33 (sh_of e33 f_x0) e39 dX9_reign_85 ?_
      refine wp_getI ok fl_RX9_237 (sh_of e33 f41) dX9_reign_88 ?_
      obtain ⟨v42, e43, hq⟩ := lt_some hq
      refine wp_nmI e43 ?_
      refine wp_istore (L' := [(7, .int v42), (4, .int x4), (5, .int x5), (6, .int x6), (0, .ref x0), (1, .int x1), (2, .int x2), (3, .int x3)]) ok dX9_reign_91 rfl rfl ?_
      refine wp_iload (v := x5) ok dX9_reign_93 rfl ?_
      refine wp_iconst (v := -1) ok dX9_reign_95 (by decide) ?_
      obtain ⟨k44, ek44, hq⟩ := jn0_some hq
      have kk44 : k44 = some rr → wp x 123 [(7, .int v42), (6, .int x6), (0, .ref x0), (1, .int x1), (2, .int x2), (3, .int x3)] [] h31 := by
        intro hq
        rw [ek44] at hq
        refine wp_iload (v := v42) ok dX9_reign_123 rfl ?_
        refine wp_istore (L' := [(4, .int v42), (7, .int v42), (6, .int x6), (0, .ref x0), (1, .int x1), (2, .int x2), (3, .int x3)]) ok dX9_reign_125 rfl rfl ?_
        refine wp_iload (v := x6) ok dX9_reign_127 rfl ?_
        refine wp_istore (L' := [(5, .int x6), (4, .int v42), (7, .int v42), (6, .int x6), (0, .ref x0), (1, .int x1), (2, .int x2), (3, .int x3)]) ok dX9_reign_129 rfl rfl ?_
        obtain ⟨v45, e46, hq⟩ := lt_some hq
        refine wp_iinc (v := x6) (w := 1) (L' := [(6, .int v45), (5, .int x6), (4, .int v42), (7, .int v42), (0, .ref x0), (1, .int x1), (2, .int x2), (3, .int x3)]) ok dX9_reign_131 rfl (by decide) rfl (by rw [← e46]; rfl) ?_
        refine wp_goto (tgt := 55) ok dX9_reign_134 (by decide) ?_
        refine wp_sub (L' := [(4, .int v42), (5, .int x6), (6, .int v45), (0, .ref x0), (1, .int x1), (2, .int x2), (3, .int x3)]) [2, 1, 0, 4, 5, 6, 7] rfl ?_
        exact ih v42 x6 v45 h31 hq e33
      refine wp_icmp_eq (tgt := 123) ok dX9_reign_96 (by decide) (fun c47 => ?_) (fun c47 => ?_)
      · have hq := ite_t c47 hq
        refine wp_sub (L' := [(7, .int v42), (6, .int x6), (0, .ref x0), (1, .int x1), (2, .int x2), (3, .int x3)]) [0, 3, 4, 5, 6, 7] rfl ?_
        exact kk44 hq
      · have hq := ite_f c47 hq
        refine wp_iload (v := v42) ok dX9_reign_99 rfl ?_
        refine wp_iload (v := x4) ok dX9_reign_101 rfl ?_
        refine wp_icmp_gt (tgt := 123) ok dX9_reign_103 (by decide) (fun c48 => ?_) (fun c48 => ?_)
        · have hq := ite_t c48 hq
          refine wp_sub (L' := [(7, .int v42), (6, .int x6), (0, .ref x0), (1, .int x1), (2, .int x2), (3, .int x3)]) [0, 3, 4, 5, 6, 7] rfl ?_
          exact kk44 hq
        · have hq := ite_f c48 hq
          refine wp_iload (v := v42) ok dX9_reign_106 rfl ?_
          refine wp_iload (v := x4) ok dX9_reign_108 rfl ?_
          refine wp_icmp_ne (tgt := 131) ok dX9_reign_110 (by decide) (fun c49 => ?_) (fun c49 => ?_)
          · have hq := ite_f c49 hq
            obtain ⟨v50, e51, hq⟩ := lt_some hq
            refine wp_iinc (v := x6) (w := 1) (L' := [(6, .int v50), (7, .int v42), (4, .int x4), (5, .int x5), (0, .ref x0), (1, .int x1), (2, .int x2), (3, .int x3)]) ok dX9_reign_131 rfl (by decide) rfl (by rw [← e51]; rfl) ?_
            refine wp_goto (tgt := 55) ok dX9_reign_134 (by decide) ?_
            refine wp_sub (L' := [(4, .int x4), (5, .int x5), (6, .int v50), (0, .ref x0), (1, .int x1), (2, .int x2), (3, .int x3)]) [2, 3, 0, 4, 5, 6, 7] rfl ?_
            exact ih x4 x5 v50 h31 hq e33
          · have hq := ite_t c49 hq
            refine wp_iload (v := x6) ok dX9_reign_113 rfl ?_
            refine wp_iload (v := x5) ok dX9_reign_115 rfl ?_
            obtain ⟨v52, e53, hq⟩ := bnd_some hq
            refine wp_callSI (As := [.int x6, .int x5]) (rest := []) (h1 := h31) ok (m_X9_hasFewer e53 (Nat.le_refl _)) my_X9_hasFewer (w_771) pd_X9_hasFewer (Nat.le_trans (by decide) hfr) rfl rfl rfl rfl dX9_reign_117 (fun e54 => ?_)
            refine wp_if_eq (tgt := 131) ok dX9_reign_120 (by decide) (fun c55 => ?_) (fun c55 => ?_)
            · have hq := ite_t c55 hq
              obtain ⟨v56, e57, hq⟩ := lt_some hq
              refine wp_iinc (v := x6) (w := 1) (L' := [(6, .int v56), (7, .int v42), (4, .int x4), (5, .int x5), (0, .ref x0), (1, .int x1), (2, .int x2), (3, .int x3)]) ok dX9_reign_131 rfl (by decide) rfl (by rw [← e57]; rfl) ?_
              refine wp_goto (tgt := 55) ok dX9_reign_134 (by decide) ?_
              refine wp_sub (L' := [(4, .int x4), (5, .int x5), (6, .int v56), (0, .ref x0), (1, .int x1), (2, .int x2), (3, .int x3)]) [2, 3, 0, 4, 5, 6, 7] rfl ?_
              exact ih x4 x5 v56 h31 hq e33
            · have hq := ite_f c55 hq
              refine wp_sub (L' := [(7, .int v42), (6, .int x6), (0, .ref x0), (1, .int x1), (2, .int x2), (3, .int x3)]) [0, 3, 4, 5, 6, 7] rfl ?_
              exact kk44 hq
set_option maxHeartbeats 4000000 in
set_option maxRecDepth 100000 in
theorem l_X9_reign_B55 {x : Cx} {h0 : HP} {N fr : Nat} {rr : (Int32 × HP)} (ok : Okx x cX9_reign yX9_reign.cls 8 fr) (hfr : 5 ≤ fr)  {x0 : Nat} {x1 : Int32} {x2 : Int32} {x3 : Int32} {n_x0 : Nat} (f_x0 : h0.1[x0]? = some (9, n_x0)) (hF : Fend x h0 (some (.int)) (QI rr.1 rr.2)) {k137 : Int32 → Int32 → HP → Option (Int32 × HP)} (hk137 : ∀ (x4 : Int32) (x5 : Int32) (h : HP), k137 x4 x5 h = some rr → h.1 = h0.1 → wp x 137 [(4, .int x4), (5, .int x5), (0, .ref x0)] [] h) : ∀ (n : Nat) (x4 : Int32) (x5 : Int32) (x6 : Int32) (h : HP), lp (fun _ _ _ _ => none) (f_X9_reign_B55 N x0 x1 x2 x3 k137) n x4 x5 x6 h = some rr → h.1 = h0.1 → wp x 55 [(4, .int x4), (5, .int x5), (6, .int x6), (0, .ref x0), (1, .int x1), (2, .int x2), (3, .int x3)] [] h := by
  intro n
  induction n with
  | zero => intro x4 x5 x6 h hq e; exact (Option.some_ne_none _ hq.symm).elim
  | succ n ih => exact s_X9_reign_B55 ok hfr f_x0 hF hk137 ih
set_option maxHeartbeats 4000000 in
set_option maxRecDepth 100000 in
theorem m_X9_reign {l : Launch} {h : HP} {N : Nat} {x0 : Nat} {x1 : Int32} {x2 : Int32} {x3 : Int32} {rr : Int32} {rh : HP} {fr : Nat} (hq : f_X9_reign N h x0 x1 x2 x3 = some (rr, rh)) (hfr : 5 ≤ fr) : Mt l yX9_reign cX9_reign 8 (some (.int)) fr [.ref x0, .int x1, .int x2, .int x3] h (QI rr rh) := by
  obtain ⟨rp, ep⟩ : ∃ rp : (Int32 × HP), rp = (rr, rh) := ⟨_, rfl⟩
  have e1p : rr = rp.1 := (congrArg Prod.fst ep).symm
  have e2p : rh = rp.2 := (congrArg Prod.snd ep).symm
  rw [← ep] at hq
  rw [e1p, e2p]
  clear e1p e2p ep
  refine Mt.of (by decide +kernel) (Nat.le_of_ble_eq_true rfl) (fun x hl ok hF => ?_)
  subst hl
  show wp x 0 [(0, .ref x0), (1, .int x1), (2, .int x2), (3, .int x3)] [] h
  unfold f_X9_reign at hq
  obtain ⟨h0, eh0⟩ : ∃ h0 : HP, h = h0 := ⟨h, rfl⟩
  have e : h.1 = h0.1 := by rw [eh0]
  rw [eh0] at hF
  obtain ⟨g_x0, hq⟩ := gP_some hq
  obtain ⟨n_x0, f_x0⟩ := kO_some g_x0
  replace f_x0 := sh_of e.symm f_x0
  refine wp_iload_n (v := x1) ok dX9_reign_0 rfl ?_
  refine wp_iconst (v := 1) ok dX9_reign_1 (by decide) ?_
  refine wp_bipush (v := 8) ok dX9_reign_2 (by decide) ?_
  obtain ⟨v1, e2, hq⟩ := bnd_some hq
  refine wp_callSI (As := [.int x1, .int 1, .int 8]) (rest := []) (h1 := h) ok (m_X9_within e2 (Nat.le_refl _)) my_X9_within (w_491) pd_X9_within (Nat.le_trans (by decide) hfr) rfl rfl rfl rfl dX9_reign_4 (fun e3 => ?_)
  refine wp_if_eq (tgt := 31) ok dX9_reign_7 (by decide) (fun c4 => ?_) (fun c4 => ?_)
  · have hq := ite_t c4 hq
    refine wp_iconst (v := -1) ok dX9_reign_31 (by decide) ?_
    exact wp_iret ok hF rfl e (re2I hq) dX9_reign_32
  · have hq := ite_f c4 hq
    refine wp_iload_n (v := x2) ok dX9_reign_10 rfl ?_
    refine wp_iconst (v := 1) ok dX9_reign_11 (by decide) ?_
    refine wp_bipush (v := 9) ok dX9_reign_12 (by decide) ?_
    obtain ⟨v5, e6, hq⟩ := bnd_some hq
    refine wp_callSI (As := [.int x2, .int 1, .int 9]) (rest := []) (h1 := h) ok (m_X9_within e6 (Nat.le_refl _)) my_X9_within (w_491) pd_X9_within (Nat.le_trans (by decide) hfr) rfl rfl rfl rfl dX9_reign_14 (fun e7 => ?_)
    refine wp_if_eq (tgt := 31) ok dX9_reign_17 (by decide) (fun c8 => ?_) (fun c8 => ?_)
    · have hq := ite_t c8 hq
      refine wp_iconst (v := -1) ok dX9_reign_31 (by decide) ?_
      exact wp_iret ok hF rfl e (re2I hq) dX9_reign_32
    · have hq := ite_f c8 hq
      refine wp_iload_n (v := x3) ok dX9_reign_20 rfl ?_
      refine wp_iconst (v := 0) ok dX9_reign_21 (by decide) ?_
      refine wp_ldcw (v := 99999) ok (w_786) dX9_reign_22 ?_
      obtain ⟨v9, e10, hq⟩ := bnd_some hq
      refine wp_callSI (As := [.int x3, .int 0, .int 99999]) (rest := []) (h1 := h) ok (m_X9_within e10 (Nat.le_refl _)) my_X9_within (w_491) pd_X9_within (Nat.le_trans (by decide) hfr) rfl rfl rfl rfl dX9_reign_25 (fun e11 => ?_)
      refine wp_if_ne (tgt := 33) ok dX9_reign_28 (by decide) (fun c12 => ?_) (fun c12 => ?_)
      · have hq := ite_f c12 hq
        refine wp_aload_n (v := x0) ok dX9_reign_33 rfl ?_
        obtain ⟨t13, e14, hq⟩ := bnd_some hq
        obtain ⟨e15, n16, f17⟩ := rK_some e14
        replace f17 := sh_of (e).symm f17
        refine wp_getR ok fl_RX9_26 (sh_of e f_x0) e15 dX9_reign_34 ?_
        refine wp_getI ok fl_RX9_47 (sh_of e f17) dX9_reign_37 ?_
        refine wp_if_ne (tgt := 46) ok dX9_reign_40 (by decide) (fun c18 => ?_) (fun c18 => ?_)
        · have hq := ite_f c18 hq
          refine wp_iconst (v := -1) ok dX9_reign_46 (by decide) ?_
          refine wp_istore (L' := [(4, .int (-1)), (0, .ref x0), (1, .int x1), (2, .int x2), (3, .int x3)]) ok dX9_reign_47 rfl rfl ?_
          refine wp_iconst (v := -1) ok dX9_reign_49 (by decide) ?_
          refine wp_istore (L' := [(5, .int (-1)), (4, .int (-1)), (0, .ref x0), (1, .int x1), (2, .int x2), (3, .int x3)]) ok dX9_reign_50 rfl rfl ?_
          refine wp_iconst (v := 0) ok dX9_reign_52 (by decide) ?_
          refine wp_istore (L' := [(6, .int 0), (5, .int (-1)), (4, .int (-1)), (0, .ref x0), (1, .int x1), (2, .int x2), (3, .int x3)]) ok dX9_reign_53 rfl rfl ?_
          refine wp_sub (L' := [(4, .int (-1)), (5, .int (-1)), (6, .int 0), (0, .ref x0), (1, .int x1), (2, .int x2), (3, .int x3)]) [2, 1, 0, 3, 4, 5, 6] rfl ?_
          refine l_X9_reign_B55 ok hfr f_x0 hF ?_ N (-1) (-1) 0 h hq e
          · intro x58 x59 h60 hq e61
            refine wp_iload (v := x59) ok dX9_reign_137 rfl ?_
            refine wp_iconst (v := -1) ok dX9_reign_139 (by decide) ?_
            refine wp_icmp_ne (tgt := 146) ok dX9_reign_140 (by decide) (fun c62 => ?_) (fun c62 => ?_)
            · have hq := ite_f c62 hq
              refine wp_aload_n (v := x0) ok dX9_reign_146 rfl ?_
              obtain ⟨t63, e64, hq⟩ := bnd_some hq
              obtain ⟨e65, n66, f67⟩ := rK_some e64
              replace f67 := sh_of (e61).symm f67
              refine wp_getR ok fl_RX9_19 (sh_of e61 f_x0) e65 dX9_reign_147 ?_
              refine wp_iload (v := x59) ok dX9_reign_150 rfl ?_
              refine wp_i2l ok dX9_reign_152 ?_
              obtain ⟨h68, e69, hq⟩ := bnd_some hq
              refine wp_callVV (As := [.long (x59.toInt64)]) (rest := []) (h1 := h68) ok (m_X6_tell e69 (Nat.le_refl _)) my_X6_tell (w_718) pd_X6_tell (Nat.le_trans (by decide) hfr) rfl (ci := 6) rfl (by decide) (sh_of e61 f67) rfl rfl rfl dX9_reign_153 (fun e70 => ?_)
              have e71 : h68.1 = h0.1 := (e70).trans e61
              refine wp_iload (v := x58) ok dX9_reign_156 rfl ?_
              exact wp_iret ok hF rfl e71 (re2I hq) dX9_reign_158
            · have hq := ite_t c62 hq
              refine wp_bipush (v := -2) ok dX9_reign_143 (by decide) ?_
              exact wp_iret ok hF rfl e61 (re2I hq) dX9_reign_145
        · have hq := ite_t c18 hq
          refine wp_bipush (v := -2) ok dX9_reign_43 (by decide) ?_
          exact wp_iret ok hF rfl e (re2I hq) dX9_reign_45
      · have hq := ite_t c12 hq
        refine wp_iconst (v := -1) ok dX9_reign_31 (by decide) ?_
        exact wp_iret ok hF rfl e (re2I hq) dX9_reign_32
set_option maxHeartbeats 4000000 in
set_option maxRecDepth 100000 in
theorem s_X9_melts_B42 {x : Cx} {h0 : HP} {N fr : Nat} {rr : (Int32 × HP)} (ok : Okx x cX9_melts yX9_melts.cls 6 fr) (hfr : 5 ≤ fr)  {x0 : Nat} {x1 : Int32} {x2 : Int32} {x3 : Int32} {n_x0 : Nat} (f_x0 : h0.1[x0]? = some (9, n_x0)) (hF : Fend x h0 (some (.int)) (QI rr.1 rr.2)) {k70 : Int32 → Int32 → HP → Option (Int32 × HP)} (hk70 : ∀ (x4 : Int32) (x5 : Int32) (h : HP), k70 x4 x5 h = some rr → h.1 = h0.1 → wp x 70 [(4, .int x4), (5, .int x5), (0, .ref x0)] [] h) {rc : Int32 → HP → Option (Int32 × HP)} (ih : ∀ (x4 : Int32) (h : HP), rc x4 h = some rr → h.1 = h0.1 → wp x 42 [(4, .int x4), (0, .ref x0), (1, .int x1), (2, .int x2), (3, .int x3)] [] h) : ∀ (x4 : Int32) (h : HP), f_X9_melts_B42 N x0 x1 x2 x3 k70 rc x4 h = some rr → h.1 = h0.1 → wp x 42 [(4, .int x4), (0, .ref x0), (1, .int x1), (2, .int x2), (3, .int x3)] [] h := by
  intro x4 h hq e
  unfold f_X9_melts_B42 at hq
  refine wp_iload (v := x4) ok dX9_melts_42 rfl ?_
  refine wp_bipush (v := 99) ok dX9_melts_44 (by decide) ?_
  refine wp_icmp_gt (tgt := 102) ok dX9_melts_46 (by decide) (fun c22 => ?_) (fun c22 => ?_)
  · have hq := ite_t c22 hq
    refine wp_bipush (v := -2) ok dX9_melts_102 (by decide) ?_
    exact wp_iret ok hF rfl e (re2I hq) dX9_melts_104
  · have hq := ite_f c22 hq
    refine wp_iload_n (v := x2) ok dX9_melts_49 rfl ?_
    refine wp_aload_n (v := x0) ok dX9_melts_50 rfl ?_
    refine wp_aload_n (v := x0) ok dX9_melts_51 rfl ?_
    obtain ⟨t23, e24, hq⟩ := bnd_some hq
    obtain ⟨e25, n26, f27⟩ := rK_some e24
    replace f27 := sh_of (e).symm f27
    refine wp_getR ok fl_RX9_33 (sh_of e f_x0) e25 dX9_melts_52 ?_
    refine wp_iload_n (v := x1) ok dX9_melts_55 rfl ?_
    obtain ⟨v28, h30, e29, hq⟩ := bnd2_some hq
    refine wp_callVI (As := [.ref t23, .int x1]) (rest := [.int x2]) (h1 := h30) ok (m_X9_priceOf e29 (Nat.le_refl _)) my_X9_priceOf (w_553) pd_X9_priceOf (Nat.le_trans (by decide) hfr) rfl (ci := 9) rfl (by decide) (sh_of e f_x0) rfl rfl rfl dX9_melts_56 (fun e31 => ?_)
    have e32 : h30.1 = h0.1 := (e31).trans e
    obtain ⟨v33, e34, hq⟩ := bnd_some hq
    refine wp_callSI (As := [.int x2, .int v28]) (rest := []) (h1 := h30) ok (m_X9_goodsFor e34 (Nat.le_refl _)) my_X9_goodsFor (w_750) pd_X9_goodsFor (Nat.le_trans (by decide) hfr) rfl rfl rfl rfl dX9_melts_59 (fun e35 => ?_)
    refine wp_istore (L' := [(5, .int v33), (4, .int x4), (0, .ref x0), (1, .int x1), (2, .int x2), (3, .int x3)]) ok dX9_melts_62 rfl rfl ?_
    refine wp_iload (v := v33) ok dX9_melts_64 rfl ?_
    refine wp_iload_n (v := x3) ok dX9_melts_66 rfl ?_
    refine wp_icmp_ge (tgt := 83) ok dX9_melts_67 (by decide) (fun c36 => ?_) (fun c36 => ?_)
    · have hq := ite_t c36 hq
      refine wp_aload_n (v := x0) ok dX9_melts_83 rfl ?_
      obtain ⟨t37, e38, hq⟩ := bnd_some hq
      obtain ⟨e39, n40, f41⟩ := rK_some e38
      replace f41 := sh_of (e32).symm f41
      refine wp_getR ok fl_RX9_33 (sh_of e32 f_x0) e39 dX9_melts_84 ?_
      refine wp_aload_n (v := x0) ok dX9_melts_87 rfl ?_
      obtain ⟨t42, e43, hq⟩ := bnd_some hq
      obtain ⟨e44, n45, f46⟩ := rK_some e43
      replace f46 := sh_of (e32).symm f46
      refine wp_getR ok fl_RX9_84 (sh_of e32 f_x0) e44 dX9_melts_88 ?_
      refine wp_iconst (v := 1) ok dX9_melts_91 (by decide) ?_
      obtain ⟨v47, h49, e48, hq⟩ := bnd2_some hq
      refine wp_callVI (As := [.ref t42, .int 1]) (rest := []) (h1 := h49) ok (m_X0_pass e48 (Nat.le_refl _)) my_X0_pass (w_515) pd_X0_pass (Nat.le_trans (by decide) hfr) rfl (ci := 0) rfl (by decide) (sh_of e32 f41) rfl rfl rfl dX9_melts_92 (fun e50 => ?_)
      have e51 : h49.1 = h0.1 := (e50).trans e32
      refine wp_pop ok dX9_melts_95 rfl ?_
      obtain ⟨v52, e53, hq⟩ := lt_some hq
      refine wp_iinc (v := x4) (w := 1) (L' := [(4, .int v52), (5, .int v33), (0, .ref x0), (1, .int x1), (2, .int x2), (3, .int x3)]) ok dX9_melts_96 rfl (by decide) rfl (by rw [← e53]; rfl) ?_
      refine wp_goto (tgt := 42) ok dX9_melts_99 (by decide) ?_
      refine wp_sub (L' := [(4, .int v52), (0, .ref x0), (1, .int x1), (2, .int x2), (3, .int x3)]) [0, 2, 3, 4, 5] rfl ?_
      exact ih v52 h49 hq e51
    · have hq := ite_f c36 hq
      refine wp_sub (L' := [(4, .int x4), (5, .int v33), (0, .ref x0)]) [1, 0, 2] rfl ?_
      exact hk70 x4 v33 h30 hq e32
set_option maxHeartbeats 4000000 in
set_option maxRecDepth 100000 in
theorem l_X9_melts_B42 {x : Cx} {h0 : HP} {N fr : Nat} {rr : (Int32 × HP)} (ok : Okx x cX9_melts yX9_melts.cls 6 fr) (hfr : 5 ≤ fr)  {x0 : Nat} {x1 : Int32} {x2 : Int32} {x3 : Int32} {n_x0 : Nat} (f_x0 : h0.1[x0]? = some (9, n_x0)) (hF : Fend x h0 (some (.int)) (QI rr.1 rr.2)) {k70 : Int32 → Int32 → HP → Option (Int32 × HP)} (hk70 : ∀ (x4 : Int32) (x5 : Int32) (h : HP), k70 x4 x5 h = some rr → h.1 = h0.1 → wp x 70 [(4, .int x4), (5, .int x5), (0, .ref x0)] [] h) : ∀ (n : Nat) (x4 : Int32) (h : HP), lp (fun _ _ => none) (f_X9_melts_B42 N x0 x1 x2 x3 k70) n x4 h = some rr → h.1 = h0.1 → wp x 42 [(4, .int x4), (0, .ref x0), (1, .int x1), (2, .int x2), (3, .int x3)] [] h := by
  intro n
  induction n with
  | zero => intro x4 h hq e; exact (Option.some_ne_none _ hq.symm).elim
  | succ n ih => exact s_X9_melts_B42 ok hfr f_x0 hF hk70 ih
set_option maxHeartbeats 4000000 in
set_option maxRecDepth 100000 in
theorem m_X9_melts {l : Launch} {h : HP} {N : Nat} {x0 : Nat} {x1 : Int32} {x2 : Int32} {x3 : Int32} {rr : Int32} {rh : HP} {fr : Nat} (hq : f_X9_melts N h x0 x1 x2 x3 = some (rr, rh)) (hfr : 5 ≤ fr) : Mt l yX9_melts cX9_melts 6 (some (.int)) fr [.ref x0, .int x1, .int x2, .int x3] h (QI rr rh) := by
  obtain ⟨rp, ep⟩ : ∃ rp : (Int32 × HP), rp = (rr, rh) := ⟨_, rfl⟩
  have e1p : rr = rp.1 := (congrArg Prod.fst ep).symm
  have e2p : rh = rp.2 := (congrArg Prod.snd ep).symm
  rw [← ep] at hq
  rw [e1p, e2p]
  clear e1p e2p ep
  refine Mt.of (by decide +kernel) (Nat.le_of_ble_eq_true rfl) (fun x hl ok hF => ?_)
  subst hl
  show wp x 0 [(0, .ref x0), (1, .int x1), (2, .int x2), (3, .int x3)] [] h
  unfold f_X9_melts at hq
  obtain ⟨h0, eh0⟩ : ∃ h0 : HP, h = h0 := ⟨h, rfl⟩
  have e : h.1 = h0.1 := by rw [eh0]
  rw [eh0] at hF
  obtain ⟨g_x0, hq⟩ := gP_some hq
  obtain ⟨n_x0, f_x0⟩ := kO_some g_x0
  replace f_x0 := sh_of e.symm f_x0
  refine wp_aload_n (v := x0) ok dX9_melts_0 rfl ?_
  obtain ⟨t1, e2, hq⟩ := bnd_some hq
  obtain ⟨e3, n4, f5⟩ := rK_some e2
  replace f5 := sh_of (e).symm f5
  refine wp_getR ok fl_RX9_26 (sh_of e f_x0) e3 dX9_melts_1 ?_
  refine wp_iload_n (v := x1) ok dX9_melts_4 rfl ?_
  obtain ⟨v6, e7, hq⟩ := bnd_some hq
  refine wp_callVI (As := [.int x1]) (rest := []) (h1 := h) ok (m_X0_has e7 (Nat.le_refl _)) my_X0_has (w_561) pd_X0_has (Nat.le_trans (by decide) hfr) rfl (ci := 0) rfl (by decide) (sh_of e f5) rfl rfl rfl dX9_melts_5 (fun e8 => ?_)
  refine wp_if_eq (tgt := 32) ok dX9_melts_8 (by decide) (fun c9 => ?_) (fun c9 => ?_)
  · have hq := ite_t c9 hq
    refine wp_iconst (v := -1) ok dX9_melts_32 (by decide) ?_
    exact wp_iret ok hF rfl e (re2I hq) dX9_melts_33
  · have hq := ite_f c9 hq
    refine wp_iload_n (v := x2) ok dX9_melts_11 rfl ?_
    refine wp_iconst (v := 0) ok dX9_melts_12 (by decide) ?_
    refine wp_sipush (v := 9999) ok dX9_melts_13 (by decide) ?_
    obtain ⟨v10, e11, hq⟩ := bnd_some hq
    refine wp_callSI (As := [.int x2, .int 0, .int 9999]) (rest := []) (h1 := h) ok (m_X9_within e11 (Nat.le_refl _)) my_X9_within (w_491) pd_X9_within (Nat.le_trans (by decide) hfr) rfl rfl rfl rfl dX9_melts_16 (fun e12 => ?_)
    refine wp_if_eq (tgt := 32) ok dX9_melts_19 (by decide) (fun c13 => ?_) (fun c13 => ?_)
    · have hq := ite_t c13 hq
      refine wp_iconst (v := -1) ok dX9_melts_32 (by decide) ?_
      exact wp_iret ok hF rfl e (re2I hq) dX9_melts_33
    · have hq := ite_f c13 hq
      refine wp_iload_n (v := x3) ok dX9_melts_22 rfl ?_
      refine wp_iconst (v := 1) ok dX9_melts_23 (by decide) ?_
      refine wp_bipush (v := 99) ok dX9_melts_24 (by decide) ?_
      obtain ⟨v14, e15, hq⟩ := bnd_some hq
      refine wp_callSI (As := [.int x3, .int 1, .int 99]) (rest := []) (h1 := h) ok (m_X9_within e15 (Nat.le_refl _)) my_X9_within (w_491) pd_X9_within (Nat.le_trans (by decide) hfr) rfl rfl rfl rfl dX9_melts_26 (fun e16 => ?_)
      refine wp_if_ne (tgt := 34) ok dX9_melts_29 (by decide) (fun c17 => ?_) (fun c17 => ?_)
      · have hq := ite_f c17 hq
        refine wp_aload_n (v := x0) ok dX9_melts_34 rfl ?_
        refine wp_iconst (v := 0) ok dX9_melts_35 (by decide) ?_
        obtain ⟨h18, e19, hq⟩ := bnd_some hq
        refine wp_callVV (As := [.int 0]) (rest := []) (h1 := h18) ok (m_X9_tryMonths e19 (Nat.le_refl _)) my_X9_tryMonths (w_710) pd_X9_tryMonths (Nat.le_trans (by decide) hfr) rfl (ci := 9) rfl (by decide) (sh_of e f_x0) rfl rfl rfl dX9_melts_36 (fun e20 => ?_)
        have e21 : h18.1 = h0.1 := (e20).trans e
        refine wp_iconst (v := 0) ok dX9_melts_39 (by decide) ?_
        refine wp_istore (L' := [(4, .int 0), (0, .ref x0), (1, .int x1), (2, .int x2), (3, .int x3)]) ok dX9_melts_40 rfl rfl ?_
        refine wp_sub (L' := [(4, .int 0), (0, .ref x0), (1, .int x1), (2, .int x2), (3, .int x3)]) [0, 1, 2, 3, 4] rfl ?_
        refine l_X9_melts_B42 ok hfr f_x0 hF ?_ N 0 h18 hq e21
        · intro x54 x55 h56 hq e57
          refine wp_aload_n (v := x0) ok dX9_melts_70 rfl ?_
          obtain ⟨t58, e59, hq⟩ := bnd_some hq
          obtain ⟨e60, n61, f62⟩ := rK_some e59
          replace f62 := sh_of (e57).symm f62
          refine wp_getR ok fl_RX9_19 (sh_of e57 f_x0) e60 dX9_melts_71 ?_
          refine wp_iload (v := x55) ok dX9_melts_74 rfl ?_
          refine wp_i2l ok dX9_melts_76 ?_
          obtain ⟨h63, e64, hq⟩ := bnd_some hq
          refine wp_callVV (As := [.long (x55.toInt64)]) (rest := []) (h1 := h63) ok (m_X6_tell e64 (Nat.le_refl _)) my_X6_tell (w_718) pd_X6_tell (Nat.le_trans (by decide) hfr) rfl (ci := 6) rfl (by decide) (sh_of e57 f62) rfl rfl rfl dX9_melts_77 (fun e65 => ?_)
          have e66 : h63.1 = h0.1 := (e65).trans e57
          refine wp_iload (v := x54) ok dX9_melts_80 rfl ?_
          exact wp_iret ok hF rfl e66 (re2I hq) dX9_melts_82
      · have hq := ite_t c17 hq
        refine wp_iconst (v := -1) ok dX9_melts_32 (by decide) ?_
        exact wp_iret ok hF rfl e (re2I hq) dX9_melts_33
set_option maxHeartbeats 4000000 in
set_option maxRecDepth 100000 in
theorem s_X9_when_B63 {x : Cx} {h0 : HP} {N fr : Nat} {rr : (Int32 × HP)} (ok : Okx x cX9_when yX9_when.cls 8 fr) (hfr : 5 ≤ fr)  {x0 : Nat} {x1 : Int32} {x2 : Int32} {x3 : Int32} {n_x0 : Nat} (f_x0 : h0.1[x0]? = some (9, n_x0)) (hF : Fend x h0 (some (.int)) (QI rr.1 rr.2)) {k118 : Int32 → Int32 → HP → Option (Int32 × HP)} (hk118 : ∀ (x4 : Int32) (x5 : Int32) (h : HP), k118 x4 x5 h = some rr → h.1 = h0.1 → wp x 118 [(4, .int x4), (5, .int x5), (0, .ref x0)] [] h) {rc : Int32 → Int32 → Int32 → HP → Option (Int32 × HP)} (ih : ∀ (x4 : Int32) (x5 : Int32) (x6 : Int32) (h : HP), rc x4 x5 x6 h = some rr → h.1 = h0.1 → wp x 63 [(4, .int x4), (5, .int x5), (6, .int x6), (0, .ref x0), (1, .int x1), (2, .int x2), (3, .int x3)] [] h) : ∀ (x4 : Int32) (x5 : Int32) (x6 : Int32) (h : HP), f_X9_when_B63 N x0 x1 x2 x3 k118 rc x4 x5 x6 h = some rr → h.1 = h0.1 → wp x 63 [(4, .int x4), (5, .int x5), (6, .int x6), (0, .ref x0), (1, .int x1), (2, .int x2), (3, .int x3)] [] h := by
  intro x4 x5 x6 h hq e
  unfold f_X9_when_B63 at hq
  refine wp_iload (v := x6) ok dX9_when_63 rfl ?_
  refine wp_iload_n (v := x2) ok dX9_when_65 rfl ?_
  refine wp_icmp_gt (tgt := 118) ok dX9_when_66 (by decide) (fun c54 => ?_) (fun c54 => ?_)
  · have hq := ite_t c54 hq
    refine wp_sub (L' := [(4, .int x4), (5, .int x5), (0, .ref x0)]) [0, 1, 3] rfl ?_
    exact hk118 x4 x5 h hq e
  · have hq := ite_f c54 hq
    refine wp_iload_n (v := x3) ok dX9_when_69 rfl ?_
    refine wp_aload_n (v := x0) ok dX9_when_70 rfl ?_
    refine wp_aload_n (v := x0) ok dX9_when_71 rfl ?_
    obtain ⟨t55, e56, hq⟩ := bnd_some hq
    obtain ⟨e57, n58, f59⟩ := rK_some e56
    replace f59 := sh_of (e).symm f59
    refine wp_getR ok fl_RX9_33 (sh_of e f_x0) e57 dX9_when_72 ?_
    refine wp_iload_n (v := x1) ok dX9_when_75 rfl ?_
    obtain ⟨v60, h62, e61, hq⟩ := bnd2_some hq
    refine wp_callVI (As := [.ref t55, .int x1]) (rest := [.int x3]) (h1 := h62) ok (m_X9_priceOf e61 (Nat.le_refl _)) my_X9_priceOf (w_553) pd_X9_priceOf (Nat.le_trans (by decide) hfr) rfl (ci := 9) rfl (by decide) (sh_of e f_x0) rfl rfl rfl dX9_when_76 (fun e63 => ?_)
    have e64 : h62.1 = h0.1 := (e63).trans e
    obtain ⟨v65, e66, hq⟩ := bnd_some hq
    refine wp_callSI (As := [.int x3, .int v60]) (rest := []) (h1 := h62) ok (m_X9_goodsFor e66 (Nat.le_refl _)) my_X9_goodsFor (w_750) pd_X9_goodsFor (Nat.le_trans (by decide) hfr) rfl rfl rfl rfl dX9_when_79 (fun e67 => ?_)
    refine wp_istore (L' := [(7, .int v65), (4, .int x4), (5, .int x5), (6, .int x6), (0, .ref x0), (1, .int x1), (2, .int x2), (3, .int x3)]) ok dX9_when_82 rfl rfl ?_
    refine wp_iload (v := v65) ok dX9_when_84 rfl ?_
    refine wp_iload (v := x4) ok dX9_when_86 rfl ?_
    obtain ⟨k68, ek68, hq⟩ := jn2_some hq
    have kk68 : ∀ (x69 : Int32) (x70 : Int32), k68 x69 x70 = some rr → wp x 99 [(4, .int x69), (5, .int x70), (6, .int x6), (0, .ref x0), (1, .int x1), (2, .int x2), (3, .int x3)] [] h62 := by
      intro x69 x70 hq
      have hq := (ek68 x69 x70).symm.trans hq
      refine wp_aload_n (v := x0) ok dX9_when_99 rfl ?_
      obtain ⟨t71, e72, hq⟩ := bnd_some hq
      obtain ⟨e73, n74, f75⟩ := rK_some e72
      replace f75 := sh_of (e64).symm f75
      refine wp_getR ok fl_RX9_33 (sh_of e64 f_x0) e73 dX9_when_100 ?_
      refine wp_aload_n (v := x0) ok dX9_when_103 rfl ?_
      obtain ⟨t76, e77, hq⟩ := bnd_some hq
      obtain ⟨e78, n79, f80⟩ := rK_some e77
      replace f80 := sh_of (e64).symm f80
      refine wp_getR ok fl_RX9_84 (sh_of e64 f_x0) e78 dX9_when_104 ?_
      refine wp_iconst (v := 1) ok dX9_when_107 (by decide) ?_
      obtain ⟨v81, h83, e82, hq⟩ := bnd2_some hq
      refine wp_callVI (As := [.ref t76, .int 1]) (rest := []) (h1 := h83) ok (m_X0_pass e82 (Nat.le_refl _)) my_X0_pass (w_515) pd_X0_pass (Nat.le_trans (by decide) hfr) rfl (ci := 0) rfl (by decide) (sh_of e64 f75) rfl rfl rfl dX9_when_108 (fun e84 => ?_)
      have e85 : h83.1 = h0.1 := (e84).trans e64
      refine wp_pop ok dX9_when_111 rfl ?_
      obtain ⟨v86, e87, hq⟩ := lt_some hq
      refine wp_iinc (v := x6) (w := 1) (L' := [(6, .int v86), (4, .int x69), (5, .int x70), (0, .ref x0), (1, .int x1), (2, .int x2), (3, .int x3)]) ok dX9_when_112 rfl (by decide) rfl (by rw [← e87]; rfl) ?_
      refine wp_goto (tgt := 63) ok dX9_when_115 (by decide) ?_
      refine wp_sub (L' := [(4, .int x69), (5, .int x70), (6, .int v86), (0, .ref x0), (1, .int x1), (2, .int x2), (3, .int x3)]) [1, 2, 0, 3, 4, 5, 6] rfl ?_
      exact ih x69 x70 v86 h83 hq e85
    refine wp_icmp_le (tgt := 99) ok dX9_when_88 (by decide) (fun c88 => ?_) (fun c88 => ?_)
    · have hq := ite_t c88 hq
      refine wp_sub (L' := [(4, .int x4), (5, .int x5), (6, .int x6), (0, .ref x0), (1, .int x1), (2, .int x2), (3, .int x3)]) [1, 2, 3, 4, 5, 6, 7] rfl ?_
      exact kk68 x4 x5 hq
    · have hq := ite_f c88 hq
      refine wp_iload (v := v65) ok dX9_when_91 rfl ?_
      refine wp_istore (L' := [(4, .int v65), (7, .int v65), (5, .int x5), (6, .int x6), (0, .ref x0), (1, .int x1), (2, .int x2), (3, .int x3)]) ok dX9_when_93 rfl rfl ?_
      refine wp_iload (v := x6) ok dX9_when_95 rfl ?_
      refine wp_istore (L' := [(5, .int x6), (4, .int v65), (7, .int v65), (6, .int x6), (0, .ref x0), (1, .int x1), (2, .int x2), (3, .int x3)]) ok dX9_when_97 rfl rfl ?_
      refine wp_sub (L' := [(4, .int v65), (5, .int x6), (6, .int x6), (0, .ref x0), (1, .int x1), (2, .int x2), (3, .int x3)]) [1, 0, 3, 4, 5, 6, 7] rfl ?_
      exact kk68 v65 x6 hq
set_option maxHeartbeats 4000000 in
set_option maxRecDepth 100000 in
theorem l_X9_when_B63 {x : Cx} {h0 : HP} {N fr : Nat} {rr : (Int32 × HP)} (ok : Okx x cX9_when yX9_when.cls 8 fr) (hfr : 5 ≤ fr)  {x0 : Nat} {x1 : Int32} {x2 : Int32} {x3 : Int32} {n_x0 : Nat} (f_x0 : h0.1[x0]? = some (9, n_x0)) (hF : Fend x h0 (some (.int)) (QI rr.1 rr.2)) {k118 : Int32 → Int32 → HP → Option (Int32 × HP)} (hk118 : ∀ (x4 : Int32) (x5 : Int32) (h : HP), k118 x4 x5 h = some rr → h.1 = h0.1 → wp x 118 [(4, .int x4), (5, .int x5), (0, .ref x0)] [] h) : ∀ (n : Nat) (x4 : Int32) (x5 : Int32) (x6 : Int32) (h : HP), lp (fun _ _ _ _ => none) (f_X9_when_B63 N x0 x1 x2 x3 k118) n x4 x5 x6 h = some rr → h.1 = h0.1 → wp x 63 [(4, .int x4), (5, .int x5), (6, .int x6), (0, .ref x0), (1, .int x1), (2, .int x2), (3, .int x3)] [] h := by
  intro n
  induction n with
  | zero => intro x4 x5 x6 h hq e; exact (Option.some_ne_none _ hq.symm).elim
  | succ n ih => exact s_X9_when_B63 ok hfr f_x0 hF hk118 ih
set_option maxHeartbeats 4000000 in
set_option maxRecDepth 100000 in
theorem m_X9_when {l : Launch} {h : HP} {N : Nat} {x0 : Nat} {x1 : Int32} {x2 : Int32} {rr : Int32} {rh : HP} {fr : Nat} (hq : f_X9_when N h x0 x1 x2 = some (rr, rh)) (hfr : 5 ≤ fr) : Mt l yX9_when cX9_when 8 (some (.int)) fr [.ref x0, .int x1, .int x2] h (QI rr rh) := by
  obtain ⟨rp, ep⟩ : ∃ rp : (Int32 × HP), rp = (rr, rh) := ⟨_, rfl⟩
  have e1p : rr = rp.1 := (congrArg Prod.fst ep).symm
  have e2p : rh = rp.2 := (congrArg Prod.snd ep).symm
  rw [← ep] at hq
  rw [e1p, e2p]
  clear e1p e2p ep
  refine Mt.of (by decide +kernel) (Nat.le_of_ble_eq_true rfl) (fun x hl ok hF => ?_)
  subst hl
  show wp x 0 [(0, .ref x0), (1, .int x1), (2, .int x2)] [] h
  unfold f_X9_when at hq
  obtain ⟨h0, eh0⟩ : ∃ h0 : HP, h = h0 := ⟨h, rfl⟩
  have e : h.1 = h0.1 := by rw [eh0]
  rw [eh0] at hF
  obtain ⟨g_x0, hq⟩ := gP_some hq
  obtain ⟨n_x0, f_x0⟩ := kO_some g_x0
  replace f_x0 := sh_of e.symm f_x0
  refine wp_aload_n (v := x0) ok dX9_when_0 rfl ?_
  obtain ⟨t1, e2, hq⟩ := bnd_some hq
  obtain ⟨e3, n4, f5⟩ := rK_some e2
  replace f5 := sh_of (e).symm f5
  refine wp_getR ok fl_RX9_26 (sh_of e f_x0) e3 dX9_when_1 ?_
  refine wp_iload_n (v := x1) ok dX9_when_4 rfl ?_
  obtain ⟨v6, e7, hq⟩ := bnd_some hq
  refine wp_callVI (As := [.int x1]) (rest := []) (h1 := h) ok (m_X0_has e7 (Nat.le_refl _)) my_X0_has (w_561) pd_X0_has (Nat.le_trans (by decide) hfr) rfl (ci := 0) rfl (by decide) (sh_of e f5) rfl rfl rfl dX9_when_5 (fun e8 => ?_)
  refine wp_if_eq (tgt := 21) ok dX9_when_8 (by decide) (fun c9 => ?_) (fun c9 => ?_)
  · have hq := ite_t c9 hq
    refine wp_iconst (v := -1) ok dX9_when_21 (by decide) ?_
    exact wp_iret ok hF rfl e (re2I hq) dX9_when_22
  · have hq := ite_f c9 hq
    refine wp_iload_n (v := x2) ok dX9_when_11 rfl ?_
    refine wp_iconst (v := 0) ok dX9_when_12 (by decide) ?_
    refine wp_bipush (v := 60) ok dX9_when_13 (by decide) ?_
    obtain ⟨v10, e11, hq⟩ := bnd_some hq
    refine wp_callSI (As := [.int x2, .int 0, .int 60]) (rest := []) (h1 := h) ok (m_X9_within e11 (Nat.le_refl _)) my_X9_within (w_491) pd_X9_within (Nat.le_trans (by decide) hfr) rfl rfl rfl rfl dX9_when_15 (fun e12 => ?_)
    refine wp_if_ne (tgt := 23) ok dX9_when_18 (by decide) (fun c13 => ?_) (fun c13 => ?_)
    · have hq := ite_f c13 hq
      refine wp_iconst (v := 2) ok dX9_when_23 (by decide) ?_
      refine wp_aload_n (v := x0) ok dX9_when_24 rfl ?_
      obtain ⟨t14, e15, hq⟩ := bnd_some hq
      obtain ⟨e16, n17, f18⟩ := rK_some e15
      replace f18 := sh_of (e).symm f18
      refine wp_getR ok fl_RX9_26 (sh_of e f_x0) e16 dX9_when_25 ?_
      obtain ⟨t19, e20, hq⟩ := bnd_some hq
      obtain ⟨e21, n22, f23⟩ := rK_some e20
      replace f23 := sh_of (e).symm f23
      refine wp_getR ok fl_RX9_150 (sh_of e f18) e21 dX9_when_28 ?_
      refine wp_iconst (v := 0) ok dX9_when_31 (by decide) ?_
      obtain ⟨g24, hq⟩ := gP_some hq
      obtain ⟨t25, e26, hq⟩ := bnd_some hq
      obtain ⟨e27, n28, f29⟩ := rK_some e26
      replace f29 := sh_of (e).symm f29
      refine wp_aald106 ok (sh_of e f23) (ix_of (sh_of e f23) g24) e27 dX9_when_32 ?_
      refine wp_iload_n (v := x1) ok dX9_when_33 rfl ?_
      obtain ⟨g30, hq⟩ := gP_some hq
      refine wp_iald ok (sh_of e f29) (ix_of (sh_of e f29) g30) dX9_when_34 ?_
      refine wp_imul ok dX9_when_35 ?_
      refine wp_aload_n (v := x0) ok dX9_when_36 rfl ?_
      obtain ⟨t31, e32, hq⟩ := bnd_some hq
      obtain ⟨e33, n34, f35⟩ := rK_some e32
      replace f35 := sh_of (e).symm f35
      refine wp_getR ok fl_RX9_26 (sh_of e f_x0) e33 dX9_when_37 ?_
      obtain ⟨t36, e37, hq⟩ := bnd_some hq
      obtain ⟨e38, n39, f40⟩ := rK_some e37
      replace f40 := sh_of (e).symm f40
      refine wp_getR ok fl_RX9_150 (sh_of e f35) e38 dX9_when_40 ?_
      refine wp_iconst (v := 1) ok dX9_when_43 (by decide) ?_
      obtain ⟨g41, hq⟩ := gP_some hq
      obtain ⟨t42, e43, hq⟩ := bnd_some hq
      obtain ⟨e44, n45, f46⟩ := rK_some e43
      replace f46 := sh_of (e).symm f46
      refine wp_aald106 ok (sh_of e f40) (ix_of (sh_of e f40) g41) e44 dX9_when_44 ?_
      refine wp_iload_n (v := x1) ok dX9_when_45 rfl ?_
      obtain ⟨g47, hq⟩ := gP_some hq
      refine wp_iald ok (sh_of e f46) (ix_of (sh_of e f46) g47) dX9_when_46 ?_
      refine wp_iadd ok dX9_when_47 ?_
      obtain ⟨v48, e49, hq⟩ := lt_some hq
      refine wp_nmI e49 ?_
      refine wp_istore_n (L' := [(3, .int v48), (0, .ref x0), (1, .int x1), (2, .int x2)]) ok dX9_when_48 rfl rfl ?_
      refine wp_iconst (v := -1) ok dX9_when_49 (by decide) ?_
      refine wp_istore (L' := [(4, .int (-1)), (3, .int v48), (0, .ref x0), (1, .int x1), (2, .int x2)]) ok dX9_when_50 rfl rfl ?_
      refine wp_iconst (v := 0) ok dX9_when_52 (by decide) ?_
      refine wp_istore (L' := [(5, .int 0), (4, .int (-1)), (3, .int v48), (0, .ref x0), (1, .int x1), (2, .int x2)]) ok dX9_when_53 rfl rfl ?_
      refine wp_aload_n (v := x0) ok dX9_when_55 rfl ?_
      refine wp_iconst (v := 0) ok dX9_when_56 (by decide) ?_
      obtain ⟨h50, e51, hq⟩ := bnd_some hq
      refine wp_callVV (As := [.int 0]) (rest := []) (h1 := h50) ok (m_X9_tryMonths e51 (Nat.le_refl _)) my_X9_tryMonths (w_710) pd_X9_tryMonths (Nat.le_trans (by decide) hfr) rfl (ci := 9) rfl (by decide) (sh_of e f_x0) rfl rfl rfl dX9_when_57 (fun e52 => ?_)
      have e53 : h50.1 = h0.1 := (e52).trans e
      refine wp_iconst (v := 0) ok dX9_when_60 (by decide) ?_
      refine wp_istore (L' := [(6, .int 0), (5, .int 0), (4, .int (-1)), (3, .int v48), (0, .ref x0), (1, .int x1), (2, .int x2)]) ok dX9_when_61 rfl rfl ?_
      refine wp_sub (L' := [(4, .int (-1)), (5, .int 0), (6, .int 0), (0, .ref x0), (1, .int x1), (2, .int x2), (3, .int v48)]) [2, 1, 0, 4, 5, 6, 3] rfl ?_
      refine l_X9_when_B63 ok hfr f_x0 hF ?_ N (-1) 0 0 h50 hq e53
      · intro x89 x90 h91 hq e92
        refine wp_aload_n (v := x0) ok dX9_when_118 rfl ?_
        obtain ⟨t93, e94, hq⟩ := bnd_some hq
        obtain ⟨e95, n96, f97⟩ := rK_some e94
        replace f97 := sh_of (e92).symm f97
        refine wp_getR ok fl_RX9_19 (sh_of e92 f_x0) e95 dX9_when_119 ?_
        refine wp_iload (v := x89) ok dX9_when_122 rfl ?_
        refine wp_i2l ok dX9_when_124 ?_
        obtain ⟨h98, e99, hq⟩ := bnd_some hq
        refine wp_callVV (As := [.long (x89.toInt64)]) (rest := []) (h1 := h98) ok (m_X6_tell e99 (Nat.le_refl _)) my_X6_tell (w_718) pd_X6_tell (Nat.le_trans (by decide) hfr) rfl (ci := 6) rfl (by decide) (sh_of e92 f97) rfl rfl rfl dX9_when_125 (fun e100 => ?_)
        have e101 : h98.1 = h0.1 := (e100).trans e92
        refine wp_iload (v := x90) ok dX9_when_128 rfl ?_
        exact wp_iret ok hF rfl e101 (re2I hq) dX9_when_130
    · have hq := ite_t c13 hq
      refine wp_iconst (v := -1) ok dX9_when_21 (by decide) ?_
      exact wp_iret ok hF rfl e (re2I hq) dX9_when_22
set_option maxHeartbeats 4000000 in
set_option maxRecDepth 100000 in
theorem s_X9_rises_B24 {x : Cx} {h0 : HP} {N fr : Nat} {rr : (Int32 × HP)} (ok : Okx x cX9_rises yX9_rises.cls 6 fr) (hfr : 6 ≤ fr)  {x0 : Nat} {n_x0 : Nat} (f_x0 : h0.1[x0]? = some (9, n_x0)) (hF : Fend x h0 (some (.int)) (QI rr.1 rr.2)) {k74 : Int32 → Int32 → HP → Option (Int32 × HP)} (hk74 : ∀ (x2 : Int32) (x3 : Int32) (h : HP), k74 x2 x3 h = some rr → h.1 = h0.1 → wp x 74 [(2, .int x2), (3, .int x3), (0, .ref x0)] [] h) {rc : Int32 → Int32 → Int32 → HP → Option (Int32 × HP)} (ih : ∀ (x2 : Int32) (x3 : Int32) (x4 : Int32) (h : HP), rc x2 x3 x4 h = some rr → h.1 = h0.1 → wp x 24 [(2, .int x2), (3, .int x3), (4, .int x4), (0, .ref x0)] [] h) : ∀ (x2 : Int32) (x3 : Int32) (x4 : Int32) (h : HP), f_X9_rises_B24 N x0 k74 rc x2 x3 x4 h = some rr → h.1 = h0.1 → wp x 24 [(2, .int x2), (3, .int x3), (4, .int x4), (0, .ref x0)] [] h := by
  intro x2 x3 x4 h hq e
  unfold f_X9_rises_B24 at hq
  refine wp_iload (v := x4) ok dX9_rises_24 rfl ?_
  refine wp_aload_n (v := x0) ok dX9_rises_26 rfl ?_
  obtain ⟨t9, e10, hq⟩ := bnd_some hq
  obtain ⟨e11, n12, f13⟩ := rK_some e10
  replace f13 := sh_of (e).symm f13
  refine wp_getR ok fl_RX9_26 (sh_of e f_x0) e11 dX9_rises_27 ?_
  refine wp_getI ok fl_RX9_47 (sh_of e f13) dX9_rises_30 ?_
  refine wp_icmp_ge (tgt := 74) ok dX9_rises_33 (by decide) (fun c14 => ?_) (fun c14 => ?_)
  · have hq := ite_t c14 hq
    refine wp_sub (L' := [(2, .int x2), (3, .int x3), (0, .ref x0)]) [0, 1, 3] rfl ?_
    exact hk74 x2 x3 h hq e
  · have hq := ite_f c14 hq
    refine wp_aload_n (v := x0) ok dX9_rises_36 rfl ?_
    refine wp_iload (v := x4) ok dX9_rises_37 rfl ?_
    obtain ⟨v15, h17, e16, hq⟩ := bnd2_some hq
    refine wp_callVI (As := [.int x4]) (rest := []) (h1 := h17) ok (m_X9_growth e16 (Nat.le_refl _)) my_X9_growth (w_778) pd_X9_growth (Nat.le_trans (by decide) hfr) rfl (ci := 9) rfl (by decide) (sh_of e f_x0) rfl rfl rfl dX9_rises_39 (fun e18 => ?_)
    have e19 : h17.1 = h0.1 := (e18).trans e
    refine wp_istore (L' := [(5, .int v15), (2, .int x2), (3, .int x3), (4, .int x4), (0, .ref x0)]) ok dX9_rises_42 rfl rfl ?_
    refine wp_iload (v := v15) ok dX9_rises_44 rfl ?_
    obtain ⟨k20, ek20, hq⟩ := jn1_some hq
    have kk20 : ∀ (x21 : Int32), k20 x21 = some rr → wp x 56 [(2, .int x21), (5, .int v15), (3, .int x3), (4, .int x4), (0, .ref x0)] [] h17 := by
      intro x21 hq
      have hq := (ek20 x21).symm.trans hq
      refine wp_iload (v := v15) ok dX9_rises_56 rfl ?_
      refine wp_if_ge (tgt := 68) ok dX9_rises_58 (by decide) (fun c22 => ?_) (fun c22 => ?_)
      · have hq := ite_t c22 hq
        obtain ⟨v23, e24, hq⟩ := lt_some hq
        refine wp_iinc (v := x4) (w := 1) (L' := [(4, .int v23), (2, .int x21), (5, .int v15), (3, .int x3), (0, .ref x0)]) ok dX9_rises_68 rfl (by decide) rfl (by rw [← e24]; rfl) ?_
        refine wp_goto (tgt := 24) ok dX9_rises_71 (by decide) ?_
        refine wp_sub (L' := [(2, .int x21), (3, .int x3), (4, .int v23), (0, .ref x0)]) [1, 3, 0, 4] rfl ?_
        exact ih x21 x3 v23 h17 hq e19
      · have hq := ite_f c22 hq
        refine wp_iload_n (v := x3) ok dX9_rises_61 rfl ?_
        refine wp_iconst (v := 1) ok dX9_rises_62 (by decide) ?_
        refine wp_iload (v := x4) ok dX9_rises_63 rfl ?_
        refine wp_ishl ok dX9_rises_65 ?_
        refine wp_ior ok dX9_rises_66 ?_
        obtain ⟨v25, e26, hq⟩ := lt_some hq
        refine wp_nmI e26 ?_
        refine wp_istore_n (L' := [(3, .int v25), (2, .int x21), (5, .int v15), (4, .int x4), (0, .ref x0)]) ok dX9_rises_67 rfl rfl ?_
        obtain ⟨v27, e28, hq⟩ := lt_some hq
        refine wp_iinc (v := x4) (w := 1) (L' := [(4, .int v27), (3, .int v25), (2, .int x21), (5, .int v15), (0, .ref x0)]) ok dX9_rises_68 rfl (by decide) rfl (by rw [← e28]; rfl) ?_
        refine wp_goto (tgt := 24) ok dX9_rises_71 (by decide) ?_
        refine wp_sub (L' := [(2, .int x21), (3, .int v25), (4, .int v27), (0, .ref x0)]) [2, 1, 0, 4] rfl ?_
        exact ih x21 v25 v27 h17 hq e19
    refine wp_if_le (tgt := 56) ok dX9_rises_46 (by decide) (fun c29 => ?_) (fun c29 => ?_)
    · have hq := ite_t c29 hq
      refine wp_sub (L' := [(2, .int x2), (5, .int v15), (3, .int x3), (4, .int x4), (0, .ref x0)]) [1, 0, 2, 3, 4] rfl ?_
      exact kk20 x2 hq
    · have hq := ite_f c29 hq
      refine wp_iload_n (v := x2) ok dX9_rises_49 rfl ?_
      refine wp_iconst (v := 1) ok dX9_rises_50 (by decide) ?_
      refine wp_iload (v := x4) ok dX9_rises_51 rfl ?_
      refine wp_ishl ok dX9_rises_53 ?_
      refine wp_ior ok dX9_rises_54 ?_
      obtain ⟨v30, e31, hq⟩ := lt_some hq
      refine wp_nmI e31 ?_
      refine wp_istore_n (L' := [(2, .int v30), (5, .int v15), (3, .int x3), (4, .int x4), (0, .ref x0)]) ok dX9_rises_55 rfl rfl ?_
      refine wp_sub (L' := [(2, .int v30), (5, .int v15), (3, .int x3), (4, .int x4), (0, .ref x0)]) [0, 1, 2, 3, 4] rfl ?_
      exact kk20 v30 hq
set_option maxHeartbeats 4000000 in
set_option maxRecDepth 100000 in
theorem l_X9_rises_B24 {x : Cx} {h0 : HP} {N fr : Nat} {rr : (Int32 × HP)} (ok : Okx x cX9_rises yX9_rises.cls 6 fr) (hfr : 6 ≤ fr)  {x0 : Nat} {n_x0 : Nat} (f_x0 : h0.1[x0]? = some (9, n_x0)) (hF : Fend x h0 (some (.int)) (QI rr.1 rr.2)) {k74 : Int32 → Int32 → HP → Option (Int32 × HP)} (hk74 : ∀ (x2 : Int32) (x3 : Int32) (h : HP), k74 x2 x3 h = some rr → h.1 = h0.1 → wp x 74 [(2, .int x2), (3, .int x3), (0, .ref x0)] [] h) : ∀ (n : Nat) (x2 : Int32) (x3 : Int32) (x4 : Int32) (h : HP), lp (fun _ _ _ _ => none) (f_X9_rises_B24 N x0 k74) n x2 x3 x4 h = some rr → h.1 = h0.1 → wp x 24 [(2, .int x2), (3, .int x3), (4, .int x4), (0, .ref x0)] [] h := by
  intro n
  induction n with
  | zero => intro x2 x3 x4 h hq e; exact (Option.some_ne_none _ hq.symm).elim
  | succ n ih => exact s_X9_rises_B24 ok hfr f_x0 hF hk74 ih
set_option maxHeartbeats 4000000 in
set_option maxRecDepth 100000 in
theorem m_X9_rises {l : Launch} {h : HP} {N : Nat} {x0 : Nat} {x1 : Int32} {rr : Int32} {rh : HP} {fr : Nat} (hq : f_X9_rises N h x0 x1 = some (rr, rh)) (hfr : 6 ≤ fr) : Mt l yX9_rises cX9_rises 6 (some (.int)) fr [.ref x0, .int x1] h (QI rr rh) := by
  obtain ⟨rp, ep⟩ : ∃ rp : (Int32 × HP), rp = (rr, rh) := ⟨_, rfl⟩
  have e1p : rr = rp.1 := (congrArg Prod.fst ep).symm
  have e2p : rh = rp.2 := (congrArg Prod.snd ep).symm
  rw [← ep] at hq
  rw [e1p, e2p]
  clear e1p e2p ep
  refine Mt.of (by decide +kernel) (Nat.le_of_ble_eq_true rfl) (fun x hl ok hF => ?_)
  subst hl
  show wp x 0 [(0, .ref x0), (1, .int x1)] [] h
  unfold f_X9_rises at hq
  obtain ⟨h0, eh0⟩ : ∃ h0 : HP, h = h0 := ⟨h, rfl⟩
  have e : h.1 = h0.1 := by rw [eh0]
  rw [eh0] at hF
  obtain ⟨g_x0, hq⟩ := gP_some hq
  obtain ⟨n_x0, f_x0⟩ := kO_some g_x0
  replace f_x0 := sh_of e.symm f_x0
  refine wp_iload_n (v := x1) ok dX9_rises_0 rfl ?_
  refine wp_iconst (v := 1) ok dX9_rises_1 (by decide) ?_
  refine wp_bipush (v := 60) ok dX9_rises_2 (by decide) ?_
  obtain ⟨v1, e2, hq⟩ := bnd_some hq
  refine wp_callSI (As := [.int x1, .int 1, .int 60]) (rest := []) (h1 := h) ok (m_X9_within e2 (Nat.le_refl _)) my_X9_within (w_491) pd_X9_within (Nat.le_trans (by decide) hfr) rfl rfl rfl rfl dX9_rises_4 (fun e3 => ?_)
  refine wp_if_ne (tgt := 12) ok dX9_rises_7 (by decide) (fun c4 => ?_) (fun c4 => ?_)
  · have hq := ite_f c4 hq
    refine wp_aload_n (v := x0) ok dX9_rises_12 rfl ?_
    refine wp_iload_n (v := x1) ok dX9_rises_13 rfl ?_
    obtain ⟨h5, e6, hq⟩ := bnd_some hq
    refine wp_callVV (As := [.int x1]) (rest := []) (h1 := h5) ok (m_X9_tryMonths e6 (Nat.le_refl _)) my_X9_tryMonths (w_710) pd_X9_tryMonths (Nat.le_trans (by decide) hfr) rfl (ci := 9) rfl (by decide) (sh_of e f_x0) rfl rfl rfl dX9_rises_14 (fun e7 => ?_)
    have e8 : h5.1 = h0.1 := (e7).trans e
    refine wp_iconst (v := 0) ok dX9_rises_17 (by decide) ?_
    refine wp_istore_n (L' := [(2, .int 0), (0, .ref x0), (1, .int x1)]) ok dX9_rises_18 rfl rfl ?_
    refine wp_iconst (v := 0) ok dX9_rises_19 (by decide) ?_
    refine wp_istore_n (L' := [(3, .int 0), (2, .int 0), (0, .ref x0), (1, .int x1)]) ok dX9_rises_20 rfl rfl ?_
    refine wp_iconst (v := 0) ok dX9_rises_21 (by decide) ?_
    refine wp_istore (L' := [(4, .int 0), (3, .int 0), (2, .int 0), (0, .ref x0), (1, .int x1)]) ok dX9_rises_22 rfl rfl ?_
    refine wp_sub (L' := [(2, .int 0), (3, .int 0), (4, .int 0), (0, .ref x0)]) [2, 1, 0, 3] rfl ?_
    refine l_X9_rises_B24 ok hfr f_x0 hF ?_ N 0 0 0 h5 hq e8
    · intro x32 x33 h34 hq e35
      refine wp_aload_n (v := x0) ok dX9_rises_74 rfl ?_
      obtain ⟨t36, e37, hq⟩ := bnd_some hq
      obtain ⟨e38, n39, f40⟩ := rK_some e37
      replace f40 := sh_of (e35).symm f40
      refine wp_getR ok fl_RX9_19 (sh_of e35 f_x0) e38 dX9_rises_75 ?_
      refine wp_iload_n (v := x33) ok dX9_rises_78 rfl ?_
      refine wp_i2l ok dX9_rises_79 ?_
      obtain ⟨h41, e42, hq⟩ := bnd_some hq
      refine wp_callVV (As := [.long (x33.toInt64)]) (rest := []) (h1 := h41) ok (m_X6_tell e42 (Nat.le_refl _)) my_X6_tell (w_718) pd_X6_tell (Nat.le_trans (by decide) hfr) rfl (ci := 6) rfl (by decide) (sh_of e35 f40) rfl rfl rfl dX9_rises_80 (fun e43 => ?_)
      have e44 : h41.1 = h0.1 := (e43).trans e35
      refine wp_iload_n (v := x32) ok dX9_rises_83 rfl ?_
      exact wp_iret ok hF rfl e44 (re2I hq) dX9_rises_84
  · have hq := ite_t c4 hq
    refine wp_iconst (v := -1) ok dX9_rises_10 (by decide) ?_
    exact wp_iret ok hF rfl e (re2I hq) dX9_rises_11
set_option maxHeartbeats 4000000 in
set_option maxRecDepth 100000 in
theorem m_X9_deedOf {l : Launch} {h : HP} {x0 : Nat} {x1 : Int32} {x2 : Int32} {rr : Int32} {fr : Nat} (hq : f_X9_deedOf h x0 x1 x2 = some rr) (hfr : 0 ≤ fr) : Mt l yX9_deedOf cX9_deedOf 3 (some (.int)) fr [.ref x0, .int x1, .int x2] h (QI rr h) := by
  refine Mt.of (by decide +kernel) (Nat.le_of_ble_eq_true rfl) (fun x hl ok hF => ?_)
  subst hl
  show wp x 0 [(0, .ref x0), (1, .int x1), (2, .int x2)] [] h
  unfold f_X9_deedOf at hq
  obtain ⟨g_x0, hq⟩ := gP_some hq
  obtain ⟨n_x0, f_x0⟩ := kO_some g_x0
  refine wp_iload_n (v := x1) ok dX9_deedOf_0 rfl ?_
  refine wp_gets (i := 1) ok rfl (w_808) dX9_deedOf_1 ?_
  refine wp_aload_n (v := x0) ok dX9_deedOf_4 rfl ?_
  obtain ⟨t1, e2, hq⟩ := bnd_some hq
  obtain ⟨e3, n4, f5⟩ := rK_some e2
  replace f5 := sh_of (rfl).symm f5
  refine wp_getR ok fl_RX9_26 (sh_of rfl f_x0) e3 dX9_deedOf_5 ?_
  refine wp_getI ok fl_RX9_47 (sh_of rfl f5) dX9_deedOf_8 ?_
  refine wp_iconst (v := 1) ok dX9_deedOf_11 (by decide) ?_
  refine wp_isub ok dX9_deedOf_12 ?_
  refine wp_iload_n (v := x2) ok dX9_deedOf_13 rfl ?_
  refine wp_isub ok dX9_deedOf_14 ?_
  obtain ⟨g6, hq⟩ := gP_some hq
  refine wp_tald (i := 1) ok rfl (ix_lit g6) dX9_deedOf_15 ?_
  obtain ⟨g7, hq⟩ := gP_some hq
  refine wp_idiv ok dX9_deedOf_16 g7 ?_
  refine wp_iconst (v := 3) ok dX9_deedOf_17 (by decide) ?_
  refine wp_irem ok dX9_deedOf_18 (by decide) ?_
  exact wp_iret ok hF rfl rfl (re1I hq) dX9_deedOf_19
set_option maxHeartbeats 4000000 in
set_option maxRecDepth 100000 in
theorem m_J9_min_f86c9 {l : Launch} {h : HP} {x0 : Int64} {x2 : Int64} {rr : Int64} {fr : Nat} (hq : f_J9_min_f86c9 x0 x2 = some rr) (hfr : 0 ≤ fr) : Mt l yJ9_min_f86c9 cJ9_min_f86c9 4 (some (.long)) fr [.long x0, .long x2] h (QJ rr h) := by
  refine Mt.of (by decide +kernel) (Nat.le_of_ble_eq_true rfl) (fun x hl ok hF => ?_)
  subst hl
  show wp x 0 [(0, .long x0), (2, .long x2)] [] h
  unfold f_J9_min_f86c9 at hq
  refine wp_lload_n (v := x0) ok dJ9_min_f86c9_0 rfl ?_
  refine wp_lload_n (v := x2) ok dJ9_min_f86c9_1 rfl ?_
  refine wp_lcmp ok dJ9_min_f86c9_2 ?_
  refine wp_if_gt (tgt := 10) ok dJ9_min_f86c9_3 (by decide) (fun c1 => ?_) (fun c1 => ?_)
  · have hq := ite_t c1 hq
    refine wp_lload_n (v := x2) ok dJ9_min_f86c9_10 rfl ?_
    exact wp_lret ok hF rfl (re1J hq) dJ9_min_f86c9_11
  · have hq := ite_f c1 hq
    refine wp_lload_n (v := x0) ok dJ9_min_f86c9_6 rfl ?_
    refine wp_goto (tgt := 11) ok dJ9_min_f86c9_7 (by decide) ?_
    exact wp_lret ok hF rfl (re1J hq) dJ9_min_f86c9_11
set_option maxHeartbeats 4000000 in
set_option maxRecDepth 100000 in
theorem s_X9_shellsByPlan_B9 {x : Cx} {h : HP} {N fr : Nat} {rr : Int64} (ok : Okx x cX9_shellsByPlan yX9_shellsByPlan.cls 10 fr) (hfr : 1 ≤ fr)  {x0 : Nat} {x1 : Int32} {n_x0 : Nat} (f_x0 : h.1[x0]? = some (9, n_x0)) (hF : Fend x h (some (.long)) (QJ rr h)) {rc : Int64 → Int64 → Int32 → Option Int64} (ih : ∀ (x3 : Int64) (x5 : Int64) (x7 : Int32), rc x3 x5 x7 = some rr → wp x 9 [(3, .long x3), (5, .long x5), (7, .int x7), (0, .ref x0), (1, .int x1)] [] h) : ∀ (x3 : Int64) (x5 : Int64) (x7 : Int32), f_X9_shellsByPlan_B9 N x0 x1 h rc x3 x5 x7 = some rr → wp x 9 [(3, .long x3), (5, .long x5), (7, .int x7), (0, .ref x0), (1, .int x1)] [] h := by
  intro x3 x5 x7 hq
  unfold f_X9_shellsByPlan_B9 at hq
  refine wp_iload (v := x7) ok dX9_shellsByPlan_9 rfl ?_
  refine wp_aload_n (v := x0) ok dX9_shellsByPlan_11 rfl ?_
  obtain ⟨t3, e4, hq⟩ := bnd_some hq
  obtain ⟨e5, n6, f7⟩ := rK_some e4
  replace f7 := sh_of (rfl).symm f7
  refine wp_getR ok fl_RX9_26 (sh_of rfl f_x0) e5 dX9_shellsByPlan_12 ?_
  refine wp_getI ok fl_RX9_47 (sh_of rfl f7) dX9_shellsByPlan_15 ?_
  refine wp_icmp_ge (tgt := 99) ok dX9_shellsByPlan_18 (by decide) (fun c8 => ?_) (fun c8 => ?_)
  · have hq := ite_t c8 hq
    refine wp_lload_n (v := x3) ok dX9_shellsByPlan_99 rfl ?_
    exact wp_lret ok hF rfl (re1J hq) dX9_shellsByPlan_100
  · have hq := ite_f c8 hq
    refine wp_aload_n (v := x0) ok dX9_shellsByPlan_21 rfl ?_
    refine wp_iload_n (v := x1) ok dX9_shellsByPlan_22 rfl ?_
    refine wp_iload (v := x7) ok dX9_shellsByPlan_23 rfl ?_
    obtain ⟨v9, e10, hq⟩ := bnd_some hq
    refine wp_callVI (As := [.int x1, .int x7]) (rest := []) (h1 := h) ok (m_X9_deedOf e10 (Nat.le_refl _)) my_X9_deedOf (w_814) pd_X9_deedOf (Nat.le_trans (by decide) hfr) rfl (ci := 9) rfl (by decide) (sh_of rfl f_x0) rfl rfl rfl dX9_shellsByPlan_25 (fun e11 => ?_)
    refine wp_istore (L' := [(8, .int v9), (3, .long x3), (5, .long x5), (7, .int x7), (0, .ref x0), (1, .int x1)]) ok dX9_shellsByPlan_28 rfl rfl ?_
    refine wp_aload_n (v := x0) ok dX9_shellsByPlan_30 rfl ?_
    obtain ⟨t12, e13, hq⟩ := bnd_some hq
    obtain ⟨e14, n15, f16⟩ := rK_some e13
    replace f16 := sh_of (rfl).symm f16
    refine wp_getR ok fl_RX9_57 (sh_of rfl f_x0) e14 dX9_shellsByPlan_31 ?_
    refine wp_iload (v := x7) ok dX9_shellsByPlan_34 rfl ?_
    obtain ⟨g17, hq⟩ := gP_some hq
    obtain ⟨t18, e19, hq⟩ := bnd_some hq
    obtain ⟨e20, n21, f22⟩ := rK_some e19
    replace f22 := sh_of (rfl).symm f22
    refine wp_aald106 ok (sh_of rfl f16) (ix_of (sh_of rfl f16) g17) e20 dX9_shellsByPlan_36 ?_
    refine wp_iload (v := x7) ok dX9_shellsByPlan_37 rfl ?_
    obtain ⟨g23, hq⟩ := gP_some hq
    refine wp_iald ok (sh_of rfl f22) (ix_of (sh_of rfl f22) g23) dX9_shellsByPlan_39 ?_
    obtain ⟨v24, e25, hq⟩ := lt_some hq
    refine wp_nmI e25 ?_
    refine wp_istore (L' := [(9, .int v24), (8, .int v9), (3, .long x3), (5, .long x5), (7, .int x7), (0, .ref x0), (1, .int x1)]) ok dX9_shellsByPlan_40 rfl rfl ?_
    refine wp_iload (v := v9) ok dX9_shellsByPlan_42 rfl ?_
    refine wp_iconst (v := 1) ok dX9_shellsByPlan_44 (by decide) ?_
    obtain ⟨k26, ek26, hq⟩ := jn2_some hq
    have kk26 : ∀ (x27 : Int64) (x28 : Int64), k26 x27 x28 = some rr → wp x 66 [(3, .long x27), (5, .long x28), (9, .int v24), (8, .int v9), (7, .int x7), (0, .ref x0), (1, .int x1)] [] h := by
      intro x27 x28 hq
      have hq := (ek26 x27 x28).symm.trans hq
      refine wp_iload (v := v9) ok dX9_shellsByPlan_66 rfl ?_
      refine wp_iconst (v := 2) ok dX9_shellsByPlan_68 (by decide) ?_
      refine wp_icmp_ne (tgt := 93) ok dX9_shellsByPlan_69 (by decide) (fun c29 => ?_) (fun c29 => ?_)
      · have hq := ite_f c29 hq
        obtain ⟨v30, e31, hq⟩ := lt_some hq
        refine wp_iinc (v := x7) (w := 1) (L' := [(7, .int v30), (3, .long x27), (5, .long x28), (9, .int v24), (8, .int v9), (0, .ref x0), (1, .int x1)]) ok dX9_shellsByPlan_93 rfl (by decide) rfl (by rw [← e31]; rfl) ?_
        refine wp_goto (tgt := 9) ok dX9_shellsByPlan_96 (by decide) ?_
        refine wp_sub (L' := [(3, .long x27), (5, .long x28), (7, .int v30), (0, .ref x0), (1, .int x1)]) [1, 2, 0, 5, 6] rfl ?_
        exact ih x27 x28 v30 hq
      · have hq := ite_t c29 hq
        refine wp_iload (v := v24) ok dX9_shellsByPlan_72 rfl ?_
        refine wp_if_le (tgt := 93) ok dX9_shellsByPlan_74 (by decide) (fun c32 => ?_) (fun c32 => ?_)
        · have hq := ite_t c32 hq
          obtain ⟨v33, e34, hq⟩ := lt_some hq
          refine wp_iinc (v := x7) (w := 1) (L' := [(7, .int v33), (3, .long x27), (5, .long x28), (9, .int v24), (8, .int v9), (0, .ref x0), (1, .int x1)]) ok dX9_shellsByPlan_93 rfl (by decide) rfl (by rw [← e34]; rfl) ?_
          refine wp_goto (tgt := 9) ok dX9_shellsByPlan_96 (by decide) ?_
          refine wp_sub (L' := [(3, .long x27), (5, .long x28), (7, .int v33), (0, .ref x0), (1, .int x1)]) [1, 2, 0, 5, 6] rfl ?_
          exact ih x27 x28 v33 hq
        · have hq := ite_f c32 hq
          refine wp_lload (v := x28) ok dX9_shellsByPlan_77 rfl ?_
          refine wp_lload_n (v := x27) ok dX9_shellsByPlan_79 rfl ?_
          refine wp_iload (v := v24) ok dX9_shellsByPlan_80 rfl ?_
          refine wp_i2l ok dX9_shellsByPlan_82 ?_
          obtain ⟨g35, hq⟩ := gP_some hq
          refine wp_ldiv ok dX9_shellsByPlan_83 g35 ?_
          refine wp_ladd ok dX9_shellsByPlan_84 ?_
          obtain ⟨v36, e37, hq⟩ := lt_some hq
          refine wp_nmJ e37 ?_
          refine wp_lstore (L' := [(5, .long v36), (3, .long x27), (9, .int v24), (8, .int v9), (7, .int x7), (0, .ref x0), (1, .int x1)]) ok dX9_shellsByPlan_85 rfl rfl ?_
          refine wp_lload_n (v := x27) ok dX9_shellsByPlan_87 rfl ?_
          refine wp_iload (v := v24) ok dX9_shellsByPlan_88 rfl ?_
          refine wp_i2l ok dX9_shellsByPlan_90 ?_
          obtain ⟨g38, hq⟩ := gP_some hq
          refine wp_lrem ok dX9_shellsByPlan_91 g38 ?_
          obtain ⟨v39, e40, hq⟩ := lt_some hq
          refine wp_nmJ e40 ?_
          refine wp_lstore_n (L' := [(3, .long v39), (5, .long v36), (9, .int v24), (8, .int v9), (7, .int x7), (0, .ref x0), (1, .int x1)]) ok dX9_shellsByPlan_92 rfl rfl ?_
          obtain ⟨v41, e42, hq⟩ := lt_some hq
          refine wp_iinc (v := x7) (w := 1) (L' := [(7, .int v41), (3, .long v39), (5, .long v36), (9, .int v24), (8, .int v9), (0, .ref x0), (1, .int x1)]) ok dX9_shellsByPlan_93 rfl (by decide) rfl (by rw [← e42]; rfl) ?_
          refine wp_goto (tgt := 9) ok dX9_shellsByPlan_96 (by decide) ?_
          refine wp_sub (L' := [(3, .long v39), (5, .long v36), (7, .int v41), (0, .ref x0), (1, .int x1)]) [1, 2, 0, 5, 6] rfl ?_
          exact ih v39 v36 v41 hq
    refine wp_icmp_ne (tgt := 66) ok dX9_shellsByPlan_45 (by decide) (fun c43 => ?_) (fun c43 => ?_)
    · have hq := ite_f c43 hq
      refine wp_sub (L' := [(3, .long x3), (5, .long x5), (9, .int v24), (8, .int v9), (7, .int x7), (0, .ref x0), (1, .int x1)]) [2, 3, 0, 1, 4, 5, 6] rfl ?_
      exact kk26 x3 x5 hq
    · have hq := ite_t c43 hq
      refine wp_ldc2 (v := 999999999) ok (w_818) dX9_shellsByPlan_48 ?_
      refine wp_lload_n (v := x3) ok dX9_shellsByPlan_51 rfl ?_
      refine wp_lload (v := x5) ok dX9_shellsByPlan_52 rfl ?_
      refine wp_iload (v := v24) ok dX9_shellsByPlan_54 rfl ?_
      refine wp_i2l ok dX9_shellsByPlan_56 ?_
      refine wp_lmul ok dX9_shellsByPlan_57 ?_
      refine wp_ladd ok dX9_shellsByPlan_58 ?_
      obtain ⟨v44, e45, hq⟩ := bnd_some hq
      refine wp_callSJ (As := [.long 999999999, .long (x3 + (x5 * v24.toInt64))]) (rest := []) (h1 := h) ok (m_J9_min_f86c9 e45 (Nat.le_refl _)) my_J9_min_f86c9 (w_819) pd_J9_min_f86c9 (Nat.le_trans (by decide) hfr) rfl rfl rfl rfl dX9_shellsByPlan_59 (fun e46 => ?_)
      refine wp_lstore_n (L' := [(3, .long v44), (9, .int v24), (8, .int v9), (5, .long x5), (7, .int x7), (0, .ref x0), (1, .int x1)]) ok dX9_shellsByPlan_62 rfl rfl ?_
      refine wp_lconst (v := 0) ok dX9_shellsByPlan_63 (by decide) ?_
      refine wp_lstore (L' := [(5, .long 0), (3, .long v44), (9, .int v24), (8, .int v9), (7, .int x7), (0, .ref x0), (1, .int x1)]) ok dX9_shellsByPlan_64 rfl rfl ?_
      refine wp_sub (L' := [(3, .long v44), (5, .long 0), (9, .int v24), (8, .int v9), (7, .int x7), (0, .ref x0), (1, .int x1)]) [1, 0, 2, 3, 4, 5, 6] rfl ?_
      exact kk26 v44 0 hq
set_option maxHeartbeats 4000000 in
set_option maxRecDepth 100000 in
theorem l_X9_shellsByPlan_B9 {x : Cx} {h : HP} {N fr : Nat} {rr : Int64} (ok : Okx x cX9_shellsByPlan yX9_shellsByPlan.cls 10 fr) (hfr : 1 ≤ fr)  {x0 : Nat} {x1 : Int32} {n_x0 : Nat} (f_x0 : h.1[x0]? = some (9, n_x0)) (hF : Fend x h (some (.long)) (QJ rr h)) : ∀ (n : Nat) (x3 : Int64) (x5 : Int64) (x7 : Int32), lp (fun _ _ _ => none) (f_X9_shellsByPlan_B9 N x0 x1 h) n x3 x5 x7 = some rr → wp x 9 [(3, .long x3), (5, .long x5), (7, .int x7), (0, .ref x0), (1, .int x1)] [] h := by
  intro n
  induction n with
  | zero => intro x3 x5 x7 hq; exact (Option.some_ne_none _ hq.symm).elim
  | succ n ih => exact s_X9_shellsByPlan_B9 ok hfr f_x0 hF  ih
set_option maxHeartbeats 4000000 in
set_option maxRecDepth 100000 in
theorem m_X9_shellsByPlan {l : Launch} {h : HP} {N : Nat} {x0 : Nat} {x1 : Int32} {x2 : Int32} {rr : Int64} {fr : Nat} (hq : f_X9_shellsByPlan N h x0 x1 x2 = some rr) (hfr : 1 ≤ fr) : Mt l yX9_shellsByPlan cX9_shellsByPlan 10 (some (.long)) fr [.ref x0, .int x1, .int x2] h (QJ rr h) := by
  refine Mt.of (by decide +kernel) (Nat.le_of_ble_eq_true rfl) (fun x hl ok hF => ?_)
  subst hl
  show wp x 0 [(0, .ref x0), (1, .int x1), (2, .int x2)] [] h
  unfold f_X9_shellsByPlan at hq
  obtain ⟨g_x0, hq⟩ := gP_some hq
  obtain ⟨n_x0, f_x0⟩ := kO_some g_x0
  refine wp_iload_n (v := x2) ok dX9_shellsByPlan_0 rfl ?_
  refine wp_i2l ok dX9_shellsByPlan_1 ?_
  obtain ⟨v1, e2, hq⟩ := lt_some hq
  refine wp_nmJ e2 ?_
  refine wp_lstore_n (L' := [(3, .long v1), (0, .ref x0), (1, .int x1), (2, .int x2)]) ok dX9_shellsByPlan_2 rfl rfl ?_
  refine wp_lconst (v := 0) ok dX9_shellsByPlan_3 (by decide) ?_
  refine wp_lstore (L' := [(5, .long 0), (3, .long v1), (0, .ref x0), (1, .int x1), (2, .int x2)]) ok dX9_shellsByPlan_4 rfl rfl ?_
  refine wp_iconst (v := 0) ok dX9_shellsByPlan_6 (by decide) ?_
  refine wp_istore (L' := [(7, .int 0), (5, .long 0), (3, .long v1), (0, .ref x0), (1, .int x1), (2, .int x2)]) ok dX9_shellsByPlan_7 rfl rfl ?_
  refine wp_sub (L' := [(3, .long v1), (5, .long 0), (7, .int 0), (0, .ref x0), (1, .int x1)]) [2, 1, 0, 3, 4] rfl ?_
  refine l_X9_shellsByPlan_B9 ok hfr f_x0 hF  N v1 0 0 hq
set_option maxHeartbeats 4000000 in
set_option maxRecDepth 100000 in
theorem s_X9_caravan_B40 {x : Cx} {h0 : HP} {N fr : Nat} {rr : (Int32 × HP)} (ok : Okx x cX9_caravan yX9_caravan.cls 8 fr) (hfr : 6 ≤ fr)  {x0 : Nat} {x1 : Int32} {h : HP} (e : h.1 = h0.1) {n_x0 : Nat} (f_x0 : h0.1[x0]? = some (9, n_x0)) (hF : Fend x h0 (some (.int)) (QI rr.1 rr.2)) {k85 : Int64 → Int32 → Option (Int32 × HP)} (hk85 : ∀ (x2 : Int64) (x4 : Int32), k85 x2 x4 = some rr → wp x 85 [(2, .long x2), (4, .int x4), (0, .ref x0)] [] h) {rc : Int64 → Int32 → Int32 → Option (Int32 × HP)} (ih : ∀ (x2 : Int64) (x4 : Int32) (x5 : Int32), rc x2 x4 x5 = some rr → wp x 40 [(2, .long x2), (4, .int x4), (5, .int x5), (0, .ref x0), (1, .int x1)] [] h) : ∀ (x2 : Int64) (x4 : Int32) (x5 : Int32), f_X9_caravan_B40 N x0 x1 h k85 rc x2 x4 x5 = some rr → wp x 40 [(2, .long x2), (4, .int x4), (5, .int x5), (0, .ref x0), (1, .int x1)] [] h := by
  intro x2 x4 x5 hq
  unfold f_X9_caravan_B40 at hq
  refine wp_iload (v := x5) ok dX9_caravan_40 rfl ?_
  refine wp_gets (i := 1) ok rfl (w_808) dX9_caravan_42 ?_
  refine wp_aload_n (v := x0) ok dX9_caravan_45 rfl ?_
  obtain ⟨t15, e16, hq⟩ := bnd_some hq
  obtain ⟨e17, n18, f19⟩ := rK_some e16
  replace f19 := sh_of (e).symm f19
  refine wp_getR ok fl_RX9_26 (sh_of e f_x0) e17 dX9_caravan_46 ?_
  refine wp_getI ok fl_RX9_47 (sh_of e f19) dX9_caravan_49 ?_
  obtain ⟨g20, hq⟩ := gP_some hq
  refine wp_tald (i := 1) ok rfl (ix_lit g20) dX9_caravan_52 ?_
  refine wp_icmp_ge (tgt := 85) ok dX9_caravan_53 (by decide) (fun c21 => ?_) (fun c21 => ?_)
  · have hq := ite_t c21 hq
    refine wp_sub (L' := [(2, .long x2), (4, .int x4), (0, .ref x0)]) [0, 1, 3] rfl ?_
    exact hk85 x2 x4 hq
  · have hq := ite_f c21 hq
    refine wp_aload_n (v := x0) ok dX9_caravan_56 rfl ?_
    refine wp_iload (v := x5) ok dX9_caravan_57 rfl ?_
    refine wp_iload_n (v := x1) ok dX9_caravan_59 rfl ?_
    obtain ⟨v22, e23, hq⟩ := bnd_some hq
    refine wp_callVJ (As := [.int x5, .int x1]) (rest := []) (h1 := h) ok (m_X9_shellsByPlan e23 (Nat.le_refl _)) my_X9_shellsByPlan (w_810) pd_X9_shellsByPlan (Nat.le_trans (by decide) hfr) rfl (ci := 9) rfl (by decide) (sh_of e f_x0) rfl rfl rfl dX9_caravan_60 (fun e24 => ?_)
    refine wp_lstore (L' := [(6, .long v22), (2, .long x2), (4, .int x4), (5, .int x5), (0, .ref x0), (1, .int x1)]) ok dX9_caravan_63 rfl rfl ?_
    refine wp_lload (v := v22) ok dX9_caravan_65 rfl ?_
    refine wp_lload_n (v := x2) ok dX9_caravan_67 rfl ?_
    refine wp_lcmp ok dX9_caravan_68 ?_
    refine wp_if_le (tgt := 79) ok dX9_caravan_69 (by decide) (fun c25 => ?_) (fun c25 => ?_)
    · have hq := ite_t c25 hq
      obtain ⟨v26, e27, hq⟩ := lt_some hq
      refine wp_iinc (v := x5) (w := 1) (L' := [(5, .int v26), (6, .long v22), (2, .long x2), (4, .int x4), (0, .ref x0), (1, .int x1)]) ok dX9_caravan_79 rfl (by decide) rfl (by rw [← e27]; rfl) ?_
      refine wp_goto (tgt := 40) ok dX9_caravan_82 (by decide) ?_
      refine wp_sub (L' := [(2, .long x2), (4, .int x4), (5, .int v26), (0, .ref x0), (1, .int x1)]) [2, 3, 0, 4, 5] rfl ?_
      exact ih x2 x4 v26 hq
    · have hq := ite_f c25 hq
      refine wp_lload (v := v22) ok dX9_caravan_72 rfl ?_
      refine wp_lstore_n (L' := [(2, .long v22), (6, .long v22), (4, .int x4), (5, .int x5), (0, .ref x0), (1, .int x1)]) ok dX9_caravan_74 rfl rfl ?_
      refine wp_iload (v := x5) ok dX9_caravan_75 rfl ?_
      refine wp_istore (L' := [(4, .int x5), (2, .long v22), (6, .long v22), (5, .int x5), (0, .ref x0), (1, .int x1)]) ok dX9_caravan_77 rfl rfl ?_
      obtain ⟨v28, e29, hq⟩ := lt_some hq
      refine wp_iinc (v := x5) (w := 1) (L' := [(5, .int v28), (4, .int x5), (2, .long v22), (6, .long v22), (0, .ref x0), (1, .int x1)]) ok dX9_caravan_79 rfl (by decide) rfl (by rw [← e29]; rfl) ?_
      refine wp_goto (tgt := 40) ok dX9_caravan_82 (by decide) ?_
      refine wp_sub (L' := [(2, .long v22), (4, .int x5), (5, .int v28), (0, .ref x0), (1, .int x1)]) [2, 1, 0, 4, 5] rfl ?_
      exact ih v22 x5 v28 hq
set_option maxHeartbeats 4000000 in
set_option maxRecDepth 100000 in
theorem l_X9_caravan_B40 {x : Cx} {h0 : HP} {N fr : Nat} {rr : (Int32 × HP)} (ok : Okx x cX9_caravan yX9_caravan.cls 8 fr) (hfr : 6 ≤ fr)  {x0 : Nat} {x1 : Int32} {h : HP} (e : h.1 = h0.1) {n_x0 : Nat} (f_x0 : h0.1[x0]? = some (9, n_x0)) (hF : Fend x h0 (some (.int)) (QI rr.1 rr.2)) {k85 : Int64 → Int32 → Option (Int32 × HP)} (hk85 : ∀ (x2 : Int64) (x4 : Int32), k85 x2 x4 = some rr → wp x 85 [(2, .long x2), (4, .int x4), (0, .ref x0)] [] h) : ∀ (n : Nat) (x2 : Int64) (x4 : Int32) (x5 : Int32), lp (fun _ _ _ => none) (f_X9_caravan_B40 N x0 x1 h k85) n x2 x4 x5 = some rr → wp x 40 [(2, .long x2), (4, .int x4), (5, .int x5), (0, .ref x0), (1, .int x1)] [] h := by
  intro n
  induction n with
  | zero => intro x2 x4 x5 hq; exact (Option.some_ne_none _ hq.symm).elim
  | succ n ih => exact s_X9_caravan_B40 ok hfr e f_x0 hF hk85 ih
set_option maxHeartbeats 4000000 in
set_option maxRecDepth 100000 in
theorem s_X9_caravan_B95 {x : Cx} {h0 : HP} {N fr : Nat} {rr : (Int32 × HP)} (ok : Okx x cX9_caravan yX9_caravan.cls 8 fr) (hfr : 6 ≤ fr)  {x0 : Nat} {x2 : Int64} {x4 : Int32} {n_x0 : Nat} (f_x0 : h0.1[x0]? = some (9, n_x0)) (hF : Fend x h0 (some (.int)) (QI rr.1 rr.2)) {rc : Int32 → HP → Option (Int32 × HP)} (ih : ∀ (x5 : Int32) (h : HP), rc x5 h = some rr → h.1 = h0.1 → wp x 95 [(5, .int x5), (0, .ref x0), (2, .long x2), (4, .int x4)] [] h) : ∀ (x5 : Int32) (h : HP), f_X9_caravan_B95 N x0 x2 x4 rc x5 h = some rr → h.1 = h0.1 → wp x 95 [(5, .int x5), (0, .ref x0), (2, .long x2), (4, .int x4)] [] h := by
  intro x5 h hq e
  unfold f_X9_caravan_B95 at hq
  refine wp_iload (v := x5) ok dX9_caravan_95 rfl ?_
  refine wp_aload_n (v := x0) ok dX9_caravan_97 rfl ?_
  obtain ⟨t41, e42, hq⟩ := bnd_some hq
  obtain ⟨e43, n44, f45⟩ := rK_some e42
  replace f45 := sh_of (e).symm f45
  refine wp_getR ok fl_RX9_26 (sh_of e f_x0) e43 dX9_caravan_98 ?_
  refine wp_getI ok fl_RX9_47 (sh_of e f45) dX9_caravan_101 ?_
  refine wp_icmp_ge (tgt := 129) ok dX9_caravan_104 (by decide) (fun c46 => ?_) (fun c46 => ?_)
  · have hq := ite_t c46 hq
    refine wp_lload_n (v := x2) ok dX9_caravan_129 rfl ?_
    refine wp_l2i ok dX9_caravan_130 ?_
    exact wp_iret ok hF rfl e (re2I hq) dX9_caravan_131
  · have hq := ite_f c46 hq
    refine wp_aload_n (v := x0) ok dX9_caravan_107 rfl ?_
    obtain ⟨t47, e48, hq⟩ := bnd_some hq
    obtain ⟨e49, n50, f51⟩ := rK_some e48
    replace f51 := sh_of (e).symm f51
    refine wp_getR ok fl_RX9_19 (sh_of e f_x0) e49 dX9_caravan_108 ?_
    refine wp_aload_n (v := x0) ok dX9_caravan_111 rfl ?_
    refine wp_iload (v := x4) ok dX9_caravan_112 rfl ?_
    refine wp_iload (v := x5) ok dX9_caravan_114 rfl ?_
    obtain ⟨v52, e53, hq⟩ := bnd_some hq
    refine wp_callVI (As := [.int x4, .int x5]) (rest := [.ref t47]) (h1 := h) ok (m_X9_deedOf e53 (Nat.le_refl _)) my_X9_deedOf (w_814) pd_X9_deedOf (Nat.le_trans (by decide) hfr) rfl (ci := 9) rfl (by decide) (sh_of e f_x0) rfl rfl rfl dX9_caravan_116 (fun e54 => ?_)
    refine wp_i2l ok dX9_caravan_119 ?_
    obtain ⟨h55, e56, hq⟩ := bnd_some hq
    refine wp_callVV (As := [.long (v52.toInt64)]) (rest := []) (h1 := h55) ok (m_X6_add e56 (Nat.le_refl _)) my_X6_add (w_822) pd_X6_add (Nat.le_trans (by decide) hfr) rfl (ci := 6) rfl (by decide) (sh_of e f51) rfl rfl rfl dX9_caravan_120 (fun e57 => ?_)
    have e58 : h55.1 = h0.1 := (e57).trans e
    obtain ⟨v59, e60, hq⟩ := lt_some hq
    refine wp_iinc (v := x5) (w := 1) (L' := [(5, .int v59), (0, .ref x0), (2, .long x2), (4, .int x4)]) ok dX9_caravan_123 rfl (by decide) rfl (by rw [← e60]; rfl) ?_
    refine wp_goto (tgt := 95) ok dX9_caravan_126 (by decide) ?_
    refine wp_sub (L' := [(5, .int v59), (0, .ref x0), (2, .long x2), (4, .int x4)]) [0, 1, 2, 3] rfl ?_
    exact ih v59 h55 hq e58
set_option maxHeartbeats 4000000 in
set_option maxRecDepth 100000 in
theorem l_X9_caravan_B95 {x : Cx} {h0 : HP} {N fr : Nat} {rr : (Int32 × HP)} (ok : Okx x cX9_caravan yX9_caravan.cls 8 fr) (hfr : 6 ≤ fr)  {x0 : Nat} {x2 : Int64} {x4 : Int32} {n_x0 : Nat} (f_x0 : h0.1[x0]? = some (9, n_x0)) (hF : Fend x h0 (some (.int)) (QI rr.1 rr.2)) : ∀ (n : Nat) (x5 : Int32) (h : HP), lp (fun _ _ => none) (f_X9_caravan_B95 N x0 x2 x4) n x5 h = some rr → h.1 = h0.1 → wp x 95 [(5, .int x5), (0, .ref x0), (2, .long x2), (4, .int x4)] [] h := by
  intro n
  induction n with
  | zero => intro x5 h hq e; exact (Option.some_ne_none _ hq.symm).elim
  | succ n ih => exact s_X9_caravan_B95 ok hfr f_x0 hF  ih
set_option maxHeartbeats 4000000 in
set_option maxRecDepth 100000 in
theorem m_X9_caravan {l : Launch} {h : HP} {N : Nat} {x0 : Nat} {x1 : Int32} {rr : Int32} {rh : HP} {fr : Nat} (hq : f_X9_caravan N h x0 x1 = some (rr, rh)) (hfr : 6 ≤ fr) : Mt l yX9_caravan cX9_caravan 8 (some (.int)) fr [.ref x0, .int x1] h (QI rr rh) := by
  obtain ⟨rp, ep⟩ : ∃ rp : (Int32 × HP), rp = (rr, rh) := ⟨_, rfl⟩
  have e1p : rr = rp.1 := (congrArg Prod.fst ep).symm
  have e2p : rh = rp.2 := (congrArg Prod.snd ep).symm
  rw [← ep] at hq
  rw [e1p, e2p]
  clear e1p e2p ep
  refine Mt.of (by decide +kernel) (Nat.le_of_ble_eq_true rfl) (fun x hl ok hF => ?_)
  subst hl
  show wp x 0 [(0, .ref x0), (1, .int x1)] [] h
  unfold f_X9_caravan at hq
  obtain ⟨h0, eh0⟩ : ∃ h0 : HP, h = h0 := ⟨h, rfl⟩
  have e : h.1 = h0.1 := by rw [eh0]
  rw [eh0] at hF
  obtain ⟨g_x0, hq⟩ := gP_some hq
  obtain ⟨n_x0, f_x0⟩ := kO_some g_x0
  replace f_x0 := sh_of e.symm f_x0
  refine wp_iload_n (v := x1) ok dX9_caravan_0 rfl ?_
  refine wp_iconst (v := 1) ok dX9_caravan_1 (by decide) ?_
  refine wp_sipush (v := 9999) ok dX9_caravan_2 (by decide) ?_
  obtain ⟨v1, e2, hq⟩ := bnd_some hq
  refine wp_callSI (As := [.int x1, .int 1, .int 9999]) (rest := []) (h1 := h) ok (m_X9_within e2 (Nat.le_refl _)) my_X9_within (w_491) pd_X9_within (Nat.le_trans (by decide) hfr) rfl rfl rfl rfl dX9_caravan_5 (fun e3 => ?_)
  refine wp_if_ne (tgt := 13) ok dX9_caravan_8 (by decide) (fun c4 => ?_) (fun c4 => ?_)
  · have hq := ite_f c4 hq
    refine wp_aload_n (v := x0) ok dX9_caravan_13 rfl ?_
    obtain ⟨t5, e6, hq⟩ := bnd_some hq
    obtain ⟨e7, n8, f9⟩ := rK_some e6
    replace f9 := sh_of (e).symm f9
    refine wp_getR ok fl_RX9_26 (sh_of e f_x0) e7 dX9_caravan_14 ?_
    refine wp_getI ok fl_RX9_47 (sh_of e f9) dX9_caravan_17 ?_
    refine wp_if_ne (tgt := 26) ok dX9_caravan_20 (by decide) (fun c10 => ?_) (fun c10 => ?_)
    · have hq := ite_f c10 hq
      refine wp_aload_n (v := x0) ok dX9_caravan_26 rfl ?_
      obtain ⟨h11, e12, hq⟩ := bnd_some hq
      refine wp_callVV (As := []) (rest := []) (h1 := h11) ok (m_X9_foresee e12 (Nat.le_refl _)) my_X9_foresee (w_730) pd_X9_foresee (Nat.le_trans (by decide) hfr) rfl (ci := 9) rfl (by decide) (sh_of e f_x0) rfl rfl rfl dX9_caravan_27 (fun e13 => ?_)
      have e14 : h11.1 = h0.1 := (e13).trans e
      refine wp_ldc2 (v := -1) ok (w_807) dX9_caravan_30 ?_
      refine wp_lstore_n (L' := [(2, .long (-1)), (0, .ref x0), (1, .int x1)]) ok dX9_caravan_33 rfl rfl ?_
      refine wp_iconst (v := 0) ok dX9_caravan_34 (by decide) ?_
      refine wp_istore (L' := [(4, .int 0), (2, .long (-1)), (0, .ref x0), (1, .int x1)]) ok dX9_caravan_35 rfl rfl ?_
      refine wp_iconst (v := 0) ok dX9_caravan_37 (by decide) ?_
      refine wp_istore (L' := [(5, .int 0), (4, .int 0), (2, .long (-1)), (0, .ref x0), (1, .int x1)]) ok dX9_caravan_38 rfl rfl ?_
      refine wp_sub (L' := [(2, .long (-1)), (4, .int 0), (5, .int 0), (0, .ref x0), (1, .int x1)]) [2, 1, 0, 3, 4] rfl ?_
      refine l_X9_caravan_B40 ok hfr e14 f_x0 hF ?_ N (-1) 0 0 hq
      · intro x30 x31 hq
        refine wp_aload_n (v := x0) ok dX9_caravan_85 rfl ?_
        obtain ⟨t32, e33, hq⟩ := bnd_some hq
        obtain ⟨e34, n35, f36⟩ := rK_some e33
        replace f36 := sh_of (e14).symm f36
        refine wp_getR ok fl_RX9_19 (sh_of e14 f_x0) e34 dX9_caravan_86 ?_
        obtain ⟨h37, e38, hq⟩ := bnd_some hq
        refine wp_callVV (As := []) (rest := []) (h1 := h37) ok (m_X6_clear e38 (Nat.le_refl _)) my_X6_clear (w_726) pd_X6_clear (Nat.le_trans (by decide) hfr) rfl (ci := 6) rfl (by decide) (sh_of e14 f36) rfl rfl rfl dX9_caravan_89 (fun e39 => ?_)
        have e40 : h37.1 = h0.1 := (e39).trans e14
        refine wp_iconst (v := 0) ok dX9_caravan_92 (by decide) ?_
        refine wp_istore (L' := [(5, .int 0), (2, .long x30), (4, .int x31), (0, .ref x0)]) ok dX9_caravan_93 rfl rfl ?_
        refine wp_sub (L' := [(5, .int 0), (0, .ref x0), (2, .long x30), (4, .int x31)]) [0, 3, 1, 2] rfl ?_
        refine l_X9_caravan_B95 ok hfr f_x0 hF  N 0 h37 hq e40
    · have hq := ite_t c10 hq
      refine wp_bipush (v := -2) ok dX9_caravan_23 (by decide) ?_
      exact wp_iret ok hF rfl e (re2I hq) dX9_caravan_25
  · have hq := ite_t c4 hq
    refine wp_iconst (v := -1) ok dX9_caravan_11 (by decide) ?_
    exact wp_iret ok hF rfl e (re2I hq) dX9_caravan_12
set_option maxHeartbeats 4000000 in
set_option maxRecDepth 100000 in
theorem m_X9_roundedUp {l : Launch} {h : HP} {x0 : Int32} {x1 : Int32} {rr : Int32} {fr : Nat} (hq : f_X9_roundedUp x0 x1 = some rr) (hfr : 0 ≤ fr) : Mt l yX9_roundedUp cX9_roundedUp 2 (some (.int)) fr [.int x0, .int x1] h (QI rr h) := by
  refine Mt.of (by decide +kernel) (Nat.le_of_ble_eq_true rfl) (fun x hl ok hF => ?_)
  subst hl
  show wp x 0 [(0, .int x0), (1, .int x1)] [] h
  unfold f_X9_roundedUp at hq
  refine wp_iload_n (v := x1) ok dX9_roundedUp_0 rfl ?_
  refine wp_if_gt (tgt := 8) ok dX9_roundedUp_1 (by decide) (fun c1 => ?_) (fun c1 => ?_)
  · have hq := ite_t c1 hq
    refine wp_iload_n (v := x0) ok dX9_roundedUp_8 rfl ?_
    refine wp_iload_n (v := x1) ok dX9_roundedUp_9 rfl ?_
    refine wp_iadd ok dX9_roundedUp_10 ?_
    refine wp_iconst (v := 1) ok dX9_roundedUp_11 (by decide) ?_
    refine wp_isub ok dX9_roundedUp_12 ?_
    refine wp_iload_n (v := x1) ok dX9_roundedUp_13 rfl ?_
    obtain ⟨g2, hq⟩ := gP_some hq
    refine wp_idiv ok dX9_roundedUp_14 g2 ?_
    exact wp_iret ok hF rfl rfl (re1I hq) dX9_roundedUp_15
  · have hq := ite_f c1 hq
    refine wp_iconst (v := 0) ok dX9_roundedUp_4 (by decide) ?_
    refine wp_goto (tgt := 15) ok dX9_roundedUp_5 (by decide) ?_
    exact wp_iret ok hF rfl rfl (re1I hq) dX9_roundedUp_15
set_option maxHeartbeats 4000000 in
set_option maxRecDepth 100000 in
theorem m_X9_strings {l : Launch} {h : HP} {x0 : Nat} {x1 : Int32} {x2 : Int32} {rr : Int32} {rh : HP} {fr : Nat} (hq : f_X9_strings h x0 x1 x2 = some (rr, rh)) (hfr : 2 ≤ fr) : Mt l yX9_strings cX9_strings 4 (some (.int)) fr [.ref x0, .int x1, .int x2] h (QI rr rh) := by
  obtain ⟨rp, ep⟩ : ∃ rp : (Int32 × HP), rp = (rr, rh) := ⟨_, rfl⟩
  have e1p : rr = rp.1 := (congrArg Prod.fst ep).symm
  have e2p : rh = rp.2 := (congrArg Prod.snd ep).symm
  rw [← ep] at hq
  rw [e1p, e2p]
  clear e1p e2p ep
  refine Mt.of (by decide +kernel) (Nat.le_of_ble_eq_true rfl) (fun x hl ok hF => ?_)
  subst hl
  show wp x 0 [(0, .ref x0), (1, .int x1), (2, .int x2)] [] h
  unfold f_X9_strings at hq
  obtain ⟨h0, eh0⟩ : ∃ h0 : HP, h = h0 := ⟨h, rfl⟩
  have e : h.1 = h0.1 := by rw [eh0]
  rw [eh0] at hF
  obtain ⟨g_x0, hq⟩ := gP_some hq
  obtain ⟨n_x0, f_x0⟩ := kO_some g_x0
  replace f_x0 := sh_of e.symm f_x0
  refine wp_iload_n (v := x1) ok dX9_strings_0 rfl ?_
  refine wp_iconst (v := 0) ok dX9_strings_1 (by decide) ?_
  refine wp_ldcw (v := 99999) ok (w_786) dX9_strings_2 ?_
  obtain ⟨v1, e2, hq⟩ := bnd_some hq
  refine wp_callSI (As := [.int x1, .int 0, .int 99999]) (rest := []) (h1 := h) ok (m_X9_within e2 (Nat.le_refl _)) my_X9_within (w_491) pd_X9_within (Nat.le_trans (by decide) hfr) rfl rfl rfl rfl dX9_strings_5 (fun e3 => ?_)
  refine wp_if_eq (tgt := 21) ok dX9_strings_8 (by decide) (fun c4 => ?_) (fun c4 => ?_)
  · have hq := ite_t c4 hq
    refine wp_iconst (v := -1) ok dX9_strings_21 (by decide) ?_
    exact wp_iret ok hF rfl e (re2I hq) dX9_strings_22
  · have hq := ite_f c4 hq
    refine wp_iload_n (v := x2) ok dX9_strings_11 rfl ?_
    refine wp_iconst (v := 1) ok dX9_strings_12 (by decide) ?_
    refine wp_bipush (v := 9) ok dX9_strings_13 (by decide) ?_
    obtain ⟨v5, e6, hq⟩ := bnd_some hq
    refine wp_callSI (As := [.int x2, .int 1, .int 9]) (rest := []) (h1 := h) ok (m_X9_within e6 (Nat.le_refl _)) my_X9_within (w_491) pd_X9_within (Nat.le_trans (by decide) hfr) rfl rfl rfl rfl dX9_strings_15 (fun e7 => ?_)
    refine wp_if_ne (tgt := 23) ok dX9_strings_18 (by decide) (fun c8 => ?_) (fun c8 => ?_)
    · have hq := ite_f c8 hq
      refine wp_iload_n (v := x1) ok dX9_strings_23 rfl ?_
      refine wp_bipush (v := 40) ok dX9_strings_24 (by decide) ?_
      refine wp_idiv ok dX9_strings_26 (by decide) ?_
      obtain ⟨v9, e10, hq⟩ := lt_some hq
      refine wp_nmI e10 ?_
      refine wp_istore_n (L' := [(3, .int v9), (0, .ref x0), (1, .int x1), (2, .int x2)]) ok dX9_strings_27 rfl rfl ?_
      refine wp_aload_n (v := x0) ok dX9_strings_28 rfl ?_
      obtain ⟨t11, e12, hq⟩ := bnd_some hq
      obtain ⟨e13, n14, f15⟩ := rK_some e12
      replace f15 := sh_of (e).symm f15
      refine wp_getR ok fl_RX9_19 (sh_of e f_x0) e13 dX9_strings_29 ?_
      refine wp_iload_n (v := x1) ok dX9_strings_32 rfl ?_
      refine wp_bipush (v := 40) ok dX9_strings_33 (by decide) ?_
      refine wp_irem ok dX9_strings_35 (by decide) ?_
      refine wp_i2l ok dX9_strings_36 ?_
      refine wp_iload_n (v := v9) ok dX9_strings_37 rfl ?_
      refine wp_bipush (v := 25) ok dX9_strings_38 (by decide) ?_
      refine wp_iload_n (v := x2) ok dX9_strings_40 rfl ?_
      refine wp_imul ok dX9_strings_41 ?_
      obtain ⟨v16, e17, hq⟩ := bnd_some hq
      refine wp_callSI (As := [.int v9, .int (25 * x2)]) (rest := [.long ((irm x1 40).toInt64), .ref t11]) (h1 := h) ok (m_X9_roundedUp e17 (Nat.le_refl _)) my_X9_roundedUp (w_827) pd_X9_roundedUp (Nat.le_trans (by decide) hfr) rfl rfl rfl rfl dX9_strings_42 (fun e18 => ?_)
      refine wp_i2l ok dX9_strings_45 ?_
      obtain ⟨h19, e20, hq⟩ := bnd_some hq
      refine wp_callVV (As := [.long ((irm x1 40).toInt64), .long (v16.toInt64)]) (rest := []) (h1 := h19) ok (m_X6_tell_ e20 (Nat.le_refl _)) my_X6_tell_ (w_571) pd_X6_tell_ (Nat.le_trans (by decide) hfr) rfl (ci := 6) rfl (by decide) (sh_of e f15) rfl rfl rfl dX9_strings_46 (fun e21 => ?_)
      have e22 : h19.1 = h0.1 := (e21).trans e
      refine wp_iload_n (v := v9) ok dX9_strings_49 rfl ?_
      exact wp_iret ok hF rfl e22 (re2I hq) dX9_strings_50
    · have hq := ite_t c8 hq
      refine wp_iconst (v := -1) ok dX9_strings_21 (by decide) ?_
      exact wp_iret ok hF rfl e (re2I hq) dX9_strings_22
set_option maxHeartbeats 4000000 in
set_option maxRecDepth 100000 in
theorem m_X9_counted {l : Launch} {h : HP} {x0 : Int32} {x1 : Int32} {rr : Int32} {fr : Nat} (hq : f_X9_counted x0 x1 = some rr) (hfr : 1 ≤ fr) : Mt l yX9_counted cX9_counted 2 (some (.int)) fr [.int x0, .int x1] h (QI rr h) := by
  refine Mt.of (by decide +kernel) (Nat.le_of_ble_eq_true rfl) (fun x hl ok hF => ?_)
  subst hl
  show wp x 0 [(0, .int x0), (1, .int x1)] [] h
  unfold f_X9_counted at hq
  refine wp_iload_n (v := x1) ok dX9_counted_0 rfl ?_
  refine wp_iload_n (v := x0) ok dX9_counted_1 rfl ?_
  refine wp_bipush (v := 100) ok dX9_counted_2 (by decide) ?_
  obtain ⟨v1, e2, hq⟩ := bnd_some hq
  refine wp_callSI (As := [.int x0, .int 100]) (rest := [.int x1]) (h1 := h) ok (m_X9_roundedUp e2 (Nat.le_refl _)) my_X9_roundedUp (w_827) pd_X9_roundedUp (Nat.le_trans (by decide) hfr) rfl rfl rfl rfl dX9_counted_4 (fun e3 => ?_)
  refine wp_imul ok dX9_counted_7 ?_
  exact wp_iret ok hF rfl rfl (re1I hq) dX9_counted_8
set_option maxHeartbeats 4000000 in
set_option maxRecDepth 100000 in
theorem s_X9_counts_B27 {x : Cx} {h0 : HP} {N fr : Nat} {rr : (Int32 × HP)} (ok : Okx x cX9_counts yX9_counts.cls 5 fr) (hfr : 2 ≤ fr)  {x0 : Nat} {x1 : Int32} {x2 : Int32} {h : HP} (e : h.1 = h0.1) {n_x0 : Nat} (f_x0 : h0.1[x0]? = some (9, n_x0)) (hF : Fend x h0 (some (.int)) (QI rr.1 rr.2)) {k50 : Int32 → Option (Int32 × HP)} (hk50 : ∀ (x3 : Int32), k50 x3 = some rr → wp x 50 [(3, .int x3), (0, .ref x0), (1, .int x1), (2, .int x2)] [] h) {rc : Int32 → Option (Int32 × HP)} (ih : ∀ (x3 : Int32), rc x3 = some rr → wp x 27 [(3, .int x3), (0, .ref x0), (1, .int x1), (2, .int x2)] [] h) : ∀ (x3 : Int32), f_X9_counts_B27 N x0 x1 x2 h k50 rc x3 = some rr → wp x 27 [(3, .int x3), (0, .ref x0), (1, .int x1), (2, .int x2)] [] h := by
  intro x3 hq
  unfold f_X9_counts_B27 at hq
  refine wp_iload_n (v := x3) ok dX9_counts_27 rfl ?_
  refine wp_if_le (tgt := 50) ok dX9_counts_28 (by decide) (fun c9 => ?_) (fun c9 => ?_)
  · have hq := ite_t c9 hq
    refine wp_sub (L' := [(3, .int x3), (0, .ref x0), (1, .int x1), (2, .int x2)]) [0, 1, 2, 3] rfl ?_
    exact hk50 x3 hq
  · have hq := ite_f c9 hq
    refine wp_iload_n (v := x3) ok dX9_counts_31 rfl ?_
    refine wp_iconst (v := 1) ok dX9_counts_32 (by decide) ?_
    refine wp_isub ok dX9_counts_33 ?_
    refine wp_iload_n (v := x2) ok dX9_counts_34 rfl ?_
    obtain ⟨v10, e11, hq⟩ := bnd_some hq
    refine wp_callSI (As := [.int (x3 - 1), .int x2]) (rest := []) (h1 := h) ok (m_X9_counted e11 (Nat.le_refl _)) my_X9_counted (w_834) pd_X9_counted (Nat.le_trans (by decide) hfr) rfl rfl rfl rfl dX9_counts_35 (fun e12 => ?_)
    refine wp_iload_n (v := x3) ok dX9_counts_38 rfl ?_
    refine wp_iconst (v := 1) ok dX9_counts_39 (by decide) ?_
    refine wp_isub ok dX9_counts_40 ?_
    refine wp_icmp_gt (tgt := 50) ok dX9_counts_41 (by decide) (fun c13 => ?_) (fun c13 => ?_)
    · have hq := ite_t c13 hq
      refine wp_sub (L' := [(3, .int x3), (0, .ref x0), (1, .int x1), (2, .int x2)]) [0, 1, 2, 3] rfl ?_
      exact hk50 x3 hq
    · have hq := ite_f c13 hq
      obtain ⟨v14, e15, hq⟩ := lt_some hq
      refine wp_iinc (v := x3) (w := (-1)) (L' := [(3, .int v14), (0, .ref x0), (1, .int x1), (2, .int x2)]) ok dX9_counts_44 rfl (by decide) rfl (by rw [← e15]; rfl) ?_
      refine wp_goto (tgt := 27) ok dX9_counts_47 (by decide) ?_
      refine wp_sub (L' := [(3, .int v14), (0, .ref x0), (1, .int x1), (2, .int x2)]) [0, 1, 2, 3] rfl ?_
      exact ih v14 hq
set_option maxHeartbeats 4000000 in
set_option maxRecDepth 100000 in
theorem l_X9_counts_B27 {x : Cx} {h0 : HP} {N fr : Nat} {rr : (Int32 × HP)} (ok : Okx x cX9_counts yX9_counts.cls 5 fr) (hfr : 2 ≤ fr)  {x0 : Nat} {x1 : Int32} {x2 : Int32} {h : HP} (e : h.1 = h0.1) {n_x0 : Nat} (f_x0 : h0.1[x0]? = some (9, n_x0)) (hF : Fend x h0 (some (.int)) (QI rr.1 rr.2)) {k50 : Int32 → Option (Int32 × HP)} (hk50 : ∀ (x3 : Int32), k50 x3 = some rr → wp x 50 [(3, .int x3), (0, .ref x0), (1, .int x1), (2, .int x2)] [] h) : ∀ (n : Nat) (x3 : Int32), lp (fun _ => none) (f_X9_counts_B27 N x0 x1 x2 h k50) n x3 = some rr → wp x 27 [(3, .int x3), (0, .ref x0), (1, .int x1), (2, .int x2)] [] h := by
  intro n
  induction n with
  | zero => intro x3 hq; exact (Option.some_ne_none _ hq.symm).elim
  | succ n ih => exact s_X9_counts_B27 ok hfr e f_x0 hF hk50 ih
set_option maxHeartbeats 4000000 in
set_option maxRecDepth 100000 in
theorem m_X9_counts {l : Launch} {h : HP} {N : Nat} {x0 : Nat} {x1 : Int32} {x2 : Int32} {rr : Int32} {rh : HP} {fr : Nat} (hq : f_X9_counts N h x0 x1 x2 = some (rr, rh)) (hfr : 2 ≤ fr) : Mt l yX9_counts cX9_counts 5 (some (.int)) fr [.ref x0, .int x1, .int x2] h (QI rr rh) := by
  obtain ⟨rp, ep⟩ : ∃ rp : (Int32 × HP), rp = (rr, rh) := ⟨_, rfl⟩
  have e1p : rr = rp.1 := (congrArg Prod.fst ep).symm
  have e2p : rh = rp.2 := (congrArg Prod.snd ep).symm
  rw [← ep] at hq
  rw [e1p, e2p]
  clear e1p e2p ep
  refine Mt.of (by decide +kernel) (Nat.le_of_ble_eq_true rfl) (fun x hl ok hF => ?_)
  subst hl
  show wp x 0 [(0, .ref x0), (1, .int x1), (2, .int x2)] [] h
  unfold f_X9_counts at hq
  obtain ⟨h0, eh0⟩ : ∃ h0 : HP, h = h0 := ⟨h, rfl⟩
  have e : h.1 = h0.1 := by rw [eh0]
  rw [eh0] at hF
  obtain ⟨g_x0, hq⟩ := gP_some hq
  obtain ⟨n_x0, f_x0⟩ := kO_some g_x0
  replace f_x0 := sh_of e.symm f_x0
  refine wp_iload_n (v := x1) ok dX9_counts_0 rfl ?_
  refine wp_iconst (v := 0) ok dX9_counts_1 (by decide) ?_
  refine wp_sipush (v := 9999) ok dX9_counts_2 (by decide) ?_
  obtain ⟨v1, e2, hq⟩ := bnd_some hq
  refine wp_callSI (As := [.int x1, .int 0, .int 9999]) (rest := []) (h1 := h) ok (m_X9_within e2 (Nat.le_refl _)) my_X9_within (w_491) pd_X9_within (Nat.le_trans (by decide) hfr) rfl rfl rfl rfl dX9_counts_5 (fun e3 => ?_)
  refine wp_if_eq (tgt := 21) ok dX9_counts_8 (by decide) (fun c4 => ?_) (fun c4 => ?_)
  · have hq := ite_t c4 hq
    refine wp_iconst (v := -1) ok dX9_counts_21 (by decide) ?_
    exact wp_iret ok hF rfl e (re2I hq) dX9_counts_22
  · have hq := ite_f c4 hq
    refine wp_iload_n (v := x2) ok dX9_counts_11 rfl ?_
    refine wp_iconst (v := 1) ok dX9_counts_12 (by decide) ?_
    refine wp_bipush (v := 99) ok dX9_counts_13 (by decide) ?_
    obtain ⟨v5, e6, hq⟩ := bnd_some hq
    refine wp_callSI (As := [.int x2, .int 1, .int 99]) (rest := []) (h1 := h) ok (m_X9_within e6 (Nat.le_refl _)) my_X9_within (w_491) pd_X9_within (Nat.le_trans (by decide) hfr) rfl rfl rfl rfl dX9_counts_15 (fun e7 => ?_)
    refine wp_if_ne (tgt := 23) ok dX9_counts_18 (by decide) (fun c8 => ?_) (fun c8 => ?_)
    · have hq := ite_f c8 hq
      refine wp_sipush (v := 10000) ok dX9_counts_23 (by decide) ?_
      refine wp_istore_n (L' := [(3, .int 10000), (0, .ref x0), (1, .int x1), (2, .int x2)]) ok dX9_counts_26 rfl rfl ?_
      refine wp_sub (L' := [(3, .int 10000), (0, .ref x0), (1, .int x1), (2, .int x2)]) [0, 1, 2, 3] rfl ?_
      refine l_X9_counts_B27 ok hfr e f_x0 hF ?_ N 10000 hq
      · intro x16 hq
        refine wp_iload_n (v := x1) ok dX9_counts_50 rfl ?_
        refine wp_iload_n (v := x2) ok dX9_counts_51 rfl ?_
        obtain ⟨v17, e18, hq⟩ := bnd_some hq
        refine wp_callSI (As := [.int x1, .int x2]) (rest := []) (h1 := h) ok (m_X9_counted e18 (Nat.le_refl _)) my_X9_counted (w_834) pd_X9_counted (Nat.le_trans (by decide) hfr) rfl rfl rfl rfl dX9_counts_52 (fun e19 => ?_)
        refine wp_istore (L' := [(4, .int v17), (3, .int x16), (0, .ref x0), (1, .int x1), (2, .int x2)]) ok dX9_counts_55 rfl rfl ?_
        refine wp_aload_n (v := x0) ok dX9_counts_57 rfl ?_
        obtain ⟨t20, e21, hq⟩ := bnd_some hq
        obtain ⟨e22, n23, f24⟩ := rK_some e21
        replace f24 := sh_of (e).symm f24
        refine wp_getR ok fl_RX9_19 (sh_of e f_x0) e22 dX9_counts_58 ?_
        refine wp_iload (v := v17) ok dX9_counts_61 rfl ?_
        refine wp_iload_n (v := x1) ok dX9_counts_63 rfl ?_
        obtain ⟨k25, ek25, hq⟩ := jn1_some hq
        have kk25 : ∀ (y26 : Int64), k25 y26 = some rp → wp x 72 [(4, .int v17), (3, .int x16)] [.long y26, .ref t20] h := by
          intro y26 hq
          have hq := (ek25 y26).symm.trans hq
          refine wp_iload_n (v := x16) ok dX9_counts_72 rfl ?_
          refine wp_i2l ok dX9_counts_73 ?_
          obtain ⟨h27, e28, hq⟩ := bnd_some hq
          refine wp_callVV (As := [.long y26, .long (x16.toInt64)]) (rest := []) (h1 := h27) ok (m_X6_tell_ e28 (Nat.le_refl _)) my_X6_tell_ (w_571) pd_X6_tell_ (Nat.le_trans (by decide) hfr) rfl (ci := 6) rfl (by decide) (sh_of e f24) rfl rfl rfl dX9_counts_74 (fun e29 => ?_)
          have e30 : h27.1 = h0.1 := (e29).trans e
          refine wp_iload (v := v17) ok dX9_counts_77 rfl ?_
          exact wp_iret ok hF rfl e30 (re2I hq) dX9_counts_79
        refine wp_icmp_le (tgt := 71) ok dX9_counts_64 (by decide) (fun c31 => ?_) (fun c31 => ?_)
        · have hq := ite_t c31 hq
          refine wp_lconst (v := 0) ok dX9_counts_71 (by decide) ?_
          refine wp_sub (L' := [(4, .int v17), (3, .int x16)]) [0, 1] rfl ?_
          exact kk25 0 hq
        · have hq := ite_f c31 hq
          refine wp_lconst (v := 1) ok dX9_counts_67 (by decide) ?_
          refine wp_goto (tgt := 72) ok dX9_counts_68 (by decide) ?_
          refine wp_sub (L' := [(4, .int v17), (3, .int x16)]) [0, 1] rfl ?_
          exact kk25 1 hq
    · have hq := ite_t c8 hq
      refine wp_iconst (v := -1) ok dX9_counts_21 (by decide) ?_
      exact wp_iret ok hF rfl e (re2I hq) dX9_counts_22
set_option maxHeartbeats 4000000 in
set_option maxRecDepth 100000 in
theorem s_X9_pays_B60 {x : Cx} {h0 : HP} {N fr : Nat} {rr : (Int32 × HP)} (ok : Okx x cX9_pays yX9_pays.cls 5 fr) (hfr : 3 ≤ fr)  {x0 : Nat} {x1 : Int32} {h : HP} (e : h.1 = h0.1) {n_x0 : Nat} (f_x0 : h0.1[x0]? = some (9, n_x0)) (hF : Fend x h0 (some (.int)) (QI rr.1 rr.2)) {k110 : Int32 → Option (Int32 × HP)} (hk110 : ∀ (x3 : Int32), k110 x3 = some rr → wp x 110 [(3, .int x3), (0, .ref x0)] [] h) {rc : Int32 → Int32 → Option (Int32 × HP)} (ih : ∀ (x3 : Int32) (x4 : Int32), rc x3 x4 = some rr → wp x 60 [(3, .int x3), (4, .int x4), (0, .ref x0), (1, .int x1)] [] h) : ∀ (x3 : Int32) (x4 : Int32), f_X9_pays_B60 N x0 x1 h k110 rc x3 x4 = some rr → wp x 60 [(3, .int x3), (4, .int x4), (0, .ref x0), (1, .int x1)] [] h := by
  intro x3 x4 hq
  unfold f_X9_pays_B60 at hq
  refine wp_iload (v := x4) ok dX9_pays_60 rfl ?_
  refine wp_iconst (v := 1) ok dX9_pays_62 (by decide) ?_
  refine wp_aload_n (v := x0) ok dX9_pays_63 rfl ?_
  obtain ⟨t30, e31, hq⟩ := bnd_some hq
  obtain ⟨e32, n33, f34⟩ := rK_some e31
  replace f34 := sh_of (e).symm f34
  refine wp_getR ok fl_RX9_63 (sh_of e f_x0) e32 dX9_pays_64 ?_
  refine wp_getI ok fl_RX9_118 (sh_of e f34) dX9_pays_67 ?_
  refine wp_ishl ok dX9_pays_70 ?_
  refine wp_icmp_ge (tgt := 110) ok dX9_pays_71 (by decide) (fun c35 => ?_) (fun c35 => ?_)
  · have hq := ite_t c35 hq
    refine wp_sub (L' := [(3, .int x3), (0, .ref x0)]) [0, 2] rfl ?_
    exact hk110 x3 hq
  · have hq := ite_f c35 hq
    refine wp_aload_n (v := x0) ok dX9_pays_74 rfl ?_
    obtain ⟨t36, e37, hq⟩ := bnd_some hq
    obtain ⟨e38, n39, f40⟩ := rK_some e37
    replace f40 := sh_of (e).symm f40
    refine wp_getR ok fl_RX9_63 (sh_of e f_x0) e38 dX9_pays_75 ?_
    refine wp_iload (v := x4) ok dX9_pays_78 rfl ?_
    obtain ⟨v41, e42, hq⟩ := bnd_some hq
    refine wp_callVI (As := [.int x4]) (rest := []) (h1 := h) ok (m_X3_sum e42 (Nat.le_refl _)) my_X3_sum (w_841) pd_X3_sum (Nat.le_trans (by decide) hfr) rfl (ci := 3) rfl (by decide) (sh_of e f40) rfl rfl rfl dX9_pays_80 (fun e43 => ?_)
    refine wp_iload_n (v := x1) ok dX9_pays_83 rfl ?_
    refine wp_icmp_ne (tgt := 104) ok dX9_pays_84 (by decide) (fun c44 => ?_) (fun c44 => ?_)
    · have hq := ite_f c44 hq
      obtain ⟨v45, e46, hq⟩ := lt_some hq
      refine wp_iinc (v := x4) (w := 1) (L' := [(4, .int v45), (3, .int x3), (0, .ref x0), (1, .int x1)]) ok dX9_pays_104 rfl (by decide) rfl (by rw [← e46]; rfl) ?_
      refine wp_goto (tgt := 60) ok dX9_pays_107 (by decide) ?_
      refine wp_sub (L' := [(3, .int x3), (4, .int v45), (0, .ref x0), (1, .int x1)]) [1, 0, 2, 3] rfl ?_
      exact ih x3 v45 hq
    · have hq := ite_t c44 hq
      refine wp_iload_n (v := x3) ok dX9_pays_87 rfl ?_
      refine wp_iconst (v := -1) ok dX9_pays_88 (by decide) ?_
      refine wp_icmp_eq (tgt := 101) ok dX9_pays_89 (by decide) (fun c47 => ?_) (fun c47 => ?_)
      · have hq := ite_t c47 hq
        refine wp_iload (v := x4) ok dX9_pays_101 rfl ?_
        refine wp_istore_n (L' := [(3, .int x4), (4, .int x4), (0, .ref x0), (1, .int x1)]) ok dX9_pays_103 rfl rfl ?_
        obtain ⟨v48, e49, hq⟩ := lt_some hq
        refine wp_iinc (v := x4) (w := 1) (L' := [(4, .int v48), (3, .int x4), (0, .ref x0), (1, .int x1)]) ok dX9_pays_104 rfl (by decide) rfl (by rw [← e49]; rfl) ?_
        refine wp_goto (tgt := 60) ok dX9_pays_107 (by decide) ?_
        refine wp_sub (L' := [(3, .int x4), (4, .int v48), (0, .ref x0), (1, .int x1)]) [1, 0, 2, 3] rfl ?_
        exact ih x4 v48 hq
      · have hq := ite_f c47 hq
        refine wp_iload (v := x4) ok dX9_pays_92 rfl ?_
        refine wp_iload_n (v := x3) ok dX9_pays_94 rfl ?_
        obtain ⟨v50, e51, hq⟩ := bnd_some hq
        refine wp_callSI (As := [.int x4, .int x3]) (rest := []) (h1 := h) ok (m_X9_hasFewer e51 (Nat.le_refl _)) my_X9_hasFewer (w_771) pd_X9_hasFewer (Nat.le_trans (by decide) hfr) rfl rfl rfl rfl dX9_pays_95 (fun e52 => ?_)
        refine wp_if_eq (tgt := 104) ok dX9_pays_98 (by decide) (fun c53 => ?_) (fun c53 => ?_)
        · have hq := ite_t c53 hq
          obtain ⟨v54, e55, hq⟩ := lt_some hq
          refine wp_iinc (v := x4) (w := 1) (L' := [(4, .int v54), (3, .int x3), (0, .ref x0), (1, .int x1)]) ok dX9_pays_104 rfl (by decide) rfl (by rw [← e55]; rfl) ?_
          refine wp_goto (tgt := 60) ok dX9_pays_107 (by decide) ?_
          refine wp_sub (L' := [(3, .int x3), (4, .int v54), (0, .ref x0), (1, .int x1)]) [1, 0, 2, 3] rfl ?_
          exact ih x3 v54 hq
        · have hq := ite_f c53 hq
          refine wp_iload (v := x4) ok dX9_pays_101 rfl ?_
          refine wp_istore_n (L' := [(3, .int x4), (4, .int x4), (0, .ref x0), (1, .int x1)]) ok dX9_pays_103 rfl rfl ?_
          obtain ⟨v56, e57, hq⟩ := lt_some hq
          refine wp_iinc (v := x4) (w := 1) (L' := [(4, .int v56), (3, .int x4), (0, .ref x0), (1, .int x1)]) ok dX9_pays_104 rfl (by decide) rfl (by rw [← e57]; rfl) ?_
          refine wp_goto (tgt := 60) ok dX9_pays_107 (by decide) ?_
          refine wp_sub (L' := [(3, .int x4), (4, .int v56), (0, .ref x0), (1, .int x1)]) [1, 0, 2, 3] rfl ?_
          exact ih x4 v56 hq
set_option maxHeartbeats 4000000 in
set_option maxRecDepth 100000 in
theorem l_X9_pays_B60 {x : Cx} {h0 : HP} {N fr : Nat} {rr : (Int32 × HP)} (ok : Okx x cX9_pays yX9_pays.cls 5 fr) (hfr : 3 ≤ fr)  {x0 : Nat} {x1 : Int32} {h : HP} (e : h.1 = h0.1) {n_x0 : Nat} (f_x0 : h0.1[x0]? = some (9, n_x0)) (hF : Fend x h0 (some (.int)) (QI rr.1 rr.2)) {k110 : Int32 → Option (Int32 × HP)} (hk110 : ∀ (x3 : Int32), k110 x3 = some rr → wp x 110 [(3, .int x3), (0, .ref x0)] [] h) : ∀ (n : Nat) (x3 : Int32) (x4 : Int32), lp (fun _ _ => none) (f_X9_pays_B60 N x0 x1 h k110) n x3 x4 = some rr → wp x 60 [(3, .int x3), (4, .int x4), (0, .ref x0), (1, .int x1)] [] h := by
  intro n
  induction n with
  | zero => intro x3 x4 hq; exact (Option.some_ne_none _ hq.symm).elim
  | succ n ih => exact s_X9_pays_B60 ok hfr e f_x0 hF hk110 ih
set_option maxHeartbeats 4000000 in
set_option maxRecDepth 100000 in
theorem m_X9_pays {l : Launch} {h : HP} {N : Nat} {x0 : Nat} {x1 : Int32} {rr : Int32} {rh : HP} {fr : Nat} (hq : f_X9_pays N h x0 x1 = some (rr, rh)) (hfr : 3 ≤ fr) : Mt l yX9_pays cX9_pays 5 (some (.int)) fr [.ref x0, .int x1] h (QI rr rh) := by
  obtain ⟨rp, ep⟩ : ∃ rp : (Int32 × HP), rp = (rr, rh) := ⟨_, rfl⟩
  have e1p : rr = rp.1 := (congrArg Prod.fst ep).symm
  have e2p : rh = rp.2 := (congrArg Prod.snd ep).symm
  rw [← ep] at hq
  rw [e1p, e2p]
  clear e1p e2p ep
  refine Mt.of (by decide +kernel) (Nat.le_of_ble_eq_true rfl) (fun x hl ok hF => ?_)
  subst hl
  show wp x 0 [(0, .ref x0), (1, .int x1)] [] h
  unfold f_X9_pays at hq
  obtain ⟨h0, eh0⟩ : ∃ h0 : HP, h = h0 := ⟨h, rfl⟩
  have e : h.1 = h0.1 := by rw [eh0]
  rw [eh0] at hF
  obtain ⟨g_x0, hq⟩ := gP_some hq
  obtain ⟨n_x0, f_x0⟩ := kO_some g_x0
  replace f_x0 := sh_of e.symm f_x0
  refine wp_iload_n (v := x1) ok dX9_pays_0 rfl ?_
  refine wp_iconst (v := 0) ok dX9_pays_1 (by decide) ?_
  refine wp_sipush (v := 9999) ok dX9_pays_2 (by decide) ?_
  obtain ⟨v1, e2, hq⟩ := bnd_some hq
  refine wp_callSI (As := [.int x1, .int 0, .int 9999]) (rest := []) (h1 := h) ok (m_X9_within e2 (Nat.le_refl _)) my_X9_within (w_491) pd_X9_within (Nat.le_trans (by decide) hfr) rfl rfl rfl rfl dX9_pays_5 (fun e3 => ?_)
  refine wp_if_ne (tgt := 22) ok dX9_pays_8 (by decide) (fun c4 => ?_) (fun c4 => ?_)
  · have hq := ite_f c4 hq
    refine wp_aload_n (v := x0) ok dX9_pays_22 rfl ?_
    obtain ⟨t5, e6, hq⟩ := bnd_some hq
    obtain ⟨e7, n8, f9⟩ := rK_some e6
    replace f9 := sh_of (e).symm f9
    refine wp_getR ok fl_RX9_63 (sh_of e f_x0) e7 dX9_pays_23 ?_
    refine wp_aload_n (v := x0) ok dX9_pays_26 rfl ?_
    obtain ⟨t10, e11, hq⟩ := bnd_some hq
    obtain ⟨e12, n13, f14⟩ := rK_some e11
    replace f14 := sh_of (e).symm f14
    refine wp_getR ok fl_RX9_10 (sh_of e f_x0) e12 dX9_pays_27 ?_
    refine wp_bipush (v := 80) ok dX9_pays_30 (by decide) ?_
    refine wp_bipush (v := 8) ok dX9_pays_32 (by decide) ?_
    refine wp_iconst (v := 3) ok dX9_pays_34 (by decide) ?_
    obtain ⟨v15, h17, e16, hq⟩ := bnd2_some hq
    refine wp_callVI (As := [.ref t10, .int 80, .int 8, .int 3]) (rest := []) (h1 := h17) ok (m_X3_read e16 (Nat.le_refl _)) my_X3_read (w_305) pd_X3_read (Nat.le_trans (by decide) hfr) rfl (ci := 3) rfl (by decide) (sh_of e f9) rfl rfl rfl dX9_pays_35 (fun e18 => ?_)
    have e19 : h17.1 = h0.1 := (e18).trans e
    refine wp_istore_n (L' := [(2, .int v15), (0, .ref x0), (1, .int x1)]) ok dX9_pays_38 rfl rfl ?_
    refine wp_aload_n (v := x0) ok dX9_pays_39 rfl ?_
    obtain ⟨t20, e21, hq⟩ := bnd_some hq
    obtain ⟨e22, n23, f24⟩ := rK_some e21
    replace f24 := sh_of (e19).symm f24
    refine wp_getR ok fl_RX9_10 (sh_of e19 f_x0) e22 dX9_pays_40 ?_
    obtain ⟨h25, e26, hq⟩ := bnd_some hq
    refine wp_callVV (As := []) (rest := []) (h1 := h25) ok (m_X8_empty e26 (Nat.le_refl _)) my_X8_empty (w_328) pd_X8_empty (Nat.le_trans (by decide) hfr) rfl (ci := 8) rfl (by decide) (sh_of e19 f24) rfl rfl rfl dX9_pays_43 (fun e27 => ?_)
    have e28 : h25.1 = h0.1 := (e27).trans e19
    refine wp_iload_n (v := v15) ok dX9_pays_46 rfl ?_
    refine wp_iconst (v := -1) ok dX9_pays_47 (by decide) ?_
    refine wp_icmp_eq (tgt := 55) ok dX9_pays_48 (by decide) (fun c29 => ?_) (fun c29 => ?_)
    · have hq := ite_t c29 hq
      refine wp_iconst (v := -1) ok dX9_pays_55 (by decide) ?_
      refine wp_istore_n (L' := [(3, .int (-1)), (2, .int v15), (0, .ref x0), (1, .int x1)]) ok dX9_pays_56 rfl rfl ?_
      refine wp_iconst (v := 0) ok dX9_pays_57 (by decide) ?_
      refine wp_istore (L' := [(4, .int 0), (3, .int (-1)), (2, .int v15), (0, .ref x0), (1, .int x1)]) ok dX9_pays_58 rfl rfl ?_
      refine wp_sub (L' := [(3, .int (-1)), (4, .int 0), (0, .ref x0), (1, .int x1)]) [1, 0, 3, 4] rfl ?_
      refine l_X9_pays_B60 ok hfr e28 f_x0 hF ?_ N (-1) 0 hq
      · intro x58 hq
        refine wp_iload_n (v := x58) ok dX9_pays_110 rfl ?_
        refine wp_iconst (v := -1) ok dX9_pays_111 (by decide) ?_
        refine wp_icmp_ne (tgt := 119) ok dX9_pays_112 (by decide) (fun c59 => ?_) (fun c59 => ?_)
        · have hq := ite_f c59 hq
          refine wp_aload_n (v := x0) ok dX9_pays_119 rfl ?_
          obtain ⟨t60, e61, hq⟩ := bnd_some hq
          obtain ⟨e62, n63, f64⟩ := rK_some e61
          replace f64 := sh_of (e28).symm f64
          refine wp_getR ok fl_RX9_19 (sh_of e28 f_x0) e62 dX9_pays_120 ?_
          refine wp_iload_n (v := x58) ok dX9_pays_123 rfl ?_
          refine wp_i2l ok dX9_pays_124 ?_
          obtain ⟨h65, e66, hq⟩ := bnd_some hq
          refine wp_callVV (As := [.long (x58.toInt64)]) (rest := []) (h1 := h65) ok (m_X6_tell e66 (Nat.le_refl _)) my_X6_tell (w_718) pd_X6_tell (Nat.le_trans (by decide) hfr) rfl (ci := 6) rfl (by decide) (sh_of e28 f64) rfl rfl rfl dX9_pays_125 (fun e67 => ?_)
          have e68 : h65.1 = h0.1 := (e67).trans e28
          refine wp_iload_n (v := x58) ok dX9_pays_128 rfl ?_
          obtain ⟨v69, e70, hq⟩ := bnd_some hq
          refine wp_callSI (As := [.int x58]) (rest := []) (h1 := h65) ok (m_J6_bitCount_0f7a4 e70 (Nat.le_refl _)) my_J6_bitCount_0f7a4 (w_761) pd_J6_bitCount_0f7a4 (Nat.le_trans (by decide) hfr) rfl rfl rfl rfl dX9_pays_129 (fun e71 => ?_)
          exact wp_iret ok hF rfl e68 (re2I hq) dX9_pays_132
        · have hq := ite_t c59 hq
          refine wp_sipush (v := -10000) ok dX9_pays_115 (by decide) ?_
          exact wp_iret ok hF rfl e28 (re2I hq) dX9_pays_118
    · have hq := ite_f c29 hq
      refine wp_iconst (v := -1) ok dX9_pays_51 (by decide) ?_
      refine wp_iload_n (v := v15) ok dX9_pays_52 rfl ?_
      refine wp_isub ok dX9_pays_53 ?_
      exact wp_iret ok hF rfl e28 (re2I hq) dX9_pays_54
  · have hq := ite_t c4 hq
    refine wp_aload_n (v := x0) ok dX9_pays_11 rfl ?_
    obtain ⟨t72, e73, hq⟩ := bnd_some hq
    obtain ⟨e74, n75, f76⟩ := rK_some e73
    replace f76 := sh_of (e).symm f76
    refine wp_getR ok fl_RX9_10 (sh_of e f_x0) e74 dX9_pays_12 ?_
    obtain ⟨h77, e78, hq⟩ := bnd_some hq
    refine wp_callVV (As := []) (rest := []) (h1 := h77) ok (m_X8_empty e78 (Nat.le_refl _)) my_X8_empty (w_328) pd_X8_empty (Nat.le_trans (by decide) hfr) rfl (ci := 8) rfl (by decide) (sh_of e f76) rfl rfl rfl dX9_pays_15 (fun e79 => ?_)
    have e80 : h77.1 = h0.1 := (e79).trans e
    refine wp_sipush (v := -20000) ok dX9_pays_18 (by decide) ?_
    exact wp_iret ok hF rfl e80 (re2I hq) dX9_pays_21
set_option maxHeartbeats 4000000 in
set_option maxRecDepth 100000 in
theorem m_X9_bearers {l : Launch} {h : HP} {x0 : Nat} {x1 : Int32} {x2 : Int32} {rr : Int32} {rh : HP} {fr : Nat} (hq : f_X9_bearers h x0 x1 x2 = some (rr, rh)) (hfr : 2 ≤ fr) : Mt l yX9_bearers cX9_bearers 4 (some (.int)) fr [.ref x0, .int x1, .int x2] h (QI rr rh) := by
  obtain ⟨rp, ep⟩ : ∃ rp : (Int32 × HP), rp = (rr, rh) := ⟨_, rfl⟩
  have e1p : rr = rp.1 := (congrArg Prod.fst ep).symm
  have e2p : rh = rp.2 := (congrArg Prod.snd ep).symm
  rw [← ep] at hq
  rw [e1p, e2p]
  clear e1p e2p ep
  refine Mt.of (by decide +kernel) (Nat.le_of_ble_eq_true rfl) (fun x hl ok hF => ?_)
  subst hl
  show wp x 0 [(0, .ref x0), (1, .int x1), (2, .int x2)] [] h
  unfold f_X9_bearers at hq
  obtain ⟨h0, eh0⟩ : ∃ h0 : HP, h = h0 := ⟨h, rfl⟩
  have e : h.1 = h0.1 := by rw [eh0]
  rw [eh0] at hF
  obtain ⟨g_x0, hq⟩ := gP_some hq
  obtain ⟨n_x0, f_x0⟩ := kO_some g_x0
  replace f_x0 := sh_of e.symm f_x0
  refine wp_iload_n (v := x1) ok dX9_bearers_0 rfl ?_
  refine wp_iconst (v := 0) ok dX9_bearers_1 (by decide) ?_
  refine wp_ldcw (v := 99999) ok (w_786) dX9_bearers_2 ?_
  obtain ⟨v1, e2, hq⟩ := bnd_some hq
  refine wp_callSI (As := [.int x1, .int 0, .int 99999]) (rest := []) (h1 := h) ok (m_X9_within e2 (Nat.le_refl _)) my_X9_within (w_491) pd_X9_within (Nat.le_trans (by decide) hfr) rfl rfl rfl rfl dX9_bearers_5 (fun e3 => ?_)
  refine wp_if_eq (tgt := 22) ok dX9_bearers_8 (by decide) (fun c4 => ?_) (fun c4 => ?_)
  · have hq := ite_t c4 hq
    refine wp_iconst (v := -1) ok dX9_bearers_22 (by decide) ?_
    exact wp_iret ok hF rfl e (re2I hq) dX9_bearers_23
  · have hq := ite_f c4 hq
    refine wp_aload_n (v := x0) ok dX9_bearers_11 rfl ?_
    obtain ⟨t5, e6, hq⟩ := bnd_some hq
    obtain ⟨e7, n8, f9⟩ := rK_some e6
    replace f9 := sh_of (e).symm f9
    refine wp_getR ok fl_RX9_26 (sh_of e f_x0) e7 dX9_bearers_12 ?_
    refine wp_iload_n (v := x2) ok dX9_bearers_15 rfl ?_
    obtain ⟨v10, e11, hq⟩ := bnd_some hq
    refine wp_callVI (As := [.int x2]) (rest := []) (h1 := h) ok (m_X0_has e11 (Nat.le_refl _)) my_X0_has (w_561) pd_X0_has (Nat.le_trans (by decide) hfr) rfl (ci := 0) rfl (by decide) (sh_of e f9) rfl rfl rfl dX9_bearers_16 (fun e12 => ?_)
    refine wp_if_ne (tgt := 24) ok dX9_bearers_19 (by decide) (fun c13 => ?_) (fun c13 => ?_)
    · have hq := ite_f c13 hq
      refine wp_iload_n (v := x1) ok dX9_bearers_24 rfl ?_
      refine wp_sipush (v := 400) ok dX9_bearers_25 (by decide) ?_
      obtain ⟨v14, e15, hq⟩ := bnd_some hq
      refine wp_callSI (As := [.int x1, .int 400]) (rest := []) (h1 := h) ok (m_X9_roundedUp e15 (Nat.le_refl _)) my_X9_roundedUp (w_827) pd_X9_roundedUp (Nat.le_trans (by decide) hfr) rfl rfl rfl rfl dX9_bearers_28 (fun e16 => ?_)
      refine wp_istore_n (L' := [(3, .int v14), (0, .ref x0), (1, .int x1), (2, .int x2)]) ok dX9_bearers_31 rfl rfl ?_
      refine wp_aload_n (v := x0) ok dX9_bearers_32 rfl ?_
      obtain ⟨t17, e18, hq⟩ := bnd_some hq
      obtain ⟨e19, n20, f21⟩ := rK_some e18
      replace f21 := sh_of (e).symm f21
      refine wp_getR ok fl_RX9_19 (sh_of e f_x0) e19 dX9_bearers_33 ?_
      refine wp_iconst (v := 0) ok dX9_bearers_36 (by decide) ?_
      refine wp_iload_n (v := x1) ok dX9_bearers_37 rfl ?_
      refine wp_iload_n (v := v14) ok dX9_bearers_38 rfl ?_
      refine wp_bipush (v := 10) ok dX9_bearers_39 (by decide) ?_
      refine wp_imul ok dX9_bearers_41 ?_
      refine wp_iload_n (v := x2) ok dX9_bearers_42 rfl ?_
      refine wp_imul ok dX9_bearers_43 ?_
      refine wp_isub ok dX9_bearers_44 ?_
      obtain ⟨v22, e23, hq⟩ := bnd_some hq
      refine wp_callSI (As := [.int 0, .int (x1 - ((v14 * 10) * x2))]) (rest := [.ref t17]) (h1 := h) ok (m_J9_max_7cf53 e23 (Nat.le_refl _)) my_J9_max_7cf53 (w_505) pd_J9_max_7cf53 (Nat.le_trans (by decide) hfr) rfl rfl rfl rfl dX9_bearers_45 (fun e24 => ?_)
      refine wp_i2l ok dX9_bearers_48 ?_
      obtain ⟨h25, e26, hq⟩ := bnd_some hq
      refine wp_callVV (As := [.long (v22.toInt64)]) (rest := []) (h1 := h25) ok (m_X6_tell e26 (Nat.le_refl _)) my_X6_tell (w_718) pd_X6_tell (Nat.le_trans (by decide) hfr) rfl (ci := 6) rfl (by decide) (sh_of e f21) rfl rfl rfl dX9_bearers_49 (fun e27 => ?_)
      have e28 : h25.1 = h0.1 := (e27).trans e
      refine wp_iload_n (v := v14) ok dX9_bearers_52 rfl ?_
      exact wp_iret ok hF rfl e28 (re2I hq) dX9_bearers_53
    · have hq := ite_t c13 hq
      refine wp_iconst (v := -1) ok dX9_bearers_22 (by decide) ?_
      exact wp_iret ok hF rfl e (re2I hq) dX9_bearers_23
set_option maxHeartbeats 4000000 in
set_option maxRecDepth 100000 in
theorem m_X9_left {l : Launch} {h : HP} {x0 : Nat} {x1 : Int32} {x2 : Int32} {rr : Int32} {rh : HP} {fr : Nat} (hq : f_X9_left h x0 x1 x2 = some (rr, rh)) (hfr : 1 ≤ fr) : Mt l yX9_left cX9_left 3 (some (.int)) fr [.ref x0, .int x1, .int x2] h (QI rr rh) := by
  obtain ⟨rp, ep⟩ : ∃ rp : (Int32 × HP), rp = (rr, rh) := ⟨_, rfl⟩
  have e1p : rr = rp.1 := (congrArg Prod.fst ep).symm
  have e2p : rh = rp.2 := (congrArg Prod.snd ep).symm
  rw [← ep] at hq
  rw [e1p, e2p]
  clear e1p e2p ep
  refine Mt.of (by decide +kernel) (Nat.le_of_ble_eq_true rfl) (fun x hl ok hF => ?_)
  subst hl
  show wp x 0 [(0, .ref x0), (1, .int x1), (2, .int x2)] [] h
  unfold f_X9_left at hq
  obtain ⟨h0, eh0⟩ : ∃ h0 : HP, h = h0 := ⟨h, rfl⟩
  have e : h.1 = h0.1 := by rw [eh0]
  rw [eh0] at hF
  obtain ⟨g_x0, hq⟩ := gP_some hq
  obtain ⟨n_x0, f_x0⟩ := kO_some g_x0
  replace f_x0 := sh_of e.symm f_x0
  refine wp_iload_n (v := x1) ok dX9_left_0 rfl ?_
  refine wp_iconst (v := 2) ok dX9_left_1 (by decide) ?_
  refine wp_bipush (v := 40) ok dX9_left_2 (by decide) ?_
  obtain ⟨v1, e2, hq⟩ := bnd_some hq
  refine wp_callSI (As := [.int x1, .int 2, .int 40]) (rest := []) (h1 := h) ok (m_X9_within e2 (Nat.le_refl _)) my_X9_within (w_491) pd_X9_within (Nat.le_trans (by decide) hfr) rfl rfl rfl rfl dX9_left_4 (fun e3 => ?_)
  refine wp_if_eq (tgt := 21) ok dX9_left_7 (by decide) (fun c4 => ?_) (fun c4 => ?_)
  · have hq := ite_t c4 hq
    refine wp_iconst (v := -1) ok dX9_left_21 (by decide) ?_
    exact wp_iret ok hF rfl e (re2I hq) dX9_left_22
  · have hq := ite_f c4 hq
    refine wp_iload_n (v := x2) ok dX9_left_10 rfl ?_
    refine wp_iconst (v := 0) ok dX9_left_11 (by decide) ?_
    refine wp_iload_n (v := x1) ok dX9_left_12 rfl ?_
    refine wp_iconst (v := 1) ok dX9_left_13 (by decide) ?_
    refine wp_isub ok dX9_left_14 ?_
    obtain ⟨v5, e6, hq⟩ := bnd_some hq
    refine wp_callSI (As := [.int x2, .int 0, .int (x1 - 1)]) (rest := []) (h1 := h) ok (m_X9_within e6 (Nat.le_refl _)) my_X9_within (w_491) pd_X9_within (Nat.le_trans (by decide) hfr) rfl rfl rfl rfl dX9_left_15 (fun e7 => ?_)
    refine wp_if_ne (tgt := 23) ok dX9_left_18 (by decide) (fun c8 => ?_) (fun c8 => ?_)
    · have hq := ite_f c8 hq
      refine wp_aload_n (v := x0) ok dX9_left_23 rfl ?_
      obtain ⟨t9, e10, hq⟩ := bnd_some hq
      obtain ⟨e11, n12, f13⟩ := rK_some e10
      replace f13 := sh_of (e).symm f13
      refine wp_getR ok fl_RX9_70 (sh_of e f_x0) e11 dX9_left_24 ?_
      refine wp_iload_n (v := x1) ok dX9_left_27 rfl ?_
      refine wp_iload_n (v := x2) ok dX9_left_28 rfl ?_
      obtain ⟨v14, h16, e15, hq⟩ := bnd2_some hq
      refine wp_callVI (As := [.int x1, .int x2]) (rest := []) (h1 := h16) ok (m_X2_hear e15 (Nat.le_refl _)) my_X2_hear (w_853) pd_X2_hear (Nat.le_trans (by decide) hfr) rfl (ci := 2) rfl (by decide) (sh_of e f13) rfl rfl rfl dX9_left_29 (fun e17 => ?_)
      have e18 : h16.1 = h0.1 := (e17).trans e
      refine wp_if_eq (tgt := 45) ok dX9_left_32 (by decide) (fun c19 => ?_) (fun c19 => ?_)
      · have hq := ite_t c19 hq
        refine wp_iconst (v := -1) ok dX9_left_45 (by decide) ?_
        exact wp_iret ok hF rfl e18 (re2I hq) dX9_left_46
      · have hq := ite_f c19 hq
        refine wp_aload_n (v := x0) ok dX9_left_35 rfl ?_
        obtain ⟨t20, e21, hq⟩ := bnd_some hq
        obtain ⟨e22, n23, f24⟩ := rK_some e21
        replace f24 := sh_of (e18).symm f24
        refine wp_getR ok fl_RX9_70 (sh_of e18 f_x0) e22 dX9_left_36 ?_
        refine wp_getI ok fl_RX9_367 (sh_of e18 f24) dX9_left_39 ?_
        refine wp_goto (tgt := 46) ok dX9_left_42 (by decide) ?_
        exact wp_iret ok hF rfl e18 (re2I hq) dX9_left_46
    · have hq := ite_t c8 hq
      refine wp_iconst (v := -1) ok dX9_left_21 (by decide) ?_
      exact wp_iret ok hF rfl e (re2I hq) dX9_left_22
set_option maxHeartbeats 4000000 in
set_option maxRecDepth 100000 in
theorem m_X9_forget {l : Launch} {h : HP} {x0 : Nat} {rr : Int32} {rh : HP} {fr : Nat} (hq : f_X9_forget h x0 = some (rr, rh)) (hfr : 0 ≤ fr) : Mt l yX9_forget cX9_forget 2 (some (.int)) fr [.ref x0] h (QI rr rh) := by
  obtain ⟨rp, ep⟩ : ∃ rp : (Int32 × HP), rp = (rr, rh) := ⟨_, rfl⟩
  have e1p : rr = rp.1 := (congrArg Prod.fst ep).symm
  have e2p : rh = rp.2 := (congrArg Prod.snd ep).symm
  rw [← ep] at hq
  rw [e1p, e2p]
  clear e1p e2p ep
  refine Mt.of (by decide +kernel) (Nat.le_of_ble_eq_true rfl) (fun x hl ok hF => ?_)
  subst hl
  show wp x 0 [(0, .ref x0)] [] h
  unfold f_X9_forget at hq
  obtain ⟨h0, eh0⟩ : ∃ h0 : HP, h = h0 := ⟨h, rfl⟩
  have e : h.1 = h0.1 := by rw [eh0]
  rw [eh0] at hF
  obtain ⟨g_x0, hq⟩ := gP_some hq
  obtain ⟨n_x0, f_x0⟩ := kO_some g_x0
  replace f_x0 := sh_of e.symm f_x0
  refine wp_aload_n (v := x0) ok dX9_forget_0 rfl ?_
  obtain ⟨t1, e2, hq⟩ := bnd_some hq
  obtain ⟨e3, n4, f5⟩ := rK_some e2
  replace f5 := sh_of (e).symm f5
  refine wp_getR ok fl_RX9_70 (sh_of e f_x0) e3 dX9_forget_1 ?_
  refine wp_getI ok fl_RX9_367 (sh_of e f5) dX9_forget_4 ?_
  obtain ⟨v6, e7, hq⟩ := lt_some hq
  refine wp_nmI e7 ?_
  refine wp_istore_n (L' := [(1, .int v6), (0, .ref x0)]) ok dX9_forget_7 rfl rfl ?_
  refine wp_aload_n (v := x0) ok dX9_forget_8 rfl ?_
  obtain ⟨t8, e9, hq⟩ := bnd_some hq
  obtain ⟨e10, n11, f12⟩ := rK_some e9
  replace f12 := sh_of (e).symm f12
  refine wp_getR ok fl_RX9_70 (sh_of e f_x0) e10 dX9_forget_9 ?_
  refine wp_iconst (v := 0) ok dX9_forget_12 (by decide) ?_
  refine wp_putI ok flw_RX9_367 (nr_2_3 _) (sh_of e f12) dX9_forget_13 ?_
  obtain ⟨h13, e14, hq⟩ := lt_some hq
  refine wp_nmH e14 ?_
  have e15 : h13.1 = h0.1 := (congrArg Prod.fst e14).trans e
  refine wp_iload_n (v := v6) ok dX9_forget_16 rfl ?_
  exact wp_iret ok hF rfl e15 (re2I hq) dX9_forget_17
set_option maxHeartbeats 4000000 in
set_option maxRecDepth 100000 in
theorem s_X9_fits_B16 {x : Cx} {h0 : HP} {N fr : Nat} {rr : (Int32 × HP)} (ok : Okx x cX9_fits yX9_fits.cls 5 fr) (hfr : 2 ≤ fr)  {x0 : Nat} {h : HP} (e : h.1 = h0.1) {n_x0 : Nat} (f_x0 : h0.1[x0]? = some (9, n_x0)) (hF : Fend x h0 (some (.int)) (QI rr.1 rr.2)) {k60 : Int32 → Int32 → Int32 → Option (Int32 × HP)} (hk60 : ∀ (x1 : Int32) (x2 : Int32) (x3 : Int32), k60 x1 x2 x3 = some rr → wp x 60 [(1, .int x1), (2, .int x2), (3, .int x3), (0, .ref x0)] [] h) {rc : Int32 → Int32 → Int32 → Int32 → Option (Int32 × HP)} (ih : ∀ (x1 : Int32) (x2 : Int32) (x3 : Int32) (x4 : Int32), rc x1 x2 x3 x4 = some rr → wp x 16 [(1, .int x1), (2, .int x2), (3, .int x3), (4, .int x4), (0, .ref x0)] [] h) : ∀ (x1 : Int32) (x2 : Int32) (x3 : Int32) (x4 : Int32), f_X9_fits_B16 N x0 h k60 rc x1 x2 x3 x4 = some rr → wp x 16 [(1, .int x1), (2, .int x2), (3, .int x3), (4, .int x4), (0, .ref x0)] [] h := by
  intro x1 x2 x3 x4 hq
  unfold f_X9_fits_B16 at hq
  refine wp_iload (v := x4) ok dX9_fits_16 rfl ?_
  refine wp_sipush (v := 999) ok dX9_fits_18 (by decide) ?_
  refine wp_icmp_gt (tgt := 60) ok dX9_fits_21 (by decide) (fun c10 => ?_) (fun c10 => ?_)
  · have hq := ite_t c10 hq
    refine wp_sub (L' := [(1, .int x1), (2, .int x2), (3, .int x3), (0, .ref x0)]) [0, 1, 2, 4] rfl ?_
    exact hk60 x1 x2 x3 hq
  · have hq := ite_f c10 hq
    refine wp_aload_n (v := x0) ok dX9_fits_24 rfl ?_
    obtain ⟨t11, e12, hq⟩ := bnd_some hq
    obtain ⟨e13, n14, f15⟩ := rK_some e12
    replace f15 := sh_of (e).symm f15
    refine wp_getR ok fl_RX9_70 (sh_of e f_x0) e13 dX9_fits_25 ?_
    obtain ⟨t16, e17, hq⟩ := bnd_some hq
    obtain ⟨e18, n19, f20⟩ := rK_some e17
    replace f20 := sh_of (e).symm f20
    refine wp_getR ok fl_RX9_371 (sh_of e f15) e18 dX9_fits_28 ?_
    refine wp_iload (v := x4) ok dX9_fits_31 rfl ?_
    obtain ⟨g21, hq⟩ := gP_some hq
    refine wp_zald ok (sh_of e f20) (ix_of (sh_of e f20) g21) dX9_fits_33 ?_
    refine wp_if_eq (tgt := 54) ok dX9_fits_34 (by decide) (fun c22 => ?_) (fun c22 => ?_)
    · have hq := ite_t c22 hq
      obtain ⟨v23, e24, hq⟩ := lt_some hq
      refine wp_iinc (v := x4) (w := 1) (L' := [(4, .int v23), (1, .int x1), (2, .int x2), (3, .int x3), (0, .ref x0)]) ok dX9_fits_54 rfl (by decide) rfl (by rw [← e24]; rfl) ?_
      refine wp_goto (tgt := 16) ok dX9_fits_57 (by decide) ?_
      refine wp_sub (L' := [(1, .int x1), (2, .int x2), (3, .int x3), (4, .int v23), (0, .ref x0)]) [1, 2, 3, 0, 4] rfl ?_
      exact ih x1 x2 x3 v23 hq
    · have hq := ite_f c22 hq
      obtain ⟨v25, e26, hq⟩ := lt_some hq
      refine wp_iinc (v := x1) (w := 1) (L' := [(1, .int v25), (2, .int x2), (3, .int x3), (4, .int x4), (0, .ref x0)]) ok dX9_fits_37 rfl (by decide) rfl (by rw [← e26]; rfl) ?_
      refine wp_iload_n (v := x2) ok dX9_fits_40 rfl ?_
      refine wp_if_ne (tgt := 49) ok dX9_fits_41 (by decide) (fun c27 => ?_) (fun c27 => ?_)
      · have hq := ite_f c27 hq
        refine wp_iload_n (v := x2) ok dX9_fits_49 rfl ?_
        refine wp_istore_n (L' := [(2, .int x2), (1, .int v25), (3, .int x3), (4, .int x4), (0, .ref x0)]) ok dX9_fits_50 rfl rfl ?_
        refine wp_iload (v := x4) ok dX9_fits_51 rfl ?_
        refine wp_istore_n (L' := [(3, .int x4), (2, .int x2), (1, .int v25), (4, .int x4), (0, .ref x0)]) ok dX9_fits_53 rfl rfl ?_
        obtain ⟨v28, e29, hq⟩ := lt_some hq
        refine wp_iinc (v := x4) (w := 1) (L' := [(4, .int v28), (3, .int x4), (2, .int x2), (1, .int v25), (0, .ref x0)]) ok dX9_fits_54 rfl (by decide) rfl (by rw [← e29]; rfl) ?_
        refine wp_goto (tgt := 16) ok dX9_fits_57 (by decide) ?_
        refine wp_sub (L' := [(1, .int v25), (2, .int x2), (3, .int x4), (4, .int v28), (0, .ref x0)]) [3, 2, 1, 0, 4] rfl ?_
        exact ih v25 x2 x4 v28 hq
      · have hq := ite_t c27 hq
        refine wp_iload (v := x4) ok dX9_fits_44 rfl ?_
        refine wp_goto (tgt := 50) ok dX9_fits_46 (by decide) ?_
        refine wp_istore_n (L' := [(2, .int x4), (1, .int v25), (3, .int x3), (4, .int x4), (0, .ref x0)]) ok dX9_fits_50 rfl rfl ?_
        refine wp_iload (v := x4) ok dX9_fits_51 rfl ?_
        refine wp_istore_n (L' := [(3, .int x4), (2, .int x4), (1, .int v25), (4, .int x4), (0, .ref x0)]) ok dX9_fits_53 rfl rfl ?_
        obtain ⟨v30, e31, hq⟩ := lt_some hq
        refine wp_iinc (v := x4) (w := 1) (L' := [(4, .int v30), (3, .int x4), (2, .int x4), (1, .int v25), (0, .ref x0)]) ok dX9_fits_54 rfl (by decide) rfl (by rw [← e31]; rfl) ?_
        refine wp_goto (tgt := 16) ok dX9_fits_57 (by decide) ?_
        refine wp_sub (L' := [(1, .int v25), (2, .int x4), (3, .int x4), (4, .int v30), (0, .ref x0)]) [3, 2, 1, 0, 4] rfl ?_
        exact ih v25 x4 x4 v30 hq
set_option maxHeartbeats 4000000 in
set_option maxRecDepth 100000 in
theorem l_X9_fits_B16 {x : Cx} {h0 : HP} {N fr : Nat} {rr : (Int32 × HP)} (ok : Okx x cX9_fits yX9_fits.cls 5 fr) (hfr : 2 ≤ fr)  {x0 : Nat} {h : HP} (e : h.1 = h0.1) {n_x0 : Nat} (f_x0 : h0.1[x0]? = some (9, n_x0)) (hF : Fend x h0 (some (.int)) (QI rr.1 rr.2)) {k60 : Int32 → Int32 → Int32 → Option (Int32 × HP)} (hk60 : ∀ (x1 : Int32) (x2 : Int32) (x3 : Int32), k60 x1 x2 x3 = some rr → wp x 60 [(1, .int x1), (2, .int x2), (3, .int x3), (0, .ref x0)] [] h) : ∀ (n : Nat) (x1 : Int32) (x2 : Int32) (x3 : Int32) (x4 : Int32), lp (fun _ _ _ _ => none) (f_X9_fits_B16 N x0 h k60) n x1 x2 x3 x4 = some rr → wp x 16 [(1, .int x1), (2, .int x2), (3, .int x3), (4, .int x4), (0, .ref x0)] [] h := by
  intro n
  induction n with
  | zero => intro x1 x2 x3 x4 hq; exact (Option.some_ne_none _ hq.symm).elim
  | succ n ih => exact s_X9_fits_B16 ok hfr e f_x0 hF hk60 ih
set_option maxHeartbeats 4000000 in
set_option maxRecDepth 100000 in
theorem m_X9_fits {l : Launch} {h : HP} {N : Nat} {x0 : Nat} {rr : Int32} {rh : HP} {fr : Nat} (hq : f_X9_fits N h x0 = some (rr, rh)) (hfr : 2 ≤ fr) : Mt l yX9_fits cX9_fits 5 (some (.int)) fr [.ref x0] h (QI rr rh) := by
  obtain ⟨rp, ep⟩ : ∃ rp : (Int32 × HP), rp = (rr, rh) := ⟨_, rfl⟩
  have e1p : rr = rp.1 := (congrArg Prod.fst ep).symm
  have e2p : rh = rp.2 := (congrArg Prod.snd ep).symm
  rw [← ep] at hq
  rw [e1p, e2p]
  clear e1p e2p ep
  refine Mt.of (by decide +kernel) (Nat.le_of_ble_eq_true rfl) (fun x hl ok hF => ?_)
  subst hl
  show wp x 0 [(0, .ref x0)] [] h
  unfold f_X9_fits at hq
  obtain ⟨h0, eh0⟩ : ∃ h0 : HP, h = h0 := ⟨h, rfl⟩
  have e : h.1 = h0.1 := by rw [eh0]
  rw [eh0] at hF
  obtain ⟨g_x0, hq⟩ := gP_some hq
  obtain ⟨n_x0, f_x0⟩ := kO_some g_x0
  replace f_x0 := sh_of e.symm f_x0
  refine wp_aload_n (v := x0) ok dX9_fits_0 rfl ?_
  obtain ⟨t1, e2, hq⟩ := bnd_some hq
  obtain ⟨e3, n4, f5⟩ := rK_some e2
  replace f5 := sh_of (e).symm f5
  refine wp_getR ok fl_RX9_70 (sh_of e f_x0) e3 dX9_fits_1 ?_
  obtain ⟨h6, e7, hq⟩ := bnd_some hq
  refine wp_callVV (As := []) (rest := []) (h1 := h6) ok (m_X2_sift e7 (Nat.le_refl _)) my_X2_sift (w_865) pd_X2_sift (Nat.le_trans (by decide) hfr) rfl (ci := 2) rfl (by decide) (sh_of e f5) rfl rfl rfl dX9_fits_4 (fun e8 => ?_)
  have e9 : h6.1 = h0.1 := (e8).trans e
  refine wp_iconst (v := 0) ok dX9_fits_7 (by decide) ?_
  refine wp_istore_n (L' := [(1, .int 0), (0, .ref x0)]) ok dX9_fits_8 rfl rfl ?_
  refine wp_iconst (v := 0) ok dX9_fits_9 (by decide) ?_
  refine wp_istore_n (L' := [(2, .int 0), (1, .int 0), (0, .ref x0)]) ok dX9_fits_10 rfl rfl ?_
  refine wp_iconst (v := 0) ok dX9_fits_11 (by decide) ?_
  refine wp_istore_n (L' := [(3, .int 0), (2, .int 0), (1, .int 0), (0, .ref x0)]) ok dX9_fits_12 rfl rfl ?_
  refine wp_iconst (v := 1) ok dX9_fits_13 (by decide) ?_
  refine wp_istore (L' := [(4, .int 1), (3, .int 0), (2, .int 0), (1, .int 0), (0, .ref x0)]) ok dX9_fits_14 rfl rfl ?_
  refine wp_sub (L' := [(1, .int 0), (2, .int 0), (3, .int 0), (4, .int 1), (0, .ref x0)]) [3, 2, 1, 0, 4] rfl ?_
  refine l_X9_fits_B16 ok hfr e9 f_x0 hF ?_ N 0 0 0 1 hq
  · intro x32 x33 x34 hq
    refine wp_aload_n (v := x0) ok dX9_fits_60 rfl ?_
    obtain ⟨t35, e36, hq⟩ := bnd_some hq
    obtain ⟨e37, n38, f39⟩ := rK_some e36
    replace f39 := sh_of (e9).symm f39
    refine wp_getR ok fl_RX9_19 (sh_of e9 f_x0) e37 dX9_fits_61 ?_
    obtain ⟨h40, e41, hq⟩ := bnd_some hq
    refine wp_callVV (As := []) (rest := []) (h1 := h40) ok (m_X6_clear e41 (Nat.le_refl _)) my_X6_clear (w_726) pd_X6_clear (Nat.le_trans (by decide) hfr) rfl (ci := 6) rfl (by decide) (sh_of e9 f39) rfl rfl rfl dX9_fits_64 (fun e42 => ?_)
    have e43 : h40.1 = h0.1 := (e42).trans e9
    refine wp_iload_n (v := x32) ok dX9_fits_67 rfl ?_
    refine wp_if_le (tgt := 82) ok dX9_fits_68 (by decide) (fun c44 => ?_) (fun c44 => ?_)
    · have hq := ite_t c44 hq
      refine wp_iload_n (v := x32) ok dX9_fits_82 rfl ?_
      exact wp_iret ok hF rfl e43 (re2I hq) dX9_fits_83
    · have hq := ite_f c44 hq
      refine wp_aload_n (v := x0) ok dX9_fits_71 rfl ?_
      obtain ⟨t45, e46, hq⟩ := bnd_some hq
      obtain ⟨e47, n48, f49⟩ := rK_some e46
      replace f49 := sh_of (e43).symm f49
      refine wp_getR ok fl_RX9_19 (sh_of e43 f_x0) e47 dX9_fits_72 ?_
      refine wp_iload_n (v := x33) ok dX9_fits_75 rfl ?_
      refine wp_i2l ok dX9_fits_76 ?_
      refine wp_iload_n (v := x34) ok dX9_fits_77 rfl ?_
      refine wp_i2l ok dX9_fits_78 ?_
      obtain ⟨h50, e51, hq⟩ := bnd_some hq
      refine wp_callVV (As := [.long (x33.toInt64), .long (x34.toInt64)]) (rest := []) (h1 := h50) ok (m_X6_tell_ e51 (Nat.le_refl _)) my_X6_tell_ (w_571) pd_X6_tell_ (Nat.le_trans (by decide) hfr) rfl (ci := 6) rfl (by decide) (sh_of e43 f49) rfl rfl rfl dX9_fits_79 (fun e52 => ?_)
      have e53 : h50.1 = h0.1 := (e52).trans e43
      refine wp_iload_n (v := x32) ok dX9_fits_82 rfl ?_
      exact wp_iret ok hF rfl e53 (re2I hq) dX9_fits_83
set_option maxHeartbeats 4000000 in
set_option maxRecDepth 100000 in
theorem s_X9_ask_B15 {x : Cx} {h0 : HP} {N fr : Nat} {rr : (Int32 × HP)} (ok : Okx x cX9_ask yX9_ask.cls 5 fr) (hfr : 2 ≤ fr)  {x0 : Nat} {h : HP} (e : h.1 = h0.1) {n_x0 : Nat} (f_x0 : h0.1[x0]? = some (9, n_x0)) (hF : Fend x h0 (some (.int)) (QI rr.1 rr.2)) {k48 : Int32 → Int32 → Option (Int32 × HP)} (hk48 : ∀ (x1 : Int32) (x2 : Int32), k48 x1 x2 = some rr → wp x 48 [(1, .int x1), (2, .int x2), (0, .ref x0)] [] h) {rc : Int32 → Int32 → Int32 → Option (Int32 × HP)} (ih : ∀ (x1 : Int32) (x2 : Int32) (x3 : Int32), rc x1 x2 x3 = some rr → wp x 15 [(1, .int x1), (2, .int x2), (3, .int x3), (0, .ref x0)] [] h) : ∀ (x1 : Int32) (x2 : Int32) (x3 : Int32), f_X9_ask_B15 N x0 h k48 rc x1 x2 x3 = some rr → wp x 15 [(1, .int x1), (2, .int x2), (3, .int x3), (0, .ref x0)] [] h := by
  intro x1 x2 x3 hq
  unfold f_X9_ask_B15 at hq
  refine wp_iload_n (v := x3) ok dX9_ask_15 rfl ?_
  refine wp_bipush (v := 40) ok dX9_ask_16 (by decide) ?_
  refine wp_icmp_gt (tgt := 48) ok dX9_ask_18 (by decide) (fun c10 => ?_) (fun c10 => ?_)
  · have hq := ite_t c10 hq
    refine wp_sub (L' := [(1, .int x1), (2, .int x2), (0, .ref x0)]) [0, 1, 3] rfl ?_
    exact hk48 x1 x2 hq
  · have hq := ite_f c10 hq
    refine wp_aload_n (v := x0) ok dX9_ask_21 rfl ?_
    obtain ⟨t11, e12, hq⟩ := bnd_some hq
    obtain ⟨e13, n14, f15⟩ := rK_some e12
    replace f15 := sh_of (e).symm f15
    refine wp_getR ok fl_RX9_70 (sh_of e f_x0) e13 dX9_ask_22 ?_
    refine wp_iload_n (v := x3) ok dX9_ask_25 rfl ?_
    obtain ⟨v16, e17, hq⟩ := bnd_some hq
    refine wp_callVI (As := [.int x3]) (rest := []) (h1 := h) ok (m_X2_mostLeft e17 (Nat.le_refl _)) my_X2_mostLeft (w_877) pd_X2_mostLeft (Nat.le_trans (by decide) hfr) rfl (ci := 2) rfl (by decide) (sh_of e f15) rfl rfl rfl dX9_ask_26 (fun e18 => ?_)
    refine wp_istore (L' := [(4, .int v16), (1, .int x1), (2, .int x2), (3, .int x3), (0, .ref x0)]) ok dX9_ask_29 rfl rfl ?_
    refine wp_iload (v := v16) ok dX9_ask_31 rfl ?_
    refine wp_iload_n (v := x1) ok dX9_ask_33 rfl ?_
    refine wp_icmp_ge (tgt := 42) ok dX9_ask_34 (by decide) (fun c19 => ?_) (fun c19 => ?_)
    · have hq := ite_t c19 hq
      obtain ⟨v20, e21, hq⟩ := lt_some hq
      refine wp_iinc (v := x3) (w := 1) (L' := [(3, .int v20), (4, .int v16), (1, .int x1), (2, .int x2), (0, .ref x0)]) ok dX9_ask_42 rfl (by decide) rfl (by rw [← e21]; rfl) ?_
      refine wp_goto (tgt := 15) ok dX9_ask_45 (by decide) ?_
      refine wp_sub (L' := [(1, .int x1), (2, .int x2), (3, .int v20), (0, .ref x0)]) [2, 3, 0, 4] rfl ?_
      exact ih x1 x2 v20 hq
    · have hq := ite_f c19 hq
      refine wp_iload (v := v16) ok dX9_ask_37 rfl ?_
      refine wp_istore_n (L' := [(1, .int v16), (4, .int v16), (2, .int x2), (3, .int x3), (0, .ref x0)]) ok dX9_ask_39 rfl rfl ?_
      refine wp_iload_n (v := x3) ok dX9_ask_40 rfl ?_
      refine wp_istore_n (L' := [(2, .int x3), (1, .int v16), (4, .int v16), (3, .int x3), (0, .ref x0)]) ok dX9_ask_41 rfl rfl ?_
      obtain ⟨v22, e23, hq⟩ := lt_some hq
      refine wp_iinc (v := x3) (w := 1) (L' := [(3, .int v22), (2, .int x3), (1, .int v16), (4, .int v16), (0, .ref x0)]) ok dX9_ask_42 rfl (by decide) rfl (by rw [← e23]; rfl) ?_
      refine wp_goto (tgt := 15) ok dX9_ask_45 (by decide) ?_
      refine wp_sub (L' := [(1, .int v16), (2, .int x3), (3, .int v22), (0, .ref x0)]) [2, 1, 0, 4] rfl ?_
      exact ih v16 x3 v22 hq
set_option maxHeartbeats 4000000 in
set_option maxRecDepth 100000 in
theorem l_X9_ask_B15 {x : Cx} {h0 : HP} {N fr : Nat} {rr : (Int32 × HP)} (ok : Okx x cX9_ask yX9_ask.cls 5 fr) (hfr : 2 ≤ fr)  {x0 : Nat} {h : HP} (e : h.1 = h0.1) {n_x0 : Nat} (f_x0 : h0.1[x0]? = some (9, n_x0)) (hF : Fend x h0 (some (.int)) (QI rr.1 rr.2)) {k48 : Int32 → Int32 → Option (Int32 × HP)} (hk48 : ∀ (x1 : Int32) (x2 : Int32), k48 x1 x2 = some rr → wp x 48 [(1, .int x1), (2, .int x2), (0, .ref x0)] [] h) : ∀ (n : Nat) (x1 : Int32) (x2 : Int32) (x3 : Int32), lp (fun _ _ _ => none) (f_X9_ask_B15 N x0 h k48) n x1 x2 x3 = some rr → wp x 15 [(1, .int x1), (2, .int x2), (3, .int x3), (0, .ref x0)] [] h := by
  intro n
  induction n with
  | zero => intro x1 x2 x3 hq; exact (Option.some_ne_none _ hq.symm).elim
  | succ n ih => exact s_X9_ask_B15 ok hfr e f_x0 hF hk48 ih
set_option maxHeartbeats 4000000 in
set_option maxRecDepth 100000 in
theorem m_X9_ask {l : Launch} {h : HP} {N : Nat} {x0 : Nat} {rr : Int32} {rh : HP} {fr : Nat} (hq : f_X9_ask N h x0 = some (rr, rh)) (hfr : 2 ≤ fr) : Mt l yX9_ask cX9_ask 5 (some (.int)) fr [.ref x0] h (QI rr rh) := by
  obtain ⟨rp, ep⟩ : ∃ rp : (Int32 × HP), rp = (rr, rh) := ⟨_, rfl⟩
  have e1p : rr = rp.1 := (congrArg Prod.fst ep).symm
  have e2p : rh = rp.2 := (congrArg Prod.snd ep).symm
  rw [← ep] at hq
  rw [e1p, e2p]
  clear e1p e2p ep
  refine Mt.of (by decide +kernel) (Nat.le_of_ble_eq_true rfl) (fun x hl ok hF => ?_)
  subst hl
  show wp x 0 [(0, .ref x0)] [] h
  unfold f_X9_ask at hq
  obtain ⟨h0, eh0⟩ : ∃ h0 : HP, h = h0 := ⟨h, rfl⟩
  have e : h.1 = h0.1 := by rw [eh0]
  rw [eh0] at hF
  obtain ⟨g_x0, hq⟩ := gP_some hq
  obtain ⟨n_x0, f_x0⟩ := kO_some g_x0
  replace f_x0 := sh_of e.symm f_x0
  refine wp_aload_n (v := x0) ok dX9_ask_0 rfl ?_
  obtain ⟨t1, e2, hq⟩ := bnd_some hq
  obtain ⟨e3, n4, f5⟩ := rK_some e2
  replace f5 := sh_of (e).symm f5
  refine wp_getR ok fl_RX9_70 (sh_of e f_x0) e3 dX9_ask_1 ?_
  obtain ⟨h6, e7, hq⟩ := bnd_some hq
  refine wp_callVV (As := []) (rest := []) (h1 := h6) ok (m_X2_sift e7 (Nat.le_refl _)) my_X2_sift (w_865) pd_X2_sift (Nat.le_trans (by decide) hfr) rfl (ci := 2) rfl (by decide) (sh_of e f5) rfl rfl rfl dX9_ask_4 (fun e8 => ?_)
  have e9 : h6.1 = h0.1 := (e8).trans e
  refine wp_sipush (v := 1000) ok dX9_ask_7 (by decide) ?_
  refine wp_istore_n (L' := [(1, .int 1000), (0, .ref x0)]) ok dX9_ask_10 rfl rfl ?_
  refine wp_iconst (v := 0) ok dX9_ask_11 (by decide) ?_
  refine wp_istore_n (L' := [(2, .int 0), (1, .int 1000), (0, .ref x0)]) ok dX9_ask_12 rfl rfl ?_
  refine wp_iconst (v := 2) ok dX9_ask_13 (by decide) ?_
  refine wp_istore_n (L' := [(3, .int 2), (2, .int 0), (1, .int 1000), (0, .ref x0)]) ok dX9_ask_14 rfl rfl ?_
  refine wp_sub (L' := [(1, .int 1000), (2, .int 0), (3, .int 2), (0, .ref x0)]) [2, 1, 0, 3] rfl ?_
  refine l_X9_ask_B15 ok hfr e9 f_x0 hF ?_ N 1000 0 2 hq
  · intro x24 x25 hq
    refine wp_iload_n (v := x24) ok dX9_ask_48 rfl ?_
    refine wp_if_ne (tgt := 55) ok dX9_ask_49 (by decide) (fun c26 => ?_) (fun c26 => ?_)
    · have hq := ite_f c26 hq
      refine wp_aload_n (v := x0) ok dX9_ask_55 rfl ?_
      obtain ⟨t27, e28, hq⟩ := bnd_some hq
      obtain ⟨e29, n30, f31⟩ := rK_some e28
      replace f31 := sh_of (e9).symm f31
      refine wp_getR ok fl_RX9_19 (sh_of e9 f_x0) e29 dX9_ask_56 ?_
      refine wp_iload_n (v := x24) ok dX9_ask_59 rfl ?_
      refine wp_i2l ok dX9_ask_60 ?_
      obtain ⟨h32, e33, hq⟩ := bnd_some hq
      refine wp_callVV (As := [.long (x24.toInt64)]) (rest := []) (h1 := h32) ok (m_X6_tell e33 (Nat.le_refl _)) my_X6_tell (w_718) pd_X6_tell (Nat.le_trans (by decide) hfr) rfl (ci := 6) rfl (by decide) (sh_of e9 f31) rfl rfl rfl dX9_ask_61 (fun e34 => ?_)
      have e35 : h32.1 = h0.1 := (e34).trans e9
      refine wp_iload_n (v := x25) ok dX9_ask_64 rfl ?_
      exact wp_iret ok hF rfl e35 (re2I hq) dX9_ask_65
    · have hq := ite_t c26 hq
      refine wp_bipush (v := -2) ok dX9_ask_52 (by decide) ?_
      exact wp_iret ok hF rfl e9 (re2I hq) dX9_ask_54
set_option maxHeartbeats 4000000 in
set_option maxRecDepth 100000 in
theorem s_X9_commonDivisor_B9 {x : Cx} {h : HP} {N fr : Nat} {rr : Int64} (ok : Okx x cX9_commonDivisor yX9_commonDivisor.cls 11 fr) (hfr : 0 ≤ fr)  (hF : Fend x h (some (.long)) (QJ rr h)) {k44 : Int64 → Option Int64} (hk44 : ∀ (x4 : Int64), k44 x4 = some rr → wp x 44 [(4, .long x4)] [] h) {rc : Int64 → Int64 → Int32 → Option Int64} (ih : ∀ (x4 : Int64) (x6 : Int64) (x8 : Int32), rc x4 x6 x8 = some rr → wp x 9 [(4, .long x4), (6, .long x6), (8, .int x8)] [] h) : ∀ (x4 : Int64) (x6 : Int64) (x8 : Int32), f_X9_commonDivisor_B9 N k44 rc x4 x6 x8 = some rr → wp x 9 [(4, .long x4), (6, .long x6), (8, .int x8)] [] h := by
  intro x4 x6 x8 hq
  unfold f_X9_commonDivisor_B9 at hq
  refine wp_iload (v := x8) ok dX9_commonDivisor_9 rfl ?_
  refine wp_bipush (v := 100) ok dX9_commonDivisor_11 (by decide) ?_
  refine wp_icmp_ge (tgt := 44) ok dX9_commonDivisor_13 (by decide) (fun c1 => ?_) (fun c1 => ?_)
  · have hq := ite_t c1 hq
    refine wp_sub (L' := [(4, .long x4)]) [0] rfl ?_
    exact hk44 x4 hq
  · have hq := ite_f c1 hq
    refine wp_lload (v := x6) ok dX9_commonDivisor_16 rfl ?_
    refine wp_lconst (v := 0) ok dX9_commonDivisor_18 (by decide) ?_
    refine wp_lcmp ok dX9_commonDivisor_19 ?_
    refine wp_if_eq (tgt := 44) ok dX9_commonDivisor_20 (by decide) (fun c2 => ?_) (fun c2 => ?_)
    · have hq := ite_t c2 hq
      refine wp_sub (L' := [(4, .long x4)]) [0] rfl ?_
      exact hk44 x4 hq
    · have hq := ite_f c2 hq
      refine wp_lload (v := x4) ok dX9_commonDivisor_23 rfl ?_
      refine wp_lload (v := x6) ok dX9_commonDivisor_25 rfl ?_
      obtain ⟨g3, hq⟩ := gP_some hq
      refine wp_lrem ok dX9_commonDivisor_27 g3 ?_
      obtain ⟨v4, e5, hq⟩ := lt_some hq
      refine wp_nmJ e5 ?_
      refine wp_lstore (L' := [(9, .long v4), (4, .long x4), (6, .long x6), (8, .int x8)]) ok dX9_commonDivisor_28 rfl rfl ?_
      refine wp_lload (v := x6) ok dX9_commonDivisor_30 rfl ?_
      refine wp_lstore (L' := [(4, .long x6), (9, .long v4), (6, .long x6), (8, .int x8)]) ok dX9_commonDivisor_32 rfl rfl ?_
      refine wp_lload (v := v4) ok dX9_commonDivisor_34 rfl ?_
      refine wp_lstore (L' := [(6, .long v4), (4, .long x6), (9, .long v4), (8, .int x8)]) ok dX9_commonDivisor_36 rfl rfl ?_
      obtain ⟨v6, e7, hq⟩ := lt_some hq
      refine wp_iinc (v := x8) (w := 1) (L' := [(8, .int v6), (6, .long v4), (4, .long x6), (9, .long v4)]) ok dX9_commonDivisor_38 rfl (by decide) rfl (by rw [← e7]; rfl) ?_
      refine wp_goto (tgt := 9) ok dX9_commonDivisor_41 (by decide) ?_
      refine wp_sub (L' := [(4, .long x6), (6, .long v4), (8, .int v6)]) [2, 1, 0] rfl ?_
      exact ih x6 v4 v6 hq
set_option maxHeartbeats 4000000 in
set_option maxRecDepth 100000 in
theorem l_X9_commonDivisor_B9 {x : Cx} {h : HP} {N fr : Nat} {rr : Int64} (ok : Okx x cX9_commonDivisor yX9_commonDivisor.cls 11 fr) (hfr : 0 ≤ fr)  (hF : Fend x h (some (.long)) (QJ rr h)) {k44 : Int64 → Option Int64} (hk44 : ∀ (x4 : Int64), k44 x4 = some rr → wp x 44 [(4, .long x4)] [] h) : ∀ (n : Nat) (x4 : Int64) (x6 : Int64) (x8 : Int32), lp (fun _ _ _ => none) (f_X9_commonDivisor_B9 N k44) n x4 x6 x8 = some rr → wp x 9 [(4, .long x4), (6, .long x6), (8, .int x8)] [] h := by
  intro n
  induction n with
  | zero => intro x4 x6 x8 hq; exact (Option.some_ne_none _ hq.symm).elim
  | succ n ih => exact s_X9_commonDivisor_B9 ok hfr  hF hk44 ih
set_option maxHeartbeats 4000000 in
set_option maxRecDepth 100000 in
theorem m_X9_commonDivisor {l : Launch} {h : HP} {N : Nat} {x0 : Int64} {x2 : Int64} {rr : Int64} {fr : Nat} (hq : f_X9_commonDivisor N x0 x2 = some rr) (hfr : 0 ≤ fr) : Mt l yX9_commonDivisor cX9_commonDivisor 11 (some (.long)) fr [.long x0, .long x2] h (QJ rr h) := by
  refine Mt.of (by decide +kernel) (Nat.le_of_ble_eq_true rfl) (fun x hl ok hF => ?_)
  subst hl
  show wp x 0 [(0, .long x0), (2, .long x2)] [] h
  unfold f_X9_commonDivisor at hq
  refine wp_lload_n (v := x0) ok dX9_commonDivisor_0 rfl ?_
  refine wp_lstore (L' := [(4, .long x0), (0, .long x0), (2, .long x2)]) ok dX9_commonDivisor_1 rfl rfl ?_
  refine wp_lload_n (v := x2) ok dX9_commonDivisor_3 rfl ?_
  refine wp_lstore (L' := [(6, .long x2), (4, .long x0), (0, .long x0), (2, .long x2)]) ok dX9_commonDivisor_4 rfl rfl ?_
  refine wp_iconst (v := 0) ok dX9_commonDivisor_6 (by decide) ?_
  refine wp_istore (L' := [(8, .int 0), (6, .long x2), (4, .long x0), (0, .long x0), (2, .long x2)]) ok dX9_commonDivisor_7 rfl rfl ?_
  refine wp_sub (L' := [(4, .long x0), (6, .long x2), (8, .int 0)]) [2, 1, 0] rfl ?_
  refine l_X9_commonDivisor_B9 ok hfr  hF ?_ N x0 x2 0 hq
  · intro x8 hq
    refine wp_lload (v := x8) ok dX9_commonDivisor_44 rfl ?_
    refine wp_lconst (v := 0) ok dX9_commonDivisor_46 (by decide) ?_
    refine wp_lcmp ok dX9_commonDivisor_47 ?_
    refine wp_if_ne (tgt := 55) ok dX9_commonDivisor_48 (by decide) (fun c9 => ?_) (fun c9 => ?_)
    · have hq := ite_f c9 hq
      refine wp_lload (v := x8) ok dX9_commonDivisor_55 rfl ?_
      exact wp_lret ok hF rfl (re1J hq) dX9_commonDivisor_57
    · have hq := ite_t c9 hq
      refine wp_lconst (v := 1) ok dX9_commonDivisor_51 (by decide) ?_
      refine wp_goto (tgt := 57) ok dX9_commonDivisor_52 (by decide) ?_
      exact wp_lret ok hF rfl (re1J hq) dX9_commonDivisor_57
set_option maxHeartbeats 4000000 in
set_option maxRecDepth 100000 in
theorem m_X9_tellFraction {l : Launch} {h : HP} {N : Nat} {x0 : Nat} {x1 : Int64} {x3 : Int64} {rr : HP} {fr : Nat} (hq : f_X9_tellFraction N h x0 x1 x3 = some rr) (hfr : 2 ≤ fr) : Mt l yX9_tellFraction cX9_tellFraction 7 none fr [.ref x0, .long x1, .long x3] h (QV rr) := by
  refine Mt.of (by decide +kernel) (Nat.le_of_ble_eq_true rfl) (fun x hl ok hF => ?_)
  subst hl
  show wp x 0 [(0, .ref x0), (1, .long x1), (3, .long x3)] [] h
  unfold f_X9_tellFraction at hq
  obtain ⟨h0, eh0⟩ : ∃ h0 : HP, h = h0 := ⟨h, rfl⟩
  have e : h.1 = h0.1 := by rw [eh0]
  rw [eh0] at hF
  obtain ⟨g_x0, hq⟩ := gP_some hq
  obtain ⟨n_x0, f_x0⟩ := kO_some g_x0
  replace f_x0 := sh_of e.symm f_x0
  refine wp_lload_n (v := x1) ok dX9_tellFraction_0 rfl ?_
  refine wp_lload_n (v := x3) ok dX9_tellFraction_1 rfl ?_
  obtain ⟨v1, e2, hq⟩ := bnd_some hq
  refine wp_callSJ (As := [.long x1, .long x3]) (rest := []) (h1 := h) ok (m_X9_commonDivisor e2 (Nat.le_refl _)) my_X9_commonDivisor (w_891) pd_X9_commonDivisor (Nat.le_trans (by decide) hfr) rfl rfl rfl rfl dX9_tellFraction_2 (fun e3 => ?_)
  refine wp_lstore (L' := [(5, .long v1), (0, .ref x0), (1, .long x1), (3, .long x3)]) ok dX9_tellFraction_5 rfl rfl ?_
  refine wp_aload_n (v := x0) ok dX9_tellFraction_7 rfl ?_
  obtain ⟨t4, e5, hq⟩ := bnd_some hq
  obtain ⟨e6, n7, f8⟩ := rK_some e5
  replace f8 := sh_of (e).symm f8
  refine wp_getR ok fl_RX9_19 (sh_of e f_x0) e6 dX9_tellFraction_8 ?_
  refine wp_lload_n (v := x1) ok dX9_tellFraction_11 rfl ?_
  refine wp_lload (v := v1) ok dX9_tellFraction_12 rfl ?_
  obtain ⟨g9, hq⟩ := gP_some hq
  refine wp_ldiv ok dX9_tellFraction_14 g9 ?_
  refine wp_lload_n (v := x3) ok dX9_tellFraction_15 rfl ?_
  refine wp_lload (v := v1) ok dX9_tellFraction_16 rfl ?_
  obtain ⟨g10, hq⟩ := gP_some hq
  refine wp_ldiv ok dX9_tellFraction_18 g10 ?_
  obtain ⟨h11, e12, hq⟩ := bnd_some hq
  refine wp_callVV (As := [.long (x1 / v1), .long (x3 / v1)]) (rest := []) (h1 := h11) ok (m_X6_tell_ e12 (Nat.le_refl _)) my_X6_tell_ (w_571) pd_X6_tell_ (Nat.le_trans (by decide) hfr) rfl (ci := 6) rfl (by decide) (sh_of e f8) rfl rfl rfl dX9_tellFraction_19 (fun e13 => ?_)
  have e14 : h11.1 = h0.1 := (e13).trans e
  exact wp_vret ok hF e14 (reV hq) dX9_tellFraction_22
set_option maxHeartbeats 4000000 in
set_option maxRecDepth 100000 in
theorem s_X9_sound_B40 {x : Cx} {h0 : HP} {N fr : Nat} {rr : (Int32 × HP)} (ok : Okx x cX9_sound yX9_sound.cls 9 fr) (hfr : 3 ≤ fr)  {x0 : Nat} {x2 : Int32} {x3 : Int32} {h : HP} (e : h.1 = h0.1) {n_x0 : Nat} (f_x0 : h0.1[x0]? = some (9, n_x0)) (hF : Fend x h0 (some (.int)) (QI rr.1 rr.2)) {k70 : Int64 → Int64 → Option (Int32 × HP)} (hk70 : ∀ (x4 : Int64) (x6 : Int64), k70 x4 x6 = some rr → wp x 70 [(4, .long x4), (6, .long x6), (0, .ref x0)] [] h) {rc : Int64 → Int64 → Int32 → Option (Int32 × HP)} (ih : ∀ (x4 : Int64) (x6 : Int64) (x8 : Int32), rc x4 x6 x8 = some rr → wp x 40 [(4, .long x4), (6, .long x6), (8, .int x8), (0, .ref x0), (2, .int x2), (3, .int x3)] [] h) : ∀ (x4 : Int64) (x6 : Int64) (x8 : Int32), f_X9_sound_B40 N x0 x2 x3 h k70 rc x4 x6 x8 = some rr → wp x 40 [(4, .long x4), (6, .long x6), (8, .int x8), (0, .ref x0), (2, .int x2), (3, .int x3)] [] h := by
  intro x4 x6 x8 hq
  unfold f_X9_sound_B40 at hq
  refine wp_iload (v := x8) ok dX9_sound_40 rfl ?_
  refine wp_iload_n (v := x2) ok dX9_sound_42 rfl ?_
  refine wp_icmp_ge (tgt := 70) ok dX9_sound_43 (by decide) (fun c13 => ?_) (fun c13 => ?_)
  · have hq := ite_t c13 hq
    refine wp_sub (L' := [(4, .long x4), (6, .long x6), (0, .ref x0)]) [0, 1, 3] rfl ?_
    exact hk70 x4 x6 hq
  · have hq := ite_f c13 hq
    refine wp_lload (v := x4) ok dX9_sound_46 rfl ?_
    refine wp_bipush (v := 10) ok dX9_sound_48 (by decide) ?_
    refine wp_iload_n (v := x3) ok dX9_sound_50 rfl ?_
    refine wp_isub ok dX9_sound_51 ?_
    refine wp_i2l ok dX9_sound_52 ?_
    refine wp_lmul ok dX9_sound_53 ?_
    obtain ⟨v14, e15, hq⟩ := lt_some hq
    refine wp_nmJ e15 ?_
    refine wp_lstore (L' := [(4, .long v14), (6, .long x6), (8, .int x8), (0, .ref x0), (2, .int x2), (3, .int x3)]) ok dX9_sound_54 rfl rfl ?_
    refine wp_lload (v := x6) ok dX9_sound_56 rfl ?_
    refine wp_ldc2 (v := 10) ok (w_886) dX9_sound_58 ?_
    refine wp_lmul ok dX9_sound_61 ?_
    obtain ⟨v16, e17, hq⟩ := lt_some hq
    refine wp_nmJ e17 ?_
    refine wp_lstore (L' := [(6, .long v16), (4, .long v14), (8, .int x8), (0, .ref x0), (2, .int x2), (3, .int x3)]) ok dX9_sound_62 rfl rfl ?_
    obtain ⟨v18, e19, hq⟩ := lt_some hq
    refine wp_iinc (v := x8) (w := 1) (L' := [(8, .int v18), (6, .long v16), (4, .long v14), (0, .ref x0), (2, .int x2), (3, .int x3)]) ok dX9_sound_64 rfl (by decide) rfl (by rw [← e19]; rfl) ?_
    refine wp_goto (tgt := 40) ok dX9_sound_67 (by decide) ?_
    refine wp_sub (L' := [(4, .long v14), (6, .long v16), (8, .int v18), (0, .ref x0), (2, .int x2), (3, .int x3)]) [2, 1, 0, 3, 4, 5] rfl ?_
    exact ih v14 v16 v18 hq
set_option maxHeartbeats 4000000 in
set_option maxRecDepth 100000 in
theorem l_X9_sound_B40 {x : Cx} {h0 : HP} {N fr : Nat} {rr : (Int32 × HP)} (ok : Okx x cX9_sound yX9_sound.cls 9 fr) (hfr : 3 ≤ fr)  {x0 : Nat} {x2 : Int32} {x3 : Int32} {h : HP} (e : h.1 = h0.1) {n_x0 : Nat} (f_x0 : h0.1[x0]? = some (9, n_x0)) (hF : Fend x h0 (some (.int)) (QI rr.1 rr.2)) {k70 : Int64 → Int64 → Option (Int32 × HP)} (hk70 : ∀ (x4 : Int64) (x6 : Int64), k70 x4 x6 = some rr → wp x 70 [(4, .long x4), (6, .long x6), (0, .ref x0)] [] h) : ∀ (n : Nat) (x4 : Int64) (x6 : Int64) (x8 : Int32), lp (fun _ _ _ => none) (f_X9_sound_B40 N x0 x2 x3 h k70) n x4 x6 x8 = some rr → wp x 40 [(4, .long x4), (6, .long x6), (8, .int x8), (0, .ref x0), (2, .int x2), (3, .int x3)] [] h := by
  intro n
  induction n with
  | zero => intro x4 x6 x8 hq; exact (Option.some_ne_none _ hq.symm).elim
  | succ n ih => exact s_X9_sound_B40 ok hfr e f_x0 hF hk70 ih
set_option maxHeartbeats 4000000 in
set_option maxRecDepth 100000 in
theorem m_X9_sound {l : Launch} {h : HP} {N : Nat} {x0 : Nat} {x1 : Int32} {x2 : Int32} {x3 : Int32} {rr : Int32} {rh : HP} {fr : Nat} (hq : f_X9_sound N h x0 x1 x2 x3 = some (rr, rh)) (hfr : 3 ≤ fr) : Mt l yX9_sound cX9_sound 9 (some (.int)) fr [.ref x0, .int x1, .int x2, .int x3] h (QI rr rh) := by
  obtain ⟨rp, ep⟩ : ∃ rp : (Int32 × HP), rp = (rr, rh) := ⟨_, rfl⟩
  have e1p : rr = rp.1 := (congrArg Prod.fst ep).symm
  have e2p : rh = rp.2 := (congrArg Prod.snd ep).symm
  rw [← ep] at hq
  rw [e1p, e2p]
  clear e1p e2p ep
  refine Mt.of (by decide +kernel) (Nat.le_of_ble_eq_true rfl) (fun x hl ok hF => ?_)
  subst hl
  show wp x 0 [(0, .ref x0), (1, .int x1), (2, .int x2), (3, .int x3)] [] h
  unfold f_X9_sound at hq
  obtain ⟨h0, eh0⟩ : ∃ h0 : HP, h = h0 := ⟨h, rfl⟩
  have e : h.1 = h0.1 := by rw [eh0]
  rw [eh0] at hF
  obtain ⟨g_x0, hq⟩ := gP_some hq
  obtain ⟨n_x0, f_x0⟩ := kO_some g_x0
  replace f_x0 := sh_of e.symm f_x0
  refine wp_iload_n (v := x1) ok dX9_sound_0 rfl ?_
  refine wp_iconst (v := 1) ok dX9_sound_1 (by decide) ?_
  refine wp_bipush (v := 10) ok dX9_sound_2 (by decide) ?_
  obtain ⟨v1, e2, hq⟩ := bnd_some hq
  refine wp_callSI (As := [.int x1, .int 1, .int 10]) (rest := []) (h1 := h) ok (m_X9_within e2 (Nat.le_refl _)) my_X9_within (w_491) pd_X9_within (Nat.le_trans (by decide) hfr) rfl rfl rfl rfl dX9_sound_4 (fun e3 => ?_)
  refine wp_if_eq (tgt := 29) ok dX9_sound_7 (by decide) (fun c4 => ?_) (fun c4 => ?_)
  · have hq := ite_t c4 hq
    refine wp_iconst (v := -1) ok dX9_sound_29 (by decide) ?_
    exact wp_iret ok hF rfl e (re2I hq) dX9_sound_30
  · have hq := ite_f c4 hq
    refine wp_iload_n (v := x2) ok dX9_sound_10 rfl ?_
    refine wp_iconst (v := 0) ok dX9_sound_11 (by decide) ?_
    refine wp_iload_n (v := x1) ok dX9_sound_12 rfl ?_
    obtain ⟨v5, e6, hq⟩ := bnd_some hq
    refine wp_callSI (As := [.int x2, .int 0, .int x1]) (rest := []) (h1 := h) ok (m_X9_within e6 (Nat.le_refl _)) my_X9_within (w_491) pd_X9_within (Nat.le_trans (by decide) hfr) rfl rfl rfl rfl dX9_sound_13 (fun e7 => ?_)
    refine wp_if_eq (tgt := 29) ok dX9_sound_16 (by decide) (fun c8 => ?_) (fun c8 => ?_)
    · have hq := ite_t c8 hq
      refine wp_iconst (v := -1) ok dX9_sound_29 (by decide) ?_
      exact wp_iret ok hF rfl e (re2I hq) dX9_sound_30
    · have hq := ite_f c8 hq
      refine wp_iload_n (v := x3) ok dX9_sound_19 rfl ?_
      refine wp_iconst (v := 0) ok dX9_sound_20 (by decide) ?_
      refine wp_bipush (v := 10) ok dX9_sound_21 (by decide) ?_
      obtain ⟨v9, e10, hq⟩ := bnd_some hq
      refine wp_callSI (As := [.int x3, .int 0, .int 10]) (rest := []) (h1 := h) ok (m_X9_within e10 (Nat.le_refl _)) my_X9_within (w_491) pd_X9_within (Nat.le_trans (by decide) hfr) rfl rfl rfl rfl dX9_sound_23 (fun e11 => ?_)
      refine wp_if_ne (tgt := 31) ok dX9_sound_26 (by decide) (fun c12 => ?_) (fun c12 => ?_)
      · have hq := ite_f c12 hq
        refine wp_lconst (v := 1) ok dX9_sound_31 (by decide) ?_
        refine wp_lstore (L' := [(4, .long 1), (0, .ref x0), (1, .int x1), (2, .int x2), (3, .int x3)]) ok dX9_sound_32 rfl rfl ?_
        refine wp_lconst (v := 1) ok dX9_sound_34 (by decide) ?_
        refine wp_lstore (L' := [(6, .long 1), (4, .long 1), (0, .ref x0), (1, .int x1), (2, .int x2), (3, .int x3)]) ok dX9_sound_35 rfl rfl ?_
        refine wp_iconst (v := 0) ok dX9_sound_37 (by decide) ?_
        refine wp_istore (L' := [(8, .int 0), (6, .long 1), (4, .long 1), (0, .ref x0), (1, .int x1), (2, .int x2), (3, .int x3)]) ok dX9_sound_38 rfl rfl ?_
        refine wp_sub (L' := [(4, .long 1), (6, .long 1), (8, .int 0), (0, .ref x0), (2, .int x2), (3, .int x3)]) [2, 1, 0, 3, 5, 6] rfl ?_
        refine l_X9_sound_B40 ok hfr e f_x0 hF ?_ N 1 1 0 hq
        · intro x20 x21 hq
          refine wp_aload_n (v := x0) ok dX9_sound_70 rfl ?_
          refine wp_lload (v := x20) ok dX9_sound_71 rfl ?_
          refine wp_lload (v := x21) ok dX9_sound_73 rfl ?_
          obtain ⟨h22, e23, hq⟩ := bnd_some hq
          refine wp_callVV (As := [.long x20, .long x21]) (rest := []) (h1 := h22) ok (m_X9_tellFraction e23 (Nat.le_refl _)) my_X9_tellFraction (w_887) pd_X9_tellFraction (Nat.le_trans (by decide) hfr) rfl (ci := 9) rfl (by decide) (sh_of e f_x0) rfl rfl rfl dX9_sound_75 (fun e24 => ?_)
          have e25 : h22.1 = h0.1 := (e24).trans e
          refine wp_iconst (v := 0) ok dX9_sound_78 (by decide) ?_
          exact wp_iret ok hF rfl e25 (re2I hq) dX9_sound_79
      · have hq := ite_t c12 hq
        refine wp_iconst (v := -1) ok dX9_sound_29 (by decide) ?_
        exact wp_iret ok hF rfl e (re2I hq) dX9_sound_30
set_option maxHeartbeats 4000000 in
set_option maxRecDepth 100000 in
theorem s_X9_choices_B14 {x : Cx} {h : HP} {N fr : Nat} {rr : Int64} (ok : Okx x cX9_choices yX9_choices.cls 5 fr) (hfr : 0 ≤ fr)  {x0 : Int32} {x1 : Int32} (hF : Fend x h (some (.long)) (QJ rr h)) {rc : Int64 → Int32 → Option Int64} (ih : ∀ (x2 : Int64) (x4 : Int32), rc x2 x4 = some rr → wp x 14 [(2, .long x2), (4, .int x4), (0, .int x0), (1, .int x1)] [] h) : ∀ (x2 : Int64) (x4 : Int32), f_X9_choices_B14 N x0 x1 rc x2 x4 = some rr → wp x 14 [(2, .long x2), (4, .int x4), (0, .int x0), (1, .int x1)] [] h := by
  intro x2 x4 hq
  unfold f_X9_choices_B14 at hq
  refine wp_iload (v := x4) ok dX9_choices_14 rfl ?_
  refine wp_iload_n (v := x1) ok dX9_choices_16 rfl ?_
  refine wp_icmp_gt (tgt := 46) ok dX9_choices_17 (by decide) (fun c3 => ?_) (fun c3 => ?_)
  · have hq := ite_t c3 hq
    refine wp_lload_n (v := x2) ok dX9_choices_46 rfl ?_
    exact wp_lret ok hF rfl (re1J hq) dX9_choices_47
  · have hq := ite_f c3 hq
    refine wp_iload (v := x4) ok dX9_choices_20 rfl ?_
    refine wp_iload_n (v := x0) ok dX9_choices_22 rfl ?_
    refine wp_icmp_gt (tgt := 46) ok dX9_choices_23 (by decide) (fun c4 => ?_) (fun c4 => ?_)
    · have hq := ite_t c4 hq
      refine wp_lload_n (v := x2) ok dX9_choices_46 rfl ?_
      exact wp_lret ok hF rfl (re1J hq) dX9_choices_47
    · have hq := ite_f c4 hq
      refine wp_lload_n (v := x2) ok dX9_choices_26 rfl ?_
      refine wp_iload_n (v := x0) ok dX9_choices_27 rfl ?_
      refine wp_iload (v := x4) ok dX9_choices_28 rfl ?_
      refine wp_isub ok dX9_choices_30 ?_
      refine wp_iconst (v := 1) ok dX9_choices_31 (by decide) ?_
      refine wp_iadd ok dX9_choices_32 ?_
      refine wp_i2l ok dX9_choices_33 ?_
      refine wp_lmul ok dX9_choices_34 ?_
      refine wp_iload (v := x4) ok dX9_choices_35 rfl ?_
      refine wp_i2l ok dX9_choices_37 ?_
      obtain ⟨g5, hq⟩ := gP_some hq
      refine wp_ldiv ok dX9_choices_38 g5 ?_
      obtain ⟨v6, e7, hq⟩ := lt_some hq
      refine wp_nmJ e7 ?_
      refine wp_lstore_n (L' := [(2, .long v6), (4, .int x4), (0, .int x0), (1, .int x1)]) ok dX9_choices_39 rfl rfl ?_
      obtain ⟨v8, e9, hq⟩ := lt_some hq
      refine wp_iinc (v := x4) (w := 1) (L' := [(4, .int v8), (2, .long v6), (0, .int x0), (1, .int x1)]) ok dX9_choices_40 rfl (by decide) rfl (by rw [← e9]; rfl) ?_
      refine wp_goto (tgt := 14) ok dX9_choices_43 (by decide) ?_
      refine wp_sub (L' := [(2, .long v6), (4, .int v8), (0, .int x0), (1, .int x1)]) [1, 0, 2, 3] rfl ?_
      exact ih v6 v8 hq
set_option maxHeartbeats 4000000 in
set_option maxRecDepth 100000 in
theorem l_X9_choices_B14 {x : Cx} {h : HP} {N fr : Nat} {rr : Int64} (ok : Okx x cX9_choices yX9_choices.cls 5 fr) (hfr : 0 ≤ fr)  {x0 : Int32} {x1 : Int32} (hF : Fend x h (some (.long)) (QJ rr h)) : ∀ (n : Nat) (x2 : Int64) (x4 : Int32), lp (fun _ _ => none) (f_X9_choices_B14 N x0 x1) n x2 x4 = some rr → wp x 14 [(2, .long x2), (4, .int x4), (0, .int x0), (1, .int x1)] [] h := by
  intro n
  induction n with
  | zero => intro x2 x4 hq; exact (Option.some_ne_none _ hq.symm).elim
  | succ n ih => exact s_X9_choices_B14 ok hfr  hF  ih
set_option maxHeartbeats 4000000 in
set_option maxRecDepth 100000 in
theorem m_X9_choices {l : Launch} {h : HP} {N : Nat} {x0 : Int32} {x1 : Int32} {rr : Int64} {fr : Nat} (hq : f_X9_choices N x0 x1 = some rr) (hfr : 0 ≤ fr) : Mt l yX9_choices cX9_choices 5 (some (.long)) fr [.int x0, .int x1] h (QJ rr h) := by
  refine Mt.of (by decide +kernel) (Nat.le_of_ble_eq_true rfl) (fun x hl ok hF => ?_)
  subst hl
  show wp x 0 [(0, .int x0), (1, .int x1)] [] h
  unfold f_X9_choices at hq
  refine wp_iload_n (v := x1) ok dX9_choices_0 rfl ?_
  refine wp_iload_n (v := x0) ok dX9_choices_1 rfl ?_
  obtain ⟨k1, ek1, hq⟩ := jn1_some hq
  have kk1 : ∀ (y2 : Int64), k1 y2 = some rr → wp x 10 [(0, .int x0), (1, .int x1)] [.long y2] h := by
    intro y2 hq
    have hq := (ek1 y2).symm.trans hq
    refine wp_lstore_n (L' := [(2, .long y2), (0, .int x0), (1, .int x1)]) ok dX9_choices_10 rfl rfl ?_
    refine wp_iconst (v := 1) ok dX9_choices_11 (by decide) ?_
    refine wp_istore (L' := [(4, .int 1), (2, .long y2), (0, .int x0), (1, .int x1)]) ok dX9_choices_12 rfl rfl ?_
    refine wp_sub (L' := [(2, .long y2), (4, .int 1), (0, .int x0), (1, .int x1)]) [1, 0, 2, 3] rfl ?_
    refine l_X9_choices_B14 ok hfr  hF  N y2 1 hq
  refine wp_icmp_gt (tgt := 9) ok dX9_choices_2 (by decide) (fun c10 => ?_) (fun c10 => ?_)
  · have hq := ite_t c10 hq
    refine wp_lconst (v := 0) ok dX9_choices_9 (by decide) ?_
    refine wp_sub (L' := [(0, .int x0), (1, .int x1)]) [0, 1] rfl ?_
    exact kk1 0 hq
  · have hq := ite_f c10 hq
    refine wp_lconst (v := 1) ok dX9_choices_5 (by decide) ?_
    refine wp_goto (tgt := 10) ok dX9_choices_6 (by decide) ?_
    refine wp_sub (L' := [(0, .int x0), (1, .int x1)]) [0, 1] rfl ?_
    exact kk1 1 hq
set_option maxHeartbeats 4000000 in
set_option maxRecDepth 100000 in
theorem m_X9_finds {l : Launch} {h : HP} {N : Nat} {x0 : Nat} {x1 : Int32} {x2 : Int32} {x3 : Int32} {rr : Int32} {rh : HP} {fr : Nat} (hq : f_X9_finds N h x0 x1 x2 x3 = some (rr, rh)) (hfr : 3 ≤ fr) : Mt l yX9_finds cX9_finds 6 (some (.int)) fr [.ref x0, .int x1, .int x2, .int x3] h (QI rr rh) := by
  obtain ⟨rp, ep⟩ : ∃ rp : (Int32 × HP), rp = (rr, rh) := ⟨_, rfl⟩
  have e1p : rr = rp.1 := (congrArg Prod.fst ep).symm
  have e2p : rh = rp.2 := (congrArg Prod.snd ep).symm
  rw [← ep] at hq
  rw [e1p, e2p]
  clear e1p e2p ep
  refine Mt.of (by decide +kernel) (Nat.le_of_ble_eq_true rfl) (fun x hl ok hF => ?_)
  subst hl
  show wp x 0 [(0, .ref x0), (1, .int x1), (2, .int x2), (3, .int x3)] [] h
  unfold f_X9_finds at hq
  obtain ⟨h0, eh0⟩ : ∃ h0 : HP, h = h0 := ⟨h, rfl⟩
  have e : h.1 = h0.1 := by rw [eh0]
  rw [eh0] at hF
  obtain ⟨g_x0, hq⟩ := gP_some hq
  obtain ⟨n_x0, f_x0⟩ := kO_some g_x0
  replace f_x0 := sh_of e.symm f_x0
  refine wp_iload_n (v := x1) ok dX9_finds_0 rfl ?_
  refine wp_iconst (v := 1) ok dX9_finds_1 (by decide) ?_
  refine wp_bipush (v := 30) ok dX9_finds_2 (by decide) ?_
  obtain ⟨v1, e2, hq⟩ := bnd_some hq
  refine wp_callSI (As := [.int x1, .int 1, .int 30]) (rest := []) (h1 := h) ok (m_X9_within e2 (Nat.le_refl _)) my_X9_within (w_491) pd_X9_within (Nat.le_trans (by decide) hfr) rfl rfl rfl rfl dX9_finds_4 (fun e3 => ?_)
  refine wp_if_eq (tgt := 28) ok dX9_finds_7 (by decide) (fun c4 => ?_) (fun c4 => ?_)
  · have hq := ite_t c4 hq
    refine wp_iconst (v := -1) ok dX9_finds_28 (by decide) ?_
    exact wp_iret ok hF rfl e (re2I hq) dX9_finds_29
  · have hq := ite_f c4 hq
    refine wp_iload_n (v := x2) ok dX9_finds_10 rfl ?_
    refine wp_iconst (v := 0) ok dX9_finds_11 (by decide) ?_
    refine wp_iload_n (v := x1) ok dX9_finds_12 rfl ?_
    obtain ⟨v5, e6, hq⟩ := bnd_some hq
    refine wp_callSI (As := [.int x2, .int 0, .int x1]) (rest := []) (h1 := h) ok (m_X9_within e6 (Nat.le_refl _)) my_X9_within (w_491) pd_X9_within (Nat.le_trans (by decide) hfr) rfl rfl rfl rfl dX9_finds_13 (fun e7 => ?_)
    refine wp_if_eq (tgt := 28) ok dX9_finds_16 (by decide) (fun c8 => ?_) (fun c8 => ?_)
    · have hq := ite_t c8 hq
      refine wp_iconst (v := -1) ok dX9_finds_28 (by decide) ?_
      exact wp_iret ok hF rfl e (re2I hq) dX9_finds_29
    · have hq := ite_f c8 hq
      refine wp_iload_n (v := x3) ok dX9_finds_19 rfl ?_
      refine wp_iconst (v := 0) ok dX9_finds_20 (by decide) ?_
      refine wp_iload_n (v := x1) ok dX9_finds_21 rfl ?_
      obtain ⟨v9, e10, hq⟩ := bnd_some hq
      refine wp_callSI (As := [.int x3, .int 0, .int x1]) (rest := []) (h1 := h) ok (m_X9_within e10 (Nat.le_refl _)) my_X9_within (w_491) pd_X9_within (Nat.le_trans (by decide) hfr) rfl rfl rfl rfl dX9_finds_22 (fun e11 => ?_)
      refine wp_if_ne (tgt := 30) ok dX9_finds_25 (by decide) (fun c12 => ?_) (fun c12 => ?_)
      · have hq := ite_f c12 hq
        refine wp_iload_n (v := x1) ok dX9_finds_30 rfl ?_
        refine wp_iload_n (v := x3) ok dX9_finds_31 rfl ?_
        obtain ⟨v13, e14, hq⟩ := bnd_some hq
        refine wp_callSJ (As := [.int x1, .int x3]) (rest := []) (h1 := h) ok (m_X9_choices e14 (Nat.le_refl _)) my_X9_choices (w_898) pd_X9_choices (Nat.le_trans (by decide) hfr) rfl rfl rfl rfl dX9_finds_32 (fun e15 => ?_)
        refine wp_lstore (L' := [(4, .long v13), (0, .ref x0), (1, .int x1), (2, .int x2), (3, .int x3)]) ok dX9_finds_35 rfl rfl ?_
        refine wp_aload_n (v := x0) ok dX9_finds_37 rfl ?_
        refine wp_lload (v := v13) ok dX9_finds_38 rfl ?_
        refine wp_iload_n (v := x1) ok dX9_finds_40 rfl ?_
        refine wp_iload_n (v := x2) ok dX9_finds_41 rfl ?_
        refine wp_isub ok dX9_finds_42 ?_
        refine wp_iload_n (v := x3) ok dX9_finds_43 rfl ?_
        obtain ⟨v16, e17, hq⟩ := bnd_some hq
        refine wp_callSJ (As := [.int (x1 - x2), .int x3]) (rest := [.long v13, .ref x0]) (h1 := h) ok (m_X9_choices e17 (Nat.le_refl _)) my_X9_choices (w_898) pd_X9_choices (Nat.le_trans (by decide) hfr) rfl rfl rfl rfl dX9_finds_44 (fun e18 => ?_)
        refine wp_lsub ok dX9_finds_47 ?_
        refine wp_lload (v := v13) ok dX9_finds_48 rfl ?_
        obtain ⟨h19, e20, hq⟩ := bnd_some hq
        refine wp_callVV (As := [.long (v13 - v16), .long v13]) (rest := []) (h1 := h19) ok (m_X9_tellFraction e20 (Nat.le_refl _)) my_X9_tellFraction (w_887) pd_X9_tellFraction (Nat.le_trans (by decide) hfr) rfl (ci := 9) rfl (by decide) (sh_of e f_x0) rfl rfl rfl dX9_finds_50 (fun e21 => ?_)
        have e22 : h19.1 = h0.1 := (e21).trans e
        refine wp_iconst (v := 0) ok dX9_finds_53 (by decide) ?_
        exact wp_iret ok hF rfl e22 (re2I hq) dX9_finds_54
      · have hq := ite_t c12 hq
        refine wp_iconst (v := -1) ok dX9_finds_28 (by decide) ?_
        exact wp_iret ok hF rfl e (re2I hq) dX9_finds_29
set_option maxHeartbeats 4000000 in
set_option maxRecDepth 100000 in
theorem s_X9_law_B37 {x : Cx} {h0 : HP} {N fr : Nat} {rr : (Int32 × HP)} (ok : Okx x cX9_law yX9_law.cls 5 fr) (hfr : 6 ≤ fr)  {x0 : Nat} {n_x0 : Nat} (f_x0 : h0.1[x0]? = some (9, n_x0)) (hF : Fend x h0 (some (.int)) (QI rr.1 rr.2)) {k85 : Int32 → Int32 → HP → Option (Int32 × HP)} (hk85 : ∀ (x2 : Int32) (x3 : Int32) (h : HP), k85 x2 x3 h = some rr → h.1 = h0.1 → wp x 85 [(2, .int x2), (3, .int x3), (0, .ref x0)] [] h) {rc : Int32 → Int32 → Int32 → HP → Option (Int32 × HP)} (ih : ∀ (x2 : Int32) (x3 : Int32) (x4 : Int32) (h : HP), rc x2 x3 x4 h = some rr → h.1 = h0.1 → wp x 37 [(2, .int x2), (3, .int x3), (4, .int x4), (0, .ref x0)] [] h) : ∀ (x2 : Int32) (x3 : Int32) (x4 : Int32) (h : HP), f_X9_law_B37 N x0 k85 rc x2 x3 x4 h = some rr → h.1 = h0.1 → wp x 37 [(2, .int x2), (3, .int x3), (4, .int x4), (0, .ref x0)] [] h := by
  intro x2 x3 x4 h hq e
  unfold f_X9_law_B37 at hq
  refine wp_iload (v := x4) ok dX9_law_37 rfl ?_
  refine wp_aload_n (v := x0) ok dX9_law_39 rfl ?_
  obtain ⟨t26, e27, hq⟩ := bnd_some hq
  obtain ⟨e28, n29, f30⟩ := rK_some e27
  replace f30 := sh_of (e).symm f30
  refine wp_getR ok fl_RX9_26 (sh_of e f_x0) e28 dX9_law_40 ?_
  refine wp_getI ok fl_RX9_47 (sh_of e f30) dX9_law_43 ?_
  refine wp_icmp_ge (tgt := 85) ok dX9_law_46 (by decide) (fun c31 => ?_) (fun c31 => ?_)
  · have hq := ite_t c31 hq
    refine wp_sub (L' := [(2, .int x2), (3, .int x3), (0, .ref x0)]) [0, 1, 3] rfl ?_
    exact hk85 x2 x3 h hq e
  · have hq := ite_f c31 hq
    refine wp_iload_n (v := x2) ok dX9_law_49 rfl ?_
    refine wp_aload_n (v := x0) ok dX9_law_50 rfl ?_
    refine wp_aload_n (v := x0) ok dX9_law_51 rfl ?_
    obtain ⟨t32, e33, hq⟩ := bnd_some hq
    obtain ⟨e34, n35, f36⟩ := rK_some e33
    replace f36 := sh_of (e).symm f36
    refine wp_getR ok fl_RX9_98 (sh_of e f_x0) e34 dX9_law_52 ?_
    refine wp_aload_n (v := x0) ok dX9_law_55 rfl ?_
    obtain ⟨t37, e38, hq⟩ := bnd_some hq
    obtain ⟨e39, n40, f41⟩ := rK_some e38
    replace f41 := sh_of (e).symm f41
    refine wp_getR ok fl_RX9_26 (sh_of e f_x0) e39 dX9_law_56 ?_
    refine wp_iload (v := x4) ok dX9_law_59 rfl ?_
    obtain ⟨v42, h44, e43, hq⟩ := bnd2_some hq
    refine wp_callVI (As := [.ref t32, .ref t37, .int x4]) (rest := [.int x2]) (h1 := h44) ok (m_X9_priceBy e43 (Nat.le_refl _)) my_X9_priceBy (w_557) pd_X9_priceBy (Nat.le_trans (by decide) hfr) rfl (ci := 9) rfl (by decide) (sh_of e f_x0) rfl rfl rfl dX9_law_61 (fun e45 => ?_)
    have e46 : h44.1 = h0.1 := (e45).trans e
    refine wp_iadd ok dX9_law_64 ?_
    obtain ⟨v47, e48, hq⟩ := lt_some hq
    refine wp_nmI e48 ?_
    refine wp_istore_n (L' := [(2, .int v47), (3, .int x3), (4, .int x4), (0, .ref x0)]) ok dX9_law_65 rfl rfl ?_
    refine wp_iload_n (v := x3) ok dX9_law_66 rfl ?_
    refine wp_aload_n (v := x0) ok dX9_law_67 rfl ?_
    refine wp_aload_n (v := x0) ok dX9_law_68 rfl ?_
    obtain ⟨t49, e50, hq⟩ := bnd_some hq
    obtain ⟨e51, n52, f53⟩ := rK_some e50
    replace f53 := sh_of (e46).symm f53
    refine wp_getR ok fl_RX9_26 (sh_of e46 f_x0) e51 dX9_law_69 ?_
    refine wp_iload (v := x4) ok dX9_law_72 rfl ?_
    obtain ⟨v54, h56, e55, hq⟩ := bnd2_some hq
    refine wp_callVI (As := [.ref t49, .int x4]) (rest := [.int x3]) (h1 := h56) ok (m_X9_priceOf e55 (Nat.le_refl _)) my_X9_priceOf (w_553) pd_X9_priceOf (Nat.le_trans (by decide) hfr) rfl (ci := 9) rfl (by decide) (sh_of e46 f_x0) rfl rfl rfl dX9_law_74 (fun e57 => ?_)
    have e58 : h56.1 = h0.1 := (e57).trans e46
    refine wp_iadd ok dX9_law_77 ?_
    obtain ⟨v59, e60, hq⟩ := lt_some hq
    refine wp_nmI e60 ?_
    refine wp_istore_n (L' := [(3, .int v59), (2, .int v47), (4, .int x4), (0, .ref x0)]) ok dX9_law_78 rfl rfl ?_
    obtain ⟨v61, e62, hq⟩ := lt_some hq
    refine wp_iinc (v := x4) (w := 1) (L' := [(4, .int v61), (3, .int v59), (2, .int v47), (0, .ref x0)]) ok dX9_law_79 rfl (by decide) rfl (by rw [← e62]; rfl) ?_
    refine wp_goto (tgt := 37) ok dX9_law_82 (by decide) ?_
    refine wp_sub (L' := [(2, .int v47), (3, .int v59), (4, .int v61), (0, .ref x0)]) [2, 1, 0, 3] rfl ?_
    exact ih v47 v59 v61 h56 hq e58
set_option maxHeartbeats 4000000 in
set_option maxRecDepth 100000 in
theorem l_X9_law_B37 {x : Cx} {h0 : HP} {N fr : Nat} {rr : (Int32 × HP)} (ok : Okx x cX9_law yX9_law.cls 5 fr) (hfr : 6 ≤ fr)  {x0 : Nat} {n_x0 : Nat} (f_x0 : h0.1[x0]? = some (9, n_x0)) (hF : Fend x h0 (some (.int)) (QI rr.1 rr.2)) {k85 : Int32 → Int32 → HP → Option (Int32 × HP)} (hk85 : ∀ (x2 : Int32) (x3 : Int32) (h : HP), k85 x2 x3 h = some rr → h.1 = h0.1 → wp x 85 [(2, .int x2), (3, .int x3), (0, .ref x0)] [] h) : ∀ (n : Nat) (x2 : Int32) (x3 : Int32) (x4 : Int32) (h : HP), lp (fun _ _ _ _ => none) (f_X9_law_B37 N x0 k85) n x2 x3 x4 h = some rr → h.1 = h0.1 → wp x 37 [(2, .int x2), (3, .int x3), (4, .int x4), (0, .ref x0)] [] h := by
  intro n
  induction n with
  | zero => intro x2 x3 x4 h hq e; exact (Option.some_ne_none _ hq.symm).elim
  | succ n ih => exact s_X9_law_B37 ok hfr f_x0 hF hk85 ih
set_option maxHeartbeats 4000000 in
set_option maxRecDepth 100000 in
theorem m_X9_law {l : Launch} {h : HP} {N : Nat} {x0 : Nat} {rr : Int32} {rh : HP} {fr : Nat} (hq : f_X9_law N h x0 = some (rr, rh)) (hfr : 6 ≤ fr) : Mt l yX9_law cX9_law 5 (some (.int)) fr [.ref x0] h (QI rr rh) := by
  obtain ⟨rp, ep⟩ : ∃ rp : (Int32 × HP), rp = (rr, rh) := ⟨_, rfl⟩
  have e1p : rr = rp.1 := (congrArg Prod.fst ep).symm
  have e2p : rh = rp.2 := (congrArg Prod.snd ep).symm
  rw [← ep] at hq
  rw [e1p, e2p]
  clear e1p e2p ep
  refine Mt.of (by decide +kernel) (Nat.le_of_ble_eq_true rfl) (fun x hl ok hF => ?_)
  subst hl
  show wp x 0 [(0, .ref x0)] [] h
  unfold f_X9_law at hq
  obtain ⟨h0, eh0⟩ : ∃ h0 : HP, h = h0 := ⟨h, rfl⟩
  have e : h.1 = h0.1 := by rw [eh0]
  rw [eh0] at hF
  obtain ⟨g_x0, hq⟩ := gP_some hq
  obtain ⟨n_x0, f_x0⟩ := kO_some g_x0
  replace f_x0 := sh_of e.symm f_x0
  refine wp_aload_n (v := x0) ok dX9_law_0 rfl ?_
  obtain ⟨t1, e2, hq⟩ := bnd_some hq
  obtain ⟨e3, n4, f5⟩ := rK_some e2
  replace f5 := sh_of (e).symm f5
  refine wp_getR ok fl_RX9_98 (sh_of e f_x0) e3 dX9_law_1 ?_
  refine wp_aload_n (v := x0) ok dX9_law_4 rfl ?_
  obtain ⟨t6, e7, hq⟩ := bnd_some hq
  obtain ⟨e8, n9, f10⟩ := rK_some e7
  replace f10 := sh_of (e).symm f10
  refine wp_getR ok fl_RX9_10 (sh_of e f_x0) e8 dX9_law_5 ?_
  obtain ⟨v11, h13, e12, hq⟩ := bnd2_some hq
  refine wp_callVI (As := [.ref t6]) (rest := []) (h1 := h13) ok (m_X7_read e12 (Nat.le_refl _)) my_X7_read (w_360) pd_X7_read (Nat.le_trans (by decide) hfr) rfl (ci := 7) rfl (by decide) (sh_of e f5) rfl rfl rfl dX9_law_8 (fun e14 => ?_)
  have e15 : h13.1 = h0.1 := (e14).trans e
  refine wp_istore_n (L' := [(1, .int v11), (0, .ref x0)]) ok dX9_law_11 rfl rfl ?_
  refine wp_aload_n (v := x0) ok dX9_law_12 rfl ?_
  obtain ⟨t16, e17, hq⟩ := bnd_some hq
  obtain ⟨e18, n19, f20⟩ := rK_some e17
  replace f20 := sh_of (e15).symm f20
  refine wp_getR ok fl_RX9_10 (sh_of e15 f_x0) e18 dX9_law_13 ?_
  obtain ⟨h21, e22, hq⟩ := bnd_some hq
  refine wp_callVV (As := []) (rest := []) (h1 := h21) ok (m_X8_empty e22 (Nat.le_refl _)) my_X8_empty (w_328) pd_X8_empty (Nat.le_trans (by decide) hfr) rfl (ci := 8) rfl (by decide) (sh_of e15 f20) rfl rfl rfl dX9_law_16 (fun e23 => ?_)
  have e24 : h21.1 = h0.1 := (e23).trans e15
  refine wp_iload_n (v := v11) ok dX9_law_19 rfl ?_
  refine wp_iconst (v := -1) ok dX9_law_20 (by decide) ?_
  refine wp_icmp_eq (tgt := 30) ok dX9_law_21 (by decide) (fun c25 => ?_) (fun c25 => ?_)
  · have hq := ite_t c25 hq
    refine wp_iconst (v := 0) ok dX9_law_30 (by decide) ?_
    refine wp_istore_n (L' := [(2, .int 0), (1, .int v11), (0, .ref x0)]) ok dX9_law_31 rfl rfl ?_
    refine wp_iconst (v := 0) ok dX9_law_32 (by decide) ?_
    refine wp_istore_n (L' := [(3, .int 0), (2, .int 0), (1, .int v11), (0, .ref x0)]) ok dX9_law_33 rfl rfl ?_
    refine wp_iconst (v := 0) ok dX9_law_34 (by decide) ?_
    refine wp_istore (L' := [(4, .int 0), (3, .int 0), (2, .int 0), (1, .int v11), (0, .ref x0)]) ok dX9_law_35 rfl rfl ?_
    refine wp_sub (L' := [(2, .int 0), (3, .int 0), (4, .int 0), (0, .ref x0)]) [2, 1, 0, 4] rfl ?_
    refine l_X9_law_B37 ok hfr f_x0 hF ?_ N 0 0 0 h21 hq e24
    · intro x63 x64 h65 hq e66
      refine wp_aload_n (v := x0) ok dX9_law_85 rfl ?_
      obtain ⟨t67, e68, hq⟩ := bnd_some hq
      obtain ⟨e69, n70, f71⟩ := rK_some e68
      replace f71 := sh_of (e66).symm f71
      refine wp_getR ok fl_RX9_19 (sh_of e66 f_x0) e69 dX9_law_86 ?_
      refine wp_iload_n (v := x63) ok dX9_law_89 rfl ?_
      refine wp_i2l ok dX9_law_90 ?_
      refine wp_iload_n (v := x64) ok dX9_law_91 rfl ?_
      refine wp_i2l ok dX9_law_92 ?_
      obtain ⟨h72, e73, hq⟩ := bnd_some hq
      refine wp_callVV (As := [.long (x63.toInt64), .long (x64.toInt64)]) (rest := []) (h1 := h72) ok (m_X6_tell_ e73 (Nat.le_refl _)) my_X6_tell_ (w_571) pd_X6_tell_ (Nat.le_trans (by decide) hfr) rfl (ci := 6) rfl (by decide) (sh_of e66 f71) rfl rfl rfl dX9_law_93 (fun e74 => ?_)
      have e75 : h72.1 = h0.1 := (e74).trans e66
      refine wp_iload_n (v := x63) ok dX9_law_96 rfl ?_
      refine wp_iload_n (v := x64) ok dX9_law_97 rfl ?_
      refine wp_isub ok dX9_law_98 ?_
      exact wp_iret ok hF rfl e75 (re2I hq) dX9_law_99
  · have hq := ite_f c25 hq
    refine wp_ldcw (v := -1000000) ok (w_905) dX9_law_24 ?_
    refine wp_iload_n (v := v11) ok dX9_law_27 rfl ?_
    refine wp_isub ok dX9_law_28 ?_
    exact wp_iret ok hF rfl e24 (re2I hq) dX9_law_29
set_option maxHeartbeats 4000000 in
set_option maxRecDepth 100000 in
theorem m_X9_baskets {l : Launch} {h : HP} {x0 : Int32} {x1 : Int32} {x2 : Int32} {rr : Int32} {fr : Nat} (hq : f_X9_baskets x0 x1 x2 = some rr) (hfr : 0 ≤ fr) : Mt l yX9_baskets cX9_baskets 4 (some (.int)) fr [.int x0, .int x1, .int x2] h (QI rr h) := by
  refine Mt.of (by decide +kernel) (Nat.le_of_ble_eq_true rfl) (fun x hl ok hF => ?_)
  subst hl
  show wp x 0 [(0, .int x0), (1, .int x1), (2, .int x2)] [] h
  unfold f_X9_baskets at hq
  refine wp_bipush (v := 18) ok dX9_baskets_0 (by decide) ?_
  refine wp_iload_n (v := x0) ok dX9_baskets_2 rfl ?_
  refine wp_isub ok dX9_baskets_3 ?_
  refine wp_iload_n (v := x1) ok dX9_baskets_4 rfl ?_
  refine wp_isub ok dX9_baskets_5 ?_
  obtain ⟨v1, e2, hq⟩ := lt_some hq
  refine wp_nmI e2 ?_
  refine wp_istore_n (L' := [(3, .int v1), (0, .int x0), (1, .int x1), (2, .int x2)]) ok dX9_baskets_6 rfl rfl ?_
  refine wp_iload_n (v := x0) ok dX9_baskets_7 rfl ?_
  refine wp_iload_n (v := x2) ok dX9_baskets_8 rfl ?_
  refine wp_iload_n (v := v1) ok dX9_baskets_9 rfl ?_
  refine wp_iconst (v := 2) ok dX9_baskets_10 (by decide) ?_
  refine wp_idiv ok dX9_baskets_11 (by decide) ?_
  refine wp_isub ok dX9_baskets_12 ?_
  refine wp_imul ok dX9_baskets_13 ?_
  refine wp_bipush (v := 9) ok dX9_baskets_14 (by decide) ?_
  refine wp_iload_n (v := x0) ok dX9_baskets_16 rfl ?_
  refine wp_isub ok dX9_baskets_17 ?_
  refine wp_iconst (v := 2) ok dX9_baskets_18 (by decide) ?_
  refine wp_imul ok dX9_baskets_19 ?_
  refine wp_iadd ok dX9_baskets_20 ?_
  exact wp_iret ok hF rfl rfl (re1I hq) dX9_baskets_21
set_option maxHeartbeats 4000000 in
set_option maxRecDepth 100000 in
theorem s_X9_isBestAgainst_B10 {x : Cx} {h : HP} {N fr : Nat} {rr : Int32} (ok : Okx x cX9_isBestAgainst yX9_isBestAgainst.cls 5 fr) (hfr : 1 ≤ fr)  {x1 : Int32} {x2 : Int32} {x3 : Int32} (hF : Fend x h (some (.boolean)) (QI rr h)) {rc : Int32 → Option Int32} (ih : ∀ (x4 : Int32), rc x4 = some rr → wp x 10 [(4, .int x4), (1, .int x1), (2, .int x2), (3, .int x3)] [] h) : ∀ (x4 : Int32), f_X9_isBestAgainst_B10 N x1 x2 x3 rc x4 = some rr → wp x 10 [(4, .int x4), (1, .int x1), (2, .int x2), (3, .int x3)] [] h := by
  intro x4 hq
  unfold f_X9_isBestAgainst_B10 at hq
  refine wp_iload (v := x4) ok dX9_isBestAgainst_10 rfl ?_
  refine wp_bipush (v := 9) ok dX9_isBestAgainst_12 (by decide) ?_
  refine wp_icmp_gt (tgt := 36) ok dX9_isBestAgainst_14 (by decide) (fun c4 => ?_) (fun c4 => ?_)
  · have hq := ite_t c4 hq
    refine wp_iconst (v := 1) ok dX9_isBestAgainst_36 (by decide) ?_
    exact wp_iret ok hF (nb_z (Or.inr rfl)) rfl (re1I hq) dX9_isBestAgainst_37
  · have hq := ite_f c4 hq
    refine wp_iload (v := x4) ok dX9_isBestAgainst_17 rfl ?_
    refine wp_iload_n (v := x1) ok dX9_isBestAgainst_19 rfl ?_
    refine wp_iload_n (v := x2) ok dX9_isBestAgainst_20 rfl ?_
    obtain ⟨v5, e6, hq⟩ := bnd_some hq
    refine wp_callSI (As := [.int x4, .int x1, .int x2]) (rest := []) (h1 := h) ok (m_X9_baskets e6 (Nat.le_refl _)) my_X9_baskets (w_913) pd_X9_baskets (Nat.le_trans (by decide) hfr) rfl rfl rfl rfl dX9_isBestAgainst_21 (fun e7 => ?_)
    refine wp_iload_n (v := x3) ok dX9_isBestAgainst_24 rfl ?_
    refine wp_icmp_le (tgt := 30) ok dX9_isBestAgainst_25 (by decide) (fun c8 => ?_) (fun c8 => ?_)
    · have hq := ite_t c8 hq
      obtain ⟨v9, e10, hq⟩ := lt_some hq
      refine wp_iinc (v := x4) (w := 1) (L' := [(4, .int v9), (1, .int x1), (2, .int x2), (3, .int x3)]) ok dX9_isBestAgainst_30 rfl (by decide) rfl (by rw [← e10]; rfl) ?_
      refine wp_goto (tgt := 10) ok dX9_isBestAgainst_33 (by decide) ?_
      refine wp_sub (L' := [(4, .int v9), (1, .int x1), (2, .int x2), (3, .int x3)]) [0, 1, 2, 3] rfl ?_
      exact ih v9 hq
    · have hq := ite_f c8 hq
      refine wp_iconst (v := 0) ok dX9_isBestAgainst_28 (by decide) ?_
      exact wp_iret ok hF (nb_z (Or.inl rfl)) rfl (re1I hq) dX9_isBestAgainst_29
set_option maxHeartbeats 4000000 in
set_option maxRecDepth 100000 in
theorem l_X9_isBestAgainst_B10 {x : Cx} {h : HP} {N fr : Nat} {rr : Int32} (ok : Okx x cX9_isBestAgainst yX9_isBestAgainst.cls 5 fr) (hfr : 1 ≤ fr)  {x1 : Int32} {x2 : Int32} {x3 : Int32} (hF : Fend x h (some (.boolean)) (QI rr h)) : ∀ (n : Nat) (x4 : Int32), lp (fun _ => none) (f_X9_isBestAgainst_B10 N x1 x2 x3) n x4 = some rr → wp x 10 [(4, .int x4), (1, .int x1), (2, .int x2), (3, .int x3)] [] h := by
  intro n
  induction n with
  | zero => intro x4 hq; exact (Option.some_ne_none _ hq.symm).elim
  | succ n ih => exact s_X9_isBestAgainst_B10 ok hfr  hF  ih
set_option maxHeartbeats 4000000 in
set_option maxRecDepth 100000 in
theorem m_X9_isBestAgainst {l : Launch} {h : HP} {N : Nat} {x0 : Int32} {x1 : Int32} {x2 : Int32} {rr : Int32} {fr : Nat} (hq : f_X9_isBestAgainst N x0 x1 x2 = some rr) (hfr : 1 ≤ fr) : Mt l yX9_isBestAgainst cX9_isBestAgainst 5 (some (.boolean)) fr [.int x0, .int x1, .int x2] h (QI rr h) := by
  refine Mt.of (by decide +kernel) (Nat.le_of_ble_eq_true rfl) (fun x hl ok hF => ?_)
  subst hl
  show wp x 0 [(0, .int x0), (1, .int x1), (2, .int x2)] [] h
  unfold f_X9_isBestAgainst at hq
  refine wp_iload_n (v := x0) ok dX9_isBestAgainst_0 rfl ?_
  refine wp_iload_n (v := x1) ok dX9_isBestAgainst_1 rfl ?_
  refine wp_iload_n (v := x2) ok dX9_isBestAgainst_2 rfl ?_
  obtain ⟨v1, e2, hq⟩ := bnd_some hq
  refine wp_callSI (As := [.int x0, .int x1, .int x2]) (rest := []) (h1 := h) ok (m_X9_baskets e2 (Nat.le_refl _)) my_X9_baskets (w_913) pd_X9_baskets (Nat.le_trans (by decide) hfr) rfl rfl rfl rfl dX9_isBestAgainst_3 (fun e3 => ?_)
  refine wp_istore_n (L' := [(3, .int v1), (0, .int x0), (1, .int x1), (2, .int x2)]) ok dX9_isBestAgainst_6 rfl rfl ?_
  refine wp_iconst (v := 0) ok dX9_isBestAgainst_7 (by decide) ?_
  refine wp_istore (L' := [(4, .int 0), (3, .int v1), (0, .int x0), (1, .int x1), (2, .int x2)]) ok dX9_isBestAgainst_8 rfl rfl ?_
  refine wp_sub (L' := [(4, .int 0), (1, .int x1), (2, .int x2), (3, .int v1)]) [0, 3, 4, 1] rfl ?_
  refine l_X9_isBestAgainst_B10 ok hfr  hF  N 0 hq
set_option maxHeartbeats 4000000 in
set_option maxRecDepth 100000 in
theorem s_X9_rests_B32 {x : Cx} {h0 : HP} {N fr : Nat} {rr : (Int32 × HP)} (ok : Okx x cX9_rests yX9_rests.cls 5 fr) (hfr : 2 ≤ fr)  {x0 : Nat} {x1 : Int32} {x3 : Int32} {n_x0 : Nat} (f_x0 : h0.1[x0]? = some (9, n_x0)) (hF : Fend x h0 (some (.int)) (QI rr.1 rr.2)) {k84 : Int32 → HP → Option (Int32 × HP)} (hk84 : ∀ (x2 : Int32) (h : HP), k84 x2 h = some rr → h.1 = h0.1 → wp x 84 [(2, .int x2), (0, .ref x0), (1, .int x1), (3, .int x3)] [] h) {rc : Int32 → Int32 → HP → Option (Int32 × HP)} (ih : ∀ (x2 : Int32) (x4 : Int32) (h : HP), rc x2 x4 h = some rr → h.1 = h0.1 → wp x 32 [(2, .int x2), (4, .int x4), (0, .ref x0), (1, .int x1), (3, .int x3)] [] h) : ∀ (x2 : Int32) (x4 : Int32) (h : HP), f_X9_rests_B32 N x0 x1 x3 k84 rc x2 x4 h = some rr → h.1 = h0.1 → wp x 32 [(2, .int x2), (4, .int x4), (0, .ref x0), (1, .int x1), (3, .int x3)] [] h := by
  intro x2 x4 h hq e
  unfold f_X9_rests_B32 at hq
  refine wp_iload (v := x4) ok dX9_rests_32 rfl ?_
  refine wp_bipush (v := 9) ok dX9_rests_34 (by decide) ?_
  refine wp_icmp_gt (tgt := 84) ok dX9_rests_36 (by decide) (fun c15 => ?_) (fun c15 => ?_)
  · have hq := ite_t c15 hq
    refine wp_sub (L' := [(2, .int x2), (0, .ref x0), (1, .int x1), (3, .int x3)]) [0, 2, 3, 4] rfl ?_
    exact hk84 x2 h hq e
  · have hq := ite_f c15 hq
    refine wp_iload_n (v := x3) ok dX9_rests_39 rfl ?_
    refine wp_iload (v := x4) ok dX9_rests_40 rfl ?_
    refine wp_iload_n (v := x1) ok dX9_rests_42 rfl ?_
    obtain ⟨v16, e17, hq⟩ := bnd_some hq
    refine wp_callSI (As := [.int x3, .int x4, .int x1]) (rest := []) (h1 := h) ok (m_X9_isBestAgainst e17 (Nat.le_refl _)) my_X9_isBestAgainst (w_910) pd_X9_isBestAgainst (Nat.le_trans (by decide) hfr) rfl rfl rfl rfl dX9_rests_43 (fun e18 => ?_)
    refine wp_if_eq (tgt := 78) ok dX9_rests_46 (by decide) (fun c19 => ?_) (fun c19 => ?_)
    · have hq := ite_t c19 hq
      obtain ⟨v20, e21, hq⟩ := lt_some hq
      refine wp_iinc (v := x4) (w := 1) (L' := [(4, .int v20), (2, .int x2), (0, .ref x0), (1, .int x1), (3, .int x3)]) ok dX9_rests_78 rfl (by decide) rfl (by rw [← e21]; rfl) ?_
      refine wp_goto (tgt := 32) ok dX9_rests_81 (by decide) ?_
      refine wp_sub (L' := [(2, .int x2), (4, .int v20), (0, .ref x0), (1, .int x1), (3, .int x3)]) [1, 0, 2, 3, 4] rfl ?_
      exact ih x2 v20 h hq e
    · have hq := ite_f c19 hq
      refine wp_iload (v := x4) ok dX9_rests_49 rfl ?_
      refine wp_iload_n (v := x3) ok dX9_rests_51 rfl ?_
      refine wp_iload_n (v := x1) ok dX9_rests_52 rfl ?_
      obtain ⟨v22, e23, hq⟩ := bnd_some hq
      refine wp_callSI (As := [.int x4, .int x3, .int x1]) (rest := []) (h1 := h) ok (m_X9_isBestAgainst e23 (Nat.le_refl _)) my_X9_isBestAgainst (w_910) pd_X9_isBestAgainst (Nat.le_trans (by decide) hfr) rfl rfl rfl rfl dX9_rests_53 (fun e24 => ?_)
      refine wp_if_eq (tgt := 78) ok dX9_rests_56 (by decide) (fun c25 => ?_) (fun c25 => ?_)
      · have hq := ite_t c25 hq
        obtain ⟨v26, e27, hq⟩ := lt_some hq
        refine wp_iinc (v := x4) (w := 1) (L' := [(4, .int v26), (2, .int x2), (0, .ref x0), (1, .int x1), (3, .int x3)]) ok dX9_rests_78 rfl (by decide) rfl (by rw [← e27]; rfl) ?_
        refine wp_goto (tgt := 32) ok dX9_rests_81 (by decide) ?_
        refine wp_sub (L' := [(2, .int x2), (4, .int v26), (0, .ref x0), (1, .int x1), (3, .int x3)]) [1, 0, 2, 3, 4] rfl ?_
        exact ih x2 v26 h hq e
      · have hq := ite_f c25 hq
        refine wp_iload_n (v := x2) ok dX9_rests_59 rfl ?_
        refine wp_if_ne (tgt := 75) ok dX9_rests_60 (by decide) (fun c28 => ?_) (fun c28 => ?_)
        · have hq := ite_f c28 hq
          obtain ⟨v29, e30, hq⟩ := lt_some hq
          refine wp_iinc (v := x2) (w := 1) (L' := [(2, .int v29), (4, .int x4), (0, .ref x0), (1, .int x1), (3, .int x3)]) ok dX9_rests_75 rfl (by decide) rfl (by rw [← e30]; rfl) ?_
          obtain ⟨v31, e32, hq⟩ := lt_some hq
          refine wp_iinc (v := x4) (w := 1) (L' := [(4, .int v31), (2, .int v29), (0, .ref x0), (1, .int x1), (3, .int x3)]) ok dX9_rests_78 rfl (by decide) rfl (by rw [← e32]; rfl) ?_
          refine wp_goto (tgt := 32) ok dX9_rests_81 (by decide) ?_
          refine wp_sub (L' := [(2, .int v29), (4, .int v31), (0, .ref x0), (1, .int x1), (3, .int x3)]) [1, 0, 2, 3, 4] rfl ?_
          exact ih v29 v31 h hq e
        · have hq := ite_t c28 hq
          refine wp_aload_n (v := x0) ok dX9_rests_63 rfl ?_
          obtain ⟨t33, e34, hq⟩ := bnd_some hq
          obtain ⟨e35, n36, f37⟩ := rK_some e34
          replace f37 := sh_of (e).symm f37
          refine wp_getR ok fl_RX9_19 (sh_of e f_x0) e35 dX9_rests_64 ?_
          refine wp_iload_n (v := x3) ok dX9_rests_67 rfl ?_
          refine wp_i2l ok dX9_rests_68 ?_
          refine wp_iload (v := x4) ok dX9_rests_69 rfl ?_
          refine wp_i2l ok dX9_rests_71 ?_
          obtain ⟨h38, e39, hq⟩ := bnd_some hq
          refine wp_callVV (As := [.long (x3.toInt64), .long (x4.toInt64)]) (rest := []) (h1 := h38) ok (m_X6_tell_ e39 (Nat.le_refl _)) my_X6_tell_ (w_571) pd_X6_tell_ (Nat.le_trans (by decide) hfr) rfl (ci := 6) rfl (by decide) (sh_of e f37) rfl rfl rfl dX9_rests_72 (fun e40 => ?_)
          have e41 : h38.1 = h0.1 := (e40).trans e
          obtain ⟨v42, e43, hq⟩ := lt_some hq
          refine wp_iinc (v := x2) (w := 1) (L' := [(2, .int v42), (4, .int x4), (0, .ref x0), (1, .int x1), (3, .int x3)]) ok dX9_rests_75 rfl (by decide) rfl (by rw [← e43]; rfl) ?_
          obtain ⟨v44, e45, hq⟩ := lt_some hq
          refine wp_iinc (v := x4) (w := 1) (L' := [(4, .int v44), (2, .int v42), (0, .ref x0), (1, .int x1), (3, .int x3)]) ok dX9_rests_78 rfl (by decide) rfl (by rw [← e45]; rfl) ?_
          refine wp_goto (tgt := 32) ok dX9_rests_81 (by decide) ?_
          refine wp_sub (L' := [(2, .int v42), (4, .int v44), (0, .ref x0), (1, .int x1), (3, .int x3)]) [1, 0, 2, 3, 4] rfl ?_
          exact ih v42 v44 h38 hq e41
set_option maxHeartbeats 4000000 in
set_option maxRecDepth 100000 in
theorem l_X9_rests_B32 {x : Cx} {h0 : HP} {N fr : Nat} {rr : (Int32 × HP)} (ok : Okx x cX9_rests yX9_rests.cls 5 fr) (hfr : 2 ≤ fr)  {x0 : Nat} {x1 : Int32} {x3 : Int32} {n_x0 : Nat} (f_x0 : h0.1[x0]? = some (9, n_x0)) (hF : Fend x h0 (some (.int)) (QI rr.1 rr.2)) {k84 : Int32 → HP → Option (Int32 × HP)} (hk84 : ∀ (x2 : Int32) (h : HP), k84 x2 h = some rr → h.1 = h0.1 → wp x 84 [(2, .int x2), (0, .ref x0), (1, .int x1), (3, .int x3)] [] h) : ∀ (n : Nat) (x2 : Int32) (x4 : Int32) (h : HP), lp (fun _ _ _ => none) (f_X9_rests_B32 N x0 x1 x3 k84) n x2 x4 h = some rr → h.1 = h0.1 → wp x 32 [(2, .int x2), (4, .int x4), (0, .ref x0), (1, .int x1), (3, .int x3)] [] h := by
  intro n
  induction n with
  | zero => intro x2 x4 h hq e; exact (Option.some_ne_none _ hq.symm).elim
  | succ n ih => exact s_X9_rests_B32 ok hfr f_x0 hF hk84 ih
set_option maxHeartbeats 4000000 in
set_option maxRecDepth 100000 in
theorem s_X9_rests_B23 {x : Cx} {h0 : HP} {N fr : Nat} {rr : (Int32 × HP)} (ok : Okx x cX9_rests yX9_rests.cls 5 fr) (hfr : 2 ≤ fr)  {x0 : Nat} {x1 : Int32} {n_x0 : Nat} (f_x0 : h0.1[x0]? = some (9, n_x0)) (hF : Fend x h0 (some (.int)) (QI rr.1 rr.2)) {rc : Int32 → Int32 → HP → Option (Int32 × HP)} (ih : ∀ (x2 : Int32) (x3 : Int32) (h : HP), rc x2 x3 h = some rr → h.1 = h0.1 → wp x 23 [(2, .int x2), (3, .int x3), (0, .ref x0), (1, .int x1)] [] h) : ∀ (x2 : Int32) (x3 : Int32) (h : HP), f_X9_rests_B23 N x0 x1 rc x2 x3 h = some rr → h.1 = h0.1 → wp x 23 [(2, .int x2), (3, .int x3), (0, .ref x0), (1, .int x1)] [] h := by
  intro x2 x3 h hq e
  unfold f_X9_rests_B23 at hq
  refine wp_iload_n (v := x3) ok dX9_rests_23 rfl ?_
  refine wp_bipush (v := 9) ok dX9_rests_24 (by decide) ?_
  refine wp_icmp_gt (tgt := 90) ok dX9_rests_26 (by decide) (fun c14 => ?_) (fun c14 => ?_)
  · have hq := ite_t c14 hq
    refine wp_iload_n (v := x2) ok dX9_rests_90 rfl ?_
    exact wp_iret ok hF rfl e (re2I hq) dX9_rests_91
  · have hq := ite_f c14 hq
    refine wp_iconst (v := 0) ok dX9_rests_29 (by decide) ?_
    refine wp_istore (L' := [(4, .int 0), (2, .int x2), (3, .int x3), (0, .ref x0), (1, .int x1)]) ok dX9_rests_30 rfl rfl ?_
    refine wp_sub (L' := [(2, .int x2), (4, .int 0), (0, .ref x0), (1, .int x1), (3, .int x3)]) [1, 0, 3, 4, 2] rfl ?_
    refine l_X9_rests_B32 ok hfr f_x0 hF ?_ N x2 0 h hq e
    · intro x46 h47 hq e48
      obtain ⟨v49, e50, hq⟩ := lt_some hq
      refine wp_iinc (v := x3) (w := 1) (L' := [(3, .int v49), (2, .int x46), (0, .ref x0), (1, .int x1)]) ok dX9_rests_84 rfl (by decide) rfl (by rw [← e50]; rfl) ?_
      refine wp_goto (tgt := 23) ok dX9_rests_87 (by decide) ?_
      refine wp_sub (L' := [(2, .int x46), (3, .int v49), (0, .ref x0), (1, .int x1)]) [1, 0, 2, 3] rfl ?_
      exact ih x46 v49 h47 hq e48
set_option maxHeartbeats 4000000 in
set_option maxRecDepth 100000 in
theorem l_X9_rests_B23 {x : Cx} {h0 : HP} {N fr : Nat} {rr : (Int32 × HP)} (ok : Okx x cX9_rests yX9_rests.cls 5 fr) (hfr : 2 ≤ fr)  {x0 : Nat} {x1 : Int32} {n_x0 : Nat} (f_x0 : h0.1[x0]? = some (9, n_x0)) (hF : Fend x h0 (some (.int)) (QI rr.1 rr.2)) : ∀ (n : Nat) (x2 : Int32) (x3 : Int32) (h : HP), lp (fun _ _ _ => none) (f_X9_rests_B23 N x0 x1) n x2 x3 h = some rr → h.1 = h0.1 → wp x 23 [(2, .int x2), (3, .int x3), (0, .ref x0), (1, .int x1)] [] h := by
  intro n
  induction n with
  | zero => intro x2 x3 h hq e; exact (Option.some_ne_none _ hq.symm).elim
  | succ n ih => exact s_X9_rests_B23 ok hfr f_x0 hF  ih
set_option maxHeartbeats 4000000 in
set_option maxRecDepth 100000 in
theorem m_X9_rests {l : Launch} {h : HP} {N : Nat} {x0 : Nat} {x1 : Int32} {rr : Int32} {rh : HP} {fr : Nat} (hq : f_X9_rests N h x0 x1 = some (rr, rh)) (hfr : 2 ≤ fr) : Mt l yX9_rests cX9_rests 5 (some (.int)) fr [.ref x0, .int x1] h (QI rr rh) := by
  obtain ⟨rp, ep⟩ : ∃ rp : (Int32 × HP), rp = (rr, rh) := ⟨_, rfl⟩
  have e1p : rr = rp.1 := (congrArg Prod.fst ep).symm
  have e2p : rh = rp.2 := (congrArg Prod.snd ep).symm
  rw [← ep] at hq
  rw [e1p, e2p]
  clear e1p e2p ep
  refine Mt.of (by decide +kernel) (Nat.le_of_ble_eq_true rfl) (fun x hl ok hF => ?_)
  subst hl
  show wp x 0 [(0, .ref x0), (1, .int x1)] [] h
  unfold f_X9_rests at hq
  obtain ⟨h0, eh0⟩ : ∃ h0 : HP, h = h0 := ⟨h, rfl⟩
  have e : h.1 = h0.1 := by rw [eh0]
  rw [eh0] at hF
  obtain ⟨g_x0, hq⟩ := gP_some hq
  obtain ⟨n_x0, f_x0⟩ := kO_some g_x0
  replace f_x0 := sh_of e.symm f_x0
  refine wp_iload_n (v := x1) ok dX9_rests_0 rfl ?_
  refine wp_iconst (v := 0) ok dX9_rests_1 (by decide) ?_
  refine wp_bipush (v := 9) ok dX9_rests_2 (by decide) ?_
  obtain ⟨v1, e2, hq⟩ := bnd_some hq
  refine wp_callSI (As := [.int x1, .int 0, .int 9]) (rest := []) (h1 := h) ok (m_X9_within e2 (Nat.le_refl _)) my_X9_within (w_491) pd_X9_within (Nat.le_trans (by decide) hfr) rfl rfl rfl rfl dX9_rests_4 (fun e3 => ?_)
  refine wp_if_ne (tgt := 12) ok dX9_rests_7 (by decide) (fun c4 => ?_) (fun c4 => ?_)
  · have hq := ite_f c4 hq
    refine wp_aload_n (v := x0) ok dX9_rests_12 rfl ?_
    obtain ⟨t5, e6, hq⟩ := bnd_some hq
    obtain ⟨e7, n8, f9⟩ := rK_some e6
    replace f9 := sh_of (e).symm f9
    refine wp_getR ok fl_RX9_19 (sh_of e f_x0) e7 dX9_rests_13 ?_
    obtain ⟨h10, e11, hq⟩ := bnd_some hq
    refine wp_callVV (As := []) (rest := []) (h1 := h10) ok (m_X6_clear e11 (Nat.le_refl _)) my_X6_clear (w_726) pd_X6_clear (Nat.le_trans (by decide) hfr) rfl (ci := 6) rfl (by decide) (sh_of e f9) rfl rfl rfl dX9_rests_16 (fun e12 => ?_)
    have e13 : h10.1 = h0.1 := (e12).trans e
    refine wp_iconst (v := 0) ok dX9_rests_19 (by decide) ?_
    refine wp_istore_n (L' := [(2, .int 0), (0, .ref x0), (1, .int x1)]) ok dX9_rests_20 rfl rfl ?_
    refine wp_iconst (v := 0) ok dX9_rests_21 (by decide) ?_
    refine wp_istore_n (L' := [(3, .int 0), (2, .int 0), (0, .ref x0), (1, .int x1)]) ok dX9_rests_22 rfl rfl ?_
    refine wp_sub (L' := [(2, .int 0), (3, .int 0), (0, .ref x0), (1, .int x1)]) [1, 0, 2, 3] rfl ?_
    refine l_X9_rests_B23 ok hfr f_x0 hF  N 0 0 h10 hq e13
  · have hq := ite_t c4 hq
    refine wp_iconst (v := -1) ok dX9_rests_10 (by decide) ?_
    exact wp_iret ok hF rfl e (re2I hq) dX9_rests_11
set_option maxHeartbeats 4000000 in
set_option maxRecDepth 100000 in
theorem m_X9_drawAct {l : Launch} {h : HP} {N : Nat} {x0 : Nat} {rr : HP} {fr : Nat} (hq : f_X9_drawAct N h x0 = some rr) (hfr : 4 ≤ fr) : Mt l yX9_drawAct cX9_drawAct 3 none fr [.ref x0] h (QV rr) := by
  refine Mt.of (by decide +kernel) (Nat.le_of_ble_eq_true rfl) (fun x hl ok hF => ?_)
  subst hl
  show wp x 0 [(0, .ref x0)] [] h
  unfold f_X9_drawAct at hq
  obtain ⟨h0, eh0⟩ : ∃ h0 : HP, h = h0 := ⟨h, rfl⟩
  have e : h.1 = h0.1 := by rw [eh0]
  rw [eh0] at hF
  obtain ⟨g_x0, hq⟩ := gP_some hq
  obtain ⟨n_x0, f_x0⟩ := kO_some g_x0
  replace f_x0 := sh_of e.symm f_x0
  refine wp_aload_n (v := x0) ok dX9_drawAct_0 rfl ?_
  obtain ⟨t1, e2, hq⟩ := bnd_some hq
  obtain ⟨e3, n4, f5⟩ := rK_some e2
  replace f5 := sh_of (e).symm f5
  refine wp_getR ok fl_RX9_77 (sh_of e f_x0) e3 dX9_drawAct_1 ?_
  refine wp_iconst (v := 5) ok dX9_drawAct_4 (by decide) ?_
  obtain ⟨v6, h8, e7, hq⟩ := bnd2_some hq
  refine wp_callVI (As := [.int 5]) (rest := []) (h1 := h8) ok (m_X4_draw e7 (Nat.le_refl _)) my_X4_draw (w_928) pd_X4_draw (Nat.le_trans (by decide) hfr) rfl (ci := 4) rfl (by decide) (sh_of e f5) rfl rfl rfl dX9_drawAct_5 (fun e9 => ?_)
  have e10 : h8.1 = h0.1 := (e9).trans e
  refine wp_istore_n (L' := [(1, .int v6), (0, .ref x0)]) ok dX9_drawAct_8 rfl rfl ?_
  refine wp_iload_n (v := v6) ok dX9_drawAct_9 rfl ?_
  refine wp_iconst (v := 1) ok dX9_drawAct_10 (by decide) ?_
  refine wp_icmp_gt (tgt := 30) ok dX9_drawAct_11 (by decide) (fun c11 => ?_) (fun c11 => ?_)
  · have hq := ite_t c11 hq
    refine wp_iload_n (v := v6) ok dX9_drawAct_30 rfl ?_
    refine wp_iconst (v := 4) ok dX9_drawAct_31 (by decide) ?_
    refine wp_icmp_ne (tgt := 46) ok dX9_drawAct_32 (by decide) (fun c12 => ?_) (fun c12 => ?_)
    · have hq := ite_f c12 hq
      refine wp_aload_n (v := x0) ok dX9_drawAct_46 rfl ?_
      obtain ⟨t13, e14, hq⟩ := bnd_some hq
      obtain ⟨e15, n16, f17⟩ := rK_some e14
      replace f17 := sh_of (e10).symm f17
      refine wp_getR ok fl_RX9_33 (sh_of e10 f_x0) e15 dX9_drawAct_47 ?_
      refine wp_getI ok fl_RX9_47 (sh_of e10 f17) dX9_drawAct_50 ?_
      refine wp_if_le (tgt := 108) ok dX9_drawAct_53 (by decide) (fun c18 => ?_) (fun c18 => ?_)
      · have hq := ite_t c18 hq
        exact wp_vret ok hF e10 (reV hq) dX9_drawAct_108
      · have hq := ite_f c18 hq
        refine wp_aload_n (v := x0) ok dX9_drawAct_56 rfl ?_
        obtain ⟨t19, e20, hq⟩ := bnd_some hq
        obtain ⟨e21, n22, f23⟩ := rK_some e20
        replace f23 := sh_of (e10).symm f23
        refine wp_getR ok fl_RX9_77 (sh_of e10 f_x0) e21 dX9_drawAct_57 ?_
        refine wp_aload_n (v := x0) ok dX9_drawAct_60 rfl ?_
        obtain ⟨t24, e25, hq⟩ := bnd_some hq
        obtain ⟨e26, n27, f28⟩ := rK_some e25
        replace f28 := sh_of (e10).symm f28
        refine wp_getR ok fl_RX9_33 (sh_of e10 f_x0) e26 dX9_drawAct_61 ?_
        refine wp_getI ok fl_RX9_47 (sh_of e10 f28) dX9_drawAct_64 ?_
        obtain ⟨v29, h31, e30, hq⟩ := bnd2_some hq
        refine wp_callVI (As := [.int (h8.2.1 t24 2)]) (rest := []) (h1 := h31) ok (m_X4_draw e30 (Nat.le_refl _)) my_X4_draw (w_928) pd_X4_draw (Nat.le_trans (by decide) hfr) rfl (ci := 4) rfl (by decide) (sh_of e10 f23) rfl rfl rfl dX9_drawAct_67 (fun e32 => ?_)
        have e33 : h31.1 = h0.1 := (e32).trans e10
        refine wp_istore_n (L' := [(2, .int v29), (1, .int v6), (0, .ref x0)]) ok dX9_drawAct_70 rfl rfl ?_
        refine wp_iload_n (v := v6) ok dX9_drawAct_71 rfl ?_
        refine wp_iconst (v := 2) ok dX9_drawAct_72 (by decide) ?_
        refine wp_icmp_ne (tgt := 89) ok dX9_drawAct_73 (by decide) (fun c34 => ?_) (fun c34 => ?_)
        · have hq := ite_f c34 hq
          refine wp_aload_n (v := x0) ok dX9_drawAct_89 rfl ?_
          obtain ⟨t35, e36, hq⟩ := bnd_some hq
          obtain ⟨e37, n38, f39⟩ := rK_some e36
          replace f39 := sh_of (e33).symm f39
          refine wp_getR ok fl_RX9_33 (sh_of e33 f_x0) e37 dX9_drawAct_90 ?_
          refine wp_iload_n (v := v29) ok dX9_drawAct_93 rfl ?_
          refine wp_iconst (v := 1) ok dX9_drawAct_94 (by decide) ?_
          refine wp_aload_n (v := x0) ok dX9_drawAct_95 rfl ?_
          obtain ⟨t40, e41, hq⟩ := bnd_some hq
          obtain ⟨e42, n43, f44⟩ := rK_some e41
          replace f44 := sh_of (e33).symm f44
          refine wp_getR ok fl_RX9_77 (sh_of e33 f_x0) e42 dX9_drawAct_96 ?_
          refine wp_bipush (v := 100) ok dX9_drawAct_99 (by decide) ?_
          obtain ⟨v45, h47, e46, hq⟩ := bnd2_some hq
          refine wp_callVI (As := [.int 100]) (rest := [.int 1, .int v29, .ref t35]) (h1 := h47) ok (m_X4_draw e46 (Nat.le_refl _)) my_X4_draw (w_928) pd_X4_draw (Nat.le_trans (by decide) hfr) rfl (ci := 4) rfl (by decide) (sh_of e33 f44) rfl rfl rfl dX9_drawAct_101 (fun e48 => ?_)
          have e49 : h47.1 = h0.1 := (e48).trans e33
          obtain ⟨v50, h52, e51, hq⟩ := bnd2_some hq
          refine wp_callVI (As := [.int v29, .int 1, .int v45]) (rest := []) (h1 := h52) ok (m_X0_add e51 (Nat.le_refl _)) my_X0_add (w_933) pd_X0_add (Nat.le_trans (by decide) hfr) rfl (ci := 0) rfl (by decide) (sh_of e49 f39) rfl rfl rfl dX9_drawAct_104 (fun e53 => ?_)
          have e54 : h52.1 = h0.1 := (e53).trans e49
          refine wp_pop ok dX9_drawAct_107 rfl ?_
          exact wp_vret ok hF e54 (reV hq) dX9_drawAct_108
        · have hq := ite_t c34 hq
          refine wp_aload_n (v := x0) ok dX9_drawAct_76 rfl ?_
          obtain ⟨t55, e56, hq⟩ := bnd_some hq
          obtain ⟨e57, n58, f59⟩ := rK_some e56
          replace f59 := sh_of (e33).symm f59
          refine wp_getR ok fl_RX9_33 (sh_of e33 f_x0) e57 dX9_drawAct_77 ?_
          refine wp_iload_n (v := v29) ok dX9_drawAct_80 rfl ?_
          refine wp_iconst (v := 1) ok dX9_drawAct_81 (by decide) ?_
          obtain ⟨v60, h62, e61, hq⟩ := bnd2_some hq
          refine wp_callVI (As := [.int v29, .int 1]) (rest := []) (h1 := h62) ok (m_X0_tax e61 (Nat.le_refl _)) my_X0_tax (w_616) pd_X0_tax (Nat.le_trans (by decide) hfr) rfl (ci := 0) rfl (by decide) (sh_of e33 f59) rfl rfl rfl dX9_drawAct_82 (fun e63 => ?_)
          have e64 : h62.1 = h0.1 := (e63).trans e33
          refine wp_pop ok dX9_drawAct_85 rfl ?_
          refine wp_goto (tgt := 108) ok dX9_drawAct_86 (by decide) ?_
          exact wp_vret ok hF e64 (reV hq) dX9_drawAct_108
    · have hq := ite_t c12 hq
      refine wp_aload_n (v := x0) ok dX9_drawAct_35 rfl ?_
      obtain ⟨t65, e66, hq⟩ := bnd_some hq
      obtain ⟨e67, n68, f69⟩ := rK_some e66
      replace f69 := sh_of (e10).symm f69
      refine wp_getR ok fl_RX9_33 (sh_of e10 f_x0) e67 dX9_drawAct_36 ?_
      obtain ⟨v70, h72, e71, hq⟩ := bnd2_some hq
      refine wp_callVI (As := []) (rest := []) (h1 := h72) ok (m_X0_turnPort e71 (Nat.le_refl _)) my_X0_turnPort (w_633) pd_X0_turnPort (Nat.le_trans (by decide) hfr) rfl (ci := 0) rfl (by decide) (sh_of e10 f69) rfl rfl rfl dX9_drawAct_39 (fun e73 => ?_)
      have e74 : h72.1 = h0.1 := (e73).trans e10
      refine wp_pop ok dX9_drawAct_42 rfl ?_
      refine wp_goto (tgt := 108) ok dX9_drawAct_43 (by decide) ?_
      exact wp_vret ok hF e74 (reV hq) dX9_drawAct_108
  · have hq := ite_f c11 hq
    refine wp_aload_n (v := x0) ok dX9_drawAct_14 rfl ?_
    obtain ⟨t75, e76, hq⟩ := bnd_some hq
    obtain ⟨e77, n78, f79⟩ := rK_some e76
    replace f79 := sh_of (e10).symm f79
    refine wp_getR ok fl_RX9_33 (sh_of e10 f_x0) e77 dX9_drawAct_15 ?_
    refine wp_aload_n (v := x0) ok dX9_drawAct_18 rfl ?_
    obtain ⟨t80, e81, hq⟩ := bnd_some hq
    obtain ⟨e82, n83, f84⟩ := rK_some e81
    replace f84 := sh_of (e10).symm f84
    refine wp_getR ok fl_RX9_84 (sh_of e10 f_x0) e82 dX9_drawAct_19 ?_
    refine wp_iconst (v := 1) ok dX9_drawAct_22 (by decide) ?_
    obtain ⟨v85, h87, e86, hq⟩ := bnd2_some hq
    refine wp_callVI (As := [.ref t80, .int 1]) (rest := []) (h1 := h87) ok (m_X0_pass e86 (Nat.le_refl _)) my_X0_pass (w_515) pd_X0_pass (Nat.le_trans (by decide) hfr) rfl (ci := 0) rfl (by decide) (sh_of e10 f79) rfl rfl rfl dX9_drawAct_23 (fun e88 => ?_)
    have e89 : h87.1 = h0.1 := (e88).trans e10
    refine wp_pop ok dX9_drawAct_26 rfl ?_
    refine wp_goto (tgt := 108) ok dX9_drawAct_27 (by decide) ?_
    exact wp_vret ok hF e89 (reV hq) dX9_drawAct_108
set_option maxHeartbeats 4000000 in
set_option maxRecDepth 100000 in
theorem s_X9_years_B33 {x : Cx} {h0 : HP} {N fr : Nat} {rr : (Int32 × HP)} (ok : Okx x cX9_years yX9_years.cls 4 fr) (hfr : 5 ≤ fr)  {x0 : Nat} {x2 : Int32} {n_x0 : Nat} (f_x0 : h0.1[x0]? = some (9, n_x0)) (hF : Fend x h0 (some (.int)) (QI rr.1 rr.2)) {k48 : HP → Option (Int32 × HP)} (hk48 : ∀ (h : HP), k48 h = some rr → h.1 = h0.1 → wp x 48 [(0, .ref x0)] [] h) {rc : Int32 → HP → Option (Int32 × HP)} (ih : ∀ (x3 : Int32) (h : HP), rc x3 h = some rr → h.1 = h0.1 → wp x 33 [(3, .int x3), (0, .ref x0), (2, .int x2)] [] h) : ∀ (x3 : Int32) (h : HP), f_X9_years_B33 N x0 x2 k48 rc x3 h = some rr → h.1 = h0.1 → wp x 33 [(3, .int x3), (0, .ref x0), (2, .int x2)] [] h := by
  intro x3 h hq e
  unfold f_X9_years_B33 at hq
  refine wp_iload_n (v := x3) ok dX9_years_33 rfl ?_
  refine wp_iload_n (v := x2) ok dX9_years_34 rfl ?_
  refine wp_icmp_ge (tgt := 48) ok dX9_years_35 (by decide) (fun c28 => ?_) (fun c28 => ?_)
  · have hq := ite_t c28 hq
    refine wp_sub (L' := [(0, .ref x0)]) [1] rfl ?_
    exact hk48 h hq e
  · have hq := ite_f c28 hq
    refine wp_aload_n (v := x0) ok dX9_years_38 rfl ?_
    obtain ⟨h29, e30, hq⟩ := bnd_some hq
    refine wp_callVV (As := []) (rest := []) (h1 := h29) ok (m_X9_drawAct e30 (Nat.le_refl _)) my_X9_drawAct (w_924) pd_X9_drawAct (Nat.le_trans (by decide) hfr) rfl (ci := 9) rfl (by decide) (sh_of e f_x0) rfl rfl rfl dX9_years_39 (fun e31 => ?_)
    have e32 : h29.1 = h0.1 := (e31).trans e
    obtain ⟨v33, e34, hq⟩ := lt_some hq
    refine wp_iinc (v := x3) (w := 1) (L' := [(3, .int v33), (0, .ref x0), (2, .int x2)]) ok dX9_years_42 rfl (by decide) rfl (by rw [← e34]; rfl) ?_
    refine wp_goto (tgt := 33) ok dX9_years_45 (by decide) ?_
    refine wp_sub (L' := [(3, .int v33), (0, .ref x0), (2, .int x2)]) [0, 1, 2] rfl ?_
    exact ih v33 h29 hq e32
set_option maxHeartbeats 4000000 in
set_option maxRecDepth 100000 in
theorem l_X9_years_B33 {x : Cx} {h0 : HP} {N fr : Nat} {rr : (Int32 × HP)} (ok : Okx x cX9_years yX9_years.cls 4 fr) (hfr : 5 ≤ fr)  {x0 : Nat} {x2 : Int32} {n_x0 : Nat} (f_x0 : h0.1[x0]? = some (9, n_x0)) (hF : Fend x h0 (some (.int)) (QI rr.1 rr.2)) {k48 : HP → Option (Int32 × HP)} (hk48 : ∀ (h : HP), k48 h = some rr → h.1 = h0.1 → wp x 48 [(0, .ref x0)] [] h) : ∀ (n : Nat) (x3 : Int32) (h : HP), lp (fun _ _ => none) (f_X9_years_B33 N x0 x2 k48) n x3 h = some rr → h.1 = h0.1 → wp x 33 [(3, .int x3), (0, .ref x0), (2, .int x2)] [] h := by
  intro n
  induction n with
  | zero => intro x3 h hq e; exact (Option.some_ne_none _ hq.symm).elim
  | succ n ih => exact s_X9_years_B33 ok hfr f_x0 hF hk48 ih
set_option maxHeartbeats 4000000 in
set_option maxRecDepth 100000 in
theorem m_X9_years {l : Launch} {h : HP} {N : Nat} {x0 : Nat} {x1 : Int32} {x2 : Int32} {rr : Int32} {rh : HP} {fr : Nat} (hq : f_X9_years N h x0 x1 x2 = some (rr, rh)) (hfr : 5 ≤ fr) : Mt l yX9_years cX9_years 4 (some (.int)) fr [.ref x0, .int x1, .int x2] h (QI rr rh) := by
  obtain ⟨rp, ep⟩ : ∃ rp : (Int32 × HP), rp = (rr, rh) := ⟨_, rfl⟩
  have e1p : rr = rp.1 := (congrArg Prod.fst ep).symm
  have e2p : rh = rp.2 := (congrArg Prod.snd ep).symm
  rw [← ep] at hq
  rw [e1p, e2p]
  clear e1p e2p ep
  refine Mt.of (by decide +kernel) (Nat.le_of_ble_eq_true rfl) (fun x hl ok hF => ?_)
  subst hl
  show wp x 0 [(0, .ref x0), (1, .int x1), (2, .int x2)] [] h
  unfold f_X9_years at hq
  obtain ⟨h0, eh0⟩ : ∃ h0 : HP, h = h0 := ⟨h, rfl⟩
  have e : h.1 = h0.1 := by rw [eh0]
  rw [eh0] at hF
  obtain ⟨g_x0, hq⟩ := gP_some hq
  obtain ⟨n_x0, f_x0⟩ := kO_some g_x0
  replace f_x0 := sh_of e.symm f_x0
  refine wp_iload_n (v := x2) ok dX9_years_0 rfl ?_
  refine wp_iconst (v := 1) ok dX9_years_1 (by decide) ?_
  refine wp_bipush (v := 60) ok dX9_years_2 (by decide) ?_
  obtain ⟨v1, e2, hq⟩ := bnd_some hq
  refine wp_callSI (As := [.int x2, .int 1, .int 60]) (rest := []) (h1 := h) ok (m_X9_within e2 (Nat.le_refl _)) my_X9_within (w_491) pd_X9_within (Nat.le_trans (by decide) hfr) rfl rfl rfl rfl dX9_years_4 (fun e3 => ?_)
  refine wp_if_ne (tgt := 12) ok dX9_years_7 (by decide) (fun c4 => ?_) (fun c4 => ?_)
  · have hq := ite_f c4 hq
    refine wp_aload_n (v := x0) ok dX9_years_12 rfl ?_
    obtain ⟨t5, e6, hq⟩ := bnd_some hq
    obtain ⟨e7, n8, f9⟩ := rK_some e6
    replace f9 := sh_of (e).symm f9
    refine wp_getR ok fl_RX9_77 (sh_of e f_x0) e7 dX9_years_13 ?_
    refine wp_iload_n (v := x1) ok dX9_years_16 rfl ?_
    obtain ⟨h10, e11, hq⟩ := bnd_some hq
    refine wp_callVV (As := [.int x1]) (rest := []) (h1 := h10) ok (m_X4_begin e11 (Nat.le_refl _)) my_X4_begin (w_920) pd_X4_begin (Nat.le_trans (by decide) hfr) rfl (ci := 4) rfl (by decide) (sh_of e f9) rfl rfl rfl dX9_years_17 (fun e12 => ?_)
    have e13 : h10.1 = h0.1 := (e12).trans e
    refine wp_aload_n (v := x0) ok dX9_years_20 rfl ?_
    obtain ⟨t14, e15, hq⟩ := bnd_some hq
    obtain ⟨e16, n17, f18⟩ := rK_some e15
    replace f18 := sh_of (e13).symm f18
    refine wp_getR ok fl_RX9_33 (sh_of e13 f_x0) e16 dX9_years_21 ?_
    refine wp_aload_n (v := x0) ok dX9_years_24 rfl ?_
    obtain ⟨t19, e20, hq⟩ := bnd_some hq
    obtain ⟨e21, n22, f23⟩ := rK_some e20
    replace f23 := sh_of (e13).symm f23
    refine wp_getR ok fl_RX9_26 (sh_of e13 f_x0) e21 dX9_years_25 ?_
    obtain ⟨h24, e25, hq⟩ := bnd_some hq
    refine wp_callVV (As := [.ref t19]) (rest := []) (h1 := h24) ok (m_X0_become e25 (Nat.le_refl _)) my_X0_become (w_510) pd_X0_become (Nat.le_trans (by decide) hfr) rfl (ci := 0) rfl (by decide) (sh_of e13 f18) rfl rfl rfl dX9_years_28 (fun e26 => ?_)
    have e27 : h24.1 = h0.1 := (e26).trans e13
    refine wp_iconst (v := 0) ok dX9_years_31 (by decide) ?_
    refine wp_istore_n (L' := [(3, .int 0), (0, .ref x0), (1, .int x1), (2, .int x2)]) ok dX9_years_32 rfl rfl ?_
    refine wp_sub (L' := [(3, .int 0), (0, .ref x0), (2, .int x2)]) [0, 1, 3] rfl ?_
    refine l_X9_years_B33 ok hfr f_x0 hF ?_ N 0 h24 hq e27
    · intro h35 hq e36
      refine wp_aload_n (v := x0) ok dX9_years_48 rfl ?_
      obtain ⟨t37, e38, hq⟩ := bnd_some hq
      obtain ⟨e39, n40, f41⟩ := rK_some e38
      replace f41 := sh_of (e36).symm f41
      refine wp_getR ok fl_RX9_19 (sh_of e36 f_x0) e39 dX9_years_49 ?_
      refine wp_aload_n (v := x0) ok dX9_years_52 rfl ?_
      obtain ⟨t42, e43, hq⟩ := bnd_some hq
      obtain ⟨e44, n45, f46⟩ := rK_some e43
      replace f46 := sh_of (e36).symm f46
      refine wp_getR ok fl_RX9_33 (sh_of e36 f_x0) e44 dX9_years_53 ?_
      refine wp_iconst (v := 0) ok dX9_years_56 (by decide) ?_
      obtain ⟨v47, e48, hq⟩ := bnd_some hq
      refine wp_callVI (As := [.int 0]) (rest := [.ref t37]) (h1 := h35) ok (m_X0_sumThere e48 (Nat.le_refl _)) my_X0_sumThere (w_934) pd_X0_sumThere (Nat.le_trans (by decide) hfr) rfl (ci := 0) rfl (by decide) (sh_of e36 f46) rfl rfl rfl dX9_years_57 (fun e49 => ?_)
      refine wp_i2l ok dX9_years_60 ?_
      refine wp_aload_n (v := x0) ok dX9_years_61 rfl ?_
      obtain ⟨t50, e51, hq⟩ := bnd_some hq
      obtain ⟨e52, n53, f54⟩ := rK_some e51
      replace f54 := sh_of (e36).symm f54
      refine wp_getR ok fl_RX9_33 (sh_of e36 f_x0) e52 dX9_years_62 ?_
      refine wp_iconst (v := 1) ok dX9_years_65 (by decide) ?_
      obtain ⟨v55, e56, hq⟩ := bnd_some hq
      refine wp_callVI (As := [.int 1]) (rest := [.long (v47.toInt64), .ref t37]) (h1 := h35) ok (m_X0_sumThere e56 (Nat.le_refl _)) my_X0_sumThere (w_934) pd_X0_sumThere (Nat.le_trans (by decide) hfr) rfl (ci := 0) rfl (by decide) (sh_of e36 f54) rfl rfl rfl dX9_years_66 (fun e57 => ?_)
      refine wp_i2l ok dX9_years_69 ?_
      obtain ⟨h58, e59, hq⟩ := bnd_some hq
      refine wp_callVV (As := [.long (v47.toInt64), .long (v55.toInt64)]) (rest := []) (h1 := h58) ok (m_X6_tell_ e59 (Nat.le_refl _)) my_X6_tell_ (w_571) pd_X6_tell_ (Nat.le_trans (by decide) hfr) rfl (ci := 6) rfl (by decide) (sh_of e36 f41) rfl rfl rfl dX9_years_70 (fun e60 => ?_)
      have e61 : h58.1 = h0.1 := (e60).trans e36
      refine wp_aload_n (v := x0) ok dX9_years_73 rfl ?_
      obtain ⟨t62, e63, hq⟩ := bnd_some hq
      obtain ⟨e64, n65, f66⟩ := rK_some e63
      replace f66 := sh_of (e61).symm f66
      refine wp_getR ok fl_RX9_33 (sh_of e61 f_x0) e64 dX9_years_74 ?_
      refine wp_getI ok fl_RX9_237 (sh_of e61 f66) dX9_years_77 ?_
      exact wp_iret ok hF rfl e61 (re2I hq) dX9_years_80
  · have hq := ite_t c4 hq
    refine wp_iconst (v := -1) ok dX9_years_10 (by decide) ?_
    exact wp_iret ok hF rfl e (re2I hq) dX9_years_11
set_option maxHeartbeats 4000000 in
set_option maxRecDepth 100000 in
theorem m_X9_keep {l : Launch} {h : HP} {N : Nat} {x0 : Nat} {x1 : Int32} {rr : Int32} {rh : HP} {fr : Nat} (hq : f_X9_keep N h x0 x1 = some (rr, rh)) (hfr : 2 ≤ fr) : Mt l yX9_keep cX9_keep 2 (some (.boolean)) fr [.ref x0, .int x1] h (QI rr rh) := by
  obtain ⟨rp, ep⟩ : ∃ rp : (Int32 × HP), rp = (rr, rh) := ⟨_, rfl⟩
  have e1p : rr = rp.1 := (congrArg Prod.fst ep).symm
  have e2p : rh = rp.2 := (congrArg Prod.snd ep).symm
  rw [← ep] at hq
  rw [e1p, e2p]
  clear e1p e2p ep
  refine Mt.of (by decide +kernel) (Nat.le_of_ble_eq_true rfl) (fun x hl ok hF => ?_)
  subst hl
  show wp x 0 [(0, .ref x0), (1, .int x1)] [] h
  unfold f_X9_keep at hq
  obtain ⟨h0, eh0⟩ : ∃ h0 : HP, h = h0 := ⟨h, rfl⟩
  have e : h.1 = h0.1 := by rw [eh0]
  rw [eh0] at hF
  obtain ⟨g_x0, hq⟩ := gP_some hq
  obtain ⟨n_x0, f_x0⟩ := kO_some g_x0
  replace f_x0 := sh_of e.symm f_x0
  refine wp_iload_n (v := x1) ok dX9_keep_0 rfl ?_
  refine wp_iconst (v := 0) ok dX9_keep_1 (by decide) ?_
  refine wp_aload_n (v := x0) ok dX9_keep_2 rfl ?_
  obtain ⟨t1, e2, hq⟩ := bnd_some hq
  obtain ⟨e3, n4, f5⟩ := rK_some e2
  replace f5 := sh_of (e).symm f5
  refine wp_getR ok fl_RX9_43 (sh_of e f_x0) e3 dX9_keep_3 ?_
  refine wp_alen105 ok (sh_of e f5) (congrArg Int32.ofNat (len_of (sh_of e f5)).symm) dX9_keep_6 ?_
  refine wp_iconst (v := 1) ok dX9_keep_7 (by decide) ?_
  refine wp_isub ok dX9_keep_8 ?_
  obtain ⟨v6, e7, hq⟩ := bnd_some hq
  refine wp_callSI (As := [.int x1, .int 0, .int ((Int32.ofNat (lenH h t1)) - 1)]) (rest := []) (h1 := h) ok (m_X9_within e7 (Nat.le_refl _)) my_X9_within (w_491) pd_X9_within (Nat.le_trans (by decide) hfr) rfl rfl rfl rfl dX9_keep_9 (fun e8 => ?_)
  refine wp_if_ne (tgt := 17) ok dX9_keep_12 (by decide) (fun c9 => ?_) (fun c9 => ?_)
  · have hq := ite_f c9 hq
    refine wp_aload_n (v := x0) ok dX9_keep_17 rfl ?_
    obtain ⟨t10, e11, hq⟩ := bnd_some hq
    obtain ⟨e12, n13, f14⟩ := rK_some e11
    replace f14 := sh_of (e).symm f14
    refine wp_getR ok fl_RX9_43 (sh_of e f_x0) e12 dX9_keep_18 ?_
    refine wp_iload_n (v := x1) ok dX9_keep_21 rfl ?_
    obtain ⟨g15, hq⟩ := gP_some hq
    obtain ⟨t16, e17, hq⟩ := bnd_some hq
    obtain ⟨e18, n19, f20⟩ := rK_some e17
    replace f20 := sh_of (e).symm f20
    refine wp_aald105 ok (sh_of e f14) (ix_of (sh_of e f14) g15) e18 dX9_keep_22 ?_
    refine wp_aload_n (v := x0) ok dX9_keep_23 rfl ?_
    obtain ⟨t21, e22, hq⟩ := bnd_some hq
    obtain ⟨e23, n24, f25⟩ := rK_some e22
    replace f25 := sh_of (e).symm f25
    refine wp_getR ok fl_RX9_26 (sh_of e f_x0) e23 dX9_keep_24 ?_
    obtain ⟨h26, e27, hq⟩ := bnd_some hq
    refine wp_callVV (As := [.ref t21]) (rest := []) (h1 := h26) ok (m_X0_become e27 (Nat.le_refl _)) my_X0_become (w_510) pd_X0_become (Nat.le_trans (by decide) hfr) rfl (ci := 0) rfl (by decide) (sh_of e f20) rfl rfl rfl dX9_keep_27 (fun e28 => ?_)
    have e29 : h26.1 = h0.1 := (e28).trans e
    refine wp_iconst (v := 1) ok dX9_keep_30 (by decide) ?_
    exact wp_iret ok hF (nb_z (Or.inr rfl)) e29 (re2I hq) dX9_keep_31
  · have hq := ite_t c9 hq
    refine wp_iconst (v := 0) ok dX9_keep_15 (by decide) ?_
    exact wp_iret ok hF (nb_z (Or.inl rfl)) e (re2I hq) dX9_keep_16
set_option maxHeartbeats 4000000 in
set_option maxRecDepth 100000 in
theorem m_X9_again {l : Launch} {h : HP} {N : Nat} {x0 : Nat} {x1 : Int32} {rr : Int32} {rh : HP} {fr : Nat} (hq : f_X9_again N h x0 x1 = some (rr, rh)) (hfr : 2 ≤ fr) : Mt l yX9_again cX9_again 2 (some (.boolean)) fr [.ref x0, .int x1] h (QI rr rh) := by
  obtain ⟨rp, ep⟩ : ∃ rp : (Int32 × HP), rp = (rr, rh) := ⟨_, rfl⟩
  have e1p : rr = rp.1 := (congrArg Prod.fst ep).symm
  have e2p : rh = rp.2 := (congrArg Prod.snd ep).symm
  rw [← ep] at hq
  rw [e1p, e2p]
  clear e1p e2p ep
  refine Mt.of (by decide +kernel) (Nat.le_of_ble_eq_true rfl) (fun x hl ok hF => ?_)
  subst hl
  show wp x 0 [(0, .ref x0), (1, .int x1)] [] h
  unfold f_X9_again at hq
  obtain ⟨h0, eh0⟩ : ∃ h0 : HP, h = h0 := ⟨h, rfl⟩
  have e : h.1 = h0.1 := by rw [eh0]
  rw [eh0] at hF
  obtain ⟨g_x0, hq⟩ := gP_some hq
  obtain ⟨n_x0, f_x0⟩ := kO_some g_x0
  replace f_x0 := sh_of e.symm f_x0
  refine wp_iload_n (v := x1) ok dX9_again_0 rfl ?_
  refine wp_iconst (v := 0) ok dX9_again_1 (by decide) ?_
  refine wp_aload_n (v := x0) ok dX9_again_2 rfl ?_
  obtain ⟨t1, e2, hq⟩ := bnd_some hq
  obtain ⟨e3, n4, f5⟩ := rK_some e2
  replace f5 := sh_of (e).symm f5
  refine wp_getR ok fl_RX9_43 (sh_of e f_x0) e3 dX9_again_3 ?_
  refine wp_alen105 ok (sh_of e f5) (congrArg Int32.ofNat (len_of (sh_of e f5)).symm) dX9_again_6 ?_
  refine wp_iconst (v := 1) ok dX9_again_7 (by decide) ?_
  refine wp_isub ok dX9_again_8 ?_
  obtain ⟨v6, e7, hq⟩ := bnd_some hq
  refine wp_callSI (As := [.int x1, .int 0, .int ((Int32.ofNat (lenH h t1)) - 1)]) (rest := []) (h1 := h) ok (m_X9_within e7 (Nat.le_refl _)) my_X9_within (w_491) pd_X9_within (Nat.le_trans (by decide) hfr) rfl rfl rfl rfl dX9_again_9 (fun e8 => ?_)
  refine wp_if_eq (tgt := 34) ok dX9_again_12 (by decide) (fun c9 => ?_) (fun c9 => ?_)
  · have hq := ite_t c9 hq
    refine wp_iconst (v := 0) ok dX9_again_34 (by decide) ?_
    exact wp_iret ok hF (nb_z (Or.inl rfl)) e (re2I hq) dX9_again_35
  · have hq := ite_f c9 hq
    refine wp_aload_n (v := x0) ok dX9_again_15 rfl ?_
    obtain ⟨t10, e11, hq⟩ := bnd_some hq
    obtain ⟨e12, n13, f14⟩ := rK_some e11
    replace f14 := sh_of (e).symm f14
    refine wp_getR ok fl_RX9_43 (sh_of e f_x0) e12 dX9_again_16 ?_
    refine wp_iload_n (v := x1) ok dX9_again_19 rfl ?_
    obtain ⟨g15, hq⟩ := gP_some hq
    obtain ⟨t16, e17, hq⟩ := bnd_some hq
    obtain ⟨e18, n19, f20⟩ := rK_some e17
    replace f20 := sh_of (e).symm f20
    refine wp_aald105 ok (sh_of e f14) (ix_of (sh_of e f14) g15) e18 dX9_again_20 ?_
    refine wp_getI ok fl_RX9_47 (sh_of e f20) dX9_again_21 ?_
    refine wp_aload_n (v := x0) ok dX9_again_24 rfl ?_
    obtain ⟨t21, e22, hq⟩ := bnd_some hq
    obtain ⟨e23, n24, f25⟩ := rK_some e22
    replace f25 := sh_of (e).symm f25
    refine wp_getR ok fl_RX9_26 (sh_of e f_x0) e23 dX9_again_25 ?_
    refine wp_getI ok fl_RX9_47 (sh_of e f25) dX9_again_28 ?_
    refine wp_icmp_eq (tgt := 36) ok dX9_again_31 (by decide) (fun c26 => ?_) (fun c26 => ?_)
    · have hq := ite_t c26 hq
      refine wp_aload_n (v := x0) ok dX9_again_36 rfl ?_
      obtain ⟨t27, e28, hq⟩ := bnd_some hq
      obtain ⟨e29, n30, f31⟩ := rK_some e28
      replace f31 := sh_of (e).symm f31
      refine wp_getR ok fl_RX9_26 (sh_of e f_x0) e29 dX9_again_37 ?_
      refine wp_aload_n (v := x0) ok dX9_again_40 rfl ?_
      obtain ⟨t32, e33, hq⟩ := bnd_some hq
      obtain ⟨e34, n35, f36⟩ := rK_some e33
      replace f36 := sh_of (e).symm f36
      refine wp_getR ok fl_RX9_43 (sh_of e f_x0) e34 dX9_again_41 ?_
      refine wp_iload_n (v := x1) ok dX9_again_44 rfl ?_
      obtain ⟨g37, hq⟩ := gP_some hq
      obtain ⟨t38, e39, hq⟩ := bnd_some hq
      obtain ⟨e40, n41, f42⟩ := rK_some e39
      replace f42 := sh_of (e).symm f42
      refine wp_aald105 ok (sh_of e f36) (ix_of (sh_of e f36) g37) e40 dX9_again_45 ?_
      obtain ⟨h43, e44, hq⟩ := bnd_some hq
      refine wp_callVV (As := [.ref t38]) (rest := []) (h1 := h43) ok (m_X0_become e44 (Nat.le_refl _)) my_X0_become (w_510) pd_X0_become (Nat.le_trans (by decide) hfr) rfl (ci := 0) rfl (by decide) (sh_of e f31) rfl rfl rfl dX9_again_46 (fun e45 => ?_)
      have e46 : h43.1 = h0.1 := (e45).trans e
      refine wp_aload_n (v := x0) ok dX9_again_49 rfl ?_
      obtain ⟨t47, e48, hq⟩ := bnd_some hq
      obtain ⟨e49, n50, f51⟩ := rK_some e48
      replace f51 := sh_of (e46).symm f51
      refine wp_getR ok fl_RX9_39 (sh_of e46 f_x0) e49 dX9_again_50 ?_
      obtain ⟨h52, e53, hq⟩ := bnd_some hq
      refine wp_callVV (As := []) (rest := []) (h1 := h52) ok (m_X5_clear e53 (Nat.le_refl _)) my_X5_clear (w_340) pd_X5_clear (Nat.le_trans (by decide) hfr) rfl (ci := 5) rfl (by decide) (sh_of e46 f51) rfl rfl rfl dX9_again_53 (fun e54 => ?_)
      have e55 : h52.1 = h0.1 := (e54).trans e46
      refine wp_iconst (v := 1) ok dX9_again_56 (by decide) ?_
      exact wp_iret ok hF (nb_z (Or.inr rfl)) e55 (re2I hq) dX9_again_57
    · have hq := ite_f c26 hq
      refine wp_iconst (v := 0) ok dX9_again_34 (by decide) ?_
      exact wp_iret ok hF (nb_z (Or.inl rfl)) e (re2I hq) dX9_again_35
set_option maxHeartbeats 4000000 in
set_option maxRecDepth 100000 in
theorem m_X9_count {l : Launch} {h : HP} {N : Nat} {x0 : Nat} {x1 : Int32} {rr : Int32} {fr : Nat} (hq : f_X9_count N h x0 x1 = some rr) (hfr : 2 ≤ fr) : Mt l yX9_count cX9_count 2 (some (.int)) fr [.ref x0, .int x1] h (QI rr h) := by
  refine Mt.of (by decide +kernel) (Nat.le_of_ble_eq_true rfl) (fun x hl ok hF => ?_)
  subst hl
  show wp x 0 [(0, .ref x0), (1, .int x1)] [] h
  unfold f_X9_count at hq
  obtain ⟨g_x0, hq⟩ := gP_some hq
  obtain ⟨n_x0, f_x0⟩ := kO_some g_x0
  refine wp_iload_n (v := x1) ok dX9_count_0 rfl ?_
  by_cases c1 : x1 = 0
  · have hq := ite_t c1 hq
    refine wp_tabIn (v := 0) (tgt := 68) ok dX9_count_1 c1 (by decide) (by decide) rfl (by decide) ?_
    refine wp_aload_n (v := x0) ok dX9_count_68 rfl ?_
    obtain ⟨t2, e3, hq⟩ := bnd_some hq
    obtain ⟨e4, n5, f6⟩ := rK_some e3
    replace f6 := sh_of (rfl).symm f6
    refine wp_getR ok fl_RX9_26 (sh_of rfl f_x0) e4 dX9_count_69 ?_
    refine wp_getI ok fl_RX9_47 (sh_of rfl f6) dX9_count_72 ?_
    exact wp_iret ok hF rfl rfl (re1I hq) dX9_count_75
  · have hq := ite_f c1 hq
    by_cases c7 : x1 = 1
    · have hq := ite_t c7 hq
      refine wp_tabIn (v := 1) (tgt := 76) ok dX9_count_1 c7 (by decide) (by decide) rfl (by decide) ?_
      refine wp_aload_n (v := x0) ok dX9_count_76 rfl ?_
      obtain ⟨t8, e9, hq⟩ := bnd_some hq
      obtain ⟨e10, n11, f12⟩ := rK_some e9
      replace f12 := sh_of (rfl).symm f12
      refine wp_getR ok fl_RX9_84 (sh_of rfl f_x0) e10 dX9_count_77 ?_
      refine wp_getI ok fl_RX9_135 (sh_of rfl f12) dX9_count_80 ?_
      exact wp_iret ok hF rfl rfl (re1I hq) dX9_count_83
    · have hq := ite_f c7 hq
      by_cases c13 : x1 = 2
      · have hq := ite_t c13 hq
        refine wp_tabIn (v := 2) (tgt := 84) ok dX9_count_1 c13 (by decide) (by decide) rfl (by decide) ?_
        refine wp_aload_n (v := x0) ok dX9_count_84 rfl ?_
        obtain ⟨t14, e15, hq⟩ := bnd_some hq
        obtain ⟨e16, n17, f18⟩ := rK_some e15
        replace f18 := sh_of (rfl).symm f18
        refine wp_getR ok fl_RX9_26 (sh_of rfl f_x0) e16 dX9_count_85 ?_
        refine wp_getI ok fl_RX9_352 (sh_of rfl f18) dX9_count_88 ?_
        exact wp_iret ok hF rfl rfl (re1I hq) dX9_count_91
      · have hq := ite_f c13 hq
        by_cases c19 : x1 = 3
        · have hq := ite_t c19 hq
          refine wp_tabIn (v := 3) (tgt := 92) ok dX9_count_1 c19 (by decide) (by decide) rfl (by decide) ?_
          refine wp_aload_n (v := x0) ok dX9_count_92 rfl ?_
          obtain ⟨t20, e21, hq⟩ := bnd_some hq
          obtain ⟨e22, n23, f24⟩ := rK_some e21
          replace f24 := sh_of (rfl).symm f24
          refine wp_getR ok fl_RX9_26 (sh_of rfl f_x0) e22 dX9_count_93 ?_
          refine wp_getI ok fl_RX9_410 (sh_of rfl f24) dX9_count_96 ?_
          exact wp_iret ok hF rfl rfl (re1I hq) dX9_count_99
        · have hq := ite_f c19 hq
          by_cases c25 : x1 = 4
          · have hq := ite_t c25 hq
            refine wp_tabIn (v := 4) (tgt := 100) ok dX9_count_1 c25 (by decide) (by decide) rfl (by decide) ?_
            refine wp_aload_n (v := x0) ok dX9_count_100 rfl ?_
            obtain ⟨t26, e27, hq⟩ := bnd_some hq
            obtain ⟨e28, n29, f30⟩ := rK_some e27
            replace f30 := sh_of (rfl).symm f30
            refine wp_getR ok fl_RX9_26 (sh_of rfl f_x0) e28 dX9_count_101 ?_
            refine wp_getI ok fl_RX9_237 (sh_of rfl f30) dX9_count_104 ?_
            exact wp_iret ok hF rfl rfl (re1I hq) dX9_count_107
          · have hq := ite_f c25 hq
            by_cases c31 : x1 = 5
            · have hq := ite_t c31 hq
              refine wp_tabIn (v := 5) (tgt := 108) ok dX9_count_1 c31 (by decide) (by decide) rfl (by decide) ?_
              refine wp_aload_n (v := x0) ok dX9_count_108 rfl ?_
              obtain ⟨t32, e33, hq⟩ := bnd_some hq
              obtain ⟨e34, n35, f36⟩ := rK_some e33
              replace f36 := sh_of (rfl).symm f36
              refine wp_getR ok fl_RX9_26 (sh_of rfl f_x0) e34 dX9_count_109 ?_
              refine wp_getI ok fl_RX9_317 (sh_of rfl f36) dX9_count_112 ?_
              refine wp_if_eq (tgt := 122) ok dX9_count_115 (by decide) (fun c37 => ?_) (fun c37 => ?_)
              · have hq := ite_t c37 hq
                refine wp_iconst (v := 0) ok dX9_count_122 (by decide) ?_
                exact wp_iret ok hF rfl rfl (re1I hq) dX9_count_123
              · have hq := ite_f c37 hq
                refine wp_iconst (v := 1) ok dX9_count_118 (by decide) ?_
                refine wp_goto (tgt := 123) ok dX9_count_119 (by decide) ?_
                exact wp_iret ok hF rfl rfl (re1I hq) dX9_count_123
            · have hq := ite_f c31 hq
              by_cases c38 : x1 = 6
              · have hq := ite_t c38 hq
                refine wp_tabIn (v := 6) (tgt := 124) ok dX9_count_1 c38 (by decide) (by decide) rfl (by decide) ?_
                refine wp_aload_n (v := x0) ok dX9_count_124 rfl ?_
                obtain ⟨t39, e40, hq⟩ := bnd_some hq
                obtain ⟨e41, n42, f43⟩ := rK_some e40
                replace f43 := sh_of (rfl).symm f43
                refine wp_getR ok fl_RX9_26 (sh_of rfl f_x0) e41 dX9_count_125 ?_
                refine wp_iconst (v := 0) ok dX9_count_128 (by decide) ?_
                obtain ⟨v44, e45, hq⟩ := bnd_some hq
                refine wp_callVI (As := [.int 0]) (rest := []) (h1 := h) ok (m_X0_sumThere e45 (Nat.le_refl _)) my_X0_sumThere (w_934) pd_X0_sumThere (Nat.le_trans (by decide) hfr) rfl (ci := 0) rfl (by decide) (sh_of rfl f43) rfl rfl rfl dX9_count_129 (fun e46 => ?_)
                exact wp_iret ok hF rfl rfl (re1I hq) dX9_count_132
              · have hq := ite_f c38 hq
                by_cases c47 : x1 = 7
                · have hq := ite_t c47 hq
                  refine wp_tabIn (v := 7) (tgt := 133) ok dX9_count_1 c47 (by decide) (by decide) rfl (by decide) ?_
                  refine wp_aload_n (v := x0) ok dX9_count_133 rfl ?_
                  obtain ⟨t48, e49, hq⟩ := bnd_some hq
                  obtain ⟨e50, n51, f52⟩ := rK_some e49
                  replace f52 := sh_of (rfl).symm f52
                  refine wp_getR ok fl_RX9_26 (sh_of rfl f_x0) e50 dX9_count_134 ?_
                  refine wp_iconst (v := 1) ok dX9_count_137 (by decide) ?_
                  obtain ⟨v53, e54, hq⟩ := bnd_some hq
                  refine wp_callVI (As := [.int 1]) (rest := []) (h1 := h) ok (m_X0_sumThere e54 (Nat.le_refl _)) my_X0_sumThere (w_934) pd_X0_sumThere (Nat.le_trans (by decide) hfr) rfl (ci := 0) rfl (by decide) (sh_of rfl f52) rfl rfl rfl dX9_count_138 (fun e55 => ?_)
                  exact wp_iret ok hF rfl rfl (re1I hq) dX9_count_141
                · have hq := ite_f c47 hq
                  by_cases c56 : x1 = 8
                  · have hq := ite_t c56 hq
                    refine wp_tabIn (v := 8) (tgt := 142) ok dX9_count_1 c56 (by decide) (by decide) rfl (by decide) ?_
                    refine wp_aload_n (v := x0) ok dX9_count_142 rfl ?_
                    obtain ⟨t57, e58, hq⟩ := bnd_some hq
                    obtain ⟨e59, n60, f61⟩ := rK_some e58
                    replace f61 := sh_of (rfl).symm f61
                    refine wp_getR ok fl_RX9_26 (sh_of rfl f_x0) e59 dX9_count_143 ?_
                    obtain ⟨v62, e63, hq⟩ := bnd_some hq
                    refine wp_callVI (As := []) (rest := []) (h1 := h) ok (m_X0_sumLaidBy e63 (Nat.le_refl _)) my_X0_sumLaidBy (w_950) pd_X0_sumLaidBy (Nat.le_trans (by decide) hfr) rfl (ci := 0) rfl (by decide) (sh_of rfl f61) rfl rfl rfl dX9_count_146 (fun e64 => ?_)
                    exact wp_iret ok hF rfl rfl (re1I hq) dX9_count_149
                  · have hq := ite_f c56 hq
                    by_cases c65 : x1 = 9
                    · have hq := ite_t c65 hq
                      refine wp_tabIn (v := 9) (tgt := 150) ok dX9_count_1 c65 (by decide) (by decide) rfl (by decide) ?_
                      refine wp_aload_n (v := x0) ok dX9_count_150 rfl ?_
                      obtain ⟨t66, e67, hq⟩ := bnd_some hq
                      obtain ⟨e68, n69, f70⟩ := rK_some e67
                      replace f70 := sh_of (rfl).symm f70
                      refine wp_getR ok fl_RX9_70 (sh_of rfl f_x0) e68 dX9_count_151 ?_
                      refine wp_getI ok fl_RX9_367 (sh_of rfl f70) dX9_count_154 ?_
                      exact wp_iret ok hF rfl rfl (re1I hq) dX9_count_157
                    · have hq := ite_f c65 hq
                      by_cases c71 : x1 = 10
                      · have hq := ite_t c71 hq
                        refine wp_tabIn (v := 10) (tgt := 158) ok dX9_count_1 c71 (by decide) (by decide) rfl (by decide) ?_
                        refine wp_aload_n (v := x0) ok dX9_count_158 rfl ?_
                        obtain ⟨t72, e73, hq⟩ := bnd_some hq
                        obtain ⟨e74, n75, f76⟩ := rK_some e73
                        replace f76 := sh_of (rfl).symm f76
                        refine wp_getR ok fl_RX9_39 (sh_of rfl f_x0) e74 dX9_count_159 ?_
                        refine wp_getI ok fl_RX9_278 (sh_of rfl f76) dX9_count_162 ?_
                        exact wp_iret ok hF rfl rfl (re1I hq) dX9_count_165
                      · have hq := ite_f c71 hq
                        by_cases c77 : x1 = 11
                        · have hq := ite_t c77 hq
                          refine wp_tabIn (v := 11) (tgt := 166) ok dX9_count_1 c77 (by decide) (by decide) rfl (by decide) ?_
                          refine wp_aload_n (v := x0) ok dX9_count_166 rfl ?_
                          obtain ⟨t78, e79, hq⟩ := bnd_some hq
                          obtain ⟨e80, n81, f82⟩ := rK_some e79
                          replace f82 := sh_of (rfl).symm f82
                          refine wp_getR ok fl_RX9_19 (sh_of rfl f_x0) e80 dX9_count_167 ?_
                          refine wp_getI ok fl_RX9_416 (sh_of rfl f82) dX9_count_170 ?_
                          exact wp_iret ok hF rfl rfl (re1I hq) dX9_count_173
                        · have hq := ite_f c77 hq
                          by_cases c83 : x1 = 12
                          · have hq := ite_t c83 hq
                            refine wp_tabIn (v := 12) (tgt := 174) ok dX9_count_1 c83 (by decide) (by decide) rfl (by decide) ?_
                            refine wp_aload_n (v := x0) ok dX9_count_174 rfl ?_
                            obtain ⟨t84, e85, hq⟩ := bnd_some hq
                            obtain ⟨e86, n87, f88⟩ := rK_some e85
                            replace f88 := sh_of (rfl).symm f88
                            refine wp_getR ok fl_RX9_10 (sh_of rfl f_x0) e86 dX9_count_175 ?_
                            refine wp_getI ok fl_RX9_105 (sh_of rfl f88) dX9_count_178 ?_
                            exact wp_iret ok hF rfl rfl (re1I hq) dX9_count_181
                          · have hq := ite_f c83 hq
                            refine wp_tabOut (tgt := 182) ok dX9_count_1 (tab_out [0, 1, 2, 3, 4, 5, 6, 7, 8, 9, 10, 11, 12] (by decide) (fun w hw => by simp only [List.mem_cons, List.not_mem_nil, or_false] at hw; rcases hw with rfl | rfl | rfl | rfl | rfl | rfl | rfl | rfl | rfl | rfl | rfl | rfl | rfl <;> assumption)) (by decide) ?_
                            refine wp_bipush (v := -100) ok dX9_count_182 (by decide) ?_
                            exact wp_iret ok hF rfl rfl (re1I hq) dX9_count_184
set_option maxHeartbeats 4000000 in
set_option maxRecDepth 100000 in
theorem m_X10_thrown {l : Launch} {h : HP} {x0 : Nat} {rr : Int32} {fr : Nat} (hq : f_X10_thrown h x0 = some rr) (hfr : 0 ≤ fr) : Mt l yX10_thrown cX10_thrown 1 (some (.int)) fr [.ref x0] h (QI rr h) := by
  refine Mt.of (by decide +kernel) (Nat.le_of_ble_eq_true rfl) (fun x hl ok hF => ?_)
  subst hl
  show wp x 0 [(0, .ref x0)] [] h
  unfold f_X10_thrown at hq
  obtain ⟨g_x0, hq⟩ := gP_some hq
  obtain ⟨n_x0, f_x0⟩ := kO_some g_x0
  refine wp_aload_n (v := x0) ok dX10_thrown_0 rfl ?_
  refine wp_getI ok fl_RX10_3 (sh_of rfl f_x0) dX10_thrown_1 ?_
  exact wp_iret ok hF rfl rfl (re1I hq) dX10_thrown_4
set_option maxHeartbeats 4000000 in
set_option maxRecDepth 100000 in
theorem m_X10_refuse {l : Launch} {h : HP} {x0 : Nat} {rr : Int32} {rh : HP} {fr : Nat} (hq : f_X10_refuse h x0 = some (rr, rh)) (hfr : 0 ≤ fr) : Mt l yX10_refuse cX10_refuse 1 (some (.int)) fr [.ref x0] h (QI rr rh) := by
  obtain ⟨rp, ep⟩ : ∃ rp : (Int32 × HP), rp = (rr, rh) := ⟨_, rfl⟩
  have e1p : rr = rp.1 := (congrArg Prod.fst ep).symm
  have e2p : rh = rp.2 := (congrArg Prod.snd ep).symm
  rw [← ep] at hq
  rw [e1p, e2p]
  clear e1p e2p ep
  refine Mt.of (by decide +kernel) (Nat.le_of_ble_eq_true rfl) (fun x hl ok hF => ?_)
  subst hl
  show wp x 0 [(0, .ref x0)] [] h
  unfold f_X10_refuse at hq
  obtain ⟨h0, eh0⟩ : ∃ h0 : HP, h = h0 := ⟨h, rfl⟩
  have e : h.1 = h0.1 := by rw [eh0]
  rw [eh0] at hF
  obtain ⟨g_x0, hq⟩ := gP_some hq
  obtain ⟨n_x0, f_x0⟩ := kO_some g_x0
  replace f_x0 := sh_of e.symm f_x0
  refine wp_aload_n (v := x0) ok dX10_refuse_0 rfl ?_
  refine wp_iconst (v := 1) ok dX10_refuse_1 (by decide) ?_
  refine wp_putI ok flw_RX10_3 (nr_10_0 _) (sh_of e f_x0) dX10_refuse_2 ?_
  obtain ⟨h1, e2, hq⟩ := lt_some hq
  refine wp_nmH e2 ?_
  have e3 : h1.1 = h0.1 := (congrArg Prod.fst e2).trans e
  refine wp_iconst (v := 0) ok dX10_refuse_5 (by decide) ?_
  exact wp_iret ok hF rfl e3 (re2I hq) dX10_refuse_6
set_option maxHeartbeats 4000000 in
set_option maxRecDepth 100000 in
theorem m_X10_in {l : Launch} {h : HP} {x0 : Int64} {x2 : Int64} {x4 : Int64} {rr : Int32} {fr : Nat} (hq : f_X10_in x0 x2 x4 = some rr) (hfr : 0 ≤ fr) : Mt l yX10_in cX10_in 6 (some (.boolean)) fr [.long x0, .long x2, .long x4] h (QI rr h) := by
  refine Mt.of (by decide +kernel) (Nat.le_of_ble_eq_true rfl) (fun x hl ok hF => ?_)
  subst hl
  show wp x 0 [(0, .long x0), (2, .long x2), (4, .long x4)] [] h
  unfold f_X10_in at hq
  refine wp_lload_n (v := x0) ok dX10_in_0 rfl ?_
  refine wp_lload_n (v := x2) ok dX10_in_1 rfl ?_
  refine wp_lcmp ok dX10_in_2 ?_
  refine wp_if_lt (tgt := 17) ok dX10_in_3 (by decide) (fun c1 => ?_) (fun c1 => ?_)
  · have hq := ite_t c1 hq
    refine wp_iconst (v := 0) ok dX10_in_17 (by decide) ?_
    exact wp_iret ok hF (nb_z (Or.inl rfl)) rfl (re1I hq) dX10_in_18
  · have hq := ite_f c1 hq
    refine wp_lload_n (v := x0) ok dX10_in_6 rfl ?_
    refine wp_lload (v := x4) ok dX10_in_7 rfl ?_
    refine wp_lcmp ok dX10_in_9 ?_
    refine wp_if_gt (tgt := 17) ok dX10_in_10 (by decide) (fun c2 => ?_) (fun c2 => ?_)
    · have hq := ite_t c2 hq
      refine wp_iconst (v := 0) ok dX10_in_17 (by decide) ?_
      exact wp_iret ok hF (nb_z (Or.inl rfl)) rfl (re1I hq) dX10_in_18
    · have hq := ite_f c2 hq
      refine wp_iconst (v := 1) ok dX10_in_13 (by decide) ?_
      refine wp_goto (tgt := 18) ok dX10_in_14 (by decide) ?_
      exact wp_iret ok hF (nb_z (Or.inr rfl)) rfl (re1I hq) dX10_in_18
set_option maxHeartbeats 4000000 in
set_option maxRecDepth 100000 in
theorem m_X10_has {l : Launch} {h : HP} {x0 : Int32} {x1 : Int32} {rr : Int32} {fr : Nat} (hq : f_X10_has x0 x1 = some rr) (hfr : 0 ≤ fr) : Mt l yX10_has cX10_has 2 (some (.boolean)) fr [.int x0, .int x1] h (QI rr h) := by
  refine Mt.of (by decide +kernel) (Nat.le_of_ble_eq_true rfl) (fun x hl ok hF => ?_)
  subst hl
  show wp x 0 [(0, .int x0), (1, .int x1)] [] h
  unfold f_X10_has at hq
  refine wp_iload_n (v := x0) ok dX10_has_0 rfl ?_
  refine wp_iload_n (v := x1) ok dX10_has_1 rfl ?_
  refine wp_ishr ok dX10_has_2 ?_
  refine wp_iconst (v := 1) ok dX10_has_3 (by decide) ?_
  refine wp_iand ok dX10_has_4 ?_
  refine wp_iconst (v := 1) ok dX10_has_5 (by decide) ?_
  refine wp_icmp_ne (tgt := 13) ok dX10_has_6 (by decide) (fun c1 => ?_) (fun c1 => ?_)
  · have hq := ite_f c1 hq
    refine wp_iconst (v := 0) ok dX10_has_13 (by decide) ?_
    exact wp_iret ok hF (nb_z (Or.inl rfl)) rfl (re1I hq) dX10_has_14
  · have hq := ite_t c1 hq
    refine wp_iconst (v := 1) ok dX10_has_9 (by decide) ?_
    refine wp_goto (tgt := 14) ok dX10_has_10 (by decide) ?_
    exact wp_iret ok hF (nb_z (Or.inr rfl)) rfl (re1I hq) dX10_has_14
set_option maxHeartbeats 4000000 in
set_option maxRecDepth 100000 in
theorem m_X10_flag {l : Launch} {h : HP} {x0 : Int32} {rr : Int32} {fr : Nat} (hq : f_X10_flag x0 = some rr) (hfr : 0 ≤ fr) : Mt l yX10_flag cX10_flag 1 (some (.int)) fr [.int x0] h (QI rr h) := by
  refine Mt.of (by decide +kernel) (Nat.le_of_ble_eq_true rfl) (fun x hl ok hF => ?_)
  subst hl
  show wp x 0 [(0, .int x0)] [] h
  unfold f_X10_flag at hq
  refine wp_iload_n (v := x0) ok dX10_flag_0 rfl ?_
  refine wp_if_eq (tgt := 8) ok dX10_flag_1 (by decide) (fun c1 => ?_) (fun c1 => ?_)
  · have hq := ite_t c1 hq
    refine wp_iconst (v := 0) ok dX10_flag_8 (by decide) ?_
    exact wp_iret ok hF rfl rfl (re1I hq) dX10_flag_9
  · have hq := ite_f c1 hq
    refine wp_iconst (v := 1) ok dX10_flag_4 (by decide) ?_
    refine wp_goto (tgt := 9) ok dX10_flag_5 (by decide) ?_
    exact wp_iret ok hF rfl rfl (re1I hq) dX10_flag_9
set_option maxHeartbeats 4000000 in
set_option maxRecDepth 100000 in
theorem m_X10_common_S {l : Launch} {h : HP} {x0 : Int64} {x2 : Int64} {rr : Int64} {fr : Nat} {rf_X10_common : Int64 → Int64 → Option Int64} {dn : Nat} (ih_X10_common : ∀ {h : HP} {x0 : Int64} {x2 : Int64} {ri : Int64} {fr : Nat}, rf_X10_common x0 x2 = some ri → dn ≤ fr → Mt l yX10_common cX10_common 4 (some (.long)) fr [.long x0, .long x2] h (QJ ri h)) (hq : f_X10_common_S rf_X10_common x0 x2 = some rr) (hfr : (dn + 1) ≤ fr) : Mt l yX10_common cX10_common 4 (some (.long)) fr [.long x0, .long x2] h (QJ rr h) := by
  refine Mt.of (by decide +kernel) (Nat.le_of_ble_eq_true rfl) (fun x hl ok hF => ?_)
  subst hl
  show wp x 0 [(0, .long x0), (2, .long x2)] [] h
  unfold f_X10_common_S at hq
  refine wp_lload_n (v := x2) ok dX10_common_0 rfl ?_
  refine wp_lconst (v := 0) ok dX10_common_1 (by decide) ?_
  refine wp_lcmp ok dX10_common_2 ?_
  refine wp_if_ne (tgt := 10) ok dX10_common_3 (by decide) (fun c1 => ?_) (fun c1 => ?_)
  · have hq := ite_f c1 hq
    refine wp_lload_n (v := x2) ok dX10_common_10 rfl ?_
    refine wp_lload_n (v := x0) ok dX10_common_11 rfl ?_
    refine wp_lload_n (v := x2) ok dX10_common_12 rfl ?_
    obtain ⟨g2, hq⟩ := gP_some hq
    refine wp_lrem ok dX10_common_13 g2 ?_
    obtain ⟨v3, e4, hq⟩ := bnd_some hq
    refine wp_callSJ (As := [.long x2, .long (lrm x0 x2)]) (rest := []) (h1 := h) ok (ih_X10_common e4 (Nat.le_refl _)) my_X10_common (w_1563) pd_X10_common (by omega) rfl rfl rfl rfl dX10_common_14 (fun e5 => ?_)
    exact wp_lret ok hF rfl (re1J hq) dX10_common_17
  · have hq := ite_t c1 hq
    refine wp_lload_n (v := x0) ok dX10_common_6 rfl ?_
    refine wp_goto (tgt := 17) ok dX10_common_7 (by decide) ?_
    exact wp_lret ok hF rfl (re1J hq) dX10_common_17
set_option maxHeartbeats 4000000 in
set_option maxRecDepth 100000 in
theorem g_X10_common {l : Launch} {N : Nat} : ∀ n : Nat, (∀ {h : HP} {x0 : Int64} {x2 : Int64} {ri : Int64} {fr : Nat}, lp (fun _ _ => none) (fun rf => f_X10_common_S rf) n x0 x2 = some ri → 1 * n ≤ fr → Mt l yX10_common cX10_common 4 (some (.long)) fr [.long x0, .long x2] h (QJ ri h)) := by
  intro n
  induction n with
  | zero => exact fun hq _ => (Option.some_ne_none _ hq.symm).elim
  | succ n ih => exact fun hq hf => m_X10_common_S ih hq (by omega)
set_option maxHeartbeats 4000000 in
set_option maxRecDepth 100000 in
theorem m_X10_common {l : Launch} {N : Nat} {h : HP} {x0 : Int64} {x2 : Int64} {ri : Int64} {fr : Nat} (hq : f_X10_common N x0 x2 = some ri) (hfr : 1 * N ≤ fr) : Mt l yX10_common cX10_common 4 (some (.long)) fr [.long x0, .long x2] h (QJ ri h) := by
  unfold f_X10_common at hq
  exact (g_X10_common (N := N) N) hq hfr
set_option maxHeartbeats 4000000 in
set_option maxRecDepth 100000 in
theorem m_X10_enters {l : Launch} {h : HP} {x0 : Nat} {x1 : Int64} {rr : HP} {fr : Nat} (hq : f_X10_enters h x0 x1 = some rr) (hfr : 0 ≤ fr) : Mt l yX10_enters cX10_enters 3 none fr [.ref x0, .long x1] h (QV rr) := by
  refine Mt.of (by decide +kernel) (Nat.le_of_ble_eq_true rfl) (fun x hl ok hF => ?_)
  subst hl
  show wp x 0 [(0, .ref x0), (1, .long x1)] [] h
  unfold f_X10_enters at hq
  obtain ⟨h0, eh0⟩ : ∃ h0 : HP, h = h0 := ⟨h, rfl⟩
  have e : h.1 = h0.1 := by rw [eh0]
  rw [eh0] at hF
  obtain ⟨g_x0, hq⟩ := gP_some hq
  obtain ⟨n_x0, f_x0⟩ := kO_some g_x0
  replace f_x0 := sh_of e.symm f_x0
  refine wp_aload_n (v := x0) ok dX10_enters_0 rfl ?_
  obtain ⟨t1, e2, hq⟩ := bnd_some hq
  obtain ⟨e3, n4, f5⟩ := rK_some e2
  replace f5 := sh_of (e).symm f5
  refine wp_getR ok fl_RX10_11 (sh_of e f_x0) e3 dX10_enters_1 ?_
  refine wp_aload_n (v := x0) ok dX10_enters_4 rfl ?_
  refine wp_getI ok fl_RX10_15 (sh_of e f_x0) dX10_enters_5 ?_
  refine wp_lload_n (v := x1) ok dX10_enters_8 rfl ?_
  obtain ⟨g6, hq⟩ := gP_some hq
  refine wp_last ok (sh_of e f5) (ix_of (sh_of e f5) g6) dX10_enters_9 ?_
  obtain ⟨h7, e8, hq⟩ := lt_some hq
  refine wp_nmH e8 ?_
  have e9 : h7.1 = h0.1 := (congrArg Prod.fst e8).trans e
  refine wp_aload_n (v := x0) ok dX10_enters_10 rfl ?_
  refine wp_dup ok dX10_enters_11 rfl ?_
  refine wp_getI ok fl_RX10_15 (sh_of e9 f_x0) dX10_enters_12 ?_
  refine wp_iconst (v := 1) ok dX10_enters_15 (by decide) ?_
  refine wp_iadd ok dX10_enters_16 ?_
  refine wp_putI ok flw_RX10_15 (nr_10_1 _) (sh_of e9 f_x0) dX10_enters_17 ?_
  obtain ⟨h10, e11, hq⟩ := lt_some hq
  refine wp_nmH e11 ?_
  have e12 : h10.1 = h0.1 := (congrArg Prod.fst e11).trans e9
  exact wp_vret ok hF e12 (reV hq) dX10_enters_20
set_option maxHeartbeats 4000000 in
set_option maxRecDepth 100000 in
theorem m_X10_tellsFraction {l : Launch} {h : HP} {N : Nat} {x0 : Nat} {x1 : Int64} {x3 : Int64} {rr : HP} {fr : Nat} (hq : f_X10_tellsFraction N h x0 x1 x3 = some rr) (hfr : (1 * N + 1) ≤ fr) : Mt l yX10_tellsFraction cX10_tellsFraction 7 none fr [.ref x0, .long x1, .long x3] h (QV rr) := by
  refine Mt.of (by decide +kernel) (Nat.le_of_ble_eq_true rfl) (fun x hl ok hF => ?_)
  subst hl
  show wp x 0 [(0, .ref x0), (1, .long x1), (3, .long x3)] [] h
  unfold f_X10_tellsFraction at hq
  obtain ⟨h0, eh0⟩ : ∃ h0 : HP, h = h0 := ⟨h, rfl⟩
  have e : h.1 = h0.1 := by rw [eh0]
  rw [eh0] at hF
  obtain ⟨g_x0, hq⟩ := gP_some hq
  obtain ⟨n_x0, f_x0⟩ := kO_some g_x0
  replace f_x0 := sh_of e.symm f_x0
  refine wp_lload_n (v := x1) ok dX10_tellsFraction_0 rfl ?_
  refine wp_lload_n (v := x3) ok dX10_tellsFraction_1 rfl ?_
  obtain ⟨v1, e2, hq⟩ := bnd_some hq
  refine wp_callSJ (As := [.long x1, .long x3]) (rest := []) (h1 := h) ok (m_X10_common e2 (Nat.le_refl _)) my_X10_common (w_1563) pd_X10_common (by omega) rfl rfl rfl rfl dX10_tellsFraction_2 (fun e3 => ?_)
  refine wp_lstore (L' := [(5, .long v1), (0, .ref x0), (1, .long x1), (3, .long x3)]) ok dX10_tellsFraction_5 rfl rfl ?_
  refine wp_aload_n (v := x0) ok dX10_tellsFraction_7 rfl ?_
  refine wp_iconst (v := 0) ok dX10_tellsFraction_8 (by decide) ?_
  refine wp_putI ok flw_RX10_15 (nr_10_1 _) (sh_of e f_x0) dX10_tellsFraction_9 ?_
  obtain ⟨h4, e5, hq⟩ := lt_some hq
  refine wp_nmH e5 ?_
  have e6 : h4.1 = h0.1 := (congrArg Prod.fst e5).trans e
  refine wp_aload_n (v := x0) ok dX10_tellsFraction_12 rfl ?_
  refine wp_lload_n (v := x1) ok dX10_tellsFraction_13 rfl ?_
  refine wp_lload (v := v1) ok dX10_tellsFraction_14 rfl ?_
  obtain ⟨g7, hq⟩ := gP_some hq
  refine wp_ldiv ok dX10_tellsFraction_16 g7 ?_
  obtain ⟨h8, e9, hq⟩ := bnd_some hq
  refine wp_callVV (As := [.long (x1 / v1)]) (rest := []) (h1 := h8) ok (m_X10_enters e9 (Nat.le_refl _)) my_X10_enters (w_1347) pd_X10_enters (by omega) rfl (ci := 10) rfl (by decide) (sh_of e6 f_x0) rfl rfl rfl dX10_tellsFraction_17 (fun e10 => ?_)
  have e11 : h8.1 = h0.1 := (e10).trans e6
  refine wp_aload_n (v := x0) ok dX10_tellsFraction_20 rfl ?_
  refine wp_lload_n (v := x3) ok dX10_tellsFraction_21 rfl ?_
  refine wp_lload (v := v1) ok dX10_tellsFraction_22 rfl ?_
  obtain ⟨g12, hq⟩ := gP_some hq
  refine wp_ldiv ok dX10_tellsFraction_24 g12 ?_
  obtain ⟨h13, e14, hq⟩ := bnd_some hq
  refine wp_callVV (As := [.long (x3 / v1)]) (rest := []) (h1 := h13) ok (m_X10_enters e14 (Nat.le_refl _)) my_X10_enters (w_1347) pd_X10_enters (by omega) rfl (ci := 10) rfl (by decide) (sh_of e11 f_x0) rfl rfl rfl dX10_tellsFraction_25 (fun e15 => ?_)
  have e16 : h13.1 = h0.1 := (e15).trans e11
  exact wp_vret ok hF e16 (reV hq) dX10_tellsFraction_28
set_option maxHeartbeats 4000000 in
set_option maxRecDepth 100000 in
theorem m_X10_isMarket {l : Launch} {h : HP} {x0 : Nat} {x1 : Int32} {rr : Int32} {fr : Nat} (hq : f_X10_isMarket h x0 x1 = some rr) (hfr : 1 ≤ fr) : Mt l yX10_isMarket cX10_isMarket 2 (some (.boolean)) fr [.ref x0, .int x1] h (QI rr h) := by
  refine Mt.of (by decide +kernel) (Nat.le_of_ble_eq_true rfl) (fun x hl ok hF => ?_)
  subst hl
  show wp x 0 [(0, .ref x0), (1, .int x1)] [] h
  unfold f_X10_isMarket at hq
  obtain ⟨g_x0, hq⟩ := gP_some hq
  obtain ⟨n_x0, f_x0⟩ := kO_some g_x0
  refine wp_iload_n (v := x1) ok dX10_isMarket_0 rfl ?_
  refine wp_i2l ok dX10_isMarket_1 ?_
  refine wp_lconst (v := 0) ok dX10_isMarket_2 (by decide) ?_
  refine wp_aload_n (v := x0) ok dX10_isMarket_3 rfl ?_
  refine wp_getI ok fl_RX10_120 (sh_of rfl f_x0) dX10_isMarket_4 ?_
  refine wp_iconst (v := 1) ok dX10_isMarket_7 (by decide) ?_
  refine wp_isub ok dX10_isMarket_8 ?_
  refine wp_i2l ok dX10_isMarket_9 ?_
  obtain ⟨v1, e2, hq⟩ := bnd_some hq
  refine wp_callSI (As := [.long (x1.toInt64), .long 0, .long (((h.2.1 x0 3) - 1).toInt64)]) (rest := []) (h1 := h) ok (m_X10_in e2 (Nat.le_refl _)) my_X10_in (w_1200) pd_X10_in (Nat.le_trans (by decide) hfr) rfl rfl rfl rfl dX10_isMarket_10 (fun e3 => ?_)
  obtain ⟨g4, hq⟩ := gP_some hq
  exact wp_iret ok hF (nb_z g4) rfl (re1I hq) dX10_isMarket_13
set_option maxHeartbeats 4000000 in
set_option maxRecDepth 100000 in
theorem m_X10_isKind {l : Launch} {h : HP} {x0 : Int32} {rr : Int32} {fr : Nat} (hq : f_X10_isKind x0 = some rr) (hfr : 1 ≤ fr) : Mt l yX10_isKind cX10_isKind 1 (some (.boolean)) fr [.int x0] h (QI rr h) := by
  refine Mt.of (by decide +kernel) (Nat.le_of_ble_eq_true rfl) (fun x hl ok hF => ?_)
  subst hl
  show wp x 0 [(0, .int x0)] [] h
  unfold f_X10_isKind at hq
  refine wp_iload_n (v := x0) ok dX10_isKind_0 rfl ?_
  refine wp_i2l ok dX10_isKind_1 ?_
  refine wp_lconst (v := 0) ok dX10_isKind_2 (by decide) ?_
  refine wp_lconst (v := 1) ok dX10_isKind_3 (by decide) ?_
  obtain ⟨v1, e2, hq⟩ := bnd_some hq
  refine wp_callSI (As := [.long (x0.toInt64), .long 0, .long 1]) (rest := []) (h1 := h) ok (m_X10_in e2 (Nat.le_refl _)) my_X10_in (w_1200) pd_X10_in (Nat.le_trans (by decide) hfr) rfl rfl rfl rfl dX10_isKind_4 (fun e3 => ?_)
  obtain ⟨g4, hq⟩ := gP_some hq
  exact wp_iret ok hF (nb_z g4) rfl (re1I hq) dX10_isKind_7
set_option maxHeartbeats 4000000 in
set_option maxRecDepth 100000 in
theorem m_X10_at {l : Launch} {h : HP} {x0 : Int32} {x1 : Int32} {rr : Int32} {fr : Nat} (hq : f_X10_at x0 x1 = some rr) (hfr : 0 ≤ fr) : Mt l yX10_at cX10_at 2 (some (.int)) fr [.int x0, .int x1] h (QI rr h) := by
  refine Mt.of (by decide +kernel) (Nat.le_of_ble_eq_true rfl) (fun x hl ok hF => ?_)
  subst hl
  show wp x 0 [(0, .int x0), (1, .int x1)] [] h
  unfold f_X10_at at hq
  refine wp_bipush (v := 6) ok dX10_at_0 (by decide) ?_
  refine wp_iload_n (v := x0) ok dX10_at_2 rfl ?_
  refine wp_imul ok dX10_at_3 ?_
  refine wp_iload_n (v := x1) ok dX10_at_4 rfl ?_
  refine wp_iadd ok dX10_at_5 ?_
  exact wp_iret ok hF rfl rfl (re1I hq) dX10_at_6
set_option maxHeartbeats 4000000 in
set_option maxRecDepth 100000 in
theorem s_X10_sumOf_B5 {x : Cx} {h : HP} {N fr : Nat} {rr : Int32} (ok : Okx x cX10_sumOf yX10_sumOf.cls 5 fr) (hfr : 0 ≤ fr)  {x0 : Nat} {x1 : Nat} {x2 : Int32} {n_x0 : Nat} (f_x0 : h.1[x0]? = some (10, n_x0)) {n_x1 : Nat} (f_x1 : h.1[x1]? = some (102, n_x1)) (hF : Fend x h (some (.int)) (QI rr h)) {rc : Int32 → Int32 → Option Int32} (ih : ∀ (x3 : Int32) (x4 : Int32), rc x3 x4 = some rr → wp x 5 [(3, .int x3), (4, .int x4), (0, .ref x0), (1, .ref x1), (2, .int x2)] [] h) : ∀ (x3 : Int32) (x4 : Int32), f_X10_sumOf_B5 N x0 x1 x2 h rc x3 x4 = some rr → wp x 5 [(3, .int x3), (4, .int x4), (0, .ref x0), (1, .ref x1), (2, .int x2)] [] h := by
  intro x3 x4 hq
  unfold f_X10_sumOf_B5 at hq
  refine wp_iload (v := x4) ok dX10_sumOf_5 rfl ?_
  refine wp_aload_n (v := x0) ok dX10_sumOf_7 rfl ?_
  refine wp_getI ok fl_RX10_120 (sh_of rfl f_x0) dX10_sumOf_8 ?_
  refine wp_icmp_ge (tgt := 29) ok dX10_sumOf_11 (by decide) (fun c1 => ?_) (fun c1 => ?_)
  · have hq := ite_t c1 hq
    refine wp_iload_n (v := x3) ok dX10_sumOf_29 rfl ?_
    exact wp_iret ok hF rfl rfl (re1I hq) dX10_sumOf_30
  · have hq := ite_f c1 hq
    refine wp_iload_n (v := x3) ok dX10_sumOf_14 rfl ?_
    refine wp_aload_n (v := x1) ok dX10_sumOf_15 rfl ?_
    refine wp_iload_n (v := x2) ok dX10_sumOf_16 rfl ?_
    refine wp_iload (v := x4) ok dX10_sumOf_17 rfl ?_
    refine wp_iadd ok dX10_sumOf_19 ?_
    obtain ⟨g2, hq⟩ := gP_some hq
    refine wp_iald ok (sh_of rfl f_x1) (ix_of (sh_of rfl f_x1) g2) dX10_sumOf_20 ?_
    refine wp_iadd ok dX10_sumOf_21 ?_
    obtain ⟨v3, e4, hq⟩ := lt_some hq
    refine wp_nmI e4 ?_
    refine wp_istore_n (L' := [(3, .int v3), (4, .int x4), (0, .ref x0), (1, .ref x1), (2, .int x2)]) ok dX10_sumOf_22 rfl rfl ?_
    obtain ⟨v5, e6, hq⟩ := lt_some hq
    refine wp_iinc (v := x4) (w := 1) (L' := [(4, .int v5), (3, .int v3), (0, .ref x0), (1, .ref x1), (2, .int x2)]) ok dX10_sumOf_23 rfl (by decide) rfl (by rw [← e6]; rfl) ?_
    refine wp_goto (tgt := 5) ok dX10_sumOf_26 (by decide) ?_
    refine wp_sub (L' := [(3, .int v3), (4, .int v5), (0, .ref x0), (1, .ref x1), (2, .int x2)]) [1, 0, 2, 3, 4] rfl ?_
    exact ih v3 v5 hq
