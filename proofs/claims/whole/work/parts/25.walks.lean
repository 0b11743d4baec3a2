/-! ===== walks ===== -/
set_option maxHeartbeats 4000000 in
set_option maxRecDepth 100000 in
theorem m_X10_rises {l : Launch} {h : HP} {N : Nat} {x0 : Nat} {x1 : Int32} {rr : Int32} {rh : HP} {fr : Nat} (hq : f_X10_rises N h x0 x1 = some (rr, rh)) (hfr : 5 ≤ fr) : Mt l yX10_rises cX10_rises 5 (some (.int)) fr [.ref x0, .int x1] h (QI rr rh) := by
  obtain ⟨rp, ep⟩ : ∃ rp : (Int32 × HP), rp = (rr, rh) := ⟨_, rfl⟩
  have e1p : rr = rp.1 := (congrArg Prod.fst ep).symm
  have e2p : rh = rp.2 := (congrArg Prod.snd ep).symm
  rw [← ep] at hq
  rw [e1p, e2p]
  clear e1p e2p ep
  refine Mt.of (by decide +kernel) (Nat.le_of_ble_eq_true rfl) (fun x hl ok hF => ?_)
  subst hl
  show wp x 0 [(0, .ref x0), (1, .int x1)] [] h
  unfold f_X10_rises at hq
  obtain ⟨h0, eh0⟩ : ∃ h0 : HP, h = h0 := ⟨h, rfl⟩
  have e : h.1 = h0.1 := by rw [eh0]
  rw [eh0] at hF
  obtain ⟨g_x0, hq⟩ := gP_some hq
  obtain ⟨n_x0, f_x0⟩ := kO_some g_x0
  replace f_x0 := sh_of e.symm f_x0
  refine wp_aload_n (v := x0) ok dX10_rises_0 rfl ?_
  refine wp_iconst (v := 0) ok dX10_rises_1 (by decide) ?_
  refine wp_putI ok flw_RX10_3 (nr_10_0 _) (sh_of e f_x0) dX10_rises_2 ?_
  obtain ⟨h1, e2, hq⟩ := lt_some hq
  refine wp_nmH e2 ?_
  have e3 : h1.1 = h0.1 := (congrArg Prod.fst e2).trans e
  refine wp_iload_n (v := x1) ok dX10_rises_5 rfl ?_
  refine wp_i2l ok dX10_rises_6 ?_
  refine wp_lconst (v := 1) ok dX10_rises_7 (by decide) ?_
  refine wp_ldc2 (v := 60) ok (w_1334) dX10_rises_8 ?_
  obtain ⟨v4, e5, hq⟩ := bnd_some hq
  refine wp_callSI (As := [.long (x1.toInt64), .long 1, .long 60]) (rest := []) (h1 := h1) ok (m_X10_in e5 (Nat.le_refl _)) my_X10_in (w_1200) pd_X10_in (Nat.le_trans (by decide) hfr) rfl rfl rfl rfl dX10_rises_11 (fun e6 => ?_)
  refine wp_if_ne (tgt := 19) ok dX10_rises_14 (by decide) (fun c7 => ?_) (fun c7 => ?_)
  · have hq := ite_f c7 hq
    refine wp_aload_n (v := x0) ok dX10_rises_19 rfl ?_
    obtain ⟨h8, e9, hq⟩ := bnd_some hq
    refine wp_callVV (As := []) (rest := []) (h1 := h8) ok (m_X10_copies e9 (Nat.le_refl _)) my_X10_copies (w_1438) pd_X10_copies (Nat.le_trans (by decide) hfr) rfl (ci := 10) rfl (by decide) (sh_of e3 f_x0) rfl rfl rfl dX10_rises_20 (fun e10 => ?_)
    have e11 : h8.1 = h0.1 := (e10).trans e3
    refine wp_aload_n (v := x0) ok dX10_rises_23 rfl ?_
    refine wp_aload_n (v := x0) ok dX10_rises_24 rfl ?_
    obtain ⟨t12, e13, hq⟩ := bnd_some hq
    obtain ⟨e14, n15, f16⟩ := rK_some e13
    replace f16 := sh_of (e11).symm f16
    refine wp_getR ok fl_RX10_44 (sh_of e11 f_x0) e14 dX10_rises_25 ?_
    refine wp_iload_n (v := x1) ok dX10_rises_28 rfl ?_
    obtain ⟨h17, e18, hq⟩ := bnd_some hq
    refine wp_callVV (As := [.ref t12, .int x1]) (rest := []) (h1 := h17) ok (m_X10_goesOn e18 (Nat.le_refl _)) my_X10_goesOn (w_1339) pd_X10_goesOn (Nat.le_trans (by decide) hfr) rfl (ci := 10) rfl (by decide) (sh_of e11 f_x0) rfl rfl rfl dX10_rises_29 (fun e19 => ?_)
    have e20 : h17.1 = h0.1 := (e19).trans e11
    refine wp_iconst (v := 0) ok dX10_rises_32 (by decide) ?_
    refine wp_istore_n (L' := [(2, .int 0), (0, .ref x0), (1, .int x1)]) ok dX10_rises_33 rfl rfl ?_
    refine wp_iconst (v := 0) ok dX10_rises_34 (by decide) ?_
    refine wp_istore_n (L' := [(3, .int 0), (2, .int 0), (0, .ref x0), (1, .int x1)]) ok dX10_rises_35 rfl rfl ?_
    refine wp_iconst (v := 0) ok dX10_rises_36 (by decide) ?_
    refine wp_istore (L' := [(4, .int 0), (3, .int 0), (2, .int 0), (0, .ref x0), (1, .int x1)]) ok dX10_rises_37 rfl rfl ?_
    refine wp_sub (L' := [(2, .int 0), (3, .int 0), (4, .int 0), (0, .ref x0)]) [2, 1, 0, 3] rfl ?_
    refine l_X10_rises_B39 ok hfr f_x0 hF ?_ N 0 0 0 h17 hq e20
    · intro x76 x77 h78 hq e79
      refine wp_aload_n (v := x0) ok dX10_rises_122 rfl ?_
      refine wp_iconst (v := 0) ok dX10_rises_123 (by decide) ?_
      refine wp_putI ok flw_RX10_15 (nr_10_1 _) (sh_of e79 f_x0) dX10_rises_124 ?_
      obtain ⟨h80, e81, hq⟩ := lt_some hq
      refine wp_nmH e81 ?_
      have e82 : h80.1 = h0.1 := (congrArg Prod.fst e81).trans e79
      refine wp_aload_n (v := x0) ok dX10_rises_127 rfl ?_
      refine wp_iload_n (v := x77) ok dX10_rises_128 rfl ?_
      refine wp_i2l ok dX10_rises_129 ?_
      obtain ⟨h83, e84, hq⟩ := bnd_some hq
      refine wp_callVV (As := [.long (x77.toInt64)]) (rest := []) (h1 := h83) ok (m_X10_enters e84 (Nat.le_refl _)) my_X10_enters (w_1347) pd_X10_enters (Nat.le_trans (by decide) hfr) rfl (ci := 10) rfl (by decide) (sh_of e82 f_x0) rfl rfl rfl dX10_rises_130 (fun e85 => ?_)
      have e86 : h83.1 = h0.1 := (e85).trans e82
      refine wp_iload_n (v := x76) ok dX10_rises_133 rfl ?_
      exact wp_iret ok hF rfl e86 (re2I hq) dX10_rises_134
  · have hq := ite_t c7 hq
    refine wp_iconst (v := -1) ok dX10_rises_17 (by decide) ?_
    exact wp_iret ok hF rfl e3 (re2I hq) dX10_rises_18
set_option maxHeartbeats 4000000 in
set_option maxRecDepth 100000 in
theorem s_X10_travels_B25 {x : Cx} {h0 : HP} {N fr : Nat} {rf_X10_travels : HP → Nat → Int32 → Int64 → Int64 → Option HP} {dn : Nat} {rr : HP} (ok : Okx x cX10_travels yX10_travels.cls 10 fr) (hfr : (dn + 1) ≤ fr) (ih_X10_travels : ∀ {h : HP} {x0 : Nat} {x1 : Int32} {x2 : Int64} {x4 : Int64} {ri : HP} {fr : Nat}, rf_X10_travels h x0 x1 x2 x4 = some ri → dn ≤ fr → Mt (cxl x) yX10_travels cX10_travels 10 none fr [.ref x0, .int x1, .long x2, .long x4] h (QV ri))  {x0 : Nat} {n_x0 : Nat} (f_x0 : h0.1[x0]? = some (10, n_x0)) (hF : Fend x h0 none (QV rr)) {rc : Int32 → HP → Option HP} (ih : ∀ (x6 : Int32) (h : HP), rc x6 h = some rr → h.1 = h0.1 → wp x 25 [(6, .int x6), (0, .ref x0)] [] h) : ∀ (x6 : Int32) (h : HP), f_X10_travels_B25 N rf_X10_travels x0 rc x6 h = some rr → h.1 = h0.1 → wp x 25 [(6, .int x6), (0, .ref x0)] [] h := by
  intro x6 h hq e
  unfold f_X10_travels_B25 at hq
  refine wp_iload (v := x6) ok dX10_travels_25 rfl ?_
  refine wp_aload_n (v := x0) ok dX10_travels_27 rfl ?_
  refine wp_getI ok fl_RX10_120 (sh_of e f_x0) dX10_travels_28 ?_
  refine wp_icmp_ge (tgt := 54) ok dX10_travels_31 (by decide) (fun c60 => ?_) (fun c60 => ?_)
  · have hq := ite_t c60 hq
    exact wp_vret ok hF e (reV hq) dX10_travels_54
  · have hq := ite_f c60 hq
    refine wp_aload_n (v := x0) ok dX10_travels_34 rfl ?_
    obtain ⟨t61, e62, hq⟩ := bnd_some hq
    obtain ⟨e63, n64, f65⟩ := rK_some e62
    replace f65 := sh_of (e).symm f65
    refine wp_getR ok fl_RX10_92 (sh_of e f_x0) e63 dX10_travels_35 ?_
    refine wp_iload (v := x6) ok dX10_travels_38 rfl ?_
    refine wp_aload_n (v := x0) ok dX10_travels_40 rfl ?_
    obtain ⟨t66, e67, hq⟩ := bnd_some hq
    obtain ⟨e68, n69, f70⟩ := rK_some e67
    replace f70 := sh_of (e).symm f70
    refine wp_getR ok fl_RX10_89 (sh_of e f_x0) e68 dX10_travels_41 ?_
    refine wp_iload (v := x6) ok dX10_travels_44 rfl ?_
    obtain ⟨g71, hq⟩ := gP_some hq
    refine wp_iald ok (sh_of e f70) (ix_of (sh_of e f70) g71) dX10_travels_46 ?_
    obtain ⟨g72, hq⟩ := gP_some hq
    refine wp_iast ok (sh_of e f65) (ix_of (sh_of e f65) g72) dX10_travels_47 ?_
    obtain ⟨h73, e74, hq⟩ := lt_some hq
    refine wp_nmH e74 ?_
    have e75 : h73.1 = h0.1 := (congrArg Prod.fst e74).trans e
    obtain ⟨v76, e77, hq⟩ := lt_some hq
    refine wp_iinc (v := x6) (w := 1) (L' := [(6, .int v76), (0, .ref x0)]) ok dX10_travels_48 rfl (by decide) rfl (by rw [← e77]; rfl) ?_
    refine wp_goto (tgt := 25) ok dX10_travels_51 (by decide) ?_
    refine wp_sub (L' := [(6, .int v76), (0, .ref x0)]) [0, 1] rfl ?_
    exact ih v76 h73 hq e75
set_option maxHeartbeats 4000000 in
set_option maxRecDepth 100000 in
theorem l_X10_travels_B25 {x : Cx} {h0 : HP} {N fr : Nat} {rf_X10_travels : HP → Nat → Int32 → Int64 → Int64 → Option HP} {dn : Nat} {rr : HP} (ok : Okx x cX10_travels yX10_travels.cls 10 fr) (hfr : (dn + 1) ≤ fr) (ih_X10_travels : ∀ {h : HP} {x0 : Nat} {x1 : Int32} {x2 : Int64} {x4 : Int64} {ri : HP} {fr : Nat}, rf_X10_travels h x0 x1 x2 x4 = some ri → dn ≤ fr → Mt (cxl x) yX10_travels cX10_travels 10 none fr [.ref x0, .int x1, .long x2, .long x4] h (QV ri))  {x0 : Nat} {n_x0 : Nat} (f_x0 : h0.1[x0]? = some (10, n_x0)) (hF : Fend x h0 none (QV rr)) : ∀ (n : Nat) (x6 : Int32) (h : HP), lp (fun _ _ => none) (f_X10_travels_B25 N rf_X10_travels x0) n x6 h = some rr → h.1 = h0.1 → wp x 25 [(6, .int x6), (0, .ref x0)] [] h := by
  intro n
  induction n with
  | zero => intro x6 h hq e; exact (Option.some_ne_none _ hq.symm).elim
  | succ n ih => exact s_X10_travels_B25 ok hfr ih_X10_travels f_x0 hF  ih
set_option maxHeartbeats 4000000 in
set_option maxRecDepth 100000 in
theorem m_X10_travels_S {l : Launch} {h : HP} {N : Nat} {x0 : Nat} {x1 : Int32} {x2 : Int64} {x4 : Int64} {rr : HP} {fr : Nat} {rf_X10_travels : HP → Nat → Int32 → Int64 → Int64 → Option HP} {dn : Nat} (ih_X10_travels : ∀ {h : HP} {x0 : Nat} {x1 : Int32} {x2 : Int64} {x4 : Int64} {ri : HP} {fr : Nat}, rf_X10_travels h x0 x1 x2 x4 = some ri → dn ≤ fr → Mt l yX10_travels cX10_travels 10 none fr [.ref x0, .int x1, .long x2, .long x4] h (QV ri)) (hq : f_X10_travels_S rf_X10_travels N h x0 x1 x2 x4 = some rr) (hfr : (dn + 1) ≤ fr) : Mt l yX10_travels cX10_travels 10 none fr [.ref x0, .int x1, .long x2, .long x4] h (QV rr) := by
  refine Mt.of (by decide +kernel) (Nat.le_of_ble_eq_true rfl) (fun x hl ok hF => ?_)
  subst hl
  show wp x 0 [(0, .ref x0), (1, .int x1), (2, .long x2), (4, .long x4)] [] h
  unfold f_X10_travels_S at hq
  obtain ⟨h0, eh0⟩ : ∃ h0 : HP, h = h0 := ⟨h, rfl⟩
  have e : h.1 = h0.1 := by rw [eh0]
  rw [eh0] at hF
  obtain ⟨g_x0, hq⟩ := gP_some hq
  obtain ⟨n_x0, f_x0⟩ := kO_some g_x0
  replace f_x0 := sh_of e.symm f_x0
  refine wp_iload_n (v := x1) ok dX10_travels_0 rfl ?_
  refine wp_aload_n (v := x0) ok dX10_travels_1 rfl ?_
  refine wp_getI ok fl_RX10_120 (sh_of e f_x0) dX10_travels_2 ?_
  refine wp_icmp_ne (tgt := 55) ok dX10_travels_5 (by decide) (fun c1 => ?_) (fun c1 => ?_)
  · have hq := ite_f c1 hq
    refine wp_aload_n (v := x0) ok dX10_travels_55 rfl ?_
    obtain ⟨t2, e3, hq⟩ := bnd_some hq
    obtain ⟨e4, n5, f6⟩ := rK_some e3
    replace f6 := sh_of (e).symm f6
    refine wp_getR ok fl_RX10_86 (sh_of e f_x0) e4 dX10_travels_56 ?_
    refine wp_iload_n (v := x1) ok dX10_travels_59 rfl ?_
    obtain ⟨g7, hq⟩ := gP_some hq
    refine wp_iald ok (sh_of e f6) (ix_of (sh_of e f6) g7) dX10_travels_60 ?_
    refine wp_i2l ok dX10_travels_61 ?_
    obtain ⟨v8, e9, hq⟩ := lt_some hq
    refine wp_nmJ e9 ?_
    refine wp_lstore (L' := [(6, .long v8), (0, .ref x0), (1, .int x1), (2, .long x2), (4, .long x4)]) ok dX10_travels_62 rfl rfl ?_
    refine wp_lload (v := v8) ok dX10_travels_64 rfl ?_
    refine wp_lconst (v := 0) ok dX10_travels_66 (by decide) ?_
    refine wp_lcmp ok dX10_travels_67 ?_
    obtain ⟨k10, ek10, hq⟩ := jn1_some hq
    have kk10 : ∀ (y11 : Int64), k10 y11 = some rr → wp x 79 [(6, .long v8), (0, .ref x0), (1, .int x1), (2, .long x2), (4, .long x4)] [.long y11] h := by
      intro y11 hq
      have hq := (ek10 y11).symm.trans hq
      refine wp_lstore (L' := [(8, .long y11), (6, .long v8), (0, .ref x0), (1, .int x1), (2, .long x2), (4, .long x4)]) ok dX10_travels_79 rfl rfl ?_
      refine wp_aload_n (v := x0) ok dX10_travels_81 rfl ?_
      obtain ⟨t12, e13, hq⟩ := bnd_some hq
      obtain ⟨e14, n15, f16⟩ := rK_some e13
      replace f16 := sh_of (e).symm f16
      refine wp_getR ok fl_RX10_89 (sh_of e f_x0) e14 dX10_travels_82 ?_
      refine wp_iload_n (v := x1) ok dX10_travels_85 rfl ?_
      refine wp_iconst (v := 0) ok dX10_travels_86 (by decide) ?_
      obtain ⟨g17, hq⟩ := gP_some hq
      refine wp_iast ok (sh_of e f16) (ix_of (sh_of e f16) g17) dX10_travels_87 ?_
      obtain ⟨h18, e19, hq⟩ := lt_some hq
      refine wp_nmH e19 ?_
      have e20 : h18.1 = h0.1 := (congrArg Prod.fst e19).trans e
      refine wp_aload_n (v := x0) ok dX10_travels_88 rfl ?_
      refine wp_iload_n (v := x1) ok dX10_travels_89 rfl ?_
      refine wp_iconst (v := 1) ok dX10_travels_90 (by decide) ?_
      refine wp_iadd ok dX10_travels_91 ?_
      refine wp_lload_n (v := x2) ok dX10_travels_92 rfl ?_
      refine wp_lload (v := x4) ok dX10_travels_93 rfl ?_
      obtain ⟨h21, e22, hq⟩ := bnd_some hq
      refine wp_callVV (As := [.int (x1 + 1), .long x2, .long x4]) (rest := []) (h1 := h21) ok (ih_X10_travels e22 (Nat.le_refl _)) my_X10_travels (w_1510) pd_X10_travels (by omega) rfl (ci := 10) rfl (by decide) (sh_of e20 f_x0) rfl rfl rfl dX10_travels_95 (fun e23 => ?_)
      have e24 : h21.1 = h0.1 := (e23).trans e20
      refine wp_aload_n (v := x0) ok dX10_travels_98 rfl ?_
      obtain ⟨t25, e26, hq⟩ := bnd_some hq
      obtain ⟨e27, n28, f29⟩ := rK_some e26
      replace f29 := sh_of (e24).symm f29
      refine wp_getR ok fl_RX10_89 (sh_of e24 f_x0) e27 dX10_travels_99 ?_
      refine wp_iload_n (v := x1) ok dX10_travels_102 rfl ?_
      refine wp_iconst (v := 1) ok dX10_travels_103 (by decide) ?_
      obtain ⟨g30, hq⟩ := gP_some hq
      refine wp_iast ok (sh_of e24 f29) (ix_of (sh_of e24 f29) g30) dX10_travels_104 ?_
      obtain ⟨h31, e32, hq⟩ := lt_some hq
      refine wp_nmH e32 ?_
      have e33 : h31.1 = h0.1 := (congrArg Prod.fst e32).trans e24
      refine wp_aload_n (v := x0) ok dX10_travels_105 rfl ?_
      refine wp_iload_n (v := x1) ok dX10_travels_106 rfl ?_
      refine wp_iconst (v := 1) ok dX10_travels_107 (by decide) ?_
      refine wp_iadd ok dX10_travels_108 ?_
      refine wp_ldc2 (v := 999999999) ok (w_1514) dX10_travels_109 ?_
      refine wp_lload_n (v := x2) ok dX10_travels_112 rfl ?_
      refine wp_lload (v := x4) ok dX10_travels_113 rfl ?_
      refine wp_lload (v := v8) ok dX10_travels_115 rfl ?_
      refine wp_lmul ok dX10_travels_117 ?_
      refine wp_ladd ok dX10_travels_118 ?_
      obtain ⟨v34, e35, hq⟩ := bnd_some hq
      refine wp_callSJ (As := [.long 999999999, .long (x2 + (x4 * v8))]) (rest := [.int (x1 + 1), .ref x0]) (h1 := h31) ok (m_J9_min_f86c9 e35 (Nat.le_refl _)) my_J9_min_f86c9 (w_1515) pd_J9_min_f86c9 (by omega) rfl rfl rfl rfl dX10_travels_119 (fun e36 => ?_)
      refine wp_lconst (v := 0) ok dX10_travels_122 (by decide) ?_
      obtain ⟨h37, e38, hq⟩ := bnd_some hq
      refine wp_callVV (As := [.int (x1 + 1), .long v34, .long 0]) (rest := []) (h1 := h37) ok (ih_X10_travels e38 (Nat.le_refl _)) my_X10_travels (w_1510) pd_X10_travels (by omega) rfl (ci := 10) rfl (by decide) (sh_of e33 f_x0) rfl rfl rfl dX10_travels_123 (fun e39 => ?_)
      have e40 : h37.1 = h0.1 := (e39).trans e33
      refine wp_aload_n (v := x0) ok dX10_travels_126 rfl ?_
      obtain ⟨t41, e42, hq⟩ := bnd_some hq
      obtain ⟨e43, n44, f45⟩ := rK_some e42
      replace f45 := sh_of (e40).symm f45
      refine wp_getR ok fl_RX10_89 (sh_of e40 f_x0) e43 dX10_travels_127 ?_
      refine wp_iload_n (v := x1) ok dX10_travels_130 rfl ?_
      refine wp_iconst (v := 2) ok dX10_travels_131 (by decide) ?_
      obtain ⟨g46, hq⟩ := gP_some hq
      refine wp_iast ok (sh_of e40 f45) (ix_of (sh_of e40 f45) g46) dX10_travels_132 ?_
      obtain ⟨h47, e48, hq⟩ := lt_some hq
      refine wp_nmH e48 ?_
      have e49 : h47.1 = h0.1 := (congrArg Prod.fst e48).trans e40
      refine wp_aload_n (v := x0) ok dX10_travels_133 rfl ?_
      refine wp_iload_n (v := x1) ok dX10_travels_134 rfl ?_
      refine wp_iconst (v := 1) ok dX10_travels_135 (by decide) ?_
      refine wp_iadd ok dX10_travels_136 ?_
      refine wp_lload_n (v := x2) ok dX10_travels_137 rfl ?_
      refine wp_lload (v := y11) ok dX10_travels_138 rfl ?_
      refine wp_lload (v := v8) ok dX10_travels_140 rfl ?_
      refine wp_lmul ok dX10_travels_142 ?_
      refine wp_lsub ok dX10_travels_143 ?_
      refine wp_lload (v := x4) ok dX10_travels_144 rfl ?_
      refine wp_lload (v := y11) ok dX10_travels_146 rfl ?_
      refine wp_ladd ok dX10_travels_148 ?_
      obtain ⟨h50, e51, hq⟩ := bnd_some hq
      refine wp_callVV (As := [.int (x1 + 1), .long (x2 - (y11 * v8)), .long (x4 + y11)]) (rest := []) (h1 := h50) ok (ih_X10_travels e51 (Nat.le_refl _)) my_X10_travels (w_1510) pd_X10_travels (by omega) rfl (ci := 10) rfl (by decide) (sh_of e49 f_x0) rfl rfl rfl dX10_travels_149 (fun e52 => ?_)
      have e53 : h50.1 = h0.1 := (e52).trans e49
      exact wp_vret ok hF e53 (reV hq) dX10_travels_152
    refine wp_if_ne (tgt := 75) ok dX10_travels_68 (by decide) (fun c54 => ?_) (fun c54 => ?_)
    · have hq := ite_f c54 hq
      refine wp_lload_n (v := x2) ok dX10_travels_75 rfl ?_
      refine wp_lload (v := v8) ok dX10_travels_76 rfl ?_
      obtain ⟨g55, hq⟩ := gP_some hq
      refine wp_ldiv ok dX10_travels_78 g55 ?_
      refine wp_sub (L' := [(6, .long v8), (0, .ref x0), (1, .int x1), (2, .long x2), (4, .long x4)]) [0, 1, 2, 3, 4] rfl ?_
      exact kk10 (x2 / v8) hq
    · have hq := ite_t c54 hq
      refine wp_lconst (v := 0) ok dX10_travels_71 (by decide) ?_
      refine wp_goto (tgt := 79) ok dX10_travels_72 (by decide) ?_
      refine wp_sub (L' := [(6, .long v8), (0, .ref x0), (1, .int x1), (2, .long x2), (4, .long x4)]) [0, 1, 2, 3, 4] rfl ?_
      exact kk10 0 hq
  · have hq := ite_t c1 hq
    refine wp_lload_n (v := x2) ok dX10_travels_8 rfl ?_
    refine wp_aload_n (v := x0) ok dX10_travels_9 rfl ?_
    refine wp_getJ ok fl_RX10_366 (sh_of e f_x0) dX10_travels_10 ?_
    refine wp_lcmp ok dX10_travels_13 ?_
    refine wp_if_le (tgt := 54) ok dX10_travels_14 (by decide) (fun c56 => ?_) (fun c56 => ?_)
    · have hq := ite_t c56 hq
      exact wp_vret ok hF e (reV hq) dX10_travels_54
    · have hq := ite_f c56 hq
      refine wp_aload_n (v := x0) ok dX10_travels_17 rfl ?_
      refine wp_lload_n (v := x2) ok dX10_travels_18 rfl ?_
      refine wp_putJ ok flw_RX10_366 (sh_of e f_x0) dX10_travels_19 ?_
      obtain ⟨h57, e58, hq⟩ := lt_some hq
      refine wp_nmH e58 ?_
      have e59 : h57.1 = h0.1 := (congrArg Prod.fst e58).trans e
      refine wp_iconst (v := 0) ok dX10_travels_22 (by decide) ?_
      refine wp_istore (L' := [(6, .int 0), (0, .ref x0), (1, .int x1), (2, .long x2), (4, .long x4)]) ok dX10_travels_23 rfl rfl ?_
      refine wp_sub (L' := [(6, .int 0), (0, .ref x0)]) [0, 1] rfl ?_
      refine l_X10_travels_B25 ok hfr ih_X10_travels f_x0 hF  N 0 h57 hq e59
set_option maxHeartbeats 4000000 in
set_option maxRecDepth 100000 in
theorem g_X10_travels {l : Launch} {N : Nat} : ∀ n : Nat, (∀ {h : HP} {x0 : Nat} {x1 : Int32} {x2 : Int64} {x4 : Int64} {ri : HP} {fr : Nat}, lp (fun _ _ _ _ _ => none) (fun rf => f_X10_travels_S rf N) n h x0 x1 x2 x4 = some ri → 1 * n ≤ fr → Mt l yX10_travels cX10_travels 10 none fr [.ref x0, .int x1, .long x2, .long x4] h (QV ri)) := by
  intro n
  induction n with
  | zero => exact fun hq _ => (Option.some_ne_none _ hq.symm).elim
  | succ n ih => exact fun hq hf => m_X10_travels_S ih hq (by omega)
set_option maxHeartbeats 4000000 in
set_option maxRecDepth 100000 in
theorem m_X10_travels {l : Launch} {N : Nat} {h : HP} {x0 : Nat} {x1 : Int32} {x2 : Int64} {x4 : Int64} {ri : HP} {fr : Nat} (hq : f_X10_travels N h x0 x1 x2 x4 = some ri) (hfr : 1 * N ≤ fr) : Mt l yX10_travels cX10_travels 10 none fr [.ref x0, .int x1, .long x2, .long x4] h (QV ri) := by
  unfold f_X10_travels at hq
  exact (g_X10_travels (N := N) N) hq hfr
set_option maxHeartbeats 4000000 in
set_option maxRecDepth 100000 in
theorem s_X10_caravan_B30 {x : Cx} {h0 : HP} {N fr : Nat} {rr : (Int32 × HP)} (ok : Okx x cX10_caravan yX10_caravan.cls 3 fr) (hfr : (1 * N + 5) ≤ fr)  {x0 : Nat} {x1 : Int32} {n_x0 : Nat} (f_x0 : h0.1[x0]? = some (10, n_x0)) (hF : Fend x h0 (some (.int)) (QI rr.1 rr.2)) {k67 : HP → Option (Int32 × HP)} (hk67 : ∀ (h : HP), k67 h = some rr → h.1 = h0.1 → wp x 67 [(0, .ref x0), (1, .int x1)] [] h) {rc : Int32 → HP → Option (Int32 × HP)} (ih : ∀ (x2 : Int32) (h : HP), rc x2 h = some rr → h.1 = h0.1 → wp x 30 [(2, .int x2), (0, .ref x0), (1, .int x1)] [] h) : ∀ (x2 : Int32) (h : HP), f_X10_caravan_B30 N x0 x1 k67 rc x2 h = some rr → h.1 = h0.1 → wp x 30 [(2, .int x2), (0, .ref x0), (1, .int x1)] [] h := by
  intro x2 h hq e
  unfold f_X10_caravan_B30 at hq
  refine wp_iload_n (v := x2) ok dX10_caravan_30 rfl ?_
  refine wp_aload_n (v := x0) ok dX10_caravan_31 rfl ?_
  refine wp_getI ok fl_RX10_120 (sh_of e f_x0) dX10_caravan_32 ?_
  refine wp_icmp_ge (tgt := 67) ok dX10_caravan_35 (by decide) (fun c13 => ?_) (fun c13 => ?_)
  · have hq := ite_t c13 hq
    refine wp_sub (L' := [(0, .ref x0), (1, .int x1)]) [1, 2] rfl ?_
    exact hk67 h hq e
  · have hq := ite_f c13 hq
    refine wp_aload_n (v := x0) ok dX10_caravan_38 rfl ?_
    obtain ⟨t14, e15, hq⟩ := bnd_some hq
    obtain ⟨e16, n17, f18⟩ := rK_some e15
    replace f18 := sh_of (e).symm f18
    refine wp_getR ok fl_RX10_86 (sh_of e f_x0) e16 dX10_caravan_39 ?_
    refine wp_iload_n (v := x2) ok dX10_caravan_42 rfl ?_
    refine wp_aload_n (v := x0) ok dX10_caravan_43 rfl ?_
    refine wp_aload_n (v := x0) ok dX10_caravan_44 rfl ?_
    obtain ⟨t19, e20, hq⟩ := bnd_some hq
    obtain ⟨e21, n22, f23⟩ := rK_some e20
    replace f23 := sh_of (e).symm f23
    refine wp_getR ok fl_RX10_44 (sh_of e f_x0) e21 dX10_caravan_45 ?_
    refine wp_iload_n (v := x2) ok dX10_caravan_48 rfl ?_
    obtain ⟨v24, h26, e25, hq⟩ := bnd2_some hq
    refine wp_callVI (As := [.ref t19, .int x2]) (rest := [.int x2, .ref t14]) (h1 := h26) ok (m_X10_priceOf e25 (Nat.le_refl _)) my_X10_priceOf (w_1297) pd_X10_priceOf (by omega) rfl (ci := 10) rfl (by decide) (sh_of e f_x0) rfl rfl rfl dX10_caravan_49 (fun e27 => ?_)
    have e28 : h26.1 = h0.1 := (e27).trans e
    obtain ⟨g29, hq⟩ := gP_some hq
    refine wp_iast ok (sh_of e28 f18) (ix_of (sh_of e28 f18) g29) dX10_caravan_52 ?_
    obtain ⟨h30, e31, hq⟩ := lt_some hq
    refine wp_nmH e31 ?_
    have e32 : h30.1 = h0.1 := (congrArg Prod.fst e31).trans e28
    refine wp_aload_n (v := x0) ok dX10_caravan_53 rfl ?_
    refine wp_aload_n (v := x0) ok dX10_caravan_54 rfl ?_
    obtain ⟨t33, e34, hq⟩ := bnd_some hq
    obtain ⟨e35, n36, f37⟩ := rK_some e34
    replace f37 := sh_of (e32).symm f37
    refine wp_getR ok fl_RX10_44 (sh_of e32 f_x0) e35 dX10_caravan_55 ?_
    obtain ⟨h38, e39, hq⟩ := bnd_some hq
    refine wp_callVV (As := [.ref t33]) (rest := []) (h1 := h38) ok (m_X10_monthGoes e39 (Nat.le_refl _)) my_X10_monthGoes (w_1343) pd_X10_monthGoes (by omega) rfl (ci := 10) rfl (by decide) (sh_of e32 f_x0) rfl rfl rfl dX10_caravan_58 (fun e40 => ?_)
    have e41 : h38.1 = h0.1 := (e40).trans e32
    obtain ⟨v42, e43, hq⟩ := lt_some hq
    refine wp_iinc (v := x2) (w := 1) (L' := [(2, .int v42), (0, .ref x0), (1, .int x1)]) ok dX10_caravan_61 rfl (by decide) rfl (by rw [← e43]; rfl) ?_
    refine wp_goto (tgt := 30) ok dX10_caravan_64 (by decide) ?_
    refine wp_sub (L' := [(2, .int v42), (0, .ref x0), (1, .int x1)]) [0, 1, 2] rfl ?_
    exact ih v42 h38 hq e41
set_option maxHeartbeats 4000000 in
set_option maxRecDepth 100000 in
theorem l_X10_caravan_B30 {x : Cx} {h0 : HP} {N fr : Nat} {rr : (Int32 × HP)} (ok : Okx x cX10_caravan yX10_caravan.cls 3 fr) (hfr : (1 * N + 5) ≤ fr)  {x0 : Nat} {x1 : Int32} {n_x0 : Nat} (f_x0 : h0.1[x0]? = some (10, n_x0)) (hF : Fend x h0 (some (.int)) (QI rr.1 rr.2)) {k67 : HP → Option (Int32 × HP)} (hk67 : ∀ (h : HP), k67 h = some rr → h.1 = h0.1 → wp x 67 [(0, .ref x0), (1, .int x1)] [] h) : ∀ (n : Nat) (x2 : Int32) (h : HP), lp (fun _ _ => none) (f_X10_caravan_B30 N x0 x1 k67) n x2 h = some rr → h.1 = h0.1 → wp x 30 [(2, .int x2), (0, .ref x0), (1, .int x1)] [] h := by
  intro n
  induction n with
  | zero => intro x2 h hq e; exact (Option.some_ne_none _ hq.symm).elim
  | succ n ih => exact s_X10_caravan_B30 ok hfr f_x0 hF hk67 ih
set_option maxHeartbeats 4000000 in
set_option maxRecDepth 100000 in
theorem s_X10_caravan_B89 {x : Cx} {h0 : HP} {N fr : Nat} {rr : (Int32 × HP)} (ok : Okx x cX10_caravan yX10_caravan.cls 3 fr) (hfr : (1 * N + 5) ≤ fr)  {x0 : Nat} {n_x0 : Nat} (f_x0 : h0.1[x0]? = some (10, n_x0)) (hF : Fend x h0 (some (.int)) (QI rr.1 rr.2)) {rc : Int32 → HP → Option (Int32 × HP)} (ih : ∀ (x2 : Int32) (h : HP), rc x2 h = some rr → h.1 = h0.1 → wp x 89 [(2, .int x2), (0, .ref x0)] [] h) : ∀ (x2 : Int32) (h : HP), f_X10_caravan_B89 N x0 rc x2 h = some rr → h.1 = h0.1 → wp x 89 [(2, .int x2), (0, .ref x0)] [] h := by
  intro x2 h hq e
  unfold f_X10_caravan_B89 at hq
  refine wp_iload_n (v := x2) ok dX10_caravan_89 rfl ?_
  refine wp_aload_n (v := x0) ok dX10_caravan_90 rfl ?_
  refine wp_getI ok fl_RX10_120 (sh_of e f_x0) dX10_caravan_91 ?_
  refine wp_icmp_ge (tgt := 114) ok dX10_caravan_94 (by decide) (fun c56 => ?_) (fun c56 => ?_)
  · have hq := ite_t c56 hq
    refine wp_aload_n (v := x0) ok dX10_caravan_114 rfl ?_
    refine wp_getJ ok fl_RX10_366 (sh_of e f_x0) dX10_caravan_115 ?_
    refine wp_l2i ok dX10_caravan_118 ?_
    exact wp_iret ok hF rfl e (re2I hq) dX10_caravan_119
  · have hq := ite_f c56 hq
    refine wp_aload_n (v := x0) ok dX10_caravan_97 rfl ?_
    refine wp_aload_n (v := x0) ok dX10_caravan_98 rfl ?_
    obtain ⟨t57, e58, hq⟩ := bnd_some hq
    obtain ⟨e59, n60, f61⟩ := rK_some e58
    replace f61 := sh_of (e).symm f61
    refine wp_getR ok fl_RX10_92 (sh_of e f_x0) e59 dX10_caravan_99 ?_
    refine wp_iload_n (v := x2) ok dX10_caravan_102 rfl ?_
    obtain ⟨g62, hq⟩ := gP_some hq
    refine wp_iald ok (sh_of e f61) (ix_of (sh_of e f61) g62) dX10_caravan_103 ?_
    refine wp_i2l ok dX10_caravan_104 ?_
    obtain ⟨h63, e64, hq⟩ := bnd_some hq
    refine wp_callVV (As := [.long ((h.2.1 t57 x2.toNatClampNeg).toInt64)]) (rest := []) (h1 := h63) ok (m_X10_enters e64 (Nat.le_refl _)) my_X10_enters (w_1347) pd_X10_enters (by omega) rfl (ci := 10) rfl (by decide) (sh_of e f_x0) rfl rfl rfl dX10_caravan_105 (fun e65 => ?_)
    have e66 : h63.1 = h0.1 := (e65).trans e
    obtain ⟨v67, e68, hq⟩ := lt_some hq
    refine wp_iinc (v := x2) (w := 1) (L' := [(2, .int v67), (0, .ref x0)]) ok dX10_caravan_108 rfl (by decide) rfl (by rw [← e68]; rfl) ?_
    refine wp_goto (tgt := 89) ok dX10_caravan_111 (by decide) ?_
    refine wp_sub (L' := [(2, .int v67), (0, .ref x0)]) [0, 1] rfl ?_
    exact ih v67 h63 hq e66
set_option maxHeartbeats 4000000 in
set_option maxRecDepth 100000 in
theorem l_X10_caravan_B89 {x : Cx} {h0 : HP} {N fr : Nat} {rr : (Int32 × HP)} (ok : Okx x cX10_caravan yX10_caravan.cls 3 fr) (hfr : (1 * N + 5) ≤ fr)  {x0 : Nat} {n_x0 : Nat} (f_x0 : h0.1[x0]? = some (10, n_x0)) (hF : Fend x h0 (some (.int)) (QI rr.1 rr.2)) : ∀ (n : Nat) (x2 : Int32) (h : HP), lp (fun _ _ => none) (f_X10_caravan_B89 N x0) n x2 h = some rr → h.1 = h0.1 → wp x 89 [(2, .int x2), (0, .ref x0)] [] h := by
  intro n
  induction n with
  | zero => intro x2 h hq e; exact (Option.some_ne_none _ hq.symm).elim
  | succ n ih => exact s_X10_caravan_B89 ok hfr f_x0 hF  ih
set_option maxHeartbeats 4000000 in
set_option maxRecDepth 100000 in
theorem m_X10_caravan {l : Launch} {h : HP} {N : Nat} {x0 : Nat} {x1 : Int32} {rr : Int32} {rh : HP} {fr : Nat} (hq : f_X10_caravan N h x0 x1 = some (rr, rh)) (hfr : (1 * N + 5) ≤ fr) : Mt l yX10_caravan cX10_caravan 3 (some (.int)) fr [.ref x0, .int x1] h (QI rr rh) := by
  obtain ⟨rp, ep⟩ : ∃ rp : (Int32 × HP), rp = (rr, rh) := ⟨_, rfl⟩
  have e1p : rr = rp.1 := (congrArg Prod.fst ep).symm
  have e2p : rh = rp.2 := (congrArg Prod.snd ep).symm
  rw [← ep] at hq
  rw [e1p, e2p]
  clear e1p e2p ep
  refine Mt.of (by decide +kernel) (Nat.le_of_ble_eq_true rfl) (fun x hl ok hF => ?_)
  subst hl
  show wp x 0 [(0, .ref x0), (1, .int x1)] [] h
  unfold f_X10_caravan at hq
  obtain ⟨h0, eh0⟩ : ∃ h0 : HP, h = h0 := ⟨h, rfl⟩
  have e : h.1 = h0.1 := by rw [eh0]
  rw [eh0] at hF
  obtain ⟨g_x0, hq⟩ := gP_some hq
  obtain ⟨n_x0, f_x0⟩ := kO_some g_x0
  replace f_x0 := sh_of e.symm f_x0
  refine wp_aload_n (v := x0) ok dX10_caravan_0 rfl ?_
  refine wp_iconst (v := 0) ok dX10_caravan_1 (by decide) ?_
  refine wp_putI ok flw_RX10_3 (nr_10_0 _) (sh_of e f_x0) dX10_caravan_2 ?_
  obtain ⟨h1, e2, hq⟩ := lt_some hq
  refine wp_nmH e2 ?_
  have e3 : h1.1 = h0.1 := (congrArg Prod.fst e2).trans e
  refine wp_iload_n (v := x1) ok dX10_caravan_5 rfl ?_
  obtain ⟨v4, e5, hq⟩ := bnd_some hq
  refine wp_callSI (As := [.int x1]) (rest := []) (h1 := h1) ok (m_X10_isSome e5 (Nat.le_refl _)) my_X10_isSome (w_1362) pd_X10_isSome (by omega) rfl rfl rfl rfl dX10_caravan_6 (fun e6 => ?_)
  refine wp_if_ne (tgt := 14) ok dX10_caravan_9 (by decide) (fun c7 => ?_) (fun c7 => ?_)
  · have hq := ite_f c7 hq
    refine wp_aload_n (v := x0) ok dX10_caravan_14 rfl ?_
    refine wp_getI ok fl_RX10_120 (sh_of e3 f_x0) dX10_caravan_15 ?_
    refine wp_if_ne (tgt := 24) ok dX10_caravan_18 (by decide) (fun c8 => ?_) (fun c8 => ?_)
    · have hq := ite_f c8 hq
      refine wp_aload_n (v := x0) ok dX10_caravan_24 rfl ?_
      obtain ⟨h9, e10, hq⟩ := bnd_some hq
      refine wp_callVV (As := []) (rest := []) (h1 := h9) ok (m_X10_copies e10 (Nat.le_refl _)) my_X10_copies (w_1438) pd_X10_copies (by omega) rfl (ci := 10) rfl (by decide) (sh_of e3 f_x0) rfl rfl rfl dX10_caravan_25 (fun e11 => ?_)
      have e12 : h9.1 = h0.1 := (e11).trans e3
      refine wp_iconst (v := 0) ok dX10_caravan_28 (by decide) ?_
      refine wp_istore_n (L' := [(2, .int 0), (0, .ref x0), (1, .int x1)]) ok dX10_caravan_29 rfl rfl ?_
      refine wp_sub (L' := [(2, .int 0), (0, .ref x0), (1, .int x1)]) [0, 1, 2] rfl ?_
      refine l_X10_caravan_B30 ok hfr f_x0 hF ?_ N 0 h9 hq e12
      · intro h44 hq e45
        refine wp_aload_n (v := x0) ok dX10_caravan_67 rfl ?_
        refine wp_ldc2 (v := -1) ok (w_1509) dX10_caravan_68 ?_
        refine wp_putJ ok flw_RX10_366 (sh_of e45 f_x0) dX10_caravan_71 ?_
        obtain ⟨h46, e47, hq⟩ := lt_some hq
        refine wp_nmH e47 ?_
        have e48 : h46.1 = h0.1 := (congrArg Prod.fst e47).trans e45
        refine wp_aload_n (v := x0) ok dX10_caravan_74 rfl ?_
        refine wp_iconst (v := 0) ok dX10_caravan_75 (by decide) ?_
        refine wp_iload_n (v := x1) ok dX10_caravan_76 rfl ?_
        refine wp_i2l ok dX10_caravan_77 ?_
        refine wp_lconst (v := 0) ok dX10_caravan_78 (by decide) ?_
        obtain ⟨h49, e50, hq⟩ := bnd_some hq
        refine wp_callVV (As := [.int 0, .long (x1.toInt64), .long 0]) (rest := []) (h1 := h49) ok (m_X10_travels e50 (Nat.le_refl _)) my_X10_travels (w_1510) pd_X10_travels (by omega) rfl (ci := 10) rfl (by decide) (sh_of e48 f_x0) rfl rfl rfl dX10_caravan_79 (fun e51 => ?_)
        have e52 : h49.1 = h0.1 := (e51).trans e48
        refine wp_aload_n (v := x0) ok dX10_caravan_82 rfl ?_
        refine wp_iconst (v := 0) ok dX10_caravan_83 (by decide) ?_
        refine wp_putI ok flw_RX10_15 (nr_10_1 _) (sh_of e52 f_x0) dX10_caravan_84 ?_
        obtain ⟨h53, e54, hq⟩ := lt_some hq
        refine wp_nmH e54 ?_
        have e55 : h53.1 = h0.1 := (congrArg Prod.fst e54).trans e52
        refine wp_iconst (v := 0) ok dX10_caravan_87 (by decide) ?_
        refine wp_istore_n (L' := [(2, .int 0), (0, .ref x0), (1, .int x1)]) ok dX10_caravan_88 rfl rfl ?_
        refine wp_sub (L' := [(2, .int 0), (0, .ref x0)]) [0, 1] rfl ?_
        refine l_X10_caravan_B89 ok hfr f_x0 hF  N 0 h53 hq e55
    · have hq := ite_t c8 hq
      refine wp_bipush (v := -2) ok dX10_caravan_21 (by decide) ?_
      exact wp_iret ok hF rfl e3 (re2I hq) dX10_caravan_23
  · have hq := ite_t c7 hq
    refine wp_iconst (v := -1) ok dX10_caravan_12 (by decide) ?_
    exact wp_iret ok hF rfl e3 (re2I hq) dX10_caravan_13
set_option maxHeartbeats 4000000 in
set_option maxRecDepth 100000 in
theorem m_X10_strings {l : Launch} {h : HP} {x0 : Nat} {x1 : Int32} {x2 : Int32} {rr : Int32} {rh : HP} {fr : Nat} (hq : f_X10_strings h x0 x1 x2 = some (rr, rh)) (hfr : 1 ≤ fr) : Mt l yX10_strings cX10_strings 4 (some (.int)) fr [.ref x0, .int x1, .int x2] h (QI rr rh) := by
  obtain ⟨rp, ep⟩ : ∃ rp : (Int32 × HP), rp = (rr, rh) := ⟨_, rfl⟩
  have e1p : rr = rp.1 := (congrArg Prod.fst ep).symm
  have e2p : rh = rp.2 := (congrArg Prod.snd ep).symm
  rw [← ep] at hq
  rw [e1p, e2p]
  clear e1p e2p ep
  refine Mt.of (by decide +kernel) (Nat.le_of_ble_eq_true rfl) (fun x hl ok hF => ?_)
  subst hl
  show wp x 0 [(0, .ref x0), (1, .int x1), (2, .int x2)] [] h
  unfold f_X10_strings at hq
  obtain ⟨h0, eh0⟩ : ∃ h0 : HP, h = h0 := ⟨h, rfl⟩
  have e : h.1 = h0.1 := by rw [eh0]
  rw [eh0] at hF
  obtain ⟨g_x0, hq⟩ := gP_some hq
  obtain ⟨n_x0, f_x0⟩ := kO_some g_x0
  replace f_x0 := sh_of e.symm f_x0
  refine wp_aload_n (v := x0) ok dX10_strings_0 rfl ?_
  refine wp_iconst (v := 0) ok dX10_strings_1 (by decide) ?_
  refine wp_putI ok flw_RX10_3 (nr_10_0 _) (sh_of e f_x0) dX10_strings_2 ?_
  obtain ⟨h1, e2, hq⟩ := lt_some hq
  refine wp_nmH e2 ?_
  have e3 : h1.1 = h0.1 := (congrArg Prod.fst e2).trans e
  refine wp_iload_n (v := x1) ok dX10_strings_5 rfl ?_
  refine wp_i2l ok dX10_strings_6 ?_
  refine wp_lconst (v := 0) ok dX10_strings_7 (by decide) ?_
  refine wp_ldc2 (v := 99999) ok (w_1492) dX10_strings_8 ?_
  obtain ⟨v4, e5, hq⟩ := bnd_some hq
  refine wp_callSI (As := [.long (x1.toInt64), .long 0, .long 99999]) (rest := []) (h1 := h1) ok (m_X10_in e5 (Nat.le_refl _)) my_X10_in (w_1200) pd_X10_in (Nat.le_trans (by decide) hfr) rfl rfl rfl rfl dX10_strings_11 (fun e6 => ?_)
  refine wp_if_eq (tgt := 29) ok dX10_strings_14 (by decide) (fun c7 => ?_) (fun c7 => ?_)
  · have hq := ite_t c7 hq
    refine wp_iconst (v := -1) ok dX10_strings_29 (by decide) ?_
    exact wp_iret ok hF rfl e3 (re2I hq) dX10_strings_30
  · have hq := ite_f c7 hq
    refine wp_iload_n (v := x2) ok dX10_strings_17 rfl ?_
    refine wp_i2l ok dX10_strings_18 ?_
    refine wp_lconst (v := 1) ok dX10_strings_19 (by decide) ?_
    refine wp_ldc2 (v := 9) ok (w_1394) dX10_strings_20 ?_
    obtain ⟨v8, e9, hq⟩ := bnd_some hq
    refine wp_callSI (As := [.long (x2.toInt64), .long 1, .long 9]) (rest := []) (h1 := h1) ok (m_X10_in e9 (Nat.le_refl _)) my_X10_in (w_1200) pd_X10_in (Nat.le_trans (by decide) hfr) rfl rfl rfl rfl dX10_strings_23 (fun e10 => ?_)
    refine wp_if_ne (tgt := 31) ok dX10_strings_26 (by decide) (fun c11 => ?_) (fun c11 => ?_)
    · have hq := ite_f c11 hq
      refine wp_iload_n (v := x1) ok dX10_strings_31 rfl ?_
      refine wp_bipush (v := 40) ok dX10_strings_32 (by decide) ?_
      refine wp_idiv ok dX10_strings_34 (by decide) ?_
      obtain ⟨v12, e13, hq⟩ := lt_some hq
      refine wp_nmI e13 ?_
      refine wp_istore_n (L' := [(3, .int v12), (0, .ref x0), (1, .int x1), (2, .int x2)]) ok dX10_strings_35 rfl rfl ?_
      refine wp_aload_n (v := x0) ok dX10_strings_36 rfl ?_
      refine wp_iconst (v := 0) ok dX10_strings_37 (by decide) ?_
      refine wp_putI ok flw_RX10_15 (nr_10_1 _) (sh_of e3 f_x0) dX10_strings_38 ?_
      obtain ⟨h14, e15, hq⟩ := lt_some hq
      refine wp_nmH e15 ?_
      have e16 : h14.1 = h0.1 := (congrArg Prod.fst e15).trans e3
      refine wp_aload_n (v := x0) ok dX10_strings_41 rfl ?_
      refine wp_iload_n (v := x1) ok dX10_strings_42 rfl ?_
      refine wp_bipush (v := 40) ok dX10_strings_43 (by decide) ?_
      refine wp_irem ok dX10_strings_45 (by decide) ?_
      refine wp_i2l ok dX10_strings_46 ?_
      obtain ⟨h17, e18, hq⟩ := bnd_some hq
      refine wp_callVV (As := [.long ((irm x1 40).toInt64)]) (rest := []) (h1 := h17) ok (m_X10_enters e18 (Nat.le_refl _)) my_X10_enters (w_1347) pd_X10_enters (Nat.le_trans (by decide) hfr) rfl (ci := 10) rfl (by decide) (sh_of e16 f_x0) rfl rfl rfl dX10_strings_47 (fun e19 => ?_)
      have e20 : h17.1 = h0.1 := (e19).trans e16
      refine wp_aload_n (v := x0) ok dX10_strings_50 rfl ?_
      refine wp_iload_n (v := v12) ok dX10_strings_51 rfl ?_
      refine wp_bipush (v := 25) ok dX10_strings_52 (by decide) ?_
      refine wp_iload_n (v := x2) ok dX10_strings_54 rfl ?_
      refine wp_imul ok dX10_strings_55 ?_
      refine wp_iadd ok dX10_strings_56 ?_
      refine wp_iconst (v := 1) ok dX10_strings_57 (by decide) ?_
      refine wp_isub ok dX10_strings_58 ?_
      refine wp_bipush (v := 25) ok dX10_strings_59 (by decide) ?_
      refine wp_iload_n (v := x2) ok dX10_strings_61 rfl ?_
      refine wp_imul ok dX10_strings_62 ?_
      obtain ⟨g21, hq⟩ := gP_some hq
      refine wp_idiv ok dX10_strings_63 g21 ?_
      refine wp_i2l ok dX10_strings_64 ?_
      obtain ⟨h22, e23, hq⟩ := bnd_some hq
      refine wp_callVV (As := [.long ((((v12 + (25 * x2)) - 1) / (25 * x2)).toInt64)]) (rest := []) (h1 := h22) ok (m_X10_enters e23 (Nat.le_refl _)) my_X10_enters (w_1347) pd_X10_enters (Nat.le_trans (by decide) hfr) rfl (ci := 10) rfl (by decide) (sh_of e20 f_x0) rfl rfl rfl dX10_strings_65 (fun e24 => ?_)
      have e25 : h22.1 = h0.1 := (e24).trans e20
      refine wp_iload_n (v := v12) ok dX10_strings_68 rfl ?_
      exact wp_iret ok hF rfl e25 (re2I hq) dX10_strings_69
    · have hq := ite_t c11 hq
      refine wp_iconst (v := -1) ok dX10_strings_29 (by decide) ?_
      exact wp_iret ok hF rfl e3 (re2I hq) dX10_strings_30
set_option maxHeartbeats 4000000 in
set_option maxRecDepth 100000 in
theorem s_X10_counts_B46 {x : Cx} {h0 : HP} {N fr : Nat} {rr : (Int32 × HP)} (ok : Okx x cX10_counts yX10_counts.cls 5 fr) (hfr : 1 ≤ fr)  {x0 : Nat} {x1 : Int32} {x2 : Int32} {x3 : Int32} {h : HP} (e : h.1 = h0.1) {n_x0 : Nat} (f_x0 : h0.1[x0]? = some (10, n_x0)) (hF : Fend x h0 (some (.int)) (QI rr.1 rr.2)) {k76 : Int32 → Option (Int32 × HP)} (hk76 : ∀ (x4 : Int32), k76 x4 = some rr → wp x 76 [(4, .int x4), (0, .ref x0), (1, .int x1), (3, .int x3)] [] h) {rc : Int32 → Option (Int32 × HP)} (ih : ∀ (x4 : Int32), rc x4 = some rr → wp x 46 [(4, .int x4), (0, .ref x0), (1, .int x1), (2, .int x2), (3, .int x3)] [] h) : ∀ (x4 : Int32), f_X10_counts_B46 N x0 x1 x2 x3 h k76 rc x4 = some rr → wp x 46 [(4, .int x4), (0, .ref x0), (1, .int x1), (2, .int x2), (3, .int x3)] [] h := by
  intro x4 hq
  unfold f_X10_counts_B46 at hq
  refine wp_iload (v := x4) ok dX10_counts_46 rfl ?_
  refine wp_if_le (tgt := 76) ok dX10_counts_48 (by decide) (fun c14 => ?_) (fun c14 => ?_)
  · have hq := ite_t c14 hq
    refine wp_sub (L' := [(4, .int x4), (0, .ref x0), (1, .int x1), (3, .int x3)]) [0, 1, 2, 4] rfl ?_
    exact hk76 x4 hq
  · have hq := ite_f c14 hq
    refine wp_iload (v := x4) ok dX10_counts_51 rfl ?_
    refine wp_iconst (v := 1) ok dX10_counts_53 (by decide) ?_
    refine wp_isub ok dX10_counts_54 ?_
    refine wp_bipush (v := 99) ok dX10_counts_55 (by decide) ?_
    refine wp_iadd ok dX10_counts_57 ?_
    refine wp_bipush (v := 100) ok dX10_counts_58 (by decide) ?_
    refine wp_idiv ok dX10_counts_60 (by decide) ?_
    refine wp_iload_n (v := x2) ok dX10_counts_61 rfl ?_
    refine wp_imul ok dX10_counts_62 ?_
    refine wp_iload (v := x4) ok dX10_counts_63 rfl ?_
    refine wp_iconst (v := 1) ok dX10_counts_65 (by decide) ?_
    refine wp_isub ok dX10_counts_66 ?_
    refine wp_icmp_gt (tgt := 76) ok dX10_counts_67 (by decide) (fun c15 => ?_) (fun c15 => ?_)
    · have hq := ite_t c15 hq
      refine wp_sub (L' := [(4, .int x4), (0, .ref x0), (1, .int x1), (3, .int x3)]) [0, 1, 2, 4] rfl ?_
      exact hk76 x4 hq
    · have hq := ite_f c15 hq
      obtain ⟨v16, e17, hq⟩ := lt_some hq
      refine wp_iinc (v := x4) (w := (-1)) (L' := [(4, .int v16), (0, .ref x0), (1, .int x1), (2, .int x2), (3, .int x3)]) ok dX10_counts_70 rfl (by decide) rfl (by rw [← e17]; rfl) ?_
      refine wp_goto (tgt := 46) ok dX10_counts_73 (by decide) ?_
      refine wp_sub (L' := [(4, .int v16), (0, .ref x0), (1, .int x1), (2, .int x2), (3, .int x3)]) [0, 1, 2, 3, 4] rfl ?_
      exact ih v16 hq
set_option maxHeartbeats 4000000 in
set_option maxRecDepth 100000 in
theorem l_X10_counts_B46 {x : Cx} {h0 : HP} {N fr : Nat} {rr : (Int32 × HP)} (ok : Okx x cX10_counts yX10_counts.cls 5 fr) (hfr : 1 ≤ fr)  {x0 : Nat} {x1 : Int32} {x2 : Int32} {x3 : Int32} {h : HP} (e : h.1 = h0.1) {n_x0 : Nat} (f_x0 : h0.1[x0]? = some (10, n_x0)) (hF : Fend x h0 (some (.int)) (QI rr.1 rr.2)) {k76 : Int32 → Option (Int32 × HP)} (hk76 : ∀ (x4 : Int32), k76 x4 = some rr → wp x 76 [(4, .int x4), (0, .ref x0), (1, .int x1), (3, .int x3)] [] h) : ∀ (n : Nat) (x4 : Int32), lp (fun _ => none) (f_X10_counts_B46 N x0 x1 x2 x3 h k76) n x4 = some rr → wp x 46 [(4, .int x4), (0, .ref x0), (1, .int x1), (2, .int x2), (3, .int x3)] [] h := by
  intro n
  induction n with
  | zero => intro x4 hq; exact (Option.some_ne_none _ hq.symm).elim
  | succ n ih => exact s_X10_counts_B46 ok hfr e f_x0 hF hk76 ih
set_option maxHeartbeats 4000000 in
set_option maxRecDepth 100000 in
theorem m_X10_counts {l : Launch} {h : HP} {N : Nat} {x0 : Nat} {x1 : Int32} {x2 : Int32} {rr : Int32} {rh : HP} {fr : Nat} (hq : f_X10_counts N h x0 x1 x2 = some (rr, rh)) (hfr : 1 ≤ fr) : Mt l yX10_counts cX10_counts 5 (some (.int)) fr [.ref x0, .int x1, .int x2] h (QI rr rh) := by
  obtain ⟨rp, ep⟩ : ∃ rp : (Int32 × HP), rp = (rr, rh) := ⟨_, rfl⟩
  have e1p : rr = rp.1 := (congrArg Prod.fst ep).symm
  have e2p : rh = rp.2 := (congrArg Prod.snd ep).symm
  rw [← ep] at hq
  rw [e1p, e2p]
  clear e1p e2p ep
  refine Mt.of (by decide +kernel) (Nat.le_of_ble_eq_true rfl) (fun x hl ok hF => ?_)
  subst hl
  show wp x 0 [(0, .ref x0), (1, .int x1), (2, .int x2)] [] h
  unfold f_X10_counts at hq
  obtain ⟨h0, eh0⟩ : ∃ h0 : HP, h = h0 := ⟨h, rfl⟩
  have e : h.1 = h0.1 := by rw [eh0]
  rw [eh0] at hF
  obtain ⟨g_x0, hq⟩ := gP_some hq
  obtain ⟨n_x0, f_x0⟩ := kO_some g_x0
  replace f_x0 := sh_of e.symm f_x0
  refine wp_aload_n (v := x0) ok dX10_counts_0 rfl ?_
  refine wp_iconst (v := 0) ok dX10_counts_1 (by decide) ?_
  refine wp_putI ok flw_RX10_3 (nr_10_0 _) (sh_of e f_x0) dX10_counts_2 ?_
  obtain ⟨h1, e2, hq⟩ := lt_some hq
  refine wp_nmH e2 ?_
  have e3 : h1.1 = h0.1 := (congrArg Prod.fst e2).trans e
  refine wp_iload_n (v := x1) ok dX10_counts_5 rfl ?_
  refine wp_i2l ok dX10_counts_6 ?_
  refine wp_lconst (v := 0) ok dX10_counts_7 (by decide) ?_
  refine wp_ldc2 (v := 9999) ok (w_1365) dX10_counts_8 ?_
  obtain ⟨v4, e5, hq⟩ := bnd_some hq
  refine wp_callSI (As := [.long (x1.toInt64), .long 0, .long 9999]) (rest := []) (h1 := h1) ok (m_X10_in e5 (Nat.le_refl _)) my_X10_in (w_1200) pd_X10_in (Nat.le_trans (by decide) hfr) rfl rfl rfl rfl dX10_counts_11 (fun e6 => ?_)
  refine wp_if_eq (tgt := 29) ok dX10_counts_14 (by decide) (fun c7 => ?_) (fun c7 => ?_)
  · have hq := ite_t c7 hq
    refine wp_iconst (v := -1) ok dX10_counts_29 (by decide) ?_
    exact wp_iret ok hF rfl e3 (re2I hq) dX10_counts_30
  · have hq := ite_f c7 hq
    refine wp_iload_n (v := x2) ok dX10_counts_17 rfl ?_
    refine wp_i2l ok dX10_counts_18 ?_
    refine wp_lconst (v := 1) ok dX10_counts_19 (by decide) ?_
    refine wp_ldc2 (v := 99) ok (w_1437) dX10_counts_20 ?_
    obtain ⟨v8, e9, hq⟩ := bnd_some hq
    refine wp_callSI (As := [.long (x2.toInt64), .long 1, .long 99]) (rest := []) (h1 := h1) ok (m_X10_in e9 (Nat.le_refl _)) my_X10_in (w_1200) pd_X10_in (Nat.le_trans (by decide) hfr) rfl rfl rfl rfl dX10_counts_23 (fun e10 => ?_)
    refine wp_if_ne (tgt := 31) ok dX10_counts_26 (by decide) (fun c11 => ?_) (fun c11 => ?_)
    · have hq := ite_f c11 hq
      refine wp_iload_n (v := x1) ok dX10_counts_31 rfl ?_
      refine wp_bipush (v := 99) ok dX10_counts_32 (by decide) ?_
      refine wp_iadd ok dX10_counts_34 ?_
      refine wp_bipush (v := 100) ok dX10_counts_35 (by decide) ?_
      refine wp_idiv ok dX10_counts_37 (by decide) ?_
      refine wp_iload_n (v := x2) ok dX10_counts_38 rfl ?_
      refine wp_imul ok dX10_counts_39 ?_
      obtain ⟨v12, e13, hq⟩ := lt_some hq
      refine wp_nmI e13 ?_
      refine wp_istore_n (L' := [(3, .int v12), (0, .ref x0), (1, .int x1), (2, .int x2)]) ok dX10_counts_40 rfl rfl ?_
      refine wp_sipush (v := 10000) ok dX10_counts_41 (by decide) ?_
      refine wp_istore (L' := [(4, .int 10000), (3, .int v12), (0, .ref x0), (1, .int x1), (2, .int x2)]) ok dX10_counts_44 rfl rfl ?_
      refine wp_sub (L' := [(4, .int 10000), (0, .ref x0), (1, .int x1), (2, .int x2), (3, .int v12)]) [0, 2, 3, 4, 1] rfl ?_
      refine l_X10_counts_B46 ok hfr e3 f_x0 hF ?_ N 10000 hq
      · intro x18 hq
        refine wp_aload_n (v := x0) ok dX10_counts_76 rfl ?_
        refine wp_iconst (v := 0) ok dX10_counts_77 (by decide) ?_
        refine wp_putI ok flw_RX10_15 (nr_10_1 _) (sh_of e3 f_x0) dX10_counts_78 ?_
        obtain ⟨h19, e20, hq⟩ := lt_some hq
        refine wp_nmH e20 ?_
        have e21 : h19.1 = h0.1 := (congrArg Prod.fst e20).trans e3
        refine wp_aload_n (v := x0) ok dX10_counts_81 rfl ?_
        refine wp_iload_n (v := v12) ok dX10_counts_82 rfl ?_
        refine wp_iload_n (v := x1) ok dX10_counts_83 rfl ?_
        obtain ⟨k22, ek22, hq⟩ := jn1_some hq
        have kk22 : ∀ (y23 : Int32), k22 y23 = some rp → wp x 92 [(4, .int x18), (0, .ref x0), (3, .int v12)] [.int y23, .ref x0] h19 := by
          intro y23 hq
          have hq := (ek22 y23).symm.trans hq
          obtain ⟨v24, e25, hq⟩ := bnd_some hq
          refine wp_callSI (As := [.int y23]) (rest := [.ref x0]) (h1 := h19) ok (m_X10_flag e25 (Nat.le_refl _)) my_X10_flag (w_1230) pd_X10_flag (Nat.le_trans (by decide) hfr) rfl rfl rfl rfl dX10_counts_92 (fun e26 => ?_)
          refine wp_i2l ok dX10_counts_95 ?_
          obtain ⟨h27, e28, hq⟩ := bnd_some hq
          refine wp_callVV (As := [.long (v24.toInt64)]) (rest := []) (h1 := h27) ok (m_X10_enters e28 (Nat.le_refl _)) my_X10_enters (w_1347) pd_X10_enters (Nat.le_trans (by decide) hfr) rfl (ci := 10) rfl (by decide) (sh_of e21 f_x0) rfl rfl rfl dX10_counts_96 (fun e29 => ?_)
          have e30 : h27.1 = h0.1 := (e29).trans e21
          refine wp_aload_n (v := x0) ok dX10_counts_99 rfl ?_
          refine wp_iload (v := x18) ok dX10_counts_100 rfl ?_
          refine wp_i2l ok dX10_counts_102 ?_
          obtain ⟨h31, e32, hq⟩ := bnd_some hq
          refine wp_callVV (As := [.long (x18.toInt64)]) (rest := []) (h1 := h31) ok (m_X10_enters e32 (Nat.le_refl _)) my_X10_enters (w_1347) pd_X10_enters (Nat.le_trans (by decide) hfr) rfl (ci := 10) rfl (by decide) (sh_of e30 f_x0) rfl rfl rfl dX10_counts_103 (fun e33 => ?_)
          have e34 : h31.1 = h0.1 := (e33).trans e30
          refine wp_iload_n (v := v12) ok dX10_counts_106 rfl ?_
          exact wp_iret ok hF rfl e34 (re2I hq) dX10_counts_107
        refine wp_icmp_le (tgt := 91) ok dX10_counts_84 (by decide) (fun c35 => ?_) (fun c35 => ?_)
        · have hq := ite_t c35 hq
          refine wp_iconst (v := 0) ok dX10_counts_91 (by decide) ?_
          refine wp_sub (L' := [(4, .int x18), (0, .ref x0), (3, .int v12)]) [0, 1, 3] rfl ?_
          exact kk22 0 hq
        · have hq := ite_f c35 hq
          refine wp_iconst (v := 1) ok dX10_counts_87 (by decide) ?_
          refine wp_goto (tgt := 92) ok dX10_counts_88 (by decide) ?_
          refine wp_sub (L' := [(4, .int x18), (0, .ref x0), (3, .int v12)]) [0, 1, 3] rfl ?_
          exact kk22 1 hq
    · have hq := ite_t c11 hq
      refine wp_iconst (v := -1) ok dX10_counts_29 (by decide) ?_
      exact wp_iret ok hF rfl e3 (re2I hq) dX10_counts_30
set_option maxHeartbeats 4000000 in
set_option maxRecDepth 100000 in
theorem s_X10_pays_B44 {x : Cx} {h0 : HP} {N fr : Nat} {rr : (Int32 × HP)} (ok : Okx x cX10_pays yX10_pays.cls 10 fr) (hfr : 4 ≤ fr)  {x0 : Nat} {x1 : Int32} {n_x0 : Nat} (f_x0 : h0.1[x0]? = some (10, n_x0)) (hF : Fend x h0 (some (.int)) (QI rr.1 rr.2)) {k121 : Int32 → Int32 → HP → Option (Int32 × HP)} (hk121 : ∀ (x3 : Int32) (x4 : Int32) (h : HP), k121 x3 x4 h = some rr → h.1 = h0.1 → wp x 121 [(3, .int x3), (4, .int x4), (0, .ref x0), (1, .int x1)] [] h) {rc : Int32 → Int32 → Int32 → HP → Option (Int32 × HP)} (ih : ∀ (x3 : Int32) (x4 : Int32) (x5 : Int32) (h : HP), rc x3 x4 x5 h = some rr → h.1 = h0.1 → wp x 44 [(3, .int x3), (4, .int x4), (5, .int x5), (0, .ref x0), (1, .int x1)] [] h) : ∀ (x3 : Int32) (x4 : Int32) (x5 : Int32) (h : HP), f_X10_pays_B44 N x0 x1 k121 rc x3 x4 x5 h = some rr → h.1 = h0.1 → wp x 44 [(3, .int x3), (4, .int x4), (5, .int x5), (0, .ref x0), (1, .int x1)] [] h := by
  intro x3 x4 x5 h hq e
  unfold f_X10_pays_B44 at hq
  refine wp_iload (v := x5) ok dX10_pays_44 rfl ?_
  refine wp_if_eq (tgt := 121) ok dX10_pays_46 (by decide) (fun c15 => ?_) (fun c15 => ?_)
  · have hq := ite_t c15 hq
    refine wp_sub (L' := [(3, .int x3), (4, .int x4), (0, .ref x0), (1, .int x1)]) [0, 1, 3, 4] rfl ?_
    exact hk121 x3 x4 h hq e
  · have hq := ite_f c15 hq
    refine wp_iload_n (v := x3) ok dX10_pays_49 rfl ?_
    refine wp_bipush (v := 8) ok dX10_pays_50 (by decide) ?_
    obtain ⟨k16, ek16, hq⟩ := jn1_some hq
    have kk16 : ∀ (y17 : Int32), k16 y17 = some rr → wp x 60 [(3, .int x3), (0, .ref x0), (1, .int x1)] [.int y17] h := by
      intro y17 hq
      have hq := (ek16 y17).symm.trans hq
      refine wp_istore (L' := [(4, .int y17), (3, .int x3), (0, .ref x0), (1, .int x1)]) ok dX10_pays_60 rfl rfl ?_
      refine wp_iload (v := y17) ok dX10_pays_62 rfl ?_
      obtain ⟨k18, ek18, hq⟩ := jn3_some hq
      have kk18 : ∀ (x19 : Int32) (x20 : Int32) (h21 : HP), k18 x19 x20 h21 = some rr → h21.1 = h0.1 → wp x 97 [(3, .int x19), (4, .int x20), (0, .ref x0), (1, .int x1)] [] h21 := by
        intro x19 x20 h21 hq e22
        have hq := (ek18 x19 x20 h21).symm.trans hq
        refine wp_iload (v := x20) ok dX10_pays_97 rfl ?_
        refine wp_if_eq (tgt := 115) ok dX10_pays_99 (by decide) (fun c23 => ?_) (fun c23 => ?_)
        · have hq := ite_t c23 hq
          refine wp_iconst (v := 0) ok dX10_pays_115 (by decide) ?_
          refine wp_istore (L' := [(5, .int 0), (3, .int x19), (4, .int x20), (0, .ref x0), (1, .int x1)]) ok dX10_pays_116 rfl rfl ?_
          refine wp_goto (tgt := 44) ok dX10_pays_118 (by decide) ?_
          refine wp_sub (L' := [(3, .int x19), (4, .int x20), (5, .int 0), (0, .ref x0), (1, .int x1)]) [1, 2, 0, 3, 4] rfl ?_
          exact ih x19 x20 0 h21 hq e22
        · have hq := ite_f c23 hq
          refine wp_aload_n (v := x0) ok dX10_pays_102 rfl ?_
          refine wp_bipush (v := 59) ok dX10_pays_103 (by decide) ?_
          obtain ⟨v24, h26, e25, hq⟩ := bnd2_some hq
          refine wp_callVI (As := [.int 59]) (rest := []) (h1 := h26) ok (m_X10_takes e25 (Nat.le_refl _)) my_X10_takes (w_1233) pd_X10_takes (Nat.le_trans (by decide) hfr) rfl (ci := 10) rfl (by decide) (sh_of e22 f_x0) rfl rfl rfl dX10_pays_105 (fun e27 => ?_)
          have e28 : h26.1 = h0.1 := (e27).trans e22
          refine wp_if_eq (tgt := 115) ok dX10_pays_108 (by decide) (fun c29 => ?_) (fun c29 => ?_)
          · have hq := ite_t c29 hq
            refine wp_iconst (v := 0) ok dX10_pays_115 (by decide) ?_
            refine wp_istore (L' := [(5, .int 0), (3, .int x19), (4, .int x20), (0, .ref x0), (1, .int x1)]) ok dX10_pays_116 rfl rfl ?_
            refine wp_goto (tgt := 44) ok dX10_pays_118 (by decide) ?_
            refine wp_sub (L' := [(3, .int x19), (4, .int x20), (5, .int 0), (0, .ref x0), (1, .int x1)]) [1, 2, 0, 3, 4] rfl ?_
            exact ih x19 x20 0 h26 hq e28
          · have hq := ite_f c29 hq
            refine wp_iconst (v := 1) ok dX10_pays_111 (by decide) ?_
            refine wp_goto (tgt := 116) ok dX10_pays_112 (by decide) ?_
            refine wp_istore (L' := [(5, .int 1), (3, .int x19), (4, .int x20), (0, .ref x0), (1, .int x1)]) ok dX10_pays_116 rfl rfl ?_
            refine wp_goto (tgt := 44) ok dX10_pays_118 (by decide) ?_
            refine wp_sub (L' := [(3, .int x19), (4, .int x20), (5, .int 1), (0, .ref x0), (1, .int x1)]) [1, 2, 0, 3, 4] rfl ?_
            exact ih x19 x20 1 h26 hq e28
      refine wp_if_eq (tgt := 97) ok dX10_pays_64 (by decide) (fun c30 => ?_) (fun c30 => ?_)
      · have hq := ite_t c30 hq
        refine wp_sub (L' := [(3, .int x3), (4, .int y17), (0, .ref x0), (1, .int x1)]) [1, 0, 2, 3] rfl ?_
        exact kk18 x3 y17 h hq e
      · have hq := ite_f c30 hq
        refine wp_aload_n (v := x0) ok dX10_pays_67 rfl ?_
        obtain ⟨t31, e32, hq⟩ := bnd_some hq
        obtain ⟨e33, n34, f35⟩ := rK_some e32
        replace f35 := sh_of (e).symm f35
        refine wp_getR ok fl_RX10_95 (sh_of e f_x0) e33 dX10_pays_68 ?_
        refine wp_iload_n (v := x3) ok dX10_pays_71 rfl ?_
        refine wp_aload_n (v := x0) ok dX10_pays_72 rfl ?_
        refine wp_iconst (v := 3) ok dX10_pays_73 (by decide) ?_
        obtain ⟨v36, h38, e37, hq⟩ := bnd2_some hq
        refine wp_callVI (As := [.int 3]) (rest := [.int x3, .ref t31]) (h1 := h38) ok (m_X10_numberAbove e37 (Nat.le_refl _)) my_X10_numberAbove (w_1216) pd_X10_numberAbove (Nat.le_trans (by decide) hfr) rfl (ci := 10) rfl (by decide) (sh_of e f_x0) rfl rfl rfl dX10_pays_74 (fun e39 => ?_)
        have e40 : h38.1 = h0.1 := (e39).trans e
        obtain ⟨g41, hq⟩ := gP_some hq
        refine wp_iast ok (sh_of e40 f35) (ix_of (sh_of e40 f35) g41) dX10_pays_77 ?_
        obtain ⟨h42, e43, hq⟩ := lt_some hq
        refine wp_nmH e43 ?_
        have e44 : h42.1 = h0.1 := (congrArg Prod.fst e43).trans e40
        refine wp_aload_n (v := x0) ok dX10_pays_78 rfl ?_
        obtain ⟨t45, e46, hq⟩ := bnd_some hq
        obtain ⟨e47, n48, f49⟩ := rK_some e46
        replace f49 := sh_of (e44).symm f49
        refine wp_getR ok fl_RX10_95 (sh_of e44 f_x0) e47 dX10_pays_79 ?_
        refine wp_iload_n (v := x3) ok dX10_pays_82 rfl ?_
        obtain ⟨g50, hq⟩ := gP_some hq
        refine wp_iald ok (sh_of e44 f49) (ix_of (sh_of e44 f49) g50) dX10_pays_83 ?_
        refine wp_if_lt (tgt := 91) ok dX10_pays_84 (by decide) (fun c51 => ?_) (fun c51 => ?_)
        · have hq := ite_t c51 hq
          refine wp_iconst (v := 0) ok dX10_pays_91 (by decide) ?_
          refine wp_istore (L' := [(4, .int 0), (3, .int x3), (0, .ref x0), (1, .int x1)]) ok dX10_pays_92 rfl rfl ?_
          obtain ⟨v52, e53, hq⟩ := lt_some hq
          refine wp_iinc (v := x3) (w := 1) (L' := [(3, .int v52), (4, .int 0), (0, .ref x0), (1, .int x1)]) ok dX10_pays_94 rfl (by decide) rfl (by rw [← e53]; rfl) ?_
          refine wp_sub (L' := [(3, .int v52), (4, .int 0), (0, .ref x0), (1, .int x1)]) [0, 1, 2, 3] rfl ?_
          exact kk18 v52 0 h42 hq e44
        · have hq := ite_f c51 hq
          refine wp_iconst (v := 1) ok dX10_pays_87 (by decide) ?_
          refine wp_goto (tgt := 92) ok dX10_pays_88 (by decide) ?_
          refine wp_istore (L' := [(4, .int 1), (3, .int x3), (0, .ref x0), (1, .int x1)]) ok dX10_pays_92 rfl rfl ?_
          obtain ⟨v54, e55, hq⟩ := lt_some hq
          refine wp_iinc (v := x3) (w := 1) (L' := [(3, .int v54), (4, .int 1), (0, .ref x0), (1, .int x1)]) ok dX10_pays_94 rfl (by decide) rfl (by rw [← e55]; rfl) ?_
          refine wp_sub (L' := [(3, .int v54), (4, .int 1), (0, .ref x0), (1, .int x1)]) [0, 1, 2, 3] rfl ?_
          exact kk18 v54 1 h42 hq e44
    refine wp_icmp_ge (tgt := 59) ok dX10_pays_52 (by decide) (fun c56 => ?_) (fun c56 => ?_)
    · have hq := ite_t c56 hq
      refine wp_iconst (v := 0) ok dX10_pays_59 (by decide) ?_
      refine wp_sub (L' := [(3, .int x3), (0, .ref x0), (1, .int x1)]) [0, 3, 4] rfl ?_
      exact kk16 0 hq
    · have hq := ite_f c56 hq
      refine wp_iconst (v := 1) ok dX10_pays_55 (by decide) ?_
      refine wp_goto (tgt := 60) ok dX10_pays_56 (by decide) ?_
      refine wp_sub (L' := [(3, .int x3), (0, .ref x0), (1, .int x1)]) [0, 3, 4] rfl ?_
      exact kk16 1 hq
set_option maxHeartbeats 4000000 in
set_option maxRecDepth 100000 in
theorem l_X10_pays_B44 {x : Cx} {h0 : HP} {N fr : Nat} {rr : (Int32 × HP)} (ok : Okx x cX10_pays yX10_pays.cls 10 fr) (hfr : 4 ≤ fr)  {x0 : Nat} {x1 : Int32} {n_x0 : Nat} (f_x0 : h0.1[x0]? = some (10, n_x0)) (hF : Fend x h0 (some (.int)) (QI rr.1 rr.2)) {k121 : Int32 → Int32 → HP → Option (Int32 × HP)} (hk121 : ∀ (x3 : Int32) (x4 : Int32) (h : HP), k121 x3 x4 h = some rr → h.1 = h0.1 → wp x 121 [(3, .int x3), (4, .int x4), (0, .ref x0), (1, .int x1)] [] h) : ∀ (n : Nat) (x3 : Int32) (x4 : Int32) (x5 : Int32) (h : HP), lp (fun _ _ _ _ => none) (f_X10_pays_B44 N x0 x1 k121) n x3 x4 x5 h = some rr → h.1 = h0.1 → wp x 44 [(3, .int x3), (4, .int x4), (5, .int x5), (0, .ref x0), (1, .int x1)] [] h := by
  intro n
  induction n with
  | zero => intro x3 x4 x5 h hq e; exact (Option.some_ne_none _ hq.symm).elim
  | succ n ih => exact s_X10_pays_B44 ok hfr f_x0 hF hk121 ih
set_option maxHeartbeats 4000000 in
set_option maxRecDepth 100000 in
theorem s_X10_pays_B164 {x : Cx} {h0 : HP} {N fr : Nat} {rr : (Int32 × HP)} (ok : Okx x cX10_pays yX10_pays.cls 10 fr) (hfr : 4 ≤ fr)  {x0 : Nat} {x1 : Int32} {x3 : Int32} {x6 : Int32} {x7 : Int32} {h : HP} (e : h.1 = h0.1) {n_x0 : Nat} (f_x0 : h0.1[x0]? = some (10, n_x0)) (hF : Fend x h0 (some (.int)) (QI rr.1 rr.2)) {k202 : Int32 → Option (Int32 × HP)} (hk202 : ∀ (x8 : Int32), k202 x8 = some rr → wp x 202 [(8, .int x8), (0, .ref x0), (1, .int x1), (3, .int x3), (6, .int x6), (7, .int x7)] [] h) {rc : Int32 → Int32 → Option (Int32 × HP)} (ih : ∀ (x8 : Int32) (x9 : Int32), rc x8 x9 = some rr → wp x 164 [(8, .int x8), (9, .int x9), (0, .ref x0), (1, .int x1), (3, .int x3), (6, .int x6), (7, .int x7)] [] h) : ∀ (x8 : Int32) (x9 : Int32), f_X10_pays_B164 N x0 x1 x3 x6 x7 h k202 rc x8 x9 = some rr → wp x 164 [(8, .int x8), (9, .int x9), (0, .ref x0), (1, .int x1), (3, .int x3), (6, .int x6), (7, .int x7)] [] h := by
  intro x8 x9 hq
  unfold f_X10_pays_B164 at hq
  refine wp_iload (v := x9) ok dX10_pays_164 rfl ?_
  refine wp_iload_n (v := x3) ok dX10_pays_166 rfl ?_
  refine wp_icmp_ge (tgt := 202) ok dX10_pays_167 (by decide) (fun c64 => ?_) (fun c64 => ?_)
  · have hq := ite_t c64 hq
    refine wp_sub (L' := [(8, .int x8), (0, .ref x0), (1, .int x1), (3, .int x3), (6, .int x6), (7, .int x7)]) [0, 2, 3, 4, 5, 6] rfl ?_
    exact hk202 x8 hq
  · have hq := ite_f c64 hq
    refine wp_iload (v := x8) ok dX10_pays_170 rfl ?_
    refine wp_iload (v := x7) ok dX10_pays_172 rfl ?_
    refine wp_iload (v := x9) ok dX10_pays_174 rfl ?_
    obtain ⟨v65, e66, hq⟩ := bnd_some hq
    refine wp_callSI (As := [.int x7, .int x9]) (rest := [.int x8]) (h1 := h) ok (m_X10_has e66 (Nat.le_refl _)) my_X10_has (w_1480) pd_X10_has (Nat.le_trans (by decide) hfr) rfl rfl rfl rfl dX10_pays_176 (fun e67 => ?_)
    refine wp_if_eq (tgt := 192) ok dX10_pays_179 (by decide) (fun c68 => ?_) (fun c68 => ?_)
    · have hq := ite_t c68 hq
      refine wp_iconst (v := 0) ok dX10_pays_192 (by decide) ?_
      refine wp_iadd ok dX10_pays_193 ?_
      obtain ⟨v69, e70, hq⟩ := lt_some hq
      refine wp_nmI e70 ?_
      refine wp_istore (L' := [(8, .int v69), (9, .int x9), (0, .ref x0), (1, .int x1), (3, .int x3), (6, .int x6), (7, .int x7)]) ok dX10_pays_194 rfl rfl ?_
      obtain ⟨v71, e72, hq⟩ := lt_some hq
      refine wp_iinc (v := x9) (w := 1) (L' := [(9, .int v71), (8, .int v69), (0, .ref x0), (1, .int x1), (3, .int x3), (6, .int x6), (7, .int x7)]) ok dX10_pays_196 rfl (by decide) rfl (by rw [← e72]; rfl) ?_
      refine wp_goto (tgt := 164) ok dX10_pays_199 (by decide) ?_
      refine wp_sub (L' := [(8, .int v69), (9, .int v71), (0, .ref x0), (1, .int x1), (3, .int x3), (6, .int x6), (7, .int x7)]) [1, 0, 2, 3, 4, 5, 6] rfl ?_
      exact ih v69 v71 hq
    · have hq := ite_f c68 hq
      refine wp_aload_n (v := x0) ok dX10_pays_182 rfl ?_
      obtain ⟨t73, e74, hq⟩ := bnd_some hq
      obtain ⟨e75, n76, f77⟩ := rK_some e74
      replace f77 := sh_of (e).symm f77
      refine wp_getR ok fl_RX10_95 (sh_of e f_x0) e75 dX10_pays_183 ?_
      refine wp_iload (v := x9) ok dX10_pays_186 rfl ?_
      obtain ⟨g78, hq⟩ := gP_some hq
      refine wp_iald ok (sh_of e f77) (ix_of (sh_of e f77) g78) dX10_pays_188 ?_
      refine wp_goto (tgt := 193) ok dX10_pays_189 (by decide) ?_
      refine wp_iadd ok dX10_pays_193 ?_
      obtain ⟨v79, e80, hq⟩ := lt_some hq
      refine wp_nmI e80 ?_
      refine wp_istore (L' := [(8, .int v79), (9, .int x9), (0, .ref x0), (1, .int x1), (3, .int x3), (6, .int x6), (7, .int x7)]) ok dX10_pays_194 rfl rfl ?_
      obtain ⟨v81, e82, hq⟩ := lt_some hq
      refine wp_iinc (v := x9) (w := 1) (L' := [(9, .int v81), (8, .int v79), (0, .ref x0), (1, .int x1), (3, .int x3), (6, .int x6), (7, .int x7)]) ok dX10_pays_196 rfl (by decide) rfl (by rw [← e82]; rfl) ?_
      refine wp_goto (tgt := 164) ok dX10_pays_199 (by decide) ?_
      refine wp_sub (L' := [(8, .int v79), (9, .int v81), (0, .ref x0), (1, .int x1), (3, .int x3), (6, .int x6), (7, .int x7)]) [1, 0, 2, 3, 4, 5, 6] rfl ?_
      exact ih v79 v81 hq
set_option maxHeartbeats 4000000 in
set_option maxRecDepth 100000 in
theorem l_X10_pays_B164 {x : Cx} {h0 : HP} {N fr : Nat} {rr : (Int32 × HP)} (ok : Okx x cX10_pays yX10_pays.cls 10 fr) (hfr : 4 ≤ fr)  {x0 : Nat} {x1 : Int32} {x3 : Int32} {x6 : Int32} {x7 : Int32} {h : HP} (e : h.1 = h0.1) {n_x0 : Nat} (f_x0 : h0.1[x0]? = some (10, n_x0)) (hF : Fend x h0 (some (.int)) (QI rr.1 rr.2)) {k202 : Int32 → Option (Int32 × HP)} (hk202 : ∀ (x8 : Int32), k202 x8 = some rr → wp x 202 [(8, .int x8), (0, .ref x0), (1, .int x1), (3, .int x3), (6, .int x6), (7, .int x7)] [] h) : ∀ (n : Nat) (x8 : Int32) (x9 : Int32), lp (fun _ _ => none) (f_X10_pays_B164 N x0 x1 x3 x6 x7 h k202) n x8 x9 = some rr → wp x 164 [(8, .int x8), (9, .int x9), (0, .ref x0), (1, .int x1), (3, .int x3), (6, .int x6), (7, .int x7)] [] h := by
  intro n
  induction n with
  | zero => intro x8 x9 hq; exact (Option.some_ne_none _ hq.symm).elim
  | succ n ih => exact s_X10_pays_B164 ok hfr e f_x0 hF hk202 ih
set_option maxHeartbeats 4000000 in
set_option maxRecDepth 100000 in
theorem s_X10_pays_B150 {x : Cx} {h0 : HP} {N fr : Nat} {rr : (Int32 × HP)} (ok : Okx x cX10_pays yX10_pays.cls 10 fr) (hfr : 4 ≤ fr)  {x0 : Nat} {x1 : Int32} {x3 : Int32} {h : HP} (e : h.1 = h0.1) {n_x0 : Nat} (f_x0 : h0.1[x0]? = some (10, n_x0)) (hF : Fend x h0 (some (.int)) (QI rr.1 rr.2)) {k241 : Int32 → Option (Int32 × HP)} (hk241 : ∀ (x6 : Int32), k241 x6 = some rr → wp x 241 [(6, .int x6), (0, .ref x0)] [] h) {rc : Int32 → Int32 → Option (Int32 × HP)} (ih : ∀ (x6 : Int32) (x7 : Int32), rc x6 x7 = some rr → wp x 150 [(6, .int x6), (7, .int x7), (0, .ref x0), (1, .int x1), (3, .int x3)] [] h) : ∀ (x6 : Int32) (x7 : Int32), f_X10_pays_B150 N x0 x1 x3 h k241 rc x6 x7 = some rr → wp x 150 [(6, .int x6), (7, .int x7), (0, .ref x0), (1, .int x1), (3, .int x3)] [] h := by
  intro x6 x7 hq
  unfold f_X10_pays_B150 at hq
  refine wp_iload (v := x7) ok dX10_pays_150 rfl ?_
  refine wp_iconst (v := 1) ok dX10_pays_152 (by decide) ?_
  refine wp_iload_n (v := x3) ok dX10_pays_153 rfl ?_
  refine wp_ishl ok dX10_pays_154 ?_
  refine wp_icmp_ge (tgt := 241) ok dX10_pays_155 (by decide) (fun c63 => ?_) (fun c63 => ?_)
  · have hq := ite_t c63 hq
    refine wp_sub (L' := [(6, .int x6), (0, .ref x0)]) [0, 2] rfl ?_
    exact hk241 x6 hq
  · have hq := ite_f c63 hq
    refine wp_iconst (v := 0) ok dX10_pays_158 (by decide) ?_
    refine wp_istore (L' := [(8, .int 0), (6, .int x6), (7, .int x7), (0, .ref x0), (1, .int x1), (3, .int x3)]) ok dX10_pays_159 rfl rfl ?_
    refine wp_iconst (v := 0) ok dX10_pays_161 (by decide) ?_
    refine wp_istore (L' := [(9, .int 0), (8, .int 0), (6, .int x6), (7, .int x7), (0, .ref x0), (1, .int x1), (3, .int x3)]) ok dX10_pays_162 rfl rfl ?_
    refine wp_sub (L' := [(8, .int 0), (9, .int 0), (0, .ref x0), (1, .int x1), (3, .int x3), (6, .int x6), (7, .int x7)]) [1, 0, 4, 5, 6, 2, 3] rfl ?_
    refine l_X10_pays_B164 ok hfr e f_x0 hF ?_ N 0 0 hq
    · intro x83 hq
      refine wp_iload (v := x83) ok dX10_pays_202 rfl ?_
      refine wp_iload_n (v := x1) ok dX10_pays_204 rfl ?_
      refine wp_icmp_ne (tgt := 231) ok dX10_pays_205 (by decide) (fun c84 => ?_) (fun c84 => ?_)
      · have hq := ite_f c84 hq
        refine wp_iload (v := x6) ok dX10_pays_231 rfl ?_
        refine wp_istore (L' := [(6, .int x6), (8, .int x83), (0, .ref x0), (1, .int x1), (3, .int x3), (7, .int x7)]) ok dX10_pays_233 rfl rfl ?_
        obtain ⟨v85, e86, hq⟩ := lt_some hq
        refine wp_iinc (v := x7) (w := 1) (L' := [(7, .int v85), (6, .int x6), (8, .int x83), (0, .ref x0), (1, .int x1), (3, .int x3)]) ok dX10_pays_235 rfl (by decide) rfl (by rw [← e86]; rfl) ?_
        refine wp_goto (tgt := 150) ok dX10_pays_238 (by decide) ?_
        refine wp_sub (L' := [(6, .int x6), (7, .int v85), (0, .ref x0), (1, .int x1), (3, .int x3)]) [1, 0, 3, 4, 5] rfl ?_
        exact ih x6 v85 hq
      · have hq := ite_t c84 hq
        refine wp_iload (v := x6) ok dX10_pays_208 rfl ?_
        refine wp_if_lt (tgt := 226) ok dX10_pays_210 (by decide) (fun c87 => ?_) (fun c87 => ?_)
        · have hq := ite_t c87 hq
          refine wp_iload (v := x7) ok dX10_pays_226 rfl ?_
          refine wp_goto (tgt := 233) ok dX10_pays_228 (by decide) ?_
          refine wp_istore (L' := [(6, .int x7), (8, .int x83), (0, .ref x0), (1, .int x1), (3, .int x3), (7, .int x7)]) ok dX10_pays_233 rfl rfl ?_
          obtain ⟨v88, e89, hq⟩ := lt_some hq
          refine wp_iinc (v := x7) (w := 1) (L' := [(7, .int v88), (6, .int x7), (8, .int x83), (0, .ref x0), (1, .int x1), (3, .int x3)]) ok dX10_pays_235 rfl (by decide) rfl (by rw [← e89]; rfl) ?_
          refine wp_goto (tgt := 150) ok dX10_pays_238 (by decide) ?_
          refine wp_sub (L' := [(6, .int x7), (7, .int v88), (0, .ref x0), (1, .int x1), (3, .int x3)]) [1, 0, 3, 4, 5] rfl ?_
          exact ih x7 v88 hq
        · have hq := ite_f c87 hq
          refine wp_iload (v := x7) ok dX10_pays_213 rfl ?_
          obtain ⟨v90, e91, hq⟩ := bnd_some hq
          refine wp_callSI (As := [.int x7]) (rest := []) (h1 := h) ok (m_J6_bitCount_0f7a4 e91 (Nat.le_refl _)) my_J6_bitCount_0f7a4 (w_1479) pd_J6_bitCount_0f7a4 (Nat.le_trans (by decide) hfr) rfl rfl rfl rfl dX10_pays_215 (fun e92 => ?_)
          refine wp_iload (v := x6) ok dX10_pays_218 rfl ?_
          obtain ⟨v93, e94, hq⟩ := bnd_some hq
          refine wp_callSI (As := [.int x6]) (rest := [.int v90]) (h1 := h) ok (m_J6_bitCount_0f7a4 e94 (Nat.le_refl _)) my_J6_bitCount_0f7a4 (w_1479) pd_J6_bitCount_0f7a4 (Nat.le_trans (by decide) hfr) rfl rfl rfl rfl dX10_pays_220 (fun e95 => ?_)
          refine wp_icmp_ge (tgt := 231) ok dX10_pays_223 (by decide) (fun c96 => ?_) (fun c96 => ?_)
          · have hq := ite_t c96 hq
            refine wp_iload (v := x6) ok dX10_pays_231 rfl ?_
            refine wp_istore (L' := [(6, .int x6), (8, .int x83), (0, .ref x0), (1, .int x1), (3, .int x3), (7, .int x7)]) ok dX10_pays_233 rfl rfl ?_
            obtain ⟨v97, e98, hq⟩ := lt_some hq
            refine wp_iinc (v := x7) (w := 1) (L' := [(7, .int v97), (6, .int x6), (8, .int x83), (0, .ref x0), (1, .int x1), (3, .int x3)]) ok dX10_pays_235 rfl (by decide) rfl (by rw [← e98]; rfl) ?_
            refine wp_goto (tgt := 150) ok dX10_pays_238 (by decide) ?_
            refine wp_sub (L' := [(6, .int x6), (7, .int v97), (0, .ref x0), (1, .int x1), (3, .int x3)]) [1, 0, 3, 4, 5] rfl ?_
            exact ih x6 v97 hq
          · have hq := ite_f c96 hq
            refine wp_iload (v := x7) ok dX10_pays_226 rfl ?_
            refine wp_goto (tgt := 233) ok dX10_pays_228 (by decide) ?_
            refine wp_istore (L' := [(6, .int x7), (8, .int x83), (0, .ref x0), (1, .int x1), (3, .int x3), (7, .int x7)]) ok dX10_pays_233 rfl rfl ?_
            obtain ⟨v99, e100, hq⟩ := lt_some hq
            refine wp_iinc (v := x7) (w := 1) (L' := [(7, .int v99), (6, .int x7), (8, .int x83), (0, .ref x0), (1, .int x1), (3, .int x3)]) ok dX10_pays_235 rfl (by decide) rfl (by rw [← e100]; rfl) ?_
            refine wp_goto (tgt := 150) ok dX10_pays_238 (by decide) ?_
            refine wp_sub (L' := [(6, .int x7), (7, .int v99), (0, .ref x0), (1, .int x1), (3, .int x3)]) [1, 0, 3, 4, 5] rfl ?_
            exact ih x7 v99 hq
set_option maxHeartbeats 4000000 in
set_option maxRecDepth 100000 in
theorem l_X10_pays_B150 {x : Cx} {h0 : HP} {N fr : Nat} {rr : (Int32 × HP)} (ok : Okx x cX10_pays yX10_pays.cls 10 fr) (hfr : 4 ≤ fr)  {x0 : Nat} {x1 : Int32} {x3 : Int32} {h : HP} (e : h.1 = h0.1) {n_x0 : Nat} (f_x0 : h0.1[x0]? = some (10, n_x0)) (hF : Fend x h0 (some (.int)) (QI rr.1 rr.2)) {k241 : Int32 → Option (Int32 × HP)} (hk241 : ∀ (x6 : Int32), k241 x6 = some rr → wp x 241 [(6, .int x6), (0, .ref x0)] [] h) : ∀ (n : Nat) (x6 : Int32) (x7 : Int32), lp (fun _ _ => none) (f_X10_pays_B150 N x0 x1 x3 h k241) n x6 x7 = some rr → wp x 150 [(6, .int x6), (7, .int x7), (0, .ref x0), (1, .int x1), (3, .int x3)] [] h := by
  intro n
  induction n with
  | zero => intro x6 x7 hq; exact (Option.some_ne_none _ hq.symm).elim
  | succ n ih => exact s_X10_pays_B150 ok hfr e f_x0 hF hk241 ih
set_option maxHeartbeats 4000000 in
set_option maxRecDepth 100000 in
theorem m_X10_pays {l : Launch} {h : HP} {N : Nat} {x0 : Nat} {x1 : Int32} {rr : Int32} {rh : HP} {fr : Nat} (hq : f_X10_pays N h x0 x1 = some (rr, rh)) (hfr : 4 ≤ fr) : Mt l yX10_pays cX10_pays 10 (some (.int)) fr [.ref x0, .int x1] h (QI rr rh) := by
  obtain ⟨rp, ep⟩ : ∃ rp : (Int32 × HP), rp = (rr, rh) := ⟨_, rfl⟩
  have e1p : rr = rp.1 := (congrArg Prod.fst ep).symm
  have e2p : rh = rp.2 := (congrArg Prod.snd ep).symm
  rw [← ep] at hq
  rw [e1p, e2p]
  clear e1p e2p ep
  refine Mt.of (by decide +kernel) (Nat.le_of_ble_eq_true rfl) (fun x hl ok hF => ?_)
  subst hl
  show wp x 0 [(0, .ref x0), (1, .int x1)] [] h
  unfold f_X10_pays at hq
  obtain ⟨h0, eh0⟩ : ∃ h0 : HP, h = h0 := ⟨h, rfl⟩
  have e : h.1 = h0.1 := by rw [eh0]
  rw [eh0] at hF
  obtain ⟨g_x0, hq⟩ := gP_some hq
  obtain ⟨n_x0, f_x0⟩ := kO_some g_x0
  replace f_x0 := sh_of e.symm f_x0
  refine wp_aload_n (v := x0) ok dX10_pays_0 rfl ?_
  refine wp_iconst (v := 0) ok dX10_pays_1 (by decide) ?_
  refine wp_putI ok flw_RX10_3 (nr_10_0 _) (sh_of e f_x0) dX10_pays_2 ?_
  obtain ⟨h1, e2, hq⟩ := lt_some hq
  refine wp_nmH e2 ?_
  have e3 : h1.1 = h0.1 := (congrArg Prod.fst e2).trans e
  refine wp_aload_n (v := x0) ok dX10_pays_5 rfl ?_
  refine wp_bipush (v := 80) ok dX10_pays_6 (by decide) ?_
  obtain ⟨v4, h6, e5, hq⟩ := bnd2_some hq
  refine wp_callVI (As := [.int 80]) (rest := []) (h1 := h6) ok (m_X10_begins e5 (Nat.le_refl _)) my_X10_begins (w_1207) pd_X10_begins (Nat.le_trans (by decide) hfr) rfl (ci := 10) rfl (by decide) (sh_of e3 f_x0) rfl rfl rfl dX10_pays_8 (fun e7 => ?_)
  have e8 : h6.1 = h0.1 := (e7).trans e3
  refine wp_istore_n (L' := [(2, .int v4), (0, .ref x0), (1, .int x1)]) ok dX10_pays_11 rfl rfl ?_
  refine wp_iload_n (v := x1) ok dX10_pays_12 rfl ?_
  refine wp_i2l ok dX10_pays_13 ?_
  refine wp_lconst (v := 0) ok dX10_pays_14 (by decide) ?_
  refine wp_ldc2 (v := 9999) ok (w_1365) dX10_pays_15 ?_
  obtain ⟨v9, e10, hq⟩ := bnd_some hq
  refine wp_callSI (As := [.long (x1.toInt64), .long 0, .long 9999]) (rest := []) (h1 := h6) ok (m_X10_in e10 (Nat.le_refl _)) my_X10_in (w_1200) pd_X10_in (Nat.le_trans (by decide) hfr) rfl rfl rfl rfl dX10_pays_18 (fun e11 => ?_)
  refine wp_if_ne (tgt := 28) ok dX10_pays_21 (by decide) (fun c12 => ?_) (fun c12 => ?_)
  · have hq := ite_f c12 hq
    refine wp_iconst (v := 0) ok dX10_pays_28 (by decide) ?_
    refine wp_istore_n (L' := [(3, .int 0), (2, .int v4), (0, .ref x0), (1, .int x1)]) ok dX10_pays_29 rfl rfl ?_
    refine wp_iconst (v := 1) ok dX10_pays_30 (by decide) ?_
    refine wp_istore (L' := [(4, .int 1), (3, .int 0), (2, .int v4), (0, .ref x0), (1, .int x1)]) ok dX10_pays_31 rfl rfl ?_
    refine wp_iload_n (v := v4) ok dX10_pays_33 rfl ?_
    obtain ⟨k13, ek13, hq⟩ := jn1_some hq
    have kk13 : ∀ (y14 : Int32), k13 y14 = some rp → wp x 42 [(4, .int 1), (3, .int 0), (0, .ref x0), (1, .int x1)] [.int y14] h6 := by
      intro y14 hq
      have hq := (ek13 y14).symm.trans hq
      refine wp_istore (L' := [(5, .int y14), (4, .int 1), (3, .int 0), (0, .ref x0), (1, .int x1)]) ok dX10_pays_42 rfl rfl ?_
      refine wp_sub (L' := [(3, .int 0), (4, .int 1), (5, .int y14), (0, .ref x0), (1, .int x1)]) [2, 1, 0, 3, 4] rfl ?_
      refine l_X10_pays_B44 ok hfr f_x0 hF ?_ N 0 1 y14 h6 hq e8
      · intro x57 x58 h59 hq e60
        refine wp_iload (v := x58) ok dX10_pays_121 rfl ?_
        refine wp_if_eq (tgt := 137) ok dX10_pays_123 (by decide) (fun c61 => ?_) (fun c61 => ?_)
        · have hq := ite_t c61 hq
          refine wp_iconst (v := -1) ok dX10_pays_137 (by decide) ?_
          refine wp_aload_n (v := x0) ok dX10_pays_138 rfl ?_
          refine wp_getI ok fl_RX10_130 (sh_of e60 f_x0) dX10_pays_139 ?_
          refine wp_isub ok dX10_pays_142 ?_
          exact wp_iret ok hF rfl e60 (re2I hq) dX10_pays_143
        · have hq := ite_f c61 hq
          refine wp_aload_n (v := x0) ok dX10_pays_126 rfl ?_
          refine wp_getI ok fl_RX10_130 (sh_of e60 f_x0) dX10_pays_127 ?_
          refine wp_aload_n (v := x0) ok dX10_pays_130 rfl ?_
          refine wp_getI ok fl_RX10_142 (sh_of e60 f_x0) dX10_pays_131 ?_
          refine wp_icmp_ge (tgt := 144) ok dX10_pays_134 (by decide) (fun c62 => ?_) (fun c62 => ?_)
          · have hq := ite_t c62 hq
            refine wp_iconst (v := -1) ok dX10_pays_144 (by decide) ?_
            refine wp_istore (L' := [(6, .int (-1)), (3, .int x57), (4, .int x58), (0, .ref x0), (1, .int x1)]) ok dX10_pays_145 rfl rfl ?_
            refine wp_iconst (v := 0) ok dX10_pays_147 (by decide) ?_
            refine wp_istore (L' := [(7, .int 0), (6, .int (-1)), (3, .int x57), (4, .int x58), (0, .ref x0), (1, .int x1)]) ok dX10_pays_148 rfl rfl ?_
            refine wp_sub (L' := [(6, .int (-1)), (7, .int 0), (0, .ref x0), (1, .int x1), (3, .int x57)]) [1, 0, 4, 5, 2] rfl ?_
            refine l_X10_pays_B150 ok hfr e60 f_x0 hF ?_ N (-1) 0 hq
            · intro x101 hq
              refine wp_iload (v := x101) ok dX10_pays_241 rfl ?_
              refine wp_if_ge (tgt := 250) ok dX10_pays_243 (by decide) (fun c102 => ?_) (fun c102 => ?_)
              · have hq := ite_t c102 hq
                refine wp_aload_n (v := x0) ok dX10_pays_250 rfl ?_
                refine wp_iconst (v := 0) ok dX10_pays_251 (by decide) ?_
                refine wp_putI ok flw_RX10_15 (nr_10_1 _) (sh_of e60 f_x0) dX10_pays_252 ?_
                obtain ⟨h103, e104, hq⟩ := lt_some hq
                refine wp_nmH e104 ?_
                have e105 : h103.1 = h0.1 := (congrArg Prod.fst e104).trans e60
                refine wp_aload_n (v := x0) ok dX10_pays_255 rfl ?_
                refine wp_iload (v := x101) ok dX10_pays_256 rfl ?_
                refine wp_i2l ok dX10_pays_258 ?_
                obtain ⟨h106, e107, hq⟩ := bnd_some hq
                refine wp_callVV (As := [.long (x101.toInt64)]) (rest := []) (h1 := h106) ok (m_X10_enters e107 (Nat.le_refl _)) my_X10_enters (w_1347) pd_X10_enters (Nat.le_trans (by decide) hfr) rfl (ci := 10) rfl (by decide) (sh_of e105 f_x0) rfl rfl rfl dX10_pays_259 (fun e108 => ?_)
                have e109 : h106.1 = h0.1 := (e108).trans e105
                refine wp_iload (v := x101) ok dX10_pays_262 rfl ?_
                obtain ⟨v110, e111, hq⟩ := bnd_some hq
                refine wp_callSI (As := [.int x101]) (rest := []) (h1 := h106) ok (m_J6_bitCount_0f7a4 e111 (Nat.le_refl _)) my_J6_bitCount_0f7a4 (w_1479) pd_J6_bitCount_0f7a4 (Nat.le_trans (by decide) hfr) rfl rfl rfl rfl dX10_pays_264 (fun e112 => ?_)
                exact wp_iret ok hF rfl e109 (re2I hq) dX10_pays_267
              · have hq := ite_f c102 hq
                refine wp_sipush (v := -10000) ok dX10_pays_246 (by decide) ?_
                exact wp_iret ok hF rfl e60 (re2I hq) dX10_pays_249
          · have hq := ite_f c62 hq
            refine wp_iconst (v := -1) ok dX10_pays_137 (by decide) ?_
            refine wp_aload_n (v := x0) ok dX10_pays_138 rfl ?_
            refine wp_getI ok fl_RX10_130 (sh_of e60 f_x0) dX10_pays_139 ?_
            refine wp_isub ok dX10_pays_142 ?_
            exact wp_iret ok hF rfl e60 (re2I hq) dX10_pays_143
    refine wp_if_le (tgt := 41) ok dX10_pays_34 (by decide) (fun c113 => ?_) (fun c113 => ?_)
    · have hq := ite_t c113 hq
      refine wp_iconst (v := 0) ok dX10_pays_41 (by decide) ?_
      refine wp_sub (L' := [(4, .int 1), (3, .int 0), (0, .ref x0), (1, .int x1)]) [0, 1, 3, 4] rfl ?_
      exact kk13 0 hq
    · have hq := ite_f c113 hq
      refine wp_iconst (v := 1) ok dX10_pays_37 (by decide) ?_
      refine wp_goto (tgt := 42) ok dX10_pays_38 (by decide) ?_
      refine wp_sub (L' := [(4, .int 1), (3, .int 0), (0, .ref x0), (1, .int x1)]) [0, 1, 3, 4] rfl ?_
      exact kk13 1 hq
  · have hq := ite_t c12 hq
    refine wp_sipush (v := -20000) ok dX10_pays_24 (by decide) ?_
    exact wp_iret ok hF rfl e8 (re2I hq) dX10_pays_27
set_option maxHeartbeats 4000000 in
set_option maxRecDepth 100000 in
theorem m_X10_bearers {l : Launch} {h : HP} {x0 : Nat} {x1 : Int32} {x2 : Int32} {rr : Int32} {rh : HP} {fr : Nat} (hq : f_X10_bearers h x0 x1 x2 = some (rr, rh)) (hfr : 2 ≤ fr) : Mt l yX10_bearers cX10_bearers 4 (some (.int)) fr [.ref x0, .int x1, .int x2] h (QI rr rh) := by
  obtain ⟨rp, ep⟩ : ∃ rp : (Int32 × HP), rp = (rr, rh) := ⟨_, rfl⟩
  have e1p : rr = rp.1 := (congrArg Prod.fst ep).symm
  have e2p : rh = rp.2 := (congrArg Prod.snd ep).symm
  rw [← ep] at hq
  rw [e1p, e2p]
  clear e1p e2p ep
  refine Mt.of (by decide +kernel) (Nat.le_of_ble_eq_true rfl) (fun x hl ok hF => ?_)
  subst hl
  show wp x 0 [(0, .ref x0), (1, .int x1), (2, .int x2)] [] h
  unfold f_X10_bearers at hq
  obtain ⟨h0, eh0⟩ : ∃ h0 : HP, h = h0 := ⟨h, rfl⟩
  have e : h.1 = h0.1 := by rw [eh0]
  rw [eh0] at hF
  obtain ⟨g_x0, hq⟩ := gP_some hq
  obtain ⟨n_x0, f_x0⟩ := kO_some g_x0
  replace f_x0 := sh_of e.symm f_x0
  refine wp_aload_n (v := x0) ok dX10_bearers_0 rfl ?_
  refine wp_iconst (v := 0) ok dX10_bearers_1 (by decide) ?_
  refine wp_putI ok flw_RX10_3 (nr_10_0 _) (sh_of e f_x0) dX10_bearers_2 ?_
  obtain ⟨h1, e2, hq⟩ := lt_some hq
  refine wp_nmH e2 ?_
  have e3 : h1.1 = h0.1 := (congrArg Prod.fst e2).trans e
  refine wp_iload_n (v := x1) ok dX10_bearers_5 rfl ?_
  refine wp_i2l ok dX10_bearers_6 ?_
  refine wp_lconst (v := 0) ok dX10_bearers_7 (by decide) ?_
  refine wp_ldc2 (v := 99999) ok (w_1492) dX10_bearers_8 ?_
  obtain ⟨v4, e5, hq⟩ := bnd_some hq
  refine wp_callSI (As := [.long (x1.toInt64), .long 0, .long 99999]) (rest := []) (h1 := h1) ok (m_X10_in e5 (Nat.le_refl _)) my_X10_in (w_1200) pd_X10_in (Nat.le_trans (by decide) hfr) rfl rfl rfl rfl dX10_bearers_11 (fun e6 => ?_)
  refine wp_if_eq (tgt := 25) ok dX10_bearers_14 (by decide) (fun c7 => ?_) (fun c7 => ?_)
  · have hq := ite_t c7 hq
    refine wp_iconst (v := -1) ok dX10_bearers_25 (by decide) ?_
    exact wp_iret ok hF rfl e3 (re2I hq) dX10_bearers_26
  · have hq := ite_f c7 hq
    refine wp_aload_n (v := x0) ok dX10_bearers_17 rfl ?_
    refine wp_iload_n (v := x2) ok dX10_bearers_18 rfl ?_
    obtain ⟨v8, e9, hq⟩ := bnd_some hq
    refine wp_callVI (As := [.int x2]) (rest := []) (h1 := h1) ok (m_X10_isMarket e9 (Nat.le_refl _)) my_X10_isMarket (w_1288) pd_X10_isMarket (Nat.le_trans (by decide) hfr) rfl (ci := 10) rfl (by decide) (sh_of e3 f_x0) rfl rfl rfl dX10_bearers_19 (fun e10 => ?_)
    refine wp_if_ne (tgt := 27) ok dX10_bearers_22 (by decide) (fun c11 => ?_) (fun c11 => ?_)
    · have hq := ite_f c11 hq
      refine wp_iload_n (v := x1) ok dX10_bearers_27 rfl ?_
      refine wp_sipush (v := 399) ok dX10_bearers_28 (by decide) ?_
      refine wp_iadd ok dX10_bearers_31 ?_
      refine wp_sipush (v := 400) ok dX10_bearers_32 (by decide) ?_
      refine wp_idiv ok dX10_bearers_35 (by decide) ?_
      obtain ⟨v12, e13, hq⟩ := lt_some hq
      refine wp_nmI e13 ?_
      refine wp_istore_n (L' := [(3, .int v12), (0, .ref x0), (1, .int x1), (2, .int x2)]) ok dX10_bearers_36 rfl rfl ?_
      refine wp_aload_n (v := x0) ok dX10_bearers_37 rfl ?_
      refine wp_iconst (v := 0) ok dX10_bearers_38 (by decide) ?_
      refine wp_putI ok flw_RX10_15 (nr_10_1 _) (sh_of e3 f_x0) dX10_bearers_39 ?_
      obtain ⟨h14, e15, hq⟩ := lt_some hq
      refine wp_nmH e15 ?_
      have e16 : h14.1 = h0.1 := (congrArg Prod.fst e15).trans e3
      refine wp_aload_n (v := x0) ok dX10_bearers_42 rfl ?_
      refine wp_iconst (v := 0) ok dX10_bearers_43 (by decide) ?_
      refine wp_iload_n (v := x1) ok dX10_bearers_44 rfl ?_
      refine wp_bipush (v := 10) ok dX10_bearers_45 (by decide) ?_
      refine wp_iload_n (v := x2) ok dX10_bearers_47 rfl ?_
      refine wp_imul ok dX10_bearers_48 ?_
      refine wp_iload_n (v := v12) ok dX10_bearers_49 rfl ?_
      refine wp_imul ok dX10_bearers_50 ?_
      refine wp_isub ok dX10_bearers_51 ?_
      obtain ⟨v17, e18, hq⟩ := bnd_some hq
      refine wp_callSI (As := [.int 0, .int (x1 - ((10 * x2) * v12))]) (rest := [.ref x0]) (h1 := h14) ok (m_J9_max_7cf53 e18 (Nat.le_refl _)) my_J9_max_7cf53 (w_1316) pd_J9_max_7cf53 (Nat.le_trans (by decide) hfr) rfl rfl rfl rfl dX10_bearers_52 (fun e19 => ?_)
      refine wp_i2l ok dX10_bearers_55 ?_
      obtain ⟨h20, e21, hq⟩ := bnd_some hq
      refine wp_callVV (As := [.long (v17.toInt64)]) (rest := []) (h1 := h20) ok (m_X10_enters e21 (Nat.le_refl _)) my_X10_enters (w_1347) pd_X10_enters (Nat.le_trans (by decide) hfr) rfl (ci := 10) rfl (by decide) (sh_of e16 f_x0) rfl rfl rfl dX10_bearers_56 (fun e22 => ?_)
      have e23 : h20.1 = h0.1 := (e22).trans e16
      refine wp_iload_n (v := v12) ok dX10_bearers_59 rfl ?_
      exact wp_iret ok hF rfl e23 (re2I hq) dX10_bearers_60
    · have hq := ite_t c11 hq
      refine wp_iconst (v := -1) ok dX10_bearers_25 (by decide) ?_
      exact wp_iret ok hF rfl e3 (re2I hq) dX10_bearers_26
set_option maxHeartbeats 4000000 in
set_option maxRecDepth 100000 in
theorem m_X10_left {l : Launch} {h : HP} {x0 : Nat} {x1 : Int32} {x2 : Int32} {rr : Int32} {rh : HP} {fr : Nat} (hq : f_X10_left h x0 x1 x2 = some (rr, rh)) (hfr : 1 ≤ fr) : Mt l yX10_left cX10_left 3 (some (.int)) fr [.ref x0, .int x1, .int x2] h (QI rr rh) := by
  obtain ⟨rp, ep⟩ : ∃ rp : (Int32 × HP), rp = (rr, rh) := ⟨_, rfl⟩
  have e1p : rr = rp.1 := (congrArg Prod.fst ep).symm
  have e2p : rh = rp.2 := (congrArg Prod.snd ep).symm
  rw [← ep] at hq
  rw [e1p, e2p]
  clear e1p e2p ep
  refine Mt.of (by decide +kernel) (Nat.le_of_ble_eq_true rfl) (fun x hl ok hF => ?_)
  subst hl
  show wp x 0 [(0, .ref x0), (1, .int x1), (2, .int x2)] [] h
  unfold f_X10_left at hq
  obtain ⟨h0, eh0⟩ : ∃ h0 : HP, h = h0 := ⟨h, rfl⟩
  have e : h.1 = h0.1 := by rw [eh0]
  rw [eh0] at hF
  obtain ⟨g_x0, hq⟩ := gP_some hq
  obtain ⟨n_x0, f_x0⟩ := kO_some g_x0
  replace f_x0 := sh_of e.symm f_x0
  refine wp_aload_n (v := x0) ok dX10_left_0 rfl ?_
  refine wp_iconst (v := 0) ok dX10_left_1 (by decide) ?_
  refine wp_putI ok flw_RX10_3 (nr_10_0 _) (sh_of e f_x0) dX10_left_2 ?_
  obtain ⟨h1, e2, hq⟩ := lt_some hq
  refine wp_nmH e2 ?_
  have e3 : h1.1 = h0.1 := (congrArg Prod.fst e2).trans e
  refine wp_iload_n (v := x1) ok dX10_left_5 rfl ?_
  refine wp_i2l ok dX10_left_6 ?_
  refine wp_ldc2 (v := 2) ok (w_1536) dX10_left_7 ?_
  refine wp_ldc2 (v := 40) ok (w_1537) dX10_left_10 ?_
  obtain ⟨v4, e5, hq⟩ := bnd_some hq
  refine wp_callSI (As := [.long (x1.toInt64), .long 2, .long 40]) (rest := []) (h1 := h1) ok (m_X10_in e5 (Nat.le_refl _)) my_X10_in (w_1200) pd_X10_in (Nat.le_trans (by decide) hfr) rfl rfl rfl rfl dX10_left_13 (fun e6 => ?_)
  refine wp_if_eq (tgt := 41) ok dX10_left_16 (by decide) (fun c7 => ?_) (fun c7 => ?_)
  · have hq := ite_t c7 hq
    refine wp_iconst (v := -1) ok dX10_left_41 (by decide) ?_
    exact wp_iret ok hF rfl e3 (re2I hq) dX10_left_42
  · have hq := ite_f c7 hq
    refine wp_iload_n (v := x2) ok dX10_left_19 rfl ?_
    refine wp_i2l ok dX10_left_20 ?_
    refine wp_lconst (v := 0) ok dX10_left_21 (by decide) ?_
    refine wp_iload_n (v := x1) ok dX10_left_22 rfl ?_
    refine wp_iconst (v := 1) ok dX10_left_23 (by decide) ?_
    refine wp_isub ok dX10_left_24 ?_
    refine wp_i2l ok dX10_left_25 ?_
    obtain ⟨v8, e9, hq⟩ := bnd_some hq
    refine wp_callSI (As := [.long (x2.toInt64), .long 0, .long ((x1 - 1).toInt64)]) (rest := []) (h1 := h1) ok (m_X10_in e9 (Nat.le_refl _)) my_X10_in (w_1200) pd_X10_in (Nat.le_trans (by decide) hfr) rfl rfl rfl rfl dX10_left_26 (fun e10 => ?_)
    refine wp_if_eq (tgt := 41) ok dX10_left_29 (by decide) (fun c11 => ?_) (fun c11 => ?_)
    · have hq := ite_t c11 hq
      refine wp_iconst (v := -1) ok dX10_left_41 (by decide) ?_
      exact wp_iret ok hF rfl e3 (re2I hq) dX10_left_42
    · have hq := ite_f c11 hq
      refine wp_aload_n (v := x0) ok dX10_left_32 rfl ?_
      refine wp_getI ok fl_RX10_384 (sh_of e3 f_x0) dX10_left_33 ?_
      refine wp_bipush (v := 8) ok dX10_left_36 (by decide) ?_
      refine wp_icmp_ne (tgt := 43) ok dX10_left_38 (by decide) (fun c12 => ?_) (fun c12 => ?_)
      · have hq := ite_f c12 hq
        refine wp_aload_n (v := x0) ok dX10_left_43 rfl ?_
        obtain ⟨t13, e14, hq⟩ := bnd_some hq
        obtain ⟨e15, n16, f17⟩ := rK_some e14
        replace f17 := sh_of (e3).symm f17
        refine wp_getR ok fl_RX10_98 (sh_of e3 f_x0) e15 dX10_left_44 ?_
        refine wp_aload_n (v := x0) ok dX10_left_47 rfl ?_
        refine wp_getI ok fl_RX10_384 (sh_of e3 f_x0) dX10_left_48 ?_
        refine wp_iload_n (v := x1) ok dX10_left_51 rfl ?_
        obtain ⟨g18, hq⟩ := gP_some hq
        refine wp_iast ok (sh_of e3 f17) (ix_of (sh_of e3 f17) g18) dX10_left_52 ?_
        obtain ⟨h19, e20, hq⟩ := lt_some hq
        refine wp_nmH e20 ?_
        have e21 : h19.1 = h0.1 := (congrArg Prod.fst e20).trans e3
        refine wp_aload_n (v := x0) ok dX10_left_53 rfl ?_
        obtain ⟨t22, e23, hq⟩ := bnd_some hq
        obtain ⟨e24, n25, f26⟩ := rK_some e23
        replace f26 := sh_of (e21).symm f26
        refine wp_getR ok fl_RX10_101 (sh_of e21 f_x0) e24 dX10_left_54 ?_
        refine wp_aload_n (v := x0) ok dX10_left_57 rfl ?_
        refine wp_getI ok fl_RX10_384 (sh_of e21 f_x0) dX10_left_58 ?_
        refine wp_iload_n (v := x2) ok dX10_left_61 rfl ?_
        obtain ⟨g27, hq⟩ := gP_some hq
        refine wp_iast ok (sh_of e21 f26) (ix_of (sh_of e21 f26) g27) dX10_left_62 ?_
        obtain ⟨h28, e29, hq⟩ := lt_some hq
        refine wp_nmH e29 ?_
        have e30 : h28.1 = h0.1 := (congrArg Prod.fst e29).trans e21
        refine wp_aload_n (v := x0) ok dX10_left_63 rfl ?_
        refine wp_dup ok dX10_left_64 rfl ?_
        refine wp_getI ok fl_RX10_384 (sh_of e30 f_x0) dX10_left_65 ?_
        refine wp_iconst (v := 1) ok dX10_left_68 (by decide) ?_
        refine wp_iadd ok dX10_left_69 ?_
        refine wp_putI ok flw_RX10_384 (nr_10_39 _) (sh_of e30 f_x0) dX10_left_70 ?_
        obtain ⟨h31, e32, hq⟩ := lt_some hq
        refine wp_nmH e32 ?_
        have e33 : h31.1 = h0.1 := (congrArg Prod.fst e32).trans e30
        refine wp_aload_n (v := x0) ok dX10_left_73 rfl ?_
        refine wp_getI ok fl_RX10_384 (sh_of e33 f_x0) dX10_left_74 ?_
        exact wp_iret ok hF rfl e33 (re2I hq) dX10_left_77
      · have hq := ite_t c12 hq
        refine wp_iconst (v := -1) ok dX10_left_41 (by decide) ?_
        exact wp_iret ok hF rfl e3 (re2I hq) dX10_left_42
set_option maxHeartbeats 4000000 in
set_option maxRecDepth 100000 in
theorem m_X10_forget {l : Launch} {h : HP} {x0 : Nat} {rr : Int32} {rh : HP} {fr : Nat} (hq : f_X10_forget h x0 = some (rr, rh)) (hfr : 0 ≤ fr) : Mt l yX10_forget cX10_forget 2 (some (.int)) fr [.ref x0] h (QI rr rh) := by
  obtain ⟨rp, ep⟩ : ∃ rp : (Int32 × HP), rp = (rr, rh) := ⟨_, rfl⟩
  have e1p : rr = rp.1 := (congrArg Prod.fst ep).symm
  have e2p : rh = rp.2 := (congrArg Prod.snd ep).symm
  rw [← ep] at hq
  rw [e1p, e2p]
  clear e1p e2p ep
  refine Mt.of (by decide +kernel) (Nat.le_of_ble_eq_true rfl) (fun x hl ok hF => ?_)
  subst hl
  show wp x 0 [(0, .ref x0)] [] h
  unfold f_X10_forget at hq
  obtain ⟨h0, eh0⟩ : ∃ h0 : HP, h = h0 := ⟨h, rfl⟩
  have e : h.1 = h0.1 := by rw [eh0]
  rw [eh0] at hF
  obtain ⟨g_x0, hq⟩ := gP_some hq
  obtain ⟨n_x0, f_x0⟩ := kO_some g_x0
  replace f_x0 := sh_of e.symm f_x0
  refine wp_aload_n (v := x0) ok dX10_forget_0 rfl ?_
  refine wp_iconst (v := 0) ok dX10_forget_1 (by decide) ?_
  refine wp_putI ok flw_RX10_3 (nr_10_0 _) (sh_of e f_x0) dX10_forget_2 ?_
  obtain ⟨h1, e2, hq⟩ := lt_some hq
  refine wp_nmH e2 ?_
  have e3 : h1.1 = h0.1 := (congrArg Prod.fst e2).trans e
  refine wp_aload_n (v := x0) ok dX10_forget_5 rfl ?_
  refine wp_getI ok fl_RX10_384 (sh_of e3 f_x0) dX10_forget_6 ?_
  obtain ⟨v4, e5, hq⟩ := lt_some hq
  refine wp_nmI e5 ?_
  refine wp_istore_n (L' := [(1, .int v4), (0, .ref x0)]) ok dX10_forget_9 rfl rfl ?_
  refine wp_aload_n (v := x0) ok dX10_forget_10 rfl ?_
  refine wp_iconst (v := 0) ok dX10_forget_11 (by decide) ?_
  refine wp_putI ok flw_RX10_384 (nr_10_39 _) (sh_of e3 f_x0) dX10_forget_12 ?_
  obtain ⟨h6, e7, hq⟩ := lt_some hq
  refine wp_nmH e7 ?_
  have e8 : h6.1 = h0.1 := (congrArg Prod.fst e7).trans e3
  refine wp_iload_n (v := v4) ok dX10_forget_15 rfl ?_
  exact wp_iret ok hF rfl e8 (re2I hq) dX10_forget_16
set_option maxHeartbeats 4000000 in
set_option maxRecDepth 100000 in
theorem s_X10_isSo_B4 {x : Cx} {h : HP} {N fr : Nat} {rr : Int32} (ok : Okx x cX10_isSo yX10_isSo.cls 4 fr) (hfr : 0 ≤ fr)  {x0 : Nat} {x1 : Int32} {n_x0 : Nat} (f_x0 : h.1[x0]? = some (10, n_x0)) (hF : Fend x h (some (.boolean)) (QI rr h)) {rc : Int32 → Int32 → Option Int32} (ih : ∀ (x2 : Int32) (x3 : Int32), rc x2 x3 = some rr → wp x 4 [(2, .int x2), (3, .int x3), (0, .ref x0), (1, .int x1)] [] h) : ∀ (x2 : Int32) (x3 : Int32), f_X10_isSo_B4 N x0 x1 h rc x2 x3 = some rr → wp x 4 [(2, .int x2), (3, .int x3), (0, .ref x0), (1, .int x1)] [] h := by
  intro x2 x3 hq
  unfold f_X10_isSo_B4 at hq
  refine wp_iload_n (v := x3) ok dX10_isSo_4 rfl ?_
  refine wp_aload_n (v := x0) ok dX10_isSo_5 rfl ?_
  refine wp_getI ok fl_RX10_384 (sh_of rfl f_x0) dX10_isSo_6 ?_
  refine wp_icmp_ge (tgt := 45) ok dX10_isSo_9 (by decide) (fun c1 => ?_) (fun c1 => ?_)
  · have hq := ite_t c1 hq
    refine wp_iload_n (v := x2) ok dX10_isSo_45 rfl ?_
    obtain ⟨g2, hq⟩ := gP_some hq
    exact wp_iret ok hF (nb_z g2) rfl (re1I hq) dX10_isSo_46
  · have hq := ite_f c1 hq
    refine wp_iload_n (v := x2) ok dX10_isSo_12 rfl ?_
    refine wp_if_eq (tgt := 37) ok dX10_isSo_13 (by decide) (fun c3 => ?_) (fun c3 => ?_)
    · have hq := ite_t c3 hq
      refine wp_iconst (v := 0) ok dX10_isSo_37 (by decide) ?_
      refine wp_istore_n (L' := [(2, .int 0), (3, .int x3), (0, .ref x0), (1, .int x1)]) ok dX10_isSo_38 rfl rfl ?_
      obtain ⟨v4, e5, hq⟩ := lt_some hq
      refine wp_iinc (v := x3) (w := 1) (L' := [(3, .int v4), (2, .int 0), (0, .ref x0), (1, .int x1)]) ok dX10_isSo_39 rfl (by decide) rfl (by rw [← e5]; rfl) ?_
      refine wp_goto (tgt := 4) ok dX10_isSo_42 (by decide) ?_
      refine wp_sub (L' := [(2, .int 0), (3, .int v4), (0, .ref x0), (1, .int x1)]) [1, 0, 2, 3] rfl ?_
      exact ih 0 v4 hq
    · have hq := ite_f c3 hq
      refine wp_iload_n (v := x1) ok dX10_isSo_16 rfl ?_
      refine wp_aload_n (v := x0) ok dX10_isSo_17 rfl ?_
      obtain ⟨t6, e7, hq⟩ := bnd_some hq
      obtain ⟨e8, n9, f10⟩ := rK_some e7
      replace f10 := sh_of (rfl).symm f10
      refine wp_getR ok fl_RX10_98 (sh_of rfl f_x0) e8 dX10_isSo_18 ?_
      refine wp_iload_n (v := x3) ok dX10_isSo_21 rfl ?_
      obtain ⟨g11, hq⟩ := gP_some hq
      refine wp_iald ok (sh_of rfl f10) (ix_of (sh_of rfl f10) g11) dX10_isSo_22 ?_
      obtain ⟨g12, hq⟩ := gP_some hq
      refine wp_irem ok dX10_isSo_23 g12 ?_
      refine wp_aload_n (v := x0) ok dX10_isSo_24 rfl ?_
      obtain ⟨t13, e14, hq⟩ := bnd_some hq
      obtain ⟨e15, n16, f17⟩ := rK_some e14
      replace f17 := sh_of (rfl).symm f17
      refine wp_getR ok fl_RX10_101 (sh_of rfl f_x0) e15 dX10_isSo_25 ?_
      refine wp_iload_n (v := x3) ok dX10_isSo_28 rfl ?_
      obtain ⟨g18, hq⟩ := gP_some hq
      refine wp_iald ok (sh_of rfl f17) (ix_of (sh_of rfl f17) g18) dX10_isSo_29 ?_
      refine wp_icmp_ne (tgt := 37) ok dX10_isSo_30 (by decide) (fun c19 => ?_) (fun c19 => ?_)
      · have hq := ite_f c19 hq
        refine wp_iconst (v := 0) ok dX10_isSo_37 (by decide) ?_
        refine wp_istore_n (L' := [(2, .int 0), (3, .int x3), (0, .ref x0), (1, .int x1)]) ok dX10_isSo_38 rfl rfl ?_
        obtain ⟨v20, e21, hq⟩ := lt_some hq
        refine wp_iinc (v := x3) (w := 1) (L' := [(3, .int v20), (2, .int 0), (0, .ref x0), (1, .int x1)]) ok dX10_isSo_39 rfl (by decide) rfl (by rw [← e21]; rfl) ?_
        refine wp_goto (tgt := 4) ok dX10_isSo_42 (by decide) ?_
        refine wp_sub (L' := [(2, .int 0), (3, .int v20), (0, .ref x0), (1, .int x1)]) [1, 0, 2, 3] rfl ?_
        exact ih 0 v20 hq
      · have hq := ite_t c19 hq
        refine wp_iconst (v := 1) ok dX10_isSo_33 (by decide) ?_
        refine wp_goto (tgt := 38) ok dX10_isSo_34 (by decide) ?_
        refine wp_istore_n (L' := [(2, .int 1), (3, .int x3), (0, .ref x0), (1, .int x1)]) ok dX10_isSo_38 rfl rfl ?_
        obtain ⟨v22, e23, hq⟩ := lt_some hq
        refine wp_iinc (v := x3) (w := 1) (L' := [(3, .int v22), (2, .int 1), (0, .ref x0), (1, .int x1)]) ok dX10_isSo_39 rfl (by decide) rfl (by rw [← e23]; rfl) ?_
        refine wp_goto (tgt := 4) ok dX10_isSo_42 (by decide) ?_
        refine wp_sub (L' := [(2, .int 1), (3, .int v22), (0, .ref x0), (1, .int x1)]) [1, 0, 2, 3] rfl ?_
        exact ih 1 v22 hq
set_option maxHeartbeats 4000000 in
set_option maxRecDepth 100000 in
theorem l_X10_isSo_B4 {x : Cx} {h : HP} {N fr : Nat} {rr : Int32} (ok : Okx x cX10_isSo yX10_isSo.cls 4 fr) (hfr : 0 ≤ fr)  {x0 : Nat} {x1 : Int32} {n_x0 : Nat} (f_x0 : h.1[x0]? = some (10, n_x0)) (hF : Fend x h (some (.boolean)) (QI rr h)) : ∀ (n : Nat) (x2 : Int32) (x3 : Int32), lp (fun _ _ => none) (f_X10_isSo_B4 N x0 x1 h) n x2 x3 = some rr → wp x 4 [(2, .int x2), (3, .int x3), (0, .ref x0), (1, .int x1)] [] h := by
  intro n
  induction n with
  | zero => intro x2 x3 hq; exact (Option.some_ne_none _ hq.symm).elim
  | succ n ih => exact s_X10_isSo_B4 ok hfr f_x0 hF  ih
set_option maxHeartbeats 4000000 in
set_option maxRecDepth 100000 in
theorem m_X10_isSo {l : Launch} {h : HP} {N : Nat} {x0 : Nat} {x1 : Int32} {rr : Int32} {fr : Nat} (hq : f_X10_isSo N h x0 x1 = some rr) (hfr : 0 ≤ fr) : Mt l yX10_isSo cX10_isSo 4 (some (.boolean)) fr [.ref x0, .int x1] h (QI rr h) := by
  refine Mt.of (by decide +kernel) (Nat.le_of_ble_eq_true rfl) (fun x hl ok hF => ?_)
  subst hl
  show wp x 0 [(0, .ref x0), (1, .int x1)] [] h
  unfold f_X10_isSo at hq
  obtain ⟨g_x0, hq⟩ := gP_some hq
  obtain ⟨n_x0, f_x0⟩ := kO_some g_x0
  refine wp_iconst (v := 1) ok dX10_isSo_0 (by decide) ?_
  refine wp_istore_n (L' := [(2, .int 1), (0, .ref x0), (1, .int x1)]) ok dX10_isSo_1 rfl rfl ?_
  refine wp_iconst (v := 0) ok dX10_isSo_2 (by decide) ?_
  refine wp_istore_n (L' := [(3, .int 0), (2, .int 1), (0, .ref x0), (1, .int x1)]) ok dX10_isSo_3 rfl rfl ?_
  refine wp_sub (L' := [(2, .int 1), (3, .int 0), (0, .ref x0), (1, .int x1)]) [1, 0, 2, 3] rfl ?_
  refine l_X10_isSo_B4 ok hfr f_x0 hF  N 1 0 hq
set_option maxHeartbeats 4000000 in
set_option maxRecDepth 100000 in
theorem s_X10_fits_B14 {x : Cx} {h0 : HP} {N fr : Nat} {rr : (Int32 × HP)} (ok : Okx x cX10_fits yX10_fits.cls 5 fr) (hfr : 1 ≤ fr)  {x0 : Nat} {h : HP} (e : h.1 = h0.1) {n_x0 : Nat} (f_x0 : h0.1[x0]? = some (10, n_x0)) (hF : Fend x h0 (some (.int)) (QI rr.1 rr.2)) {k54 : Int32 → Int32 → Int32 → Option (Int32 × HP)} (hk54 : ∀ (x1 : Int32) (x2 : Int32) (x3 : Int32), k54 x1 x2 x3 = some rr → wp x 54 [(1, .int x1), (2, .int x2), (3, .int x3), (0, .ref x0)] [] h) {rc : Int32 → Int32 → Int32 → Int32 → Option (Int32 × HP)} (ih : ∀ (x1 : Int32) (x2 : Int32) (x3 : Int32) (x4 : Int32), rc x1 x2 x3 x4 = some rr → wp x 14 [(1, .int x1), (2, .int x2), (3, .int x3), (4, .int x4), (0, .ref x0)] [] h) : ∀ (x1 : Int32) (x2 : Int32) (x3 : Int32) (x4 : Int32), f_X10_fits_B14 N x0 h k54 rc x1 x2 x3 x4 = some rr → wp x 14 [(1, .int x1), (2, .int x2), (3, .int x3), (4, .int x4), (0, .ref x0)] [] h := by
  intro x1 x2 x3 x4 hq
  unfold f_X10_fits_B14 at hq
  refine wp_iload (v := x4) ok dX10_fits_14 rfl ?_
  refine wp_sipush (v := 999) ok dX10_fits_16 (by decide) ?_
  refine wp_icmp_gt (tgt := 54) ok dX10_fits_19 (by decide) (fun c4 => ?_) (fun c4 => ?_)
  · have hq := ite_t c4 hq
    refine wp_sub (L' := [(1, .int x1), (2, .int x2), (3, .int x3), (0, .ref x0)]) [0, 1, 2, 4] rfl ?_
    exact hk54 x1 x2 x3 hq
  · have hq := ite_f c4 hq
    refine wp_aload_n (v := x0) ok dX10_fits_22 rfl ?_
    refine wp_iload (v := x4) ok dX10_fits_23 rfl ?_
    obtain ⟨v5, e6, hq⟩ := bnd_some hq
    refine wp_callVI (As := [.int x4]) (rest := []) (h1 := h) ok (m_X10_isSo e6 (Nat.le_refl _)) my_X10_isSo (w_1546) pd_X10_isSo (Nat.le_trans (by decide) hfr) rfl (ci := 10) rfl (by decide) (sh_of e f_x0) rfl rfl rfl dX10_fits_25 (fun e7 => ?_)
    refine wp_if_eq (tgt := 48) ok dX10_fits_28 (by decide) (fun c8 => ?_) (fun c8 => ?_)
    · have hq := ite_t c8 hq
      obtain ⟨v9, e10, hq⟩ := lt_some hq
      refine wp_iinc (v := x4) (w := 1) (L' := [(4, .int v9), (1, .int x1), (2, .int x2), (3, .int x3), (0, .ref x0)]) ok dX10_fits_48 rfl (by decide) rfl (by rw [← e10]; rfl) ?_
      refine wp_goto (tgt := 14) ok dX10_fits_51 (by decide) ?_
      refine wp_sub (L' := [(1, .int x1), (2, .int x2), (3, .int x3), (4, .int v9), (0, .ref x0)]) [1, 2, 3, 0, 4] rfl ?_
      exact ih x1 x2 x3 v9 hq
    · have hq := ite_f c8 hq
      refine wp_iload_n (v := x1) ok dX10_fits_31 rfl ?_
      obtain ⟨k11, ek11, hq⟩ := jn1_some hq
      have kk11 : ∀ (y12 : Int32), k11 y12 = some rr → wp x 41 [(1, .int x1), (4, .int x4), (0, .ref x0)] [.int y12] h := by
        intro y12 hq
        have hq := (ek11 y12).symm.trans hq
        refine wp_istore_n (L' := [(2, .int y12), (1, .int x1), (4, .int x4), (0, .ref x0)]) ok dX10_fits_41 rfl rfl ?_
        refine wp_iload (v := x4) ok dX10_fits_42 rfl ?_
        refine wp_istore_n (L' := [(3, .int x4), (2, .int y12), (1, .int x1), (4, .int x4), (0, .ref x0)]) ok dX10_fits_44 rfl rfl ?_
        obtain ⟨v13, e14, hq⟩ := lt_some hq
        refine wp_iinc (v := x1) (w := 1) (L' := [(1, .int v13), (3, .int x4), (2, .int y12), (4, .int x4), (0, .ref x0)]) ok dX10_fits_45 rfl (by decide) rfl (by rw [← e14]; rfl) ?_
        obtain ⟨v15, e16, hq⟩ := lt_some hq
        refine wp_iinc (v := x4) (w := 1) (L' := [(4, .int v15), (1, .int v13), (3, .int x4), (2, .int y12), (0, .ref x0)]) ok dX10_fits_48 rfl (by decide) rfl (by rw [← e16]; rfl) ?_
        refine wp_goto (tgt := 14) ok dX10_fits_51 (by decide) ?_
        refine wp_sub (L' := [(1, .int v13), (2, .int y12), (3, .int x4), (4, .int v15), (0, .ref x0)]) [1, 3, 2, 0, 4] rfl ?_
        exact ih v13 y12 x4 v15 hq
      refine wp_if_ne (tgt := 40) ok dX10_fits_32 (by decide) (fun c17 => ?_) (fun c17 => ?_)
      · have hq := ite_f c17 hq
        refine wp_iload_n (v := x2) ok dX10_fits_40 rfl ?_
        refine wp_sub (L' := [(1, .int x1), (4, .int x4), (0, .ref x0)]) [0, 3, 4] rfl ?_
        exact kk11 x2 hq
      · have hq := ite_t c17 hq
        refine wp_iload (v := x4) ok dX10_fits_35 rfl ?_
        refine wp_goto (tgt := 41) ok dX10_fits_37 (by decide) ?_
        refine wp_sub (L' := [(1, .int x1), (4, .int x4), (0, .ref x0)]) [0, 3, 4] rfl ?_
        exact kk11 x4 hq
set_option maxHeartbeats 4000000 in
set_option maxRecDepth 100000 in
theorem l_X10_fits_B14 {x : Cx} {h0 : HP} {N fr : Nat} {rr : (Int32 × HP)} (ok : Okx x cX10_fits yX10_fits.cls 5 fr) (hfr : 1 ≤ fr)  {x0 : Nat} {h : HP} (e : h.1 = h0.1) {n_x0 : Nat} (f_x0 : h0.1[x0]? = some (10, n_x0)) (hF : Fend x h0 (some (.int)) (QI rr.1 rr.2)) {k54 : Int32 → Int32 → Int32 → Option (Int32 × HP)} (hk54 : ∀ (x1 : Int32) (x2 : Int32) (x3 : Int32), k54 x1 x2 x3 = some rr → wp x 54 [(1, .int x1), (2, .int x2), (3, .int x3), (0, .ref x0)] [] h) : ∀ (n : Nat) (x1 : Int32) (x2 : Int32) (x3 : Int32) (x4 : Int32), lp (fun _ _ _ _ => none) (f_X10_fits_B14 N x0 h k54) n x1 x2 x3 x4 = some rr → wp x 14 [(1, .int x1), (2, .int x2), (3, .int x3), (4, .int x4), (0, .ref x0)] [] h := by
  intro n
  induction n with
  | zero => intro x1 x2 x3 x4 hq; exact (Option.some_ne_none _ hq.symm).elim
  | succ n ih => exact s_X10_fits_B14 ok hfr e f_x0 hF hk54 ih
set_option maxHeartbeats 4000000 in
set_option maxRecDepth 100000 in
theorem m_X10_fits {l : Launch} {h : HP} {N : Nat} {x0 : Nat} {rr : Int32} {rh : HP} {fr : Nat} (hq : f_X10_fits N h x0 = some (rr, rh)) (hfr : 1 ≤ fr) : Mt l yX10_fits cX10_fits 5 (some (.int)) fr [.ref x0] h (QI rr rh) := by
  obtain ⟨rp, ep⟩ : ∃ rp : (Int32 × HP), rp = (rr, rh) := ⟨_, rfl⟩
  have e1p : rr = rp.1 := (congrArg Prod.fst ep).symm
  have e2p : rh = rp.2 := (congrArg Prod.snd ep).symm
  rw [← ep] at hq
  rw [e1p, e2p]
  clear e1p e2p ep
  refine Mt.of (by decide +kernel) (Nat.le_of_ble_eq_true rfl) (fun x hl ok hF => ?_)
  subst hl
  show wp x 0 [(0, .ref x0)] [] h
  unfold f_X10_fits at hq
  obtain ⟨h0, eh0⟩ : ∃ h0 : HP, h = h0 := ⟨h, rfl⟩
  have e : h.1 = h0.1 := by rw [eh0]
  rw [eh0] at hF
  obtain ⟨g_x0, hq⟩ := gP_some hq
  obtain ⟨n_x0, f_x0⟩ := kO_some g_x0
  replace f_x0 := sh_of e.symm f_x0
  refine wp_aload_n (v := x0) ok dX10_fits_0 rfl ?_
  refine wp_iconst (v := 0) ok dX10_fits_1 (by decide) ?_
  refine wp_putI ok flw_RX10_3 (nr_10_0 _) (sh_of e f_x0) dX10_fits_2 ?_
  obtain ⟨h1, e2, hq⟩ := lt_some hq
  refine wp_nmH e2 ?_
  have e3 : h1.1 = h0.1 := (congrArg Prod.fst e2).trans e
  refine wp_iconst (v := 0) ok dX10_fits_5 (by decide) ?_
  refine wp_istore_n (L' := [(1, .int 0), (0, .ref x0)]) ok dX10_fits_6 rfl rfl ?_
  refine wp_iconst (v := 0) ok dX10_fits_7 (by decide) ?_
  refine wp_istore_n (L' := [(2, .int 0), (1, .int 0), (0, .ref x0)]) ok dX10_fits_8 rfl rfl ?_
  refine wp_iconst (v := 0) ok dX10_fits_9 (by decide) ?_
  refine wp_istore_n (L' := [(3, .int 0), (2, .int 0), (1, .int 0), (0, .ref x0)]) ok dX10_fits_10 rfl rfl ?_
  refine wp_iconst (v := 1) ok dX10_fits_11 (by decide) ?_
  refine wp_istore (L' := [(4, .int 1), (3, .int 0), (2, .int 0), (1, .int 0), (0, .ref x0)]) ok dX10_fits_12 rfl rfl ?_
  refine wp_sub (L' := [(1, .int 0), (2, .int 0), (3, .int 0), (4, .int 1), (0, .ref x0)]) [3, 2, 1, 0, 4] rfl ?_
  refine l_X10_fits_B14 ok hfr e3 f_x0 hF ?_ N 0 0 0 1 hq
  · intro x18 x19 x20 hq
    refine wp_aload_n (v := x0) ok dX10_fits_54 rfl ?_
    refine wp_iconst (v := 0) ok dX10_fits_55 (by decide) ?_
    refine wp_putI ok flw_RX10_15 (nr_10_1 _) (sh_of e3 f_x0) dX10_fits_56 ?_
    obtain ⟨h21, e22, hq⟩ := lt_some hq
    refine wp_nmH e22 ?_
    have e23 : h21.1 = h0.1 := (congrArg Prod.fst e22).trans e3
    refine wp_iload_n (v := x18) ok dX10_fits_59 rfl ?_
    refine wp_if_le (tgt := 75) ok dX10_fits_60 (by decide) (fun c24 => ?_) (fun c24 => ?_)
    · have hq := ite_t c24 hq
      refine wp_iload_n (v := x18) ok dX10_fits_75 rfl ?_
      exact wp_iret ok hF rfl e23 (re2I hq) dX10_fits_76
    · have hq := ite_f c24 hq
      refine wp_aload_n (v := x0) ok dX10_fits_63 rfl ?_
      refine wp_iload_n (v := x19) ok dX10_fits_64 rfl ?_
      refine wp_i2l ok dX10_fits_65 ?_
      obtain ⟨h25, e26, hq⟩ := bnd_some hq
      refine wp_callVV (As := [.long (x19.toInt64)]) (rest := []) (h1 := h25) ok (m_X10_enters e26 (Nat.le_refl _)) my_X10_enters (w_1347) pd_X10_enters (Nat.le_trans (by decide) hfr) rfl (ci := 10) rfl (by decide) (sh_of e23 f_x0) rfl rfl rfl dX10_fits_66 (fun e27 => ?_)
      have e28 : h25.1 = h0.1 := (e27).trans e23
      refine wp_aload_n (v := x0) ok dX10_fits_69 rfl ?_
      refine wp_iload_n (v := x20) ok dX10_fits_70 rfl ?_
      refine wp_i2l ok dX10_fits_71 ?_
      obtain ⟨h29, e30, hq⟩ := bnd_some hq
      refine wp_callVV (As := [.long (x20.toInt64)]) (rest := []) (h1 := h29) ok (m_X10_enters e30 (Nat.le_refl _)) my_X10_enters (w_1347) pd_X10_enters (Nat.le_trans (by decide) hfr) rfl (ci := 10) rfl (by decide) (sh_of e28 f_x0) rfl rfl rfl dX10_fits_72 (fun e31 => ?_)
      have e32 : h29.1 = h0.1 := (e31).trans e28
      refine wp_iload_n (v := x18) ok dX10_fits_75 rfl ?_
      exact wp_iret ok hF rfl e32 (re2I hq) dX10_fits_76
set_option maxHeartbeats 4000000 in
set_option maxRecDepth 100000 in
theorem s_X10_ask_B23 {x : Cx} {h0 : HP} {N fr : Nat} {rr : (Int32 × HP)} (ok : Okx x cX10_ask yX10_ask.cls 6 fr) (hfr : 1 ≤ fr)  {x0 : Nat} {x1 : Int32} {x2 : Int32} {x3 : Int32} {n_x0 : Nat} (f_x0 : h0.1[x0]? = some (10, n_x0)) (hF : Fend x h0 (some (.int)) (QI rr.1 rr.2)) {k43 : HP → Option (Int32 × HP)} (hk43 : ∀ (h : HP), k43 h = some rr → h.1 = h0.1 → wp x 43 [(0, .ref x0), (1, .int x1), (2, .int x2), (3, .int x3)] [] h) {rc : Int32 → HP → Option (Int32 × HP)} (ih : ∀ (x4 : Int32) (h : HP), rc x4 h = some rr → h.1 = h0.1 → wp x 23 [(4, .int x4), (0, .ref x0), (1, .int x1), (2, .int x2), (3, .int x3)] [] h) : ∀ (x4 : Int32) (h : HP), f_X10_ask_B23 N x0 x1 x2 x3 k43 rc x4 h = some rr → h.1 = h0.1 → wp x 23 [(4, .int x4), (0, .ref x0), (1, .int x1), (2, .int x2), (3, .int x3)] [] h := by
  intro x4 h hq e
  unfold f_X10_ask_B23 at hq
  refine wp_iload (v := x4) ok dX10_ask_23 rfl ?_
  refine wp_iload_n (v := x3) ok dX10_ask_25 rfl ?_
  refine wp_icmp_ge (tgt := 43) ok dX10_ask_26 (by decide) (fun c5 => ?_) (fun c5 => ?_)
  · have hq := ite_t c5 hq
    refine wp_sub (L' := [(0, .ref x0), (1, .int x1), (2, .int x2), (3, .int x3)]) [1, 2, 3, 4] rfl ?_
    exact hk43 h hq e
  · have hq := ite_f c5 hq
    refine wp_aload_n (v := x0) ok dX10_ask_29 rfl ?_
    obtain ⟨t6, e7, hq⟩ := bnd_some hq
    obtain ⟨e8, n9, f10⟩ := rK_some e7
    replace f10 := sh_of (e).symm f10
    refine wp_getR ok fl_RX10_104 (sh_of e f_x0) e8 dX10_ask_30 ?_
    refine wp_iload (v := x4) ok dX10_ask_33 rfl ?_
    refine wp_iconst (v := 0) ok dX10_ask_35 (by decide) ?_
    obtain ⟨g11, hq⟩ := gP_some hq
    refine wp_iast ok (sh_of e f10) (ix_of (sh_of e f10) g11) dX10_ask_36 ?_
    obtain ⟨h12, e13, hq⟩ := lt_some hq
    refine wp_nmH e13 ?_
    have e14 : h12.1 = h0.1 := (congrArg Prod.fst e13).trans e
    obtain ⟨v15, e16, hq⟩ := lt_some hq
    refine wp_iinc (v := x4) (w := 1) (L' := [(4, .int v15), (0, .ref x0), (1, .int x1), (2, .int x2), (3, .int x3)]) ok dX10_ask_37 rfl (by decide) rfl (by rw [← e16]; rfl) ?_
    refine wp_goto (tgt := 23) ok dX10_ask_40 (by decide) ?_
    refine wp_sub (L' := [(4, .int v15), (0, .ref x0), (1, .int x1), (2, .int x2), (3, .int x3)]) [0, 1, 2, 3, 4] rfl ?_
    exact ih v15 h12 hq e14
set_option maxHeartbeats 4000000 in
set_option maxRecDepth 100000 in
theorem l_X10_ask_B23 {x : Cx} {h0 : HP} {N fr : Nat} {rr : (Int32 × HP)} (ok : Okx x cX10_ask yX10_ask.cls 6 fr) (hfr : 1 ≤ fr)  {x0 : Nat} {x1 : Int32} {x2 : Int32} {x3 : Int32} {n_x0 : Nat} (f_x0 : h0.1[x0]? = some (10, n_x0)) (hF : Fend x h0 (some (.int)) (QI rr.1 rr.2)) {k43 : HP → Option (Int32 × HP)} (hk43 : ∀ (h : HP), k43 h = some rr → h.1 = h0.1 → wp x 43 [(0, .ref x0), (1, .int x1), (2, .int x2), (3, .int x3)] [] h) : ∀ (n : Nat) (x4 : Int32) (h : HP), lp (fun _ _ => none) (f_X10_ask_B23 N x0 x1 x2 x3 k43) n x4 h = some rr → h.1 = h0.1 → wp x 23 [(4, .int x4), (0, .ref x0), (1, .int x1), (2, .int x2), (3, .int x3)] [] h := by
  intro n
  induction n with
  | zero => intro x4 h hq e; exact (Option.some_ne_none _ hq.symm).elim
  | succ n ih => exact s_X10_ask_B23 ok hfr f_x0 hF hk43 ih
set_option maxHeartbeats 4000000 in
set_option maxRecDepth 100000 in
theorem s_X10_ask_B49 {x : Cx} {h0 : HP} {N fr : Nat} {rr : (Int32 × HP)} (ok : Okx x cX10_ask yX10_ask.cls 6 fr) (hfr : 1 ≤ fr)  {x0 : Nat} {x1 : Int32} {x2 : Int32} {x3 : Int32} {n_x0 : Nat} (f_x0 : h0.1[x0]? = some (10, n_x0)) (hF : Fend x h0 (some (.int)) (QI rr.1 rr.2)) {k100 : Int32 → HP → Option (Int32 × HP)} (hk100 : ∀ (x4 : Int32) (h : HP), k100 x4 h = some rr → h.1 = h0.1 → wp x 100 [(4, .int x4), (0, .ref x0), (1, .int x1), (2, .int x2), (3, .int x3)] [] h) {rc : Int32 → Int32 → HP → Option (Int32 × HP)} (ih : ∀ (x4 : Int32) (x5 : Int32) (h : HP), rc x4 x5 h = some rr → h.1 = h0.1 → wp x 49 [(4, .int x4), (5, .int x5), (0, .ref x0), (1, .int x1), (2, .int x2), (3, .int x3)] [] h) : ∀ (x4 : Int32) (x5 : Int32) (h : HP), f_X10_ask_B49 N x0 x1 x2 x3 k100 rc x4 x5 h = some rr → h.1 = h0.1 → wp x 49 [(4, .int x4), (5, .int x5), (0, .ref x0), (1, .int x1), (2, .int x2), (3, .int x3)] [] h := by
  intro x4 x5 h hq e
  unfold f_X10_ask_B49 at hq
  refine wp_iload (v := x5) ok dX10_ask_49 rfl ?_
  refine wp_sipush (v := 999) ok dX10_ask_51 (by decide) ?_
  refine wp_icmp_gt (tgt := 100) ok dX10_ask_54 (by decide) (fun c19 => ?_) (fun c19 => ?_)
  · have hq := ite_t c19 hq
    refine wp_sub (L' := [(4, .int x4), (0, .ref x0), (1, .int x1), (2, .int x2), (3, .int x3)]) [0, 2, 3, 4, 5] rfl ?_
    exact hk100 x4 h hq e
  · have hq := ite_f c19 hq
    refine wp_aload_n (v := x0) ok dX10_ask_57 rfl ?_
    obtain ⟨t20, e21, hq⟩ := bnd_some hq
    obtain ⟨e22, n23, f24⟩ := rK_some e21
    replace f24 := sh_of (e).symm f24
    refine wp_getR ok fl_RX10_104 (sh_of e f_x0) e22 dX10_ask_58 ?_
    refine wp_iload (v := x5) ok dX10_ask_61 rfl ?_
    refine wp_iload_n (v := x3) ok dX10_ask_63 rfl ?_
    obtain ⟨g25, hq⟩ := gP_some hq
    refine wp_irem ok dX10_ask_64 g25 ?_
    obtain ⟨v26, e27, hq⟩ := lt_some hq
    refine wp_nmI e27 ?_
    refine wp_dup2 ok dX10_ask_65 rfl rfl ?_
    obtain ⟨g28, hq⟩ := gP_some hq
    refine wp_iald ok (sh_of e f24) (ix_of (sh_of e f24) g28) dX10_ask_66 ?_
    refine wp_aload_n (v := x0) ok dX10_ask_67 rfl ?_
    refine wp_iload (v := x5) ok dX10_ask_68 rfl ?_
    obtain ⟨v29, e30, hq⟩ := bnd_some hq
    refine wp_callVI (As := [.int x5]) (rest := [.int (h.2.1 t20 v26.toNatClampNeg), .int v26, .ref t20]) (h1 := h) ok (m_X10_isSo e30 (Nat.le_refl _)) my_X10_isSo (w_1546) pd_X10_isSo (Nat.le_trans (by decide) hfr) rfl (ci := 10) rfl (by decide) (sh_of e f_x0) rfl rfl rfl dX10_ask_70 (fun e31 => ?_)
    obtain ⟨v32, e33, hq⟩ := bnd_some hq
    refine wp_callSI (As := [.int v29]) (rest := [.int (h.2.1 t20 v26.toNatClampNeg), .int v26, .ref t20]) (h1 := h) ok (m_X10_flag e33 (Nat.le_refl _)) my_X10_flag (w_1230) pd_X10_flag (Nat.le_trans (by decide) hfr) rfl rfl rfl rfl dX10_ask_73 (fun e34 => ?_)
    refine wp_iadd ok dX10_ask_76 ?_
    obtain ⟨g35, hq⟩ := gP_some hq
    refine wp_iast ok (sh_of e f24) (ix_of (sh_of e f24) g35) dX10_ask_77 ?_
    obtain ⟨h36, e37, hq⟩ := lt_some hq
    refine wp_nmH e37 ?_
    have e38 : h36.1 = h0.1 := (congrArg Prod.fst e37).trans e
    refine wp_iload (v := x4) ok dX10_ask_78 rfl ?_
    refine wp_aload_n (v := x0) ok dX10_ask_80 rfl ?_
    obtain ⟨t39, e40, hq⟩ := bnd_some hq
    obtain ⟨e41, n42, f43⟩ := rK_some e40
    replace f43 := sh_of (e38).symm f43
    refine wp_getR ok fl_RX10_104 (sh_of e38 f_x0) e41 dX10_ask_81 ?_
    refine wp_iload (v := x5) ok dX10_ask_84 rfl ?_
    refine wp_iload_n (v := x3) ok dX10_ask_86 rfl ?_
    obtain ⟨g44, hq⟩ := gP_some hq
    refine wp_irem ok dX10_ask_87 g44 ?_
    obtain ⟨g45, hq⟩ := gP_some hq
    refine wp_iald ok (sh_of e38 f43) (ix_of (sh_of e38 f43) g45) dX10_ask_88 ?_
    obtain ⟨v46, e47, hq⟩ := bnd_some hq
    refine wp_callSI (As := [.int x4, .int (h36.2.1 t39 (irm x5 x3).toNatClampNeg)]) (rest := []) (h1 := h36) ok (m_J9_max_7cf53 e47 (Nat.le_refl _)) my_J9_max_7cf53 (w_1316) pd_J9_max_7cf53 (Nat.le_trans (by decide) hfr) rfl rfl rfl rfl dX10_ask_89 (fun e48 => ?_)
    refine wp_istore (L' := [(4, .int v46), (5, .int x5), (0, .ref x0), (1, .int x1), (2, .int x2), (3, .int x3)]) ok dX10_ask_92 rfl rfl ?_
    obtain ⟨v49, e50, hq⟩ := lt_some hq
    refine wp_iinc (v := x5) (w := 1) (L' := [(5, .int v49), (4, .int v46), (0, .ref x0), (1, .int x1), (2, .int x2), (3, .int x3)]) ok dX10_ask_94 rfl (by decide) rfl (by rw [← e50]; rfl) ?_
    refine wp_goto (tgt := 49) ok dX10_ask_97 (by decide) ?_
    refine wp_sub (L' := [(4, .int v46), (5, .int v49), (0, .ref x0), (1, .int x1), (2, .int x2), (3, .int x3)]) [1, 0, 2, 3, 4, 5] rfl ?_
    exact ih v46 v49 h36 hq e38
set_option maxHeartbeats 4000000 in
set_option maxRecDepth 100000 in
theorem l_X10_ask_B49 {x : Cx} {h0 : HP} {N fr : Nat} {rr : (Int32 × HP)} (ok : Okx x cX10_ask yX10_ask.cls 6 fr) (hfr : 1 ≤ fr)  {x0 : Nat} {x1 : Int32} {x2 : Int32} {x3 : Int32} {n_x0 : Nat} (f_x0 : h0.1[x0]? = some (10, n_x0)) (hF : Fend x h0 (some (.int)) (QI rr.1 rr.2)) {k100 : Int32 → HP → Option (Int32 × HP)} (hk100 : ∀ (x4 : Int32) (h : HP), k100 x4 h = some rr → h.1 = h0.1 → wp x 100 [(4, .int x4), (0, .ref x0), (1, .int x1), (2, .int x2), (3, .int x3)] [] h) : ∀ (n : Nat) (x4 : Int32) (x5 : Int32) (h : HP), lp (fun _ _ _ => none) (f_X10_ask_B49 N x0 x1 x2 x3 k100) n x4 x5 h = some rr → h.1 = h0.1 → wp x 49 [(4, .int x4), (5, .int x5), (0, .ref x0), (1, .int x1), (2, .int x2), (3, .int x3)] [] h := by
  intro n
  induction n with
  | zero => intro x4 x5 h hq e; exact (Option.some_ne_none _ hq.symm).elim
  | succ n ih => exact s_X10_ask_B49 ok hfr f_x0 hF hk100 ih
set_option maxHeartbeats 4000000 in
set_option maxRecDepth 100000 in
theorem s_X10_ask_B14 {x : Cx} {h0 : HP} {N fr : Nat} {rr : (Int32 × HP)} (ok : Okx x cX10_ask yX10_ask.cls 6 fr) (hfr : 1 ≤ fr)  {x0 : Nat} {n_x0 : Nat} (f_x0 : h0.1[x0]? = some (10, n_x0)) (hF : Fend x h0 (some (.int)) (QI rr.1 rr.2)) {k122 : Int32 → Int32 → HP → Option (Int32 × HP)} (hk122 : ∀ (x1 : Int32) (x2 : Int32) (h : HP), k122 x1 x2 h = some rr → h.1 = h0.1 → wp x 122 [(1, .int x1), (2, .int x2), (0, .ref x0)] [] h) {rc : Int32 → Int32 → Int32 → HP → Option (Int32 × HP)} (ih : ∀ (x1 : Int32) (x2 : Int32) (x3 : Int32) (h : HP), rc x1 x2 x3 h = some rr → h.1 = h0.1 → wp x 14 [(1, .int x1), (2, .int x2), (3, .int x3), (0, .ref x0)] [] h) : ∀ (x1 : Int32) (x2 : Int32) (x3 : Int32) (h : HP), f_X10_ask_B14 N x0 k122 rc x1 x2 x3 h = some rr → h.1 = h0.1 → wp x 14 [(1, .int x1), (2, .int x2), (3, .int x3), (0, .ref x0)] [] h := by
  intro x1 x2 x3 h hq e
  unfold f_X10_ask_B14 at hq
  refine wp_iload_n (v := x3) ok dX10_ask_14 rfl ?_
  refine wp_bipush (v := 40) ok dX10_ask_15 (by decide) ?_
  refine wp_icmp_gt (tgt := 122) ok dX10_ask_17 (by decide) (fun c4 => ?_) (fun c4 => ?_)
  · have hq := ite_t c4 hq
    refine wp_sub (L' := [(1, .int x1), (2, .int x2), (0, .ref x0)]) [0, 1, 3] rfl ?_
    exact hk122 x1 x2 h hq e
  · have hq := ite_f c4 hq
    refine wp_iconst (v := 0) ok dX10_ask_20 (by decide) ?_
    refine wp_istore (L' := [(4, .int 0), (1, .int x1), (2, .int x2), (3, .int x3), (0, .ref x0)]) ok dX10_ask_21 rfl rfl ?_
    refine wp_sub (L' := [(4, .int 0), (0, .ref x0), (1, .int x1), (2, .int x2), (3, .int x3)]) [0, 4, 1, 2, 3] rfl ?_
    refine l_X10_ask_B23 ok hfr f_x0 hF ?_ N 0 h hq e
    · intro h17 hq e18
      refine wp_iconst (v := 0) ok dX10_ask_43 (by decide) ?_
      refine wp_istore (L' := [(4, .int 0), (0, .ref x0), (1, .int x1), (2, .int x2), (3, .int x3)]) ok dX10_ask_44 rfl rfl ?_
      refine wp_iconst (v := 1) ok dX10_ask_46 (by decide) ?_
      refine wp_istore (L' := [(5, .int 1), (4, .int 0), (0, .ref x0), (1, .int x1), (2, .int x2), (3, .int x3)]) ok dX10_ask_47 rfl rfl ?_
      refine wp_sub (L' := [(4, .int 0), (5, .int 1), (0, .ref x0), (1, .int x1), (2, .int x2), (3, .int x3)]) [1, 0, 2, 3, 4, 5] rfl ?_
      refine l_X10_ask_B49 ok hfr f_x0 hF ?_ N 0 1 h17 hq e18
      · intro x51 h52 hq e53
        refine wp_iload (v := x51) ok dX10_ask_100 rfl ?_
        refine wp_if_le (tgt := 116) ok dX10_ask_102 (by decide) (fun c54 => ?_) (fun c54 => ?_)
        · have hq := ite_t c54 hq
          obtain ⟨v55, e56, hq⟩ := lt_some hq
          refine wp_iinc (v := x3) (w := 1) (L' := [(3, .int v55), (4, .int x51), (0, .ref x0), (1, .int x1), (2, .int x2)]) ok dX10_ask_116 rfl (by decide) rfl (by rw [← e56]; rfl) ?_
          refine wp_goto (tgt := 14) ok dX10_ask_119 (by decide) ?_
          refine wp_sub (L' := [(1, .int x1), (2, .int x2), (3, .int v55), (0, .ref x0)]) [3, 4, 0, 2] rfl ?_
          exact ih x1 x2 v55 h52 hq e53
        · have hq := ite_f c54 hq
          refine wp_iload (v := x51) ok dX10_ask_105 rfl ?_
          refine wp_iload_n (v := x2) ok dX10_ask_107 rfl ?_
          refine wp_icmp_ge (tgt := 116) ok dX10_ask_108 (by decide) (fun c57 => ?_) (fun c57 => ?_)
          · have hq := ite_t c57 hq
            obtain ⟨v58, e59, hq⟩ := lt_some hq
            refine wp_iinc (v := x3) (w := 1) (L' := [(3, .int v58), (4, .int x51), (0, .ref x0), (1, .int x1), (2, .int x2)]) ok dX10_ask_116 rfl (by decide) rfl (by rw [← e59]; rfl) ?_
            refine wp_goto (tgt := 14) ok dX10_ask_119 (by decide) ?_
            refine wp_sub (L' := [(1, .int x1), (2, .int x2), (3, .int v58), (0, .ref x0)]) [3, 4, 0, 2] rfl ?_
            exact ih x1 x2 v58 h52 hq e53
          · have hq := ite_f c57 hq
            refine wp_iload_n (v := x3) ok dX10_ask_111 rfl ?_
            refine wp_istore_n (L' := [(1, .int x3), (4, .int x51), (0, .ref x0), (2, .int x2), (3, .int x3)]) ok dX10_ask_112 rfl rfl ?_
            refine wp_iload (v := x51) ok dX10_ask_113 rfl ?_
            refine wp_istore_n (L' := [(2, .int x51), (1, .int x3), (4, .int x51), (0, .ref x0), (3, .int x3)]) ok dX10_ask_115 rfl rfl ?_
            obtain ⟨v60, e61, hq⟩ := lt_some hq
            refine wp_iinc (v := x3) (w := 1) (L' := [(3, .int v60), (2, .int x51), (1, .int x3), (4, .int x51), (0, .ref x0)]) ok dX10_ask_116 rfl (by decide) rfl (by rw [← e61]; rfl) ?_
            refine wp_goto (tgt := 14) ok dX10_ask_119 (by decide) ?_
            refine wp_sub (L' := [(1, .int x3), (2, .int x51), (3, .int v60), (0, .ref x0)]) [2, 1, 0, 4] rfl ?_
            exact ih x3 x51 v60 h52 hq e53
set_option maxHeartbeats 4000000 in
set_option maxRecDepth 100000 in
theorem l_X10_ask_B14 {x : Cx} {h0 : HP} {N fr : Nat} {rr : (Int32 × HP)} (ok : Okx x cX10_ask yX10_ask.cls 6 fr) (hfr : 1 ≤ fr)  {x0 : Nat} {n_x0 : Nat} (f_x0 : h0.1[x0]? = some (10, n_x0)) (hF : Fend x h0 (some (.int)) (QI rr.1 rr.2)) {k122 : Int32 → Int32 → HP → Option (Int32 × HP)} (hk122 : ∀ (x1 : Int32) (x2 : Int32) (h : HP), k122 x1 x2 h = some rr → h.1 = h0.1 → wp x 122 [(1, .int x1), (2, .int x2), (0, .ref x0)] [] h) : ∀ (n : Nat) (x1 : Int32) (x2 : Int32) (x3 : Int32) (h : HP), lp (fun _ _ _ _ => none) (f_X10_ask_B14 N x0 k122) n x1 x2 x3 h = some rr → h.1 = h0.1 → wp x 14 [(1, .int x1), (2, .int x2), (3, .int x3), (0, .ref x0)] [] h := by
  intro n
  induction n with
  | zero => intro x1 x2 x3 h hq e; exact (Option.some_ne_none _ hq.symm).elim
  | succ n ih => exact s_X10_ask_B14 ok hfr f_x0 hF hk122 ih
set_option maxHeartbeats 4000000 in
set_option maxRecDepth 100000 in
theorem m_X10_ask {l : Launch} {h : HP} {N : Nat} {x0 : Nat} {rr : Int32} {rh : HP} {fr : Nat} (hq : f_X10_ask N h x0 = some (rr, rh)) (hfr : 1 ≤ fr) : Mt l yX10_ask cX10_ask 6 (some (.int)) fr [.ref x0] h (QI rr rh) := by
  obtain ⟨rp, ep⟩ : ∃ rp : (Int32 × HP), rp = (rr, rh) := ⟨_, rfl⟩
  have e1p : rr = rp.1 := (congrArg Prod.fst ep).symm
  have e2p : rh = rp.2 := (congrArg Prod.snd ep).symm
  rw [← ep] at hq
  rw [e1p, e2p]
  clear e1p e2p ep
  refine Mt.of (by decide +kernel) (Nat.le_of_ble_eq_true rfl) (fun x hl ok hF => ?_)
  subst hl
  show wp x 0 [(0, .ref x0)] [] h
  unfold f_X10_ask at hq
  obtain ⟨h0, eh0⟩ : ∃ h0 : HP, h = h0 := ⟨h, rfl⟩
  have e : h.1 = h0.1 := by rw [eh0]
  rw [eh0] at hF
  obtain ⟨g_x0, hq⟩ := gP_some hq
  obtain ⟨n_x0, f_x0⟩ := kO_some g_x0
  replace f_x0 := sh_of e.symm f_x0
  refine wp_aload_n (v := x0) ok dX10_ask_0 rfl ?_
  refine wp_iconst (v := 0) ok dX10_ask_1 (by decide) ?_
  refine wp_putI ok flw_RX10_3 (nr_10_0 _) (sh_of e f_x0) dX10_ask_2 ?_
  obtain ⟨h1, e2, hq⟩ := lt_some hq
  refine wp_nmH e2 ?_
  have e3 : h1.1 = h0.1 := (congrArg Prod.fst e2).trans e
  refine wp_bipush (v := -2) ok dX10_ask_5 (by decide) ?_
  refine wp_istore_n (L' := [(1, .int (-2)), (0, .ref x0)]) ok dX10_ask_7 rfl rfl ?_
  refine wp_ldcw (v := 2000000000) ok (w_1478) dX10_ask_8 ?_
  refine wp_istore_n (L' := [(2, .int 2000000000), (1, .int (-2)), (0, .ref x0)]) ok dX10_ask_11 rfl rfl ?_
  refine wp_iconst (v := 2) ok dX10_ask_12 (by decide) ?_
  refine wp_istore_n (L' := [(3, .int 2), (2, .int 2000000000), (1, .int (-2)), (0, .ref x0)]) ok dX10_ask_13 rfl rfl ?_
  refine wp_sub (L' := [(1, .int (-2)), (2, .int 2000000000), (3, .int 2), (0, .ref x0)]) [2, 1, 0, 3] rfl ?_
  refine l_X10_ask_B14 ok hfr f_x0 hF ?_ N (-2) 2000000000 2 h1 hq e3
  · intro x62 x63 h64 hq e65
    refine wp_iload_n (v := x62) ok dX10_ask_122 rfl ?_
    refine wp_if_le (tgt := 137) ok dX10_ask_123 (by decide) (fun c66 => ?_) (fun c66 => ?_)
    · have hq := ite_t c66 hq
      refine wp_iload_n (v := x62) ok dX10_ask_137 rfl ?_
      exact wp_iret ok hF rfl e65 (re2I hq) dX10_ask_138
    · have hq := ite_f c66 hq
      refine wp_aload_n (v := x0) ok dX10_ask_126 rfl ?_
      refine wp_iconst (v := 0) ok dX10_ask_127 (by decide) ?_
      refine wp_putI ok flw_RX10_15 (nr_10_1 _) (sh_of e65 f_x0) dX10_ask_128 ?_
      obtain ⟨h67, e68, hq⟩ := lt_some hq
      refine wp_nmH e68 ?_
      have e69 : h67.1 = h0.1 := (congrArg Prod.fst e68).trans e65
      refine wp_aload_n (v := x0) ok dX10_ask_131 rfl ?_
      refine wp_iload_n (v := x63) ok dX10_ask_132 rfl ?_
      refine wp_i2l ok dX10_ask_133 ?_
      obtain ⟨h70, e71, hq⟩ := bnd_some hq
      refine wp_callVV (As := [.long (x63.toInt64)]) (rest := []) (h1 := h70) ok (m_X10_enters e71 (Nat.le_refl _)) my_X10_enters (w_1347) pd_X10_enters (Nat.le_trans (by decide) hfr) rfl (ci := 10) rfl (by decide) (sh_of e69 f_x0) rfl rfl rfl dX10_ask_134 (fun e72 => ?_)
      have e73 : h70.1 = h0.1 := (e72).trans e69
      refine wp_iload_n (v := x62) ok dX10_ask_137 rfl ?_
      exact wp_iret ok hF rfl e73 (re2I hq) dX10_ask_138
set_option maxHeartbeats 4000000 in
set_option maxRecDepth 100000 in
theorem s_X10_sound_B51 {x : Cx} {h0 : HP} {N fr : Nat} {rr : (Int32 × HP)} (ok : Okx x cX10_sound yX10_sound.cls 9 fr) (hfr : (1 * N + 2) ≤ fr)  {x0 : Nat} {x2 : Int32} {x3 : Int32} {h : HP} (e : h.1 = h0.1) {n_x0 : Nat} (f_x0 : h0.1[x0]? = some (10, n_x0)) (hF : Fend x h0 (some (.int)) (QI rr.1 rr.2)) {k81 : Int64 → Int64 → Option (Int32 × HP)} (hk81 : ∀ (x4 : Int64) (x6 : Int64), k81 x4 x6 = some rr → wp x 81 [(4, .long x4), (6, .long x6), (0, .ref x0)] [] h) {rc : Int64 → Int64 → Int32 → Option (Int32 × HP)} (ih : ∀ (x4 : Int64) (x6 : Int64) (x8 : Int32), rc x4 x6 x8 = some rr → wp x 51 [(4, .long x4), (6, .long x6), (8, .int x8), (0, .ref x0), (2, .int x2), (3, .int x3)] [] h) : ∀ (x4 : Int64) (x6 : Int64) (x8 : Int32), f_X10_sound_B51 N x0 x2 x3 h k81 rc x4 x6 x8 = some rr → wp x 51 [(4, .long x4), (6, .long x6), (8, .int x8), (0, .ref x0), (2, .int x2), (3, .int x3)] [] h := by
  intro x4 x6 x8 hq
  unfold f_X10_sound_B51 at hq
  refine wp_iload (v := x8) ok dX10_sound_51 rfl ?_
  refine wp_iload_n (v := x2) ok dX10_sound_53 rfl ?_
  refine wp_icmp_ge (tgt := 81) ok dX10_sound_54 (by decide) (fun c16 => ?_) (fun c16 => ?_)
  · have hq := ite_t c16 hq
    refine wp_sub (L' := [(4, .long x4), (6, .long x6), (0, .ref x0)]) [0, 1, 3] rfl ?_
    exact hk81 x4 x6 hq
  · have hq := ite_f c16 hq
    refine wp_lload (v := x4) ok dX10_sound_57 rfl ?_
    refine wp_bipush (v := 10) ok dX10_sound_59 (by decide) ?_
    refine wp_iload_n (v := x3) ok dX10_sound_61 rfl ?_
    refine wp_isub ok dX10_sound_62 ?_
    refine wp_i2l ok dX10_sound_63 ?_
    refine wp_lmul ok dX10_sound_64 ?_
    obtain ⟨v17, e18, hq⟩ := lt_some hq
    refine wp_nmJ e18 ?_
    refine wp_lstore (L' := [(4, .long v17), (6, .long x6), (8, .int x8), (0, .ref x0), (2, .int x2), (3, .int x3)]) ok dX10_sound_65 rfl rfl ?_
    refine wp_lload (v := x6) ok dX10_sound_67 rfl ?_
    refine wp_ldc2 (v := 10) ok (w_1558) dX10_sound_69 ?_
    refine wp_lmul ok dX10_sound_72 ?_
    obtain ⟨v19, e20, hq⟩ := lt_some hq
    refine wp_nmJ e20 ?_
    refine wp_lstore (L' := [(6, .long v19), (4, .long v17), (8, .int x8), (0, .ref x0), (2, .int x2), (3, .int x3)]) ok dX10_sound_73 rfl rfl ?_
    obtain ⟨v21, e22, hq⟩ := lt_some hq
    refine wp_iinc (v := x8) (w := 1) (L' := [(8, .int v21), (6, .long v19), (4, .long v17), (0, .ref x0), (2, .int x2), (3, .int x3)]) ok dX10_sound_75 rfl (by decide) rfl (by rw [← e22]; rfl) ?_
    refine wp_goto (tgt := 51) ok dX10_sound_78 (by decide) ?_
    refine wp_sub (L' := [(4, .long v17), (6, .long v19), (8, .int v21), (0, .ref x0), (2, .int x2), (3, .int x3)]) [2, 1, 0, 3, 4, 5] rfl ?_
    exact ih v17 v19 v21 hq
set_option maxHeartbeats 4000000 in
set_option maxRecDepth 100000 in
theorem l_X10_sound_B51 {x : Cx} {h0 : HP} {N fr : Nat} {rr : (Int32 × HP)} (ok : Okx x cX10_sound yX10_sound.cls 9 fr) (hfr : (1 * N + 2) ≤ fr)  {x0 : Nat} {x2 : Int32} {x3 : Int32} {h : HP} (e : h.1 = h0.1) {n_x0 : Nat} (f_x0 : h0.1[x0]? = some (10, n_x0)) (hF : Fend x h0 (some (.int)) (QI rr.1 rr.2)) {k81 : Int64 → Int64 → Option (Int32 × HP)} (hk81 : ∀ (x4 : Int64) (x6 : Int64), k81 x4 x6 = some rr → wp x 81 [(4, .long x4), (6, .long x6), (0, .ref x0)] [] h) : ∀ (n : Nat) (x4 : Int64) (x6 : Int64) (x8 : Int32), lp (fun _ _ _ => none) (f_X10_sound_B51 N x0 x2 x3 h k81) n x4 x6 x8 = some rr → wp x 51 [(4, .long x4), (6, .long x6), (8, .int x8), (0, .ref x0), (2, .int x2), (3, .int x3)] [] h := by
  intro n
  induction n with
  | zero => intro x4 x6 x8 hq; exact (Option.some_ne_none _ hq.symm).elim
  | succ n ih => exact s_X10_sound_B51 ok hfr e f_x0 hF hk81 ih
set_option maxHeartbeats 4000000 in
set_option maxRecDepth 100000 in
theorem m_X10_sound {l : Launch} {h : HP} {N : Nat} {x0 : Nat} {x1 : Int32} {x2 : Int32} {x3 : Int32} {rr : Int32} {rh : HP} {fr : Nat} (hq : f_X10_sound N h x0 x1 x2 x3 = some (rr, rh)) (hfr : (1 * N + 2) ≤ fr) : Mt l yX10_sound cX10_sound 9 (some (.int)) fr [.ref x0, .int x1, .int x2, .int x3] h (QI rr rh) := by
  obtain ⟨rp, ep⟩ : ∃ rp : (Int32 × HP), rp = (rr, rh) := ⟨_, rfl⟩
  have e1p : rr = rp.1 := (congrArg Prod.fst ep).symm
  have e2p : rh = rp.2 := (congrArg Prod.snd ep).symm
  rw [← ep] at hq
  rw [e1p, e2p]
  clear e1p e2p ep
  refine Mt.of (by decide +kernel) (Nat.le_of_ble_eq_true rfl) (fun x hl ok hF => ?_)
  subst hl
  show wp x 0 [(0, .ref x0), (1, .int x1), (2, .int x2), (3, .int x3)] [] h
  unfold f_X10_sound at hq
  obtain ⟨h0, eh0⟩ : ∃ h0 : HP, h = h0 := ⟨h, rfl⟩
  have e : h.1 = h0.1 := by rw [eh0]
  rw [eh0] at hF
  obtain ⟨g_x0, hq⟩ := gP_some hq
  obtain ⟨n_x0, f_x0⟩ := kO_some g_x0
  replace f_x0 := sh_of e.symm f_x0
  refine wp_aload_n (v := x0) ok dX10_sound_0 rfl ?_
  refine wp_iconst (v := 0) ok dX10_sound_1 (by decide) ?_
  refine wp_putI ok flw_RX10_3 (nr_10_0 _) (sh_of e f_x0) dX10_sound_2 ?_
  obtain ⟨h1, e2, hq⟩ := lt_some hq
  refine wp_nmH e2 ?_
  have e3 : h1.1 = h0.1 := (congrArg Prod.fst e2).trans e
  refine wp_iload_n (v := x1) ok dX10_sound_5 rfl ?_
  refine wp_i2l ok dX10_sound_6 ?_
  refine wp_lconst (v := 1) ok dX10_sound_7 (by decide) ?_
  refine wp_ldc2 (v := 10) ok (w_1558) dX10_sound_8 ?_
  obtain ⟨v4, e5, hq⟩ := bnd_some hq
  refine wp_callSI (As := [.long (x1.toInt64), .long 1, .long 10]) (rest := []) (h1 := h1) ok (m_X10_in e5 (Nat.le_refl _)) my_X10_in (w_1200) pd_X10_in (by omega) rfl rfl rfl rfl dX10_sound_11 (fun e6 => ?_)
  refine wp_if_eq (tgt := 40) ok dX10_sound_14 (by decide) (fun c7 => ?_) (fun c7 => ?_)
  · have hq := ite_t c7 hq
    refine wp_iconst (v := -1) ok dX10_sound_40 (by decide) ?_
    exact wp_iret ok hF rfl e3 (re2I hq) dX10_sound_41
  · have hq := ite_f c7 hq
    refine wp_iload_n (v := x2) ok dX10_sound_17 rfl ?_
    refine wp_i2l ok dX10_sound_18 ?_
    refine wp_lconst (v := 0) ok dX10_sound_19 (by decide) ?_
    refine wp_iload_n (v := x1) ok dX10_sound_20 rfl ?_
    refine wp_i2l ok dX10_sound_21 ?_
    obtain ⟨v8, e9, hq⟩ := bnd_some hq
    refine wp_callSI (As := [.long (x2.toInt64), .long 0, .long (x1.toInt64)]) (rest := []) (h1 := h1) ok (m_X10_in e9 (Nat.le_refl _)) my_X10_in (w_1200) pd_X10_in (by omega) rfl rfl rfl rfl dX10_sound_22 (fun e10 => ?_)
    refine wp_if_eq (tgt := 40) ok dX10_sound_25 (by decide) (fun c11 => ?_) (fun c11 => ?_)
    · have hq := ite_t c11 hq
      refine wp_iconst (v := -1) ok dX10_sound_40 (by decide) ?_
      exact wp_iret ok hF rfl e3 (re2I hq) dX10_sound_41
    · have hq := ite_f c11 hq
      refine wp_iload_n (v := x3) ok dX10_sound_28 rfl ?_
      refine wp_i2l ok dX10_sound_29 ?_
      refine wp_lconst (v := 0) ok dX10_sound_30 (by decide) ?_
      refine wp_ldc2 (v := 10) ok (w_1558) dX10_sound_31 ?_
      obtain ⟨v12, e13, hq⟩ := bnd_some hq
      refine wp_callSI (As := [.long (x3.toInt64), .long 0, .long 10]) (rest := []) (h1 := h1) ok (m_X10_in e13 (Nat.le_refl _)) my_X10_in (w_1200) pd_X10_in (by omega) rfl rfl rfl rfl dX10_sound_34 (fun e14 => ?_)
      refine wp_if_ne (tgt := 42) ok dX10_sound_37 (by decide) (fun c15 => ?_) (fun c15 => ?_)
      · have hq := ite_f c15 hq
        refine wp_lconst (v := 1) ok dX10_sound_42 (by decide) ?_
        refine wp_lstore (L' := [(4, .long 1), (0, .ref x0), (1, .int x1), (2, .int x2), (3, .int x3)]) ok dX10_sound_43 rfl rfl ?_
        refine wp_lconst (v := 1) ok dX10_sound_45 (by decide) ?_
        refine wp_lstore (L' := [(6, .long 1), (4, .long 1), (0, .ref x0), (1, .int x1), (2, .int x2), (3, .int x3)]) ok dX10_sound_46 rfl rfl ?_
        refine wp_iconst (v := 0) ok dX10_sound_48 (by decide) ?_
        refine wp_istore (L' := [(8, .int 0), (6, .long 1), (4, .long 1), (0, .ref x0), (1, .int x1), (2, .int x2), (3, .int x3)]) ok dX10_sound_49 rfl rfl ?_
        refine wp_sub (L' := [(4, .long 1), (6, .long 1), (8, .int 0), (0, .ref x0), (2, .int x2), (3, .int x3)]) [2, 1, 0, 3, 5, 6] rfl ?_
        refine l_X10_sound_B51 ok hfr e3 f_x0 hF ?_ N 1 1 0 hq
        · intro x23 x24 hq
          refine wp_aload_n (v := x0) ok dX10_sound_81 rfl ?_
          refine wp_lload (v := x23) ok dX10_sound_82 rfl ?_
          refine wp_lload (v := x24) ok dX10_sound_84 rfl ?_
          obtain ⟨h25, e26, hq⟩ := bnd_some hq
          refine wp_callVV (As := [.long x23, .long x24]) (rest := []) (h1 := h25) ok (m_X10_tellsFraction e26 (Nat.le_refl _)) my_X10_tellsFraction (w_1559) pd_X10_tellsFraction (by omega) rfl (ci := 10) rfl (by decide) (sh_of e3 f_x0) rfl rfl rfl dX10_sound_86 (fun e27 => ?_)
          have e28 : h25.1 = h0.1 := (e27).trans e3
          refine wp_iconst (v := 0) ok dX10_sound_89 (by decide) ?_
          exact wp_iret ok hF rfl e28 (re2I hq) dX10_sound_90
      · have hq := ite_t c15 hq
        refine wp_iconst (v := -1) ok dX10_sound_40 (by decide) ?_
        exact wp_iret ok hF rfl e3 (re2I hq) dX10_sound_41
set_option maxHeartbeats 4000000 in
set_option maxRecDepth 100000 in
theorem s_X10_finds_B50 {x : Cx} {h0 : HP} {N fr : Nat} {rr : (Int32 × HP)} (ok : Okx x cX10_finds yX10_finds.cls 11 fr) (hfr : (1 * N + 2) ≤ fr)  {x0 : Nat} {x1 : Int32} {x2 : Int32} {x3 : Int32} {h : HP} (e : h.1 = h0.1) {n_x0 : Nat} (f_x0 : h0.1[x0]? = some (10, n_x0)) (hF : Fend x h0 (some (.int)) (QI rr.1 rr.2)) {k111 : Int64 → Int64 → Option (Int32 × HP)} (hk111 : ∀ (x4 : Int64) (x6 : Int64), k111 x4 x6 = some rr → wp x 111 [(4, .long x4), (6, .long x6), (0, .ref x0)] [] h) {rc : Int64 → Int64 → Int32 → Option (Int32 × HP)} (ih : ∀ (x4 : Int64) (x6 : Int64) (x8 : Int32), rc x4 x6 x8 = some rr → wp x 50 [(4, .long x4), (6, .long x6), (8, .int x8), (0, .ref x0), (1, .int x1), (2, .int x2), (3, .int x3)] [] h) : ∀ (x4 : Int64) (x6 : Int64) (x8 : Int32), f_X10_finds_B50 N x0 x1 x2 x3 h k111 rc x4 x6 x8 = some rr → wp x 50 [(4, .long x4), (6, .long x6), (8, .int x8), (0, .ref x0), (1, .int x1), (2, .int x2), (3, .int x3)] [] h := by
  intro x4 x6 x8 hq
  unfold f_X10_finds_B50 at hq
  refine wp_iload (v := x8) ok dX10_finds_50 rfl ?_
  refine wp_iload_n (v := x3) ok dX10_finds_52 rfl ?_
  refine wp_icmp_ge (tgt := 111) ok dX10_finds_53 (by decide) (fun c16 => ?_) (fun c16 => ?_)
  · have hq := ite_t c16 hq
    refine wp_sub (L' := [(4, .long x4), (6, .long x6), (0, .ref x0)]) [0, 1, 3] rfl ?_
    exact hk111 x4 x6 hq
  · have hq := ite_f c16 hq
    refine wp_lload (v := x4) ok dX10_finds_56 rfl ?_
    refine wp_iconst (v := 0) ok dX10_finds_58 (by decide) ?_
    refine wp_iload_n (v := x1) ok dX10_finds_59 rfl ?_
    refine wp_iload_n (v := x2) ok dX10_finds_60 rfl ?_
    refine wp_isub ok dX10_finds_61 ?_
    refine wp_iload (v := x8) ok dX10_finds_62 rfl ?_
    refine wp_isub ok dX10_finds_64 ?_
    obtain ⟨v17, e18, hq⟩ := bnd_some hq
    refine wp_callSI (As := [.int 0, .int ((x1 - x2) - x8)]) (rest := [.long x4]) (h1 := h) ok (m_J9_max_7cf53 e18 (Nat.le_refl _)) my_J9_max_7cf53 (w_1316) pd_J9_max_7cf53 (by omega) rfl rfl rfl rfl dX10_finds_65 (fun e19 => ?_)
    refine wp_i2l ok dX10_finds_68 ?_
    refine wp_lmul ok dX10_finds_69 ?_
    obtain ⟨v20, e21, hq⟩ := lt_some hq
    refine wp_nmJ e21 ?_
    refine wp_lstore (L' := [(4, .long v20), (6, .long x6), (8, .int x8), (0, .ref x0), (1, .int x1), (2, .int x2), (3, .int x3)]) ok dX10_finds_70 rfl rfl ?_
    refine wp_lload (v := x6) ok dX10_finds_72 rfl ?_
    refine wp_iload_n (v := x1) ok dX10_finds_74 rfl ?_
    refine wp_iload (v := x8) ok dX10_finds_75 rfl ?_
    refine wp_isub ok dX10_finds_77 ?_
    refine wp_i2l ok dX10_finds_78 ?_
    refine wp_lmul ok dX10_finds_79 ?_
    obtain ⟨v22, e23, hq⟩ := lt_some hq
    refine wp_nmJ e23 ?_
    refine wp_lstore (L' := [(6, .long v22), (4, .long v20), (8, .int x8), (0, .ref x0), (1, .int x1), (2, .int x2), (3, .int x3)]) ok dX10_finds_80 rfl rfl ?_
    refine wp_lload (v := v20) ok dX10_finds_82 rfl ?_
    refine wp_lload (v := v22) ok dX10_finds_84 rfl ?_
    obtain ⟨v24, e25, hq⟩ := bnd_some hq
    refine wp_callSJ (As := [.long v20, .long v22]) (rest := []) (h1 := h) ok (m_X10_common e25 (Nat.le_refl _)) my_X10_common (w_1563) pd_X10_common (by omega) rfl rfl rfl rfl dX10_finds_86 (fun e26 => ?_)
    refine wp_lstore (L' := [(9, .long v24), (6, .long v22), (4, .long v20), (8, .int x8), (0, .ref x0), (1, .int x1), (2, .int x2), (3, .int x3)]) ok dX10_finds_89 rfl rfl ?_
    refine wp_lload (v := v20) ok dX10_finds_91 rfl ?_
    refine wp_lload (v := v24) ok dX10_finds_93 rfl ?_
    obtain ⟨g27, hq⟩ := gP_some hq
    refine wp_ldiv ok dX10_finds_95 g27 ?_
    obtain ⟨v28, e29, hq⟩ := lt_some hq
    refine wp_nmJ e29 ?_
    refine wp_lstore (L' := [(4, .long v28), (9, .long v24), (6, .long v22), (8, .int x8), (0, .ref x0), (1, .int x1), (2, .int x2), (3, .int x3)]) ok dX10_finds_96 rfl rfl ?_
    refine wp_lload (v := v22) ok dX10_finds_98 rfl ?_
    refine wp_lload (v := v24) ok dX10_finds_100 rfl ?_
    obtain ⟨g30, hq⟩ := gP_some hq
    refine wp_ldiv ok dX10_finds_102 g30 ?_
    obtain ⟨v31, e32, hq⟩ := lt_some hq
    refine wp_nmJ e32 ?_
    refine wp_lstore (L' := [(6, .long v31), (4, .long v28), (9, .long v24), (8, .int x8), (0, .ref x0), (1, .int x1), (2, .int x2), (3, .int x3)]) ok dX10_finds_103 rfl rfl ?_
    obtain ⟨v33, e34, hq⟩ := lt_some hq
    refine wp_iinc (v := x8) (w := 1) (L' := [(8, .int v33), (6, .long v31), (4, .long v28), (9, .long v24), (0, .ref x0), (1, .int x1), (2, .int x2), (3, .int x3)]) ok dX10_finds_105 rfl (by decide) rfl (by rw [← e34]; rfl) ?_
    refine wp_goto (tgt := 50) ok dX10_finds_108 (by decide) ?_
    refine wp_sub (L' := [(4, .long v28), (6, .long v31), (8, .int v33), (0, .ref x0), (1, .int x1), (2, .int x2), (3, .int x3)]) [2, 1, 0, 4, 5, 6, 7] rfl ?_
    exact ih v28 v31 v33 hq
set_option maxHeartbeats 4000000 in
set_option maxRecDepth 100000 in
theorem l_X10_finds_B50 {x : Cx} {h0 : HP} {N fr : Nat} {rr : (Int32 × HP)} (ok : Okx x cX10_finds yX10_finds.cls 11 fr) (hfr : (1 * N + 2) ≤ fr)  {x0 : Nat} {x1 : Int32} {x2 : Int32} {x3 : Int32} {h : HP} (e : h.1 = h0.1) {n_x0 : Nat} (f_x0 : h0.1[x0]? = some (10, n_x0)) (hF : Fend x h0 (some (.int)) (QI rr.1 rr.2)) {k111 : Int64 → Int64 → Option (Int32 × HP)} (hk111 : ∀ (x4 : Int64) (x6 : Int64), k111 x4 x6 = some rr → wp x 111 [(4, .long x4), (6, .long x6), (0, .ref x0)] [] h) : ∀ (n : Nat) (x4 : Int64) (x6 : Int64) (x8 : Int32), lp (fun _ _ _ => none) (f_X10_finds_B50 N x0 x1 x2 x3 h k111) n x4 x6 x8 = some rr → wp x 50 [(4, .long x4), (6, .long x6), (8, .int x8), (0, .ref x0), (1, .int x1), (2, .int x2), (3, .int x3)] [] h := by
  intro n
  induction n with
  | zero => intro x4 x6 x8 hq; exact (Option.some_ne_none _ hq.symm).elim
  | succ n ih => exact s_X10_finds_B50 ok hfr e f_x0 hF hk111 ih
set_option maxHeartbeats 4000000 in
set_option maxRecDepth 100000 in
theorem m_X10_finds {l : Launch} {h : HP} {N : Nat} {x0 : Nat} {x1 : Int32} {x2 : Int32} {x3 : Int32} {rr : Int32} {rh : HP} {fr : Nat} (hq : f_X10_finds N h x0 x1 x2 x3 = some (rr, rh)) (hfr : (1 * N + 2) ≤ fr) : Mt l yX10_finds cX10_finds 11 (some (.int)) fr [.ref x0, .int x1, .int x2, .int x3] h (QI rr rh) := by
  obtain ⟨rp, ep⟩ : ∃ rp : (Int32 × HP), rp = (rr, rh) := ⟨_, rfl⟩
  have e1p : rr = rp.1 := (congrArg Prod.fst ep).symm
  have e2p : rh = rp.2 := (congrArg Prod.snd ep).symm
  rw [← ep] at hq
  rw [e1p, e2p]
  clear e1p e2p ep
  refine Mt.of (by decide +kernel) (Nat.le_of_ble_eq_true rfl) (fun x hl ok hF => ?_)
  subst hl
  show wp x 0 [(0, .ref x0), (1, .int x1), (2, .int x2), (3, .int x3)] [] h
  unfold f_X10_finds at hq
  obtain ⟨h0, eh0⟩ : ∃ h0 : HP, h = h0 := ⟨h, rfl⟩
  have e : h.1 = h0.1 := by rw [eh0]
  rw [eh0] at hF
  obtain ⟨g_x0, hq⟩ := gP_some hq
  obtain ⟨n_x0, f_x0⟩ := kO_some g_x0
  replace f_x0 := sh_of e.symm f_x0
  refine wp_aload_n (v := x0) ok dX10_finds_0 rfl ?_
  refine wp_iconst (v := 0) ok dX10_finds_1 (by decide) ?_
  refine wp_putI ok flw_RX10_3 (nr_10_0 _) (sh_of e f_x0) dX10_finds_2 ?_
  obtain ⟨h1, e2, hq⟩ := lt_some hq
  refine wp_nmH e2 ?_
  have e3 : h1.1 = h0.1 := (congrArg Prod.fst e2).trans e
  refine wp_iload_n (v := x1) ok dX10_finds_5 rfl ?_
  refine wp_i2l ok dX10_finds_6 ?_
  refine wp_lconst (v := 1) ok dX10_finds_7 (by decide) ?_
  refine wp_ldc2 (v := 30) ok (w_1570) dX10_finds_8 ?_
  obtain ⟨v4, e5, hq⟩ := bnd_some hq
  refine wp_callSI (As := [.long (x1.toInt64), .long 1, .long 30]) (rest := []) (h1 := h1) ok (m_X10_in e5 (Nat.le_refl _)) my_X10_in (w_1200) pd_X10_in (by omega) rfl rfl rfl rfl dX10_finds_11 (fun e6 => ?_)
  refine wp_if_eq (tgt := 39) ok dX10_finds_14 (by decide) (fun c7 => ?_) (fun c7 => ?_)
  · have hq := ite_t c7 hq
    refine wp_iconst (v := -1) ok dX10_finds_39 (by decide) ?_
    exact wp_iret ok hF rfl e3 (re2I hq) dX10_finds_40
  · have hq := ite_f c7 hq
    refine wp_iload_n (v := x2) ok dX10_finds_17 rfl ?_
    refine wp_i2l ok dX10_finds_18 ?_
    refine wp_lconst (v := 0) ok dX10_finds_19 (by decide) ?_
    refine wp_iload_n (v := x1) ok dX10_finds_20 rfl ?_
    refine wp_i2l ok dX10_finds_21 ?_
    obtain ⟨v8, e9, hq⟩ := bnd_some hq
    refine wp_callSI (As := [.long (x2.toInt64), .long 0, .long (x1.toInt64)]) (rest := []) (h1 := h1) ok (m_X10_in e9 (Nat.le_refl _)) my_X10_in (w_1200) pd_X10_in (by omega) rfl rfl rfl rfl dX10_finds_22 (fun e10 => ?_)
    refine wp_if_eq (tgt := 39) ok dX10_finds_25 (by decide) (fun c11 => ?_) (fun c11 => ?_)
    · have hq := ite_t c11 hq
      refine wp_iconst (v := -1) ok dX10_finds_39 (by decide) ?_
      exact wp_iret ok hF rfl e3 (re2I hq) dX10_finds_40
    · have hq := ite_f c11 hq
      refine wp_iload_n (v := x3) ok dX10_finds_28 rfl ?_
      refine wp_i2l ok dX10_finds_29 ?_
      refine wp_lconst (v := 0) ok dX10_finds_30 (by decide) ?_
      refine wp_iload_n (v := x1) ok dX10_finds_31 rfl ?_
      refine wp_i2l ok dX10_finds_32 ?_
      obtain ⟨v12, e13, hq⟩ := bnd_some hq
      refine wp_callSI (As := [.long (x3.toInt64), .long 0, .long (x1.toInt64)]) (rest := []) (h1 := h1) ok (m_X10_in e13 (Nat.le_refl _)) my_X10_in (w_1200) pd_X10_in (by omega) rfl rfl rfl rfl dX10_finds_33 (fun e14 => ?_)
      refine wp_if_ne (tgt := 41) ok dX10_finds_36 (by decide) (fun c15 => ?_) (fun c15 => ?_)
      · have hq := ite_f c15 hq
        refine wp_lconst (v := 1) ok dX10_finds_41 (by decide) ?_
        refine wp_lstore (L' := [(4, .long 1), (0, .ref x0), (1, .int x1), (2, .int x2), (3, .int x3)]) ok dX10_finds_42 rfl rfl ?_
        refine wp_lconst (v := 1) ok dX10_finds_44 (by decide) ?_
        refine wp_lstore (L' := [(6, .long 1), (4, .long 1), (0, .ref x0), (1, .int x1), (2, .int x2), (3, .int x3)]) ok dX10_finds_45 rfl rfl ?_
        refine wp_iconst (v := 0) ok dX10_finds_47 (by decide) ?_
        refine wp_istore (L' := [(8, .int 0), (6, .long 1), (4, .long 1), (0, .ref x0), (1, .int x1), (2, .int x2), (3, .int x3)]) ok dX10_finds_48 rfl rfl ?_
        refine wp_sub (L' := [(4, .long 1), (6, .long 1), (8, .int 0), (0, .ref x0), (1, .int x1), (2, .int x2), (3, .int x3)]) [2, 1, 0, 3, 4, 5, 6] rfl ?_
        refine l_X10_finds_B50 ok hfr e3 f_x0 hF ?_ N 1 1 0 hq
        · intro x35 x36 hq
          refine wp_aload_n (v := x0) ok dX10_finds_111 rfl ?_
          refine wp_lload (v := x36) ok dX10_finds_112 rfl ?_
          refine wp_lload (v := x35) ok dX10_finds_114 rfl ?_
          refine wp_lsub ok dX10_finds_116 ?_
          refine wp_lload (v := x36) ok dX10_finds_117 rfl ?_
          obtain ⟨h37, e38, hq⟩ := bnd_some hq
          refine wp_callVV (As := [.long (x36 - x35), .long x36]) (rest := []) (h1 := h37) ok (m_X10_tellsFraction e38 (Nat.le_refl _)) my_X10_tellsFraction (w_1559) pd_X10_tellsFraction (by omega) rfl (ci := 10) rfl (by decide) (sh_of e3 f_x0) rfl rfl rfl dX10_finds_119 (fun e39 => ?_)
          have e40 : h37.1 = h0.1 := (e39).trans e3
          refine wp_iconst (v := 0) ok dX10_finds_122 (by decide) ?_
          exact wp_iret ok hF rfl e40 (re2I hq) dX10_finds_123
      · have hq := ite_t c15 hq
        refine wp_iconst (v := -1) ok dX10_finds_39 (by decide) ?_
        exact wp_iret ok hF rfl e3 (re2I hq) dX10_finds_40
set_option maxHeartbeats 4000000 in
set_option maxRecDepth 100000 in
theorem s_X10_priceAll_B4 {x : Cx} {h0 : HP} {N fr : Nat} {rr : (Int32 × HP)} (ok : Okx x cX10_priceAll yX10_priceAll.cls 3 fr) (hfr : 5 ≤ fr)  {x0 : Nat} {n_x0 : Nat} (f_x0 : h0.1[x0]? = some (10, n_x0)) (hF : Fend x h0 (some (.int)) (QI rr.1 rr.2)) {rc : Int32 → Int32 → HP → Option (Int32 × HP)} (ih : ∀ (x1 : Int32) (x2 : Int32) (h : HP), rc x1 x2 h = some rr → h.1 = h0.1 → wp x 4 [(1, .int x1), (2, .int x2), (0, .ref x0)] [] h) : ∀ (x1 : Int32) (x2 : Int32) (h : HP), f_X10_priceAll_B4 N x0 rc x1 x2 h = some rr → h.1 = h0.1 → wp x 4 [(1, .int x1), (2, .int x2), (0, .ref x0)] [] h := by
  intro x1 x2 h hq e
  unfold f_X10_priceAll_B4 at hq
  refine wp_iload_n (v := x2) ok dX10_priceAll_4 rfl ?_
  refine wp_aload_n (v := x0) ok dX10_priceAll_5 rfl ?_
  refine wp_getI ok fl_RX10_120 (sh_of e f_x0) dX10_priceAll_6 ?_
  refine wp_icmp_ge (tgt := 30) ok dX10_priceAll_9 (by decide) (fun c1 => ?_) (fun c1 => ?_)
  · have hq := ite_t c1 hq
    refine wp_iload_n (v := x1) ok dX10_priceAll_30 rfl ?_
    exact wp_iret ok hF rfl e (re2I hq) dX10_priceAll_31
  · have hq := ite_f c1 hq
    refine wp_iload_n (v := x1) ok dX10_priceAll_12 rfl ?_
    refine wp_aload_n (v := x0) ok dX10_priceAll_13 rfl ?_
    refine wp_aload_n (v := x0) ok dX10_priceAll_14 rfl ?_
    obtain ⟨t2, e3, hq⟩ := bnd_some hq
    obtain ⟨e4, n5, f6⟩ := rK_some e3
    replace f6 := sh_of (e).symm f6
    refine wp_getR ok fl_RX10_41 (sh_of e f_x0) e4 dX10_priceAll_15 ?_
    refine wp_iload_n (v := x2) ok dX10_priceAll_18 rfl ?_
    obtain ⟨v7, h9, e8, hq⟩ := bnd2_some hq
    refine wp_callVI (As := [.ref t2, .int x2]) (rest := [.int x1]) (h1 := h9) ok (m_X10_priceOf e8 (Nat.le_refl _)) my_X10_priceOf (w_1297) pd_X10_priceOf (Nat.le_trans (by decide) hfr) rfl (ci := 10) rfl (by decide) (sh_of e f_x0) rfl rfl rfl dX10_priceAll_19 (fun e10 => ?_)
    have e11 : h9.1 = h0.1 := (e10).trans e
    refine wp_iadd ok dX10_priceAll_22 ?_
    obtain ⟨v12, e13, hq⟩ := lt_some hq
    refine wp_nmI e13 ?_
    refine wp_istore_n (L' := [(1, .int v12), (2, .int x2), (0, .ref x0)]) ok dX10_priceAll_23 rfl rfl ?_
    obtain ⟨v14, e15, hq⟩ := lt_some hq
    refine wp_iinc (v := x2) (w := 1) (L' := [(2, .int v14), (1, .int v12), (0, .ref x0)]) ok dX10_priceAll_24 rfl (by decide) rfl (by rw [← e15]; rfl) ?_
    refine wp_goto (tgt := 4) ok dX10_priceAll_27 (by decide) ?_
    refine wp_sub (L' := [(1, .int v12), (2, .int v14), (0, .ref x0)]) [1, 0, 2] rfl ?_
    exact ih v12 v14 h9 hq e11
set_option maxHeartbeats 4000000 in
set_option maxRecDepth 100000 in
theorem l_X10_priceAll_B4 {x : Cx} {h0 : HP} {N fr : Nat} {rr : (Int32 × HP)} (ok : Okx x cX10_priceAll yX10_priceAll.cls 3 fr) (hfr : 5 ≤ fr)  {x0 : Nat} {n_x0 : Nat} (f_x0 : h0.1[x0]? = some (10, n_x0)) (hF : Fend x h0 (some (.int)) (QI rr.1 rr.2)) : ∀ (n : Nat) (x1 : Int32) (x2 : Int32) (h : HP), lp (fun _ _ _ => none) (f_X10_priceAll_B4 N x0) n x1 x2 h = some rr → h.1 = h0.1 → wp x 4 [(1, .int x1), (2, .int x2), (0, .ref x0)] [] h := by
  intro n
  induction n with
  | zero => intro x1 x2 h hq e; exact (Option.some_ne_none _ hq.symm).elim
  | succ n ih => exact s_X10_priceAll_B4 ok hfr f_x0 hF  ih
set_option maxHeartbeats 4000000 in
set_option maxRecDepth 100000 in
theorem m_X10_priceAll {l : Launch} {h : HP} {N : Nat} {x0 : Nat} {rr : Int32} {rh : HP} {fr : Nat} (hq : f_X10_priceAll N h x0 = some (rr, rh)) (hfr : 5 ≤ fr) : Mt l yX10_priceAll cX10_priceAll 3 (some (.int)) fr [.ref x0] h (QI rr rh) := by
  obtain ⟨rp, ep⟩ : ∃ rp : (Int32 × HP), rp = (rr, rh) := ⟨_, rfl⟩
  have e1p : rr = rp.1 := (congrArg Prod.fst ep).symm
  have e2p : rh = rp.2 := (congrArg Prod.snd ep).symm
  rw [← ep] at hq
  rw [e1p, e2p]
  clear e1p e2p ep
  refine Mt.of (by decide +kernel) (Nat.le_of_ble_eq_true rfl) (fun x hl ok hF => ?_)
  subst hl
  show wp x 0 [(0, .ref x0)] [] h
  unfold f_X10_priceAll at hq
  obtain ⟨h0, eh0⟩ : ∃ h0 : HP, h = h0 := ⟨h, rfl⟩
  have e : h.1 = h0.1 := by rw [eh0]
  rw [eh0] at hF
  obtain ⟨g_x0, hq⟩ := gP_some hq
  obtain ⟨n_x0, f_x0⟩ := kO_some g_x0
  replace f_x0 := sh_of e.symm f_x0
  refine wp_iconst (v := 0) ok dX10_priceAll_0 (by decide) ?_
  refine wp_istore_n (L' := [(1, .int 0), (0, .ref x0)]) ok dX10_priceAll_1 rfl rfl ?_
  refine wp_iconst (v := 0) ok dX10_priceAll_2 (by decide) ?_
  refine wp_istore_n (L' := [(2, .int 0), (1, .int 0), (0, .ref x0)]) ok dX10_priceAll_3 rfl rfl ?_
  refine wp_sub (L' := [(1, .int 0), (2, .int 0), (0, .ref x0)]) [1, 0, 2] rfl ?_
  refine l_X10_priceAll_B4 ok hfr f_x0 hF  N 0 0 h hq e
set_option maxHeartbeats 4000000 in
set_option maxRecDepth 100000 in
theorem s_X10_law_B35 {x : Cx} {h0 : HP} {N fr : Nat} {rr : (Int32 × HP)} (ok : Okx x cX10_law yX10_law.cls 5 fr) (hfr : (5 * N + 6) ≤ fr)  {x0 : Nat} {x2 : Int32} {x3 : Int32} {n_x0 : Nat} (f_x0 : h0.1[x0]? = some (10, n_x0)) (hF : Fend x h0 (some (.int)) (QI rr.1 rr.2)) {k64 : HP → Option (Int32 × HP)} (hk64 : ∀ (h : HP), k64 h = some rr → h.1 = h0.1 → wp x 64 [(0, .ref x0), (2, .int x2), (3, .int x3)] [] h) {rc : Int32 → HP → Option (Int32 × HP)} (ih : ∀ (x4 : Int32) (h : HP), rc x4 h = some rr → h.1 = h0.1 → wp x 35 [(4, .int x4), (0, .ref x0), (2, .int x2), (3, .int x3)] [] h) : ∀ (x4 : Int32) (h : HP), f_X10_law_B35 N x0 x2 x3 k64 rc x4 h = some rr → h.1 = h0.1 → wp x 35 [(4, .int x4), (0, .ref x0), (2, .int x2), (3, .int x3)] [] h := by
  intro x4 h hq e
  unfold f_X10_law_B35 at hq
  refine wp_iload (v := x4) ok dX10_law_35 rfl ?_
  refine wp_aload_n (v := x0) ok dX10_law_37 rfl ?_
  refine wp_getI ok fl_RX10_227 (sh_of e f_x0) dX10_law_38 ?_
  refine wp_icmp_ge (tgt := 64) ok dX10_law_41 (by decide) (fun c17 => ?_) (fun c17 => ?_)
  · have hq := ite_t c17 hq
    refine wp_sub (L' := [(0, .ref x0), (2, .int x2), (3, .int x3)]) [1, 2, 3] rfl ?_
    exact hk64 h hq e
  · have hq := ite_f c17 hq
    refine wp_aload_n (v := x0) ok dX10_law_44 rfl ?_
    obtain ⟨t18, e19, hq⟩ := bnd_some hq
    obtain ⟨e20, n21, f22⟩ := rK_some e19
    replace f22 := sh_of (e).symm f22
    refine wp_getR ok fl_RX10_107 (sh_of e f_x0) e20 dX10_law_45 ?_
    refine wp_iload (v := x4) ok dX10_law_48 rfl ?_
    refine wp_aload_n (v := x0) ok dX10_law_50 rfl ?_
    obtain ⟨t23, e24, hq⟩ := bnd_some hq
    obtain ⟨e25, n26, f27⟩ := rK_some e24
    replace f27 := sh_of (e).symm f27
    refine wp_getR ok fl_RX10_56 (sh_of e f_x0) e25 dX10_law_51 ?_
    refine wp_iload (v := x4) ok dX10_law_54 rfl ?_
    obtain ⟨g28, hq⟩ := gP_some hq
    refine wp_iald ok (sh_of e f27) (ix_of (sh_of e f27) g28) dX10_law_56 ?_
    obtain ⟨g29, hq⟩ := gP_some hq
    refine wp_iast ok (sh_of e f22) (ix_of (sh_of e f22) g29) dX10_law_57 ?_
    obtain ⟨h30, e31, hq⟩ := lt_some hq
    refine wp_nmH e31 ?_
    have e32 : h30.1 = h0.1 := (congrArg Prod.fst e31).trans e
    obtain ⟨v33, e34, hq⟩ := lt_some hq
    refine wp_iinc (v := x4) (w := 1) (L' := [(4, .int v33), (0, .ref x0), (2, .int x2), (3, .int x3)]) ok dX10_law_58 rfl (by decide) rfl (by rw [← e34]; rfl) ?_
    refine wp_goto (tgt := 35) ok dX10_law_61 (by decide) ?_
    refine wp_sub (L' := [(4, .int v33), (0, .ref x0), (2, .int x2), (3, .int x3)]) [0, 1, 2, 3] rfl ?_
    exact ih v33 h30 hq e32
set_option maxHeartbeats 4000000 in
set_option maxRecDepth 100000 in
theorem l_X10_law_B35 {x : Cx} {h0 : HP} {N fr : Nat} {rr : (Int32 × HP)} (ok : Okx x cX10_law yX10_law.cls 5 fr) (hfr : (5 * N + 6) ≤ fr)  {x0 : Nat} {x2 : Int32} {x3 : Int32} {n_x0 : Nat} (f_x0 : h0.1[x0]? = some (10, n_x0)) (hF : Fend x h0 (some (.int)) (QI rr.1 rr.2)) {k64 : HP → Option (Int32 × HP)} (hk64 : ∀ (h : HP), k64 h = some rr → h.1 = h0.1 → wp x 64 [(0, .ref x0), (2, .int x2), (3, .int x3)] [] h) : ∀ (n : Nat) (x4 : Int32) (h : HP), lp (fun _ _ => none) (f_X10_law_B35 N x0 x2 x3 k64) n x4 h = some rr → h.1 = h0.1 → wp x 35 [(4, .int x4), (0, .ref x0), (2, .int x2), (3, .int x3)] [] h := by
  intro n
  induction n with
  | zero => intro x4 h hq e; exact (Option.some_ne_none _ hq.symm).elim
  | succ n ih => exact s_X10_law_B35 ok hfr f_x0 hF hk64 ih
set_option maxHeartbeats 4000000 in
set_option maxRecDepth 100000 in
theorem m_X10_law {l : Launch} {h : HP} {N : Nat} {x0 : Nat} {rr : Int32} {rh : HP} {fr : Nat} (hq : f_X10_law N h x0 = some (rr, rh)) (hfr : (5 * N + 6) ≤ fr) : Mt l yX10_law cX10_law 5 (some (.int)) fr [.ref x0] h (QI rr rh) := by
  obtain ⟨rp, ep⟩ : ∃ rp : (Int32 × HP), rp = (rr, rh) := ⟨_, rfl⟩
  have e1p : rr = rp.1 := (congrArg Prod.fst ep).symm
  have e2p : rh = rp.2 := (congrArg Prod.snd ep).symm
  rw [← ep] at hq
  rw [e1p, e2p]
  clear e1p e2p ep
  refine Mt.of (by decide +kernel) (Nat.le_of_ble_eq_true rfl) (fun x hl ok hF => ?_)
  subst hl
  show wp x 0 [(0, .ref x0)] [] h
  unfold f_X10_law at hq
  obtain ⟨h0, eh0⟩ : ∃ h0 : HP, h = h0 := ⟨h, rfl⟩
  have e : h.1 = h0.1 := by rw [eh0]
  rw [eh0] at hF
  obtain ⟨g_x0, hq⟩ := gP_some hq
  obtain ⟨n_x0, f_x0⟩ := kO_some g_x0
  replace f_x0 := sh_of e.symm f_x0
  refine wp_aload_n (v := x0) ok dX10_law_0 rfl ?_
  refine wp_iconst (v := 0) ok dX10_law_1 (by decide) ?_
  refine wp_putI ok flw_RX10_3 (nr_10_0 _) (sh_of e f_x0) dX10_law_2 ?_
  obtain ⟨h1, e2, hq⟩ := lt_some hq
  refine wp_nmH e2 ?_
  have e3 : h1.1 = h0.1 := (congrArg Prod.fst e2).trans e
  refine wp_aload_n (v := x0) ok dX10_law_5 rfl ?_
  obtain ⟨v4, h6, e5, hq⟩ := bnd2_some hq
  refine wp_callVI (As := []) (rest := []) (h1 := h6) ok (m_X10_readsRule e5 (Nat.le_refl _)) my_X10_readsRule (w_1260) pd_X10_readsRule (by omega) rfl (ci := 10) rfl (by decide) (sh_of e3 f_x0) rfl rfl rfl dX10_law_6 (fun e7 => ?_)
  have e8 : h6.1 = h0.1 := (e7).trans e3
  refine wp_istore_n (L' := [(1, .int v4), (0, .ref x0)]) ok dX10_law_9 rfl rfl ?_
  refine wp_iload_n (v := v4) ok dX10_law_10 rfl ?_
  refine wp_if_ge (tgt := 22) ok dX10_law_11 (by decide) (fun c9 => ?_) (fun c9 => ?_)
  · have hq := ite_t c9 hq
    refine wp_aload_n (v := x0) ok dX10_law_22 rfl ?_
    obtain ⟨v10, h12, e11, hq⟩ := bnd2_some hq
    refine wp_callVI (As := []) (rest := []) (h1 := h12) ok (m_X10_priceAll e11 (Nat.le_refl _)) my_X10_priceAll (w_1576) pd_X10_priceAll (by omega) rfl (ci := 10) rfl (by decide) (sh_of e8 f_x0) rfl rfl rfl dX10_law_23 (fun e13 => ?_)
    have e14 : h12.1 = h0.1 := (e13).trans e8
    refine wp_istore_n (L' := [(2, .int v10), (1, .int v4), (0, .ref x0)]) ok dX10_law_26 rfl rfl ?_
    refine wp_aload_n (v := x0) ok dX10_law_27 rfl ?_
    refine wp_getI ok fl_RX10_227 (sh_of e14 f_x0) dX10_law_28 ?_
    obtain ⟨v15, e16, hq⟩ := lt_some hq
    refine wp_nmI e16 ?_
    refine wp_istore_n (L' := [(3, .int v15), (2, .int v10), (1, .int v4), (0, .ref x0)]) ok dX10_law_31 rfl rfl ?_
    refine wp_iconst (v := 0) ok dX10_law_32 (by decide) ?_
    refine wp_istore (L' := [(4, .int 0), (3, .int v15), (2, .int v10), (1, .int v4), (0, .ref x0)]) ok dX10_law_33 rfl rfl ?_
    refine wp_sub (L' := [(4, .int 0), (0, .ref x0), (2, .int v10), (3, .int v15)]) [0, 4, 2, 1] rfl ?_
    refine l_X10_law_B35 ok hfr f_x0 hF ?_ N 0 h12 hq e14
    · intro h35 hq e36
      refine wp_aload_n (v := x0) ok dX10_law_64 rfl ?_
      refine wp_aload_n (v := x0) ok dX10_law_65 rfl ?_
      obtain ⟨t37, e38, hq⟩ := bnd_some hq
      obtain ⟨e39, n40, f41⟩ := rK_some e38
      replace f41 := sh_of (e36).symm f41
      refine wp_getR ok fl_RX10_59 (sh_of e36 f_x0) e39 dX10_law_66 ?_
      refine wp_aload_n (v := x0) ok dX10_law_69 rfl ?_
      refine wp_getI ok fl_RX10_206 (sh_of e36 f_x0) dX10_law_70 ?_
      obtain ⟨h42, e43, hq⟩ := bnd_some hq
      refine wp_callVV (As := [.ref t37, .int (h35.2.1 x0 22)]) (rest := []) (h1 := h42) ok (m_X10_laysCode e43 (Nat.le_refl _)) my_X10_laysCode (w_1280) pd_X10_laysCode (by omega) rfl (ci := 10) rfl (by decide) (sh_of e36 f_x0) rfl rfl rfl dX10_law_73 (fun e44 => ?_)
      have e45 : h42.1 = h0.1 := (e44).trans e36
      refine wp_aload_n (v := x0) ok dX10_law_76 rfl ?_
      obtain ⟨v46, h48, e47, hq⟩ := bnd2_some hq
      refine wp_callVI (As := []) (rest := []) (h1 := h48) ok (m_X10_priceAll e47 (Nat.le_refl _)) my_X10_priceAll (w_1576) pd_X10_priceAll (by omega) rfl (ci := 10) rfl (by decide) (sh_of e45 f_x0) rfl rfl rfl dX10_law_77 (fun e49 => ?_)
      have e50 : h48.1 = h0.1 := (e49).trans e45
      refine wp_istore (L' := [(4, .int v46), (0, .ref x0), (2, .int v10), (3, .int v15)]) ok dX10_law_80 rfl rfl ?_
      refine wp_aload_n (v := x0) ok dX10_law_82 rfl ?_
      refine wp_aload_n (v := x0) ok dX10_law_83 rfl ?_
      obtain ⟨t51, e52, hq⟩ := bnd_some hq
      obtain ⟨e53, n54, f55⟩ := rK_some e52
      replace f55 := sh_of (e50).symm f55
      refine wp_getR ok fl_RX10_107 (sh_of e50 f_x0) e53 dX10_law_84 ?_
      refine wp_iload_n (v := v15) ok dX10_law_87 rfl ?_
      obtain ⟨h56, e57, hq⟩ := bnd_some hq
      refine wp_callVV (As := [.ref t51, .int v15]) (rest := []) (h1 := h56) ok (m_X10_laysCode e57 (Nat.le_refl _)) my_X10_laysCode (w_1280) pd_X10_laysCode (by omega) rfl (ci := 10) rfl (by decide) (sh_of e50 f_x0) rfl rfl rfl dX10_law_88 (fun e58 => ?_)
      have e59 : h56.1 = h0.1 := (e58).trans e50
      refine wp_aload_n (v := x0) ok dX10_law_91 rfl ?_
      refine wp_iconst (v := 0) ok dX10_law_92 (by decide) ?_
      refine wp_putI ok flw_RX10_15 (nr_10_1 _) (sh_of e59 f_x0) dX10_law_93 ?_
      obtain ⟨h60, e61, hq⟩ := lt_some hq
      refine wp_nmH e61 ?_
      have e62 : h60.1 = h0.1 := (congrArg Prod.fst e61).trans e59
      refine wp_aload_n (v := x0) ok dX10_law_96 rfl ?_
      refine wp_iload (v := v46) ok dX10_law_97 rfl ?_
      refine wp_i2l ok dX10_law_99 ?_
      obtain ⟨h63, e64, hq⟩ := bnd_some hq
      refine wp_callVV (As := [.long (v46.toInt64)]) (rest := []) (h1 := h63) ok (m_X10_enters e64 (Nat.le_refl _)) my_X10_enters (w_1347) pd_X10_enters (by omega) rfl (ci := 10) rfl (by decide) (sh_of e62 f_x0) rfl rfl rfl dX10_law_100 (fun e65 => ?_)
      have e66 : h63.1 = h0.1 := (e65).trans e62
      refine wp_aload_n (v := x0) ok dX10_law_103 rfl ?_
      refine wp_iload_n (v := v10) ok dX10_law_104 rfl ?_
      refine wp_i2l ok dX10_law_105 ?_
      obtain ⟨h67, e68, hq⟩ := bnd_some hq
      refine wp_callVV (As := [.long (v10.toInt64)]) (rest := []) (h1 := h67) ok (m_X10_enters e68 (Nat.le_refl _)) my_X10_enters (w_1347) pd_X10_enters (by omega) rfl (ci := 10) rfl (by decide) (sh_of e66 f_x0) rfl rfl rfl dX10_law_106 (fun e69 => ?_)
      have e70 : h67.1 = h0.1 := (e69).trans e66
      refine wp_iload (v := v46) ok dX10_law_109 rfl ?_
      refine wp_iload_n (v := v10) ok dX10_law_111 rfl ?_
      refine wp_isub ok dX10_law_112 ?_
      exact wp_iret ok hF rfl e70 (re2I hq) dX10_law_113
  · have hq := ite_f c9 hq
    refine wp_iload_n (v := v4) ok dX10_law_14 rfl ?_
    refine wp_iconst (v := 1) ok dX10_law_15 (by decide) ?_
    refine wp_iadd ok dX10_law_16 ?_
    refine wp_ldcw (v := 1000000) ok (w_1575) dX10_law_17 ?_
    refine wp_isub ok dX10_law_20 ?_
    exact wp_iret ok hF rfl e8 (re2I hq) dX10_law_21
set_option maxHeartbeats 4000000 in
set_option maxRecDepth 100000 in
theorem m_X10_gets {l : Launch} {h : HP} {x0 : Int32} {x1 : Int32} {x2 : Int32} {rr : Int32} {fr : Nat} (hq : f_X10_gets x0 x1 x2 = some rr) (hfr : 0 ≤ fr) : Mt l yX10_gets cX10_gets 3 (some (.int)) fr [.int x0, .int x1, .int x2] h (QI rr h) := by
  refine Mt.of (by decide +kernel) (Nat.le_of_ble_eq_true rfl) (fun x hl ok hF => ?_)
  subst hl
  show wp x 0 [(0, .int x0), (1, .int x1), (2, .int x2)] [] h
  unfold f_X10_gets at hq
  refine wp_iload_n (v := x0) ok dX10_gets_0 rfl ?_
  refine wp_iload_n (v := x2) ok dX10_gets_1 rfl ?_
  refine wp_bipush (v := 18) ok dX10_gets_2 (by decide) ?_
  refine wp_iload_n (v := x0) ok dX10_gets_4 rfl ?_
  refine wp_isub ok dX10_gets_5 ?_
  refine wp_iload_n (v := x1) ok dX10_gets_6 rfl ?_
  refine wp_isub ok dX10_gets_7 ?_
  refine wp_iconst (v := 2) ok dX10_gets_8 (by decide) ?_
  refine wp_idiv ok dX10_gets_9 (by decide) ?_
  refine wp_isub ok dX10_gets_10 ?_
  refine wp_imul ok dX10_gets_11 ?_
  refine wp_iconst (v := 2) ok dX10_gets_12 (by decide) ?_
  refine wp_bipush (v := 9) ok dX10_gets_13 (by decide) ?_
  refine wp_iload_n (v := x0) ok dX10_gets_15 rfl ?_
  refine wp_isub ok dX10_gets_16 ?_
  refine wp_imul ok dX10_gets_17 ?_
  refine wp_iadd ok dX10_gets_18 ?_
  exact wp_iret ok hF rfl rfl (re1I hq) dX10_gets_19
set_option maxHeartbeats 4000000 in
set_option maxRecDepth 100000 in
theorem s_X10_isRest_B5 {x : Cx} {h : HP} {N fr : Nat} {rr : Int32} (ok : Okx x cX10_isRest yX10_isRest.cls 5 fr) (hfr : 1 ≤ fr)  {x0 : Int32} {x1 : Int32} {x2 : Int32} (hF : Fend x h (some (.boolean)) (QI rr h)) {rc : Int32 → Int32 → Option Int32} (ih : ∀ (x3 : Int32) (x4 : Int32), rc x3 x4 = some rr → wp x 5 [(3, .int x3), (4, .int x4), (0, .int x0), (1, .int x1), (2, .int x2)] [] h) : ∀ (x3 : Int32) (x4 : Int32), f_X10_isRest_B5 N x0 x1 x2 rc x3 x4 = some rr → wp x 5 [(3, .int x3), (4, .int x4), (0, .int x0), (1, .int x1), (2, .int x2)] [] h := by
  intro x3 x4 hq
  unfold f_X10_isRest_B5 at hq
  refine wp_iload (v := x4) ok dX10_isRest_5 rfl ?_
  refine wp_bipush (v := 9) ok dX10_isRest_7 (by decide) ?_
  refine wp_icmp_gt (tgt := 44) ok dX10_isRest_9 (by decide) (fun c1 => ?_) (fun c1 => ?_)
  · have hq := ite_t c1 hq
    refine wp_iload_n (v := x3) ok dX10_isRest_44 rfl ?_
    obtain ⟨g2, hq⟩ := gP_some hq
    exact wp_iret ok hF (nb_z g2) rfl (re1I hq) dX10_isRest_45
  · have hq := ite_f c1 hq
    refine wp_iload_n (v := x3) ok dX10_isRest_12 rfl ?_
    refine wp_if_eq (tgt := 36) ok dX10_isRest_13 (by decide) (fun c3 => ?_) (fun c3 => ?_)
    · have hq := ite_t c3 hq
      refine wp_iconst (v := 0) ok dX10_isRest_36 (by decide) ?_
      refine wp_istore_n (L' := [(3, .int 0), (4, .int x4), (0, .int x0), (1, .int x1), (2, .int x2)]) ok dX10_isRest_37 rfl rfl ?_
      obtain ⟨v4, e5, hq⟩ := lt_some hq
      refine wp_iinc (v := x4) (w := 1) (L' := [(4, .int v4), (3, .int 0), (0, .int x0), (1, .int x1), (2, .int x2)]) ok dX10_isRest_38 rfl (by decide) rfl (by rw [← e5]; rfl) ?_
      refine wp_goto (tgt := 5) ok dX10_isRest_41 (by decide) ?_
      refine wp_sub (L' := [(3, .int 0), (4, .int v4), (0, .int x0), (1, .int x1), (2, .int x2)]) [1, 0, 2, 3, 4] rfl ?_
      exact ih 0 v4 hq
    · have hq := ite_f c3 hq
      refine wp_iload (v := x4) ok dX10_isRest_16 rfl ?_
      refine wp_iload_n (v := x1) ok dX10_isRest_18 rfl ?_
      refine wp_iload_n (v := x2) ok dX10_isRest_19 rfl ?_
      obtain ⟨v6, e7, hq⟩ := bnd_some hq
      refine wp_callSI (As := [.int x4, .int x1, .int x2]) (rest := []) (h1 := h) ok (m_X10_gets e7 (Nat.le_refl _)) my_X10_gets (w_1587) pd_X10_gets (Nat.le_trans (by decide) hfr) rfl rfl rfl rfl dX10_isRest_20 (fun e8 => ?_)
      refine wp_iload_n (v := x0) ok dX10_isRest_23 rfl ?_
      refine wp_iload_n (v := x1) ok dX10_isRest_24 rfl ?_
      refine wp_iload_n (v := x2) ok dX10_isRest_25 rfl ?_
      obtain ⟨v9, e10, hq⟩ := bnd_some hq
      refine wp_callSI (As := [.int x0, .int x1, .int x2]) (rest := [.int v6]) (h1 := h) ok (m_X10_gets e10 (Nat.le_refl _)) my_X10_gets (w_1587) pd_X10_gets (Nat.le_trans (by decide) hfr) rfl rfl rfl rfl dX10_isRest_26 (fun e11 => ?_)
      refine wp_icmp_gt (tgt := 36) ok dX10_isRest_29 (by decide) (fun c12 => ?_) (fun c12 => ?_)
      · have hq := ite_t c12 hq
        refine wp_iconst (v := 0) ok dX10_isRest_36 (by decide) ?_
        refine wp_istore_n (L' := [(3, .int 0), (4, .int x4), (0, .int x0), (1, .int x1), (2, .int x2)]) ok dX10_isRest_37 rfl rfl ?_
        obtain ⟨v13, e14, hq⟩ := lt_some hq
        refine wp_iinc (v := x4) (w := 1) (L' := [(4, .int v13), (3, .int 0), (0, .int x0), (1, .int x1), (2, .int x2)]) ok dX10_isRest_38 rfl (by decide) rfl (by rw [← e14]; rfl) ?_
        refine wp_goto (tgt := 5) ok dX10_isRest_41 (by decide) ?_
        refine wp_sub (L' := [(3, .int 0), (4, .int v13), (0, .int x0), (1, .int x1), (2, .int x2)]) [1, 0, 2, 3, 4] rfl ?_
        exact ih 0 v13 hq
      · have hq := ite_f c12 hq
        refine wp_iconst (v := 1) ok dX10_isRest_32 (by decide) ?_
        refine wp_goto (tgt := 37) ok dX10_isRest_33 (by decide) ?_
        refine wp_istore_n (L' := [(3, .int 1), (4, .int x4), (0, .int x0), (1, .int x1), (2, .int x2)]) ok dX10_isRest_37 rfl rfl ?_
        obtain ⟨v15, e16, hq⟩ := lt_some hq
        refine wp_iinc (v := x4) (w := 1) (L' := [(4, .int v15), (3, .int 1), (0, .int x0), (1, .int x1), (2, .int x2)]) ok dX10_isRest_38 rfl (by decide) rfl (by rw [← e16]; rfl) ?_
        refine wp_goto (tgt := 5) ok dX10_isRest_41 (by decide) ?_
        refine wp_sub (L' := [(3, .int 1), (4, .int v15), (0, .int x0), (1, .int x1), (2, .int x2)]) [1, 0, 2, 3, 4] rfl ?_
        exact ih 1 v15 hq
set_option maxHeartbeats 4000000 in
set_option maxRecDepth 100000 in
theorem l_X10_isRest_B5 {x : Cx} {h : HP} {N fr : Nat} {rr : Int32} (ok : Okx x cX10_isRest yX10_isRest.cls 5 fr) (hfr : 1 ≤ fr)  {x0 : Int32} {x1 : Int32} {x2 : Int32} (hF : Fend x h (some (.boolean)) (QI rr h)) : ∀ (n : Nat) (x3 : Int32) (x4 : Int32), lp (fun _ _ => none) (f_X10_isRest_B5 N x0 x1 x2) n x3 x4 = some rr → wp x 5 [(3, .int x3), (4, .int x4), (0, .int x0), (1, .int x1), (2, .int x2)] [] h := by
  intro n
  induction n with
  | zero => intro x3 x4 hq; exact (Option.some_ne_none _ hq.symm).elim
  | succ n ih => exact s_X10_isRest_B5 ok hfr  hF  ih
set_option maxHeartbeats 4000000 in
set_option maxRecDepth 100000 in
theorem m_X10_isRest {l : Launch} {h : HP} {N : Nat} {x0 : Int32} {x1 : Int32} {x2 : Int32} {rr : Int32} {fr : Nat} (hq : f_X10_isRest N x0 x1 x2 = some rr) (hfr : 1 ≤ fr) : Mt l yX10_isRest cX10_isRest 5 (some (.boolean)) fr [.int x0, .int x1, .int x2] h (QI rr h) := by
  refine Mt.of (by decide +kernel) (Nat.le_of_ble_eq_true rfl) (fun x hl ok hF => ?_)
  subst hl
  show wp x 0 [(0, .int x0), (1, .int x1), (2, .int x2)] [] h
  unfold f_X10_isRest at hq
  refine wp_iconst (v := 1) ok dX10_isRest_0 (by decide) ?_
  refine wp_istore_n (L' := [(3, .int 1), (0, .int x0), (1, .int x1), (2, .int x2)]) ok dX10_isRest_1 rfl rfl ?_
  refine wp_iconst (v := 0) ok dX10_isRest_2 (by decide) ?_
  refine wp_istore (L' := [(4, .int 0), (3, .int 1), (0, .int x0), (1, .int x1), (2, .int x2)]) ok dX10_isRest_3 rfl rfl ?_
  refine wp_sub (L' := [(3, .int 1), (4, .int 0), (0, .int x0), (1, .int x1), (2, .int x2)]) [1, 0, 2, 3, 4] rfl ?_
  refine l_X10_isRest_B5 ok hfr  hF  N 1 0 hq
set_option maxHeartbeats 4000000 in
set_option maxRecDepth 100000 in
theorem s_X10_rests_B37 {x : Cx} {h0 : HP} {N fr : Nat} {rr : (Int32 × HP)} (ok : Okx x cX10_rests yX10_rests.cls 5 fr) (hfr : 2 ≤ fr)  {x0 : Nat} {x1 : Int32} {x3 : Int32} {n_x0 : Nat} (f_x0 : h0.1[x0]? = some (10, n_x0)) (hF : Fend x h0 (some (.int)) (QI rr.1 rr.2)) {k90 : Int32 → HP → Option (Int32 × HP)} (hk90 : ∀ (x2 : Int32) (h : HP), k90 x2 h = some rr → h.1 = h0.1 → wp x 90 [(2, .int x2), (0, .ref x0), (1, .int x1), (3, .int x3)] [] h) {rc : Int32 → Int32 → HP → Option (Int32 × HP)} (ih : ∀ (x2 : Int32) (x4 : Int32) (h : HP), rc x2 x4 h = some rr → h.1 = h0.1 → wp x 37 [(2, .int x2), (4, .int x4), (0, .ref x0), (1, .int x1), (3, .int x3)] [] h) : ∀ (x2 : Int32) (x4 : Int32) (h : HP), f_X10_rests_B37 N x0 x1 x3 k90 rc x2 x4 h = some rr → h.1 = h0.1 → wp x 37 [(2, .int x2), (4, .int x4), (0, .ref x0), (1, .int x1), (3, .int x3)] [] h := by
  intro x2 x4 h hq e
  unfold f_X10_rests_B37 at hq
  refine wp_iload (v := x4) ok dX10_rests_37 rfl ?_
  refine wp_bipush (v := 9) ok dX10_rests_39 (by decide) ?_
  refine wp_icmp_gt (tgt := 90) ok dX10_rests_41 (by decide) (fun c12 => ?_) (fun c12 => ?_)
  · have hq := ite_t c12 hq
    refine wp_sub (L' := [(2, .int x2), (0, .ref x0), (1, .int x1), (3, .int x3)]) [0, 2, 3, 4] rfl ?_
    exact hk90 x2 h hq e
  · have hq := ite_f c12 hq
    refine wp_iload_n (v := x3) ok dX10_rests_44 rfl ?_
    refine wp_iload (v := x4) ok dX10_rests_45 rfl ?_
    refine wp_iload_n (v := x1) ok dX10_rests_47 rfl ?_
    obtain ⟨v13, e14, hq⟩ := bnd_some hq
    refine wp_callSI (As := [.int x3, .int x4, .int x1]) (rest := []) (h1 := h) ok (m_X10_isRest e14 (Nat.le_refl _)) my_X10_isRest (w_1584) pd_X10_isRest (Nat.le_trans (by decide) hfr) rfl rfl rfl rfl dX10_rests_48 (fun e15 => ?_)
    refine wp_if_eq (tgt := 84) ok dX10_rests_51 (by decide) (fun c16 => ?_) (fun c16 => ?_)
    · have hq := ite_t c16 hq
      obtain ⟨v17, e18, hq⟩ := lt_some hq
      refine wp_iinc (v := x4) (w := 1) (L' := [(4, .int v17), (2, .int x2), (0, .ref x0), (1, .int x1), (3, .int x3)]) ok dX10_rests_84 rfl (by decide) rfl (by rw [← e18]; rfl) ?_
      refine wp_goto (tgt := 37) ok dX10_rests_87 (by decide) ?_
      refine wp_sub (L' := [(2, .int x2), (4, .int v17), (0, .ref x0), (1, .int x1), (3, .int x3)]) [1, 0, 2, 3, 4] rfl ?_
      exact ih x2 v17 h hq e
    · have hq := ite_f c16 hq
      refine wp_iload (v := x4) ok dX10_rests_54 rfl ?_
      refine wp_iload_n (v := x3) ok dX10_rests_56 rfl ?_
      refine wp_iload_n (v := x1) ok dX10_rests_57 rfl ?_
      obtain ⟨v19, e20, hq⟩ := bnd_some hq
      refine wp_callSI (As := [.int x4, .int x3, .int x1]) (rest := []) (h1 := h) ok (m_X10_isRest e20 (Nat.le_refl _)) my_X10_isRest (w_1584) pd_X10_isRest (Nat.le_trans (by decide) hfr) rfl rfl rfl rfl dX10_rests_58 (fun e21 => ?_)
      refine wp_if_eq (tgt := 84) ok dX10_rests_61 (by decide) (fun c22 => ?_) (fun c22 => ?_)
      · have hq := ite_t c22 hq
        obtain ⟨v23, e24, hq⟩ := lt_some hq
        refine wp_iinc (v := x4) (w := 1) (L' := [(4, .int v23), (2, .int x2), (0, .ref x0), (1, .int x1), (3, .int x3)]) ok dX10_rests_84 rfl (by decide) rfl (by rw [← e24]; rfl) ?_
        refine wp_goto (tgt := 37) ok dX10_rests_87 (by decide) ?_
        refine wp_sub (L' := [(2, .int x2), (4, .int v23), (0, .ref x0), (1, .int x1), (3, .int x3)]) [1, 0, 2, 3, 4] rfl ?_
        exact ih x2 v23 h hq e
      · have hq := ite_f c22 hq
        refine wp_iload_n (v := x2) ok dX10_rests_64 rfl ?_
        refine wp_if_ne (tgt := 81) ok dX10_rests_65 (by decide) (fun c25 => ?_) (fun c25 => ?_)
        · have hq := ite_f c25 hq
          obtain ⟨v26, e27, hq⟩ := lt_some hq
          refine wp_iinc (v := x2) (w := 1) (L' := [(2, .int v26), (4, .int x4), (0, .ref x0), (1, .int x1), (3, .int x3)]) ok dX10_rests_81 rfl (by decide) rfl (by rw [← e27]; rfl) ?_
          obtain ⟨v28, e29, hq⟩ := lt_some hq
          refine wp_iinc (v := x4) (w := 1) (L' := [(4, .int v28), (2, .int v26), (0, .ref x0), (1, .int x1), (3, .int x3)]) ok dX10_rests_84 rfl (by decide) rfl (by rw [← e29]; rfl) ?_
          refine wp_goto (tgt := 37) ok dX10_rests_87 (by decide) ?_
          refine wp_sub (L' := [(2, .int v26), (4, .int v28), (0, .ref x0), (1, .int x1), (3, .int x3)]) [1, 0, 2, 3, 4] rfl ?_
          exact ih v26 v28 h hq e
        · have hq := ite_t c25 hq
          refine wp_aload_n (v := x0) ok dX10_rests_68 rfl ?_
          refine wp_iload_n (v := x3) ok dX10_rests_69 rfl ?_
          refine wp_i2l ok dX10_rests_70 ?_
          obtain ⟨h30, e31, hq⟩ := bnd_some hq
          refine wp_callVV (As := [.long (x3.toInt64)]) (rest := []) (h1 := h30) ok (m_X10_enters e31 (Nat.le_refl _)) my_X10_enters (w_1347) pd_X10_enters (Nat.le_trans (by decide) hfr) rfl (ci := 10) rfl (by decide) (sh_of e f_x0) rfl rfl rfl dX10_rests_71 (fun e32 => ?_)
          have e33 : h30.1 = h0.1 := (e32).trans e
          refine wp_aload_n (v := x0) ok dX10_rests_74 rfl ?_
          refine wp_iload (v := x4) ok dX10_rests_75 rfl ?_
          refine wp_i2l ok dX10_rests_77 ?_
          obtain ⟨h34, e35, hq⟩ := bnd_some hq
          refine wp_callVV (As := [.long (x4.toInt64)]) (rest := []) (h1 := h34) ok (m_X10_enters e35 (Nat.le_refl _)) my_X10_enters (w_1347) pd_X10_enters (Nat.le_trans (by decide) hfr) rfl (ci := 10) rfl (by decide) (sh_of e33 f_x0) rfl rfl rfl dX10_rests_78 (fun e36 => ?_)
          have e37 : h34.1 = h0.1 := (e36).trans e33
          obtain ⟨v38, e39, hq⟩ := lt_some hq
          refine wp_iinc (v := x2) (w := 1) (L' := [(2, .int v38), (4, .int x4), (0, .ref x0), (1, .int x1), (3, .int x3)]) ok dX10_rests_81 rfl (by decide) rfl (by rw [← e39]; rfl) ?_
          obtain ⟨v40, e41, hq⟩ := lt_some hq
          refine wp_iinc (v := x4) (w := 1) (L' := [(4, .int v40), (2, .int v38), (0, .ref x0), (1, .int x1), (3, .int x3)]) ok dX10_rests_84 rfl (by decide) rfl (by rw [← e41]; rfl) ?_
          refine wp_goto (tgt := 37) ok dX10_rests_87 (by decide) ?_
          refine wp_sub (L' := [(2, .int v38), (4, .int v40), (0, .ref x0), (1, .int x1), (3, .int x3)]) [1, 0, 2, 3, 4] rfl ?_
          exact ih v38 v40 h34 hq e37
set_option maxHeartbeats 4000000 in
set_option maxRecDepth 100000 in
theorem l_X10_rests_B37 {x : Cx} {h0 : HP} {N fr : Nat} {rr : (Int32 × HP)} (ok : Okx x cX10_rests yX10_rests.cls 5 fr) (hfr : 2 ≤ fr)  {x0 : Nat} {x1 : Int32} {x3 : Int32} {n_x0 : Nat} (f_x0 : h0.1[x0]? = some (10, n_x0)) (hF : Fend x h0 (some (.int)) (QI rr.1 rr.2)) {k90 : Int32 → HP → Option (Int32 × HP)} (hk90 : ∀ (x2 : Int32) (h : HP), k90 x2 h = some rr → h.1 = h0.1 → wp x 90 [(2, .int x2), (0, .ref x0), (1, .int x1), (3, .int x3)] [] h) : ∀ (n : Nat) (x2 : Int32) (x4 : Int32) (h : HP), lp (fun _ _ _ => none) (f_X10_rests_B37 N x0 x1 x3 k90) n x2 x4 h = some rr → h.1 = h0.1 → wp x 37 [(2, .int x2), (4, .int x4), (0, .ref x0), (1, .int x1), (3, .int x3)] [] h := by
  intro n
  induction n with
  | zero => intro x2 x4 h hq e; exact (Option.some_ne_none _ hq.symm).elim
  | succ n ih => exact s_X10_rests_B37 ok hfr f_x0 hF hk90 ih
set_option maxHeartbeats 4000000 in
set_option maxRecDepth 100000 in
theorem s_X10_rests_B28 {x : Cx} {h0 : HP} {N fr : Nat} {rr : (Int32 × HP)} (ok : Okx x cX10_rests yX10_rests.cls 5 fr) (hfr : 2 ≤ fr)  {x0 : Nat} {x1 : Int32} {n_x0 : Nat} (f_x0 : h0.1[x0]? = some (10, n_x0)) (hF : Fend x h0 (some (.int)) (QI rr.1 rr.2)) {rc : Int32 → Int32 → HP → Option (Int32 × HP)} (ih : ∀ (x2 : Int32) (x3 : Int32) (h : HP), rc x2 x3 h = some rr → h.1 = h0.1 → wp x 28 [(2, .int x2), (3, .int x3), (0, .ref x0), (1, .int x1)] [] h) : ∀ (x2 : Int32) (x3 : Int32) (h : HP), f_X10_rests_B28 N x0 x1 rc x2 x3 h = some rr → h.1 = h0.1 → wp x 28 [(2, .int x2), (3, .int x3), (0, .ref x0), (1, .int x1)] [] h := by
  intro x2 x3 h hq e
  unfold f_X10_rests_B28 at hq
  refine wp_iload_n (v := x3) ok dX10_rests_28 rfl ?_
  refine wp_bipush (v := 9) ok dX10_rests_29 (by decide) ?_
  refine wp_icmp_gt (tgt := 96) ok dX10_rests_31 (by decide) (fun c11 => ?_) (fun c11 => ?_)
  · have hq := ite_t c11 hq
    refine wp_iload_n (v := x2) ok dX10_rests_96 rfl ?_
    exact wp_iret ok hF rfl e (re2I hq) dX10_rests_97
  · have hq := ite_f c11 hq
    refine wp_iconst (v := 0) ok dX10_rests_34 (by decide) ?_
    refine wp_istore (L' := [(4, .int 0), (2, .int x2), (3, .int x3), (0, .ref x0), (1, .int x1)]) ok dX10_rests_35 rfl rfl ?_
    refine wp_sub (L' := [(2, .int x2), (4, .int 0), (0, .ref x0), (1, .int x1), (3, .int x3)]) [1, 0, 3, 4, 2] rfl ?_
    refine l_X10_rests_B37 ok hfr f_x0 hF ?_ N x2 0 h hq e
    · intro x42 h43 hq e44
      obtain ⟨v45, e46, hq⟩ := lt_some hq
      refine wp_iinc (v := x3) (w := 1) (L' := [(3, .int v45), (2, .int x42), (0, .ref x0), (1, .int x1)]) ok dX10_rests_90 rfl (by decide) rfl (by rw [← e46]; rfl) ?_
      refine wp_goto (tgt := 28) ok dX10_rests_93 (by decide) ?_
      refine wp_sub (L' := [(2, .int x42), (3, .int v45), (0, .ref x0), (1, .int x1)]) [1, 0, 2, 3] rfl ?_
      exact ih x42 v45 h43 hq e44
set_option maxHeartbeats 4000000 in
set_option maxRecDepth 100000 in
theorem l_X10_rests_B28 {x : Cx} {h0 : HP} {N fr : Nat} {rr : (Int32 × HP)} (ok : Okx x cX10_rests yX10_rests.cls 5 fr) (hfr : 2 ≤ fr)  {x0 : Nat} {x1 : Int32} {n_x0 : Nat} (f_x0 : h0.1[x0]? = some (10, n_x0)) (hF : Fend x h0 (some (.int)) (QI rr.1 rr.2)) : ∀ (n : Nat) (x2 : Int32) (x3 : Int32) (h : HP), lp (fun _ _ _ => none) (f_X10_rests_B28 N x0 x1) n x2 x3 h = some rr → h.1 = h0.1 → wp x 28 [(2, .int x2), (3, .int x3), (0, .ref x0), (1, .int x1)] [] h := by
  intro n
  induction n with
  | zero => intro x2 x3 h hq e; exact (Option.some_ne_none _ hq.symm).elim
  | succ n ih => exact s_X10_rests_B28 ok hfr f_x0 hF  ih
set_option maxHeartbeats 4000000 in
set_option maxRecDepth 100000 in
theorem m_X10_rests {l : Launch} {h : HP} {N : Nat} {x0 : Nat} {x1 : Int32} {rr : Int32} {rh : HP} {fr : Nat} (hq : f_X10_rests N h x0 x1 = some (rr, rh)) (hfr : 2 ≤ fr) : Mt l yX10_rests cX10_rests 5 (some (.int)) fr [.ref x0, .int x1] h (QI rr rh) := by
  obtain ⟨rp, ep⟩ : ∃ rp : (Int32 × HP), rp = (rr, rh) := ⟨_, rfl⟩
  have e1p : rr = rp.1 := (congrArg Prod.fst ep).symm
  have e2p : rh = rp.2 := (congrArg Prod.snd ep).symm
  rw [← ep] at hq
  rw [e1p, e2p]
  clear e1p e2p ep
  refine Mt.of (by decide +kernel) (Nat.le_of_ble_eq_true rfl) (fun x hl ok hF => ?_)
  subst hl
  show wp x 0 [(0, .ref x0), (1, .int x1)] [] h
  unfold f_X10_rests at hq
  obtain ⟨h0, eh0⟩ : ∃ h0 : HP, h = h0 := ⟨h, rfl⟩
  have e : h.1 = h0.1 := by rw [eh0]
  rw [eh0] at hF
  obtain ⟨g_x0, hq⟩ := gP_some hq
  obtain ⟨n_x0, f_x0⟩ := kO_some g_x0
  replace f_x0 := sh_of e.symm f_x0
  refine wp_aload_n (v := x0) ok dX10_rests_0 rfl ?_
  refine wp_iconst (v := 0) ok dX10_rests_1 (by decide) ?_
  refine wp_putI ok flw_RX10_3 (nr_10_0 _) (sh_of e f_x0) dX10_rests_2 ?_
  obtain ⟨h1, e2, hq⟩ := lt_some hq
  refine wp_nmH e2 ?_
  have e3 : h1.1 = h0.1 := (congrArg Prod.fst e2).trans e
  refine wp_iload_n (v := x1) ok dX10_rests_5 rfl ?_
  refine wp_i2l ok dX10_rests_6 ?_
  refine wp_lconst (v := 0) ok dX10_rests_7 (by decide) ?_
  refine wp_ldc2 (v := 9) ok (w_1394) dX10_rests_8 ?_
  obtain ⟨v4, e5, hq⟩ := bnd_some hq
  refine wp_callSI (As := [.long (x1.toInt64), .long 0, .long 9]) (rest := []) (h1 := h1) ok (m_X10_in e5 (Nat.le_refl _)) my_X10_in (w_1200) pd_X10_in (Nat.le_trans (by decide) hfr) rfl rfl rfl rfl dX10_rests_11 (fun e6 => ?_)
  refine wp_if_ne (tgt := 19) ok dX10_rests_14 (by decide) (fun c7 => ?_) (fun c7 => ?_)
  · have hq := ite_f c7 hq
    refine wp_iconst (v := 0) ok dX10_rests_19 (by decide) ?_
    refine wp_istore_n (L' := [(2, .int 0), (0, .ref x0), (1, .int x1)]) ok dX10_rests_20 rfl rfl ?_
    refine wp_aload_n (v := x0) ok dX10_rests_21 rfl ?_
    refine wp_iconst (v := 0) ok dX10_rests_22 (by decide) ?_
    refine wp_putI ok flw_RX10_15 (nr_10_1 _) (sh_of e3 f_x0) dX10_rests_23 ?_
    obtain ⟨h8, e9, hq⟩ := lt_some hq
    refine wp_nmH e9 ?_
    have e10 : h8.1 = h0.1 := (congrArg Prod.fst e9).trans e3
    refine wp_iconst (v := 0) ok dX10_rests_26 (by decide) ?_
    refine wp_istore_n (L' := [(3, .int 0), (2, .int 0), (0, .ref x0), (1, .int x1)]) ok dX10_rests_27 rfl rfl ?_
    refine wp_sub (L' := [(2, .int 0), (3, .int 0), (0, .ref x0), (1, .int x1)]) [1, 0, 2, 3] rfl ?_
    refine l_X10_rests_B28 ok hfr f_x0 hF  N 0 0 h8 hq e10
  · have hq := ite_t c7 hq
    refine wp_iconst (v := -1) ok dX10_rests_17 (by decide) ?_
    exact wp_iret ok hF rfl e3 (re2I hq) dX10_rests_18
set_option maxHeartbeats 4000000 in
set_option maxRecDepth 100000 in
theorem m_X10_draws {l : Launch} {h : HP} {x0 : Nat} {x1 : Int32} {rr : Int32} {rh : HP} {fr : Nat} (hq : f_X10_draws h x0 x1 = some (rr, rh)) (hfr : 0 ≤ fr) : Mt l yX10_draws cX10_draws 2 (some (.int)) fr [.ref x0, .int x1] h (QI rr rh) := by
  obtain ⟨rp, ep⟩ : ∃ rp : (Int32 × HP), rp = (rr, rh) := ⟨_, rfl⟩
  have e1p : rr = rp.1 := (congrArg Prod.fst ep).symm
  have e2p : rh = rp.2 := (congrArg Prod.snd ep).symm
  rw [← ep] at hq
  rw [e1p, e2p]
  clear e1p e2p ep
  refine Mt.of (by decide +kernel) (Nat.le_of_ble_eq_true rfl) (fun x hl ok hF => ?_)
  subst hl
  show wp x 0 [(0, .ref x0), (1, .int x1)] [] h
  unfold f_X10_draws at hq
  obtain ⟨h0, eh0⟩ : ∃ h0 : HP, h = h0 := ⟨h, rfl⟩
  have e : h.1 = h0.1 := by rw [eh0]
  rw [eh0] at hF
  obtain ⟨g_x0, hq⟩ := gP_some hq
  obtain ⟨n_x0, f_x0⟩ := kO_some g_x0
  replace f_x0 := sh_of e.symm f_x0
  refine wp_aload_n (v := x0) ok dX10_draws_0 rfl ?_
  refine wp_aload_n (v := x0) ok dX10_draws_1 rfl ?_
  refine wp_getI ok fl_RX10_408 (sh_of e f_x0) dX10_draws_2 ?_
  refine wp_ldcw (v := 1103515245) ok (w_1598) dX10_draws_5 ?_
  refine wp_imul ok dX10_draws_8 ?_
  refine wp_sipush (v := 12345) ok dX10_draws_9 (by decide) ?_
  refine wp_iadd ok dX10_draws_12 ?_
  refine wp_putI ok flw_RX10_408 (nr_10_44 _) (sh_of e f_x0) dX10_draws_13 ?_
  obtain ⟨h1, e2, hq⟩ := lt_some hq
  refine wp_nmH e2 ?_
  have e3 : h1.1 = h0.1 := (congrArg Prod.fst e2).trans e
  refine wp_aload_n (v := x0) ok dX10_draws_16 rfl ?_
  refine wp_getI ok fl_RX10_408 (sh_of e3 f_x0) dX10_draws_17 ?_
  refine wp_bipush (v := 16) ok dX10_draws_20 (by decide) ?_
  refine wp_iushr ok dX10_draws_22 ?_
  refine wp_iload_n (v := x1) ok dX10_draws_23 rfl ?_
  obtain ⟨g4, hq⟩ := gP_some hq
  refine wp_irem ok dX10_draws_24 g4 ?_
  exact wp_iret ok hF rfl e3 (re2I hq) dX10_draws_25
set_option maxHeartbeats 4000000 in
set_option maxRecDepth 100000 in
theorem s_X10_years_B30 {x : Cx} {h0 : HP} {N fr : Nat} {rr : (Int32 × HP)} (ok : Okx x cX10_years yX10_years.cls 6 fr) (hfr : 3 ≤ fr)  {x0 : Nat} {x2 : Int32} {n_x0 : Nat} (f_x0 : h0.1[x0]? = some (10, n_x0)) (hF : Fend x h0 (some (.int)) (QI rr.1 rr.2)) {k171 : HP → Option (Int32 × HP)} (hk171 : ∀ (h : HP), k171 h = some rr → h.1 = h0.1 → wp x 171 [(0, .ref x0)] [] h) {rc : Int32 → HP → Option (Int32 × HP)} (ih : ∀ (x3 : Int32) (h : HP), rc x3 h = some rr → h.1 = h0.1 → wp x 30 [(3, .int x3), (0, .ref x0), (2, .int x2)] [] h) : ∀ (x3 : Int32) (h : HP), f_X10_years_B30 N x0 x2 k171 rc x3 h = some rr → h.1 = h0.1 → wp x 30 [(3, .int x3), (0, .ref x0), (2, .int x2)] [] h := by
  intro x3 h hq e
  unfold f_X10_years_B30 at hq
  refine wp_iload_n (v := x3) ok dX10_years_30 rfl ?_
  refine wp_iload_n (v := x2) ok dX10_years_31 rfl ?_
  refine wp_icmp_ge (tgt := 171) ok dX10_years_32 (by decide) (fun c15 => ?_) (fun c15 => ?_)
  · have hq := ite_t c15 hq
    refine wp_sub (L' := [(0, .ref x0)]) [1] rfl ?_
    exact hk171 h hq e
  · have hq := ite_f c15 hq
    refine wp_aload_n (v := x0) ok dX10_years_35 rfl ?_
    refine wp_iconst (v := 5) ok dX10_years_36 (by decide) ?_
    obtain ⟨v16, h18, e17, hq⟩ := bnd2_some hq
    refine wp_callVI (As := [.int 5]) (rest := []) (h1 := h18) ok (m_X10_draws e17 (Nat.le_refl _)) my_X10_draws (w_1594) pd_X10_draws (Nat.le_trans (by decide) hfr) rfl (ci := 10) rfl (by decide) (sh_of e f_x0) rfl rfl rfl dX10_years_37 (fun e19 => ?_)
    have e20 : h18.1 = h0.1 := (e19).trans e
    refine wp_istore (L' := [(4, .int v16), (3, .int x3), (0, .ref x0), (2, .int x2)]) ok dX10_years_40 rfl rfl ?_
    refine wp_iload (v := v16) ok dX10_years_42 rfl ?_
    refine wp_iconst (v := 2) ok dX10_years_44 (by decide) ?_
    refine wp_icmp_ge (tgt := 59) ok dX10_years_45 (by decide) (fun c21 => ?_) (fun c21 => ?_)
    · have hq := ite_t c21 hq
      refine wp_iload (v := v16) ok dX10_years_59 rfl ?_
      refine wp_iconst (v := 4) ok dX10_years_61 (by decide) ?_
      refine wp_icmp_ne (tgt := 84) ok dX10_years_62 (by decide) (fun c22 => ?_) (fun c22 => ?_)
      · have hq := ite_f c22 hq
        refine wp_aload_n (v := x0) ok dX10_years_84 rfl ?_
        refine wp_getI ok fl_RX10_120 (sh_of e20 f_x0) dX10_years_85 ?_
        obtain ⟨k23, ek23, hq⟩ := jn0_some hq
        have kk23 : k23 = some rr → wp x 118 [(3, .int x3), (0, .ref x0), (2, .int x2)] [] h18 := by
          intro hq
          rw [ek23] at hq
          refine wp_aload_n (v := x0) ok dX10_years_118 rfl ?_
          refine wp_getI ok fl_RX10_120 (sh_of e20 f_x0) dX10_years_119 ?_
          refine wp_if_le (tgt := 165) ok dX10_years_122 (by decide) (fun c24 => ?_) (fun c24 => ?_)
          · have hq := ite_t c24 hq
            obtain ⟨v25, e26, hq⟩ := lt_some hq
            refine wp_iinc (v := x3) (w := 1) (L' := [(3, .int v25), (0, .ref x0), (2, .int x2)]) ok dX10_years_165 rfl (by decide) rfl (by rw [← e26]; rfl) ?_
            refine wp_goto (tgt := 30) ok dX10_years_168 (by decide) ?_
            refine wp_sub (L' := [(3, .int v25), (0, .ref x0), (2, .int x2)]) [0, 1, 2] rfl ?_
            exact ih v25 h18 hq e20
          · have hq := ite_f c24 hq
            refine wp_iconst (v := 1) ok dX10_years_125 (by decide) ?_
            refine wp_aload_n (v := x0) ok dX10_years_126 rfl ?_
            refine wp_aload_n (v := x0) ok dX10_years_127 rfl ?_
            refine wp_getI ok fl_RX10_120 (sh_of e20 f_x0) dX10_years_128 ?_
            obtain ⟨v27, h29, e28, hq⟩ := bnd2_some hq
            refine wp_callVI (As := [.int (h18.2.1 x0 3)]) (rest := [.int 1]) (h1 := h29) ok (m_X10_draws e28 (Nat.le_refl _)) my_X10_draws (w_1594) pd_X10_draws (Nat.le_trans (by decide) hfr) rfl (ci := 10) rfl (by decide) (sh_of e20 f_x0) rfl rfl rfl dX10_years_131 (fun e30 => ?_)
            have e31 : h29.1 = h0.1 := (e30).trans e20
            obtain ⟨v32, e33, hq⟩ := bnd_some hq
            refine wp_callSI (As := [.int 1, .int v27]) (rest := []) (h1 := h29) ok (m_X10_at e33 (Nat.le_refl _)) my_X10_at (w_1301) pd_X10_at (Nat.le_trans (by decide) hfr) rfl rfl rfl rfl dX10_years_134 (fun e34 => ?_)
            refine wp_istore (L' := [(5, .int v32), (3, .int x3), (0, .ref x0), (2, .int x2)]) ok dX10_years_137 rfl rfl ?_
            refine wp_aload_n (v := x0) ok dX10_years_139 rfl ?_
            obtain ⟨t35, e36, hq⟩ := bnd_some hq
            obtain ⟨e37, n38, f39⟩ := rK_some e36
            replace f39 := sh_of (e31).symm f39
            refine wp_getR ok fl_RX10_44 (sh_of e31 f_x0) e37 dX10_years_140 ?_
            refine wp_iload (v := v32) ok dX10_years_143 rfl ?_
            refine wp_ldc (v := 99999) ok (w_1308) dX10_years_145 ?_
            refine wp_aload_n (v := x0) ok dX10_years_147 rfl ?_
            obtain ⟨t40, e41, hq⟩ := bnd_some hq
            obtain ⟨e42, n43, f44⟩ := rK_some e41
            replace f44 := sh_of (e31).symm f44
            refine wp_getR ok fl_RX10_44 (sh_of e31 f_x0) e42 dX10_years_148 ?_
            refine wp_iload (v := v32) ok dX10_years_151 rfl ?_
            obtain ⟨g45, hq⟩ := gP_some hq
            refine wp_iald ok (sh_of e31 f44) (ix_of (sh_of e31 f44) g45) dX10_years_153 ?_
            refine wp_aload_n (v := x0) ok dX10_years_154 rfl ?_
            refine wp_bipush (v := 100) ok dX10_years_155 (by decide) ?_
            obtain ⟨v46, h48, e47, hq⟩ := bnd2_some hq
            refine wp_callVI (As := [.int 100]) (rest := [.int (h29.2.1 t40 v32.toNatClampNeg), .int 99999, .int v32, .ref t35]) (h1 := h48) ok (m_X10_draws e47 (Nat.le_refl _)) my_X10_draws (w_1594) pd_X10_draws (Nat.le_trans (by decide) hfr) rfl (ci := 10) rfl (by decide) (sh_of e31 f_x0) rfl rfl rfl dX10_years_157 (fun e49 => ?_)
            have e50 : h48.1 = h0.1 := (e49).trans e31
            refine wp_iadd ok dX10_years_160 ?_
            obtain ⟨v51, e52, hq⟩ := bnd_some hq
            refine wp_callSI (As := [.int 99999, .int ((h29.2.1 t40 v32.toNatClampNeg) + v46)]) (rest := [.int v32, .ref t35]) (h1 := h48) ok (m_J9_min_7cf53 e52 (Nat.le_refl _)) my_J9_min_7cf53 (w_1211) pd_J9_min_7cf53 (Nat.le_trans (by decide) hfr) rfl rfl rfl rfl dX10_years_161 (fun e53 => ?_)
            obtain ⟨g54, hq⟩ := gP_some hq
            refine wp_iast ok (sh_of e50 f39) (ix_of (sh_of e50 f39) g54) dX10_years_164 ?_
            obtain ⟨h55, e56, hq⟩ := lt_some hq
            refine wp_nmH e56 ?_
            have e57 : h55.1 = h0.1 := (congrArg Prod.fst e56).trans e50
            obtain ⟨v58, e59, hq⟩ := lt_some hq
            refine wp_iinc (v := x3) (w := 1) (L' := [(3, .int v58), (5, .int v32), (0, .ref x0), (2, .int x2)]) ok dX10_years_165 rfl (by decide) rfl (by rw [← e59]; rfl) ?_
            refine wp_goto (tgt := 30) ok dX10_years_168 (by decide) ?_
            refine wp_sub (L' := [(3, .int v58), (0, .ref x0), (2, .int x2)]) [0, 2, 3] rfl ?_
            exact ih v58 h55 hq e57
        refine wp_if_le (tgt := 118) ok dX10_years_88 (by decide) (fun c60 => ?_) (fun c60 => ?_)
        · have hq := ite_t c60 hq
          refine wp_sub (L' := [(3, .int x3), (0, .ref x0), (2, .int x2)]) [1, 2, 3] rfl ?_
          exact kk23 hq
        · have hq := ite_f c60 hq
          refine wp_iload (v := v16) ok dX10_years_91 rfl ?_
          refine wp_iconst (v := 2) ok dX10_years_93 (by decide) ?_
          refine wp_icmp_ne (tgt := 118) ok dX10_years_94 (by decide) (fun c61 => ?_) (fun c61 => ?_)
          · have hq := ite_f c61 hq
            refine wp_sub (L' := [(3, .int x3), (0, .ref x0), (2, .int x2)]) [1, 2, 3] rfl ?_
            exact kk23 hq
          · have hq := ite_t c61 hq
            refine wp_aload_n (v := x0) ok dX10_years_97 rfl ?_
            refine wp_aload_n (v := x0) ok dX10_years_98 rfl ?_
            obtain ⟨t62, e63, hq⟩ := bnd_some hq
            obtain ⟨e64, n65, f66⟩ := rK_some e63
            replace f66 := sh_of (e20).symm f66
            refine wp_getR ok fl_RX10_44 (sh_of e20 f_x0) e64 dX10_years_99 ?_
            refine wp_aload_n (v := x0) ok dX10_years_102 rfl ?_
            refine wp_aload_n (v := x0) ok dX10_years_103 rfl ?_
            refine wp_getI ok fl_RX10_120 (sh_of e20 f_x0) dX10_years_104 ?_
            obtain ⟨v67, h69, e68, hq⟩ := bnd2_some hq
            refine wp_callVI (As := [.int (h18.2.1 x0 3)]) (rest := [.ref t62, .ref x0]) (h1 := h69) ok (m_X10_draws e68 (Nat.le_refl _)) my_X10_draws (w_1594) pd_X10_draws (Nat.le_trans (by decide) hfr) rfl (ci := 10) rfl (by decide) (sh_of e20 f_x0) rfl rfl rfl dX10_years_107 (fun e70 => ?_)
            have e71 : h69.1 = h0.1 := (e70).trans e20
            refine wp_iconst (v := 1) ok dX10_years_110 (by decide) ?_
            obtain ⟨v72, h74, e73, hq⟩ := bnd2_some hq
            refine wp_callVI (As := [.ref t62, .int v67, .int 1]) (rest := []) (h1 := h74) ok (m_X10_taxesOf e73 (Nat.le_refl _)) my_X10_taxesOf (w_1390) pd_X10_taxesOf (Nat.le_trans (by decide) hfr) rfl (ci := 10) rfl (by decide) (sh_of e71 f_x0) rfl rfl rfl dX10_years_111 (fun e75 => ?_)
            have e76 : h74.1 = h0.1 := (e75).trans e71
            refine wp_pop ok dX10_years_114 rfl ?_
            refine wp_goto (tgt := 165) ok dX10_years_115 (by decide) ?_
            obtain ⟨v77, e78, hq⟩ := lt_some hq
            refine wp_iinc (v := x3) (w := 1) (L' := [(3, .int v77), (4, .int v16), (0, .ref x0), (2, .int x2)]) ok dX10_years_165 rfl (by decide) rfl (by rw [← e78]; rfl) ?_
            refine wp_goto (tgt := 30) ok dX10_years_168 (by decide) ?_
            refine wp_sub (L' := [(3, .int v77), (0, .ref x0), (2, .int x2)]) [0, 2, 3] rfl ?_
            exact ih v77 h74 hq e76
      · have hq := ite_t c22 hq
        refine wp_aload_n (v := x0) ok dX10_years_65 rfl ?_
        obtain ⟨t79, e80, hq⟩ := bnd_some hq
        obtain ⟨e81, n82, f83⟩ := rK_some e80
        replace f83 := sh_of (e20).symm f83
        refine wp_getR ok fl_RX10_44 (sh_of e20 f_x0) e81 dX10_years_66 ?_
        refine wp_bipush (v := 27) ok dX10_years_69 (by decide) ?_
        refine wp_iconst (v := 1) ok dX10_years_71 (by decide) ?_
        refine wp_aload_n (v := x0) ok dX10_years_72 rfl ?_
        obtain ⟨t84, e85, hq⟩ := bnd_some hq
        obtain ⟨e86, n87, f88⟩ := rK_some e85
        replace f88 := sh_of (e20).symm f88
        refine wp_getR ok fl_RX10_44 (sh_of e20 f_x0) e86 dX10_years_73 ?_
        refine wp_bipush (v := 27) ok dX10_years_76 (by decide) ?_
        obtain ⟨g89, hq⟩ := gP_some hq
        refine wp_iald ok (sh_of e20 f88) (ix_of (sh_of e20 f88) g89) dX10_years_78 ?_
        refine wp_isub ok dX10_years_79 ?_
        obtain ⟨g90, hq⟩ := gP_some hq
        refine wp_iast ok (sh_of e20 f83) (ix_of (sh_of e20 f83) g90) dX10_years_80 ?_
        obtain ⟨h91, e92, hq⟩ := lt_some hq
        refine wp_nmH e92 ?_
        have e93 : h91.1 = h0.1 := (congrArg Prod.fst e92).trans e20
        refine wp_goto (tgt := 165) ok dX10_years_81 (by decide) ?_
        obtain ⟨v94, e95, hq⟩ := lt_some hq
        refine wp_iinc (v := x3) (w := 1) (L' := [(3, .int v94), (4, .int v16), (0, .ref x0), (2, .int x2)]) ok dX10_years_165 rfl (by decide) rfl (by rw [← e95]; rfl) ?_
        refine wp_goto (tgt := 30) ok dX10_years_168 (by decide) ?_
        refine wp_sub (L' := [(3, .int v94), (0, .ref x0), (2, .int x2)]) [0, 2, 3] rfl ?_
        exact ih v94 h91 hq e93
    · have hq := ite_f c21 hq
      refine wp_aload_n (v := x0) ok dX10_years_48 rfl ?_
      refine wp_aload_n (v := x0) ok dX10_years_49 rfl ?_
      obtain ⟨t96, e97, hq⟩ := bnd_some hq
      obtain ⟨e98, n99, f100⟩ := rK_some e97
      replace f100 := sh_of (e20).symm f100
      refine wp_getR ok fl_RX10_44 (sh_of e20 f_x0) e98 dX10_years_50 ?_
      obtain ⟨h101, e102, hq⟩ := bnd_some hq
      refine wp_callVV (As := [.ref t96]) (rest := []) (h1 := h101) ok (m_X10_monthGoes e102 (Nat.le_refl _)) my_X10_monthGoes (w_1343) pd_X10_monthGoes (Nat.le_trans (by decide) hfr) rfl (ci := 10) rfl (by decide) (sh_of e20 f_x0) rfl rfl rfl dX10_years_53 (fun e103 => ?_)
      have e104 : h101.1 = h0.1 := (e103).trans e20
      refine wp_goto (tgt := 165) ok dX10_years_56 (by decide) ?_
      obtain ⟨v105, e106, hq⟩ := lt_some hq
      refine wp_iinc (v := x3) (w := 1) (L' := [(3, .int v105), (4, .int v16), (0, .ref x0), (2, .int x2)]) ok dX10_years_165 rfl (by decide) rfl (by rw [← e106]; rfl) ?_
      refine wp_goto (tgt := 30) ok dX10_years_168 (by decide) ?_
      refine wp_sub (L' := [(3, .int v105), (0, .ref x0), (2, .int x2)]) [0, 2, 3] rfl ?_
      exact ih v105 h101 hq e104
set_option maxHeartbeats 4000000 in
set_option maxRecDepth 100000 in
theorem l_X10_years_B30 {x : Cx} {h0 : HP} {N fr : Nat} {rr : (Int32 × HP)} (ok : Okx x cX10_years yX10_years.cls 6 fr) (hfr : 3 ≤ fr)  {x0 : Nat} {x2 : Int32} {n_x0 : Nat} (f_x0 : h0.1[x0]? = some (10, n_x0)) (hF : Fend x h0 (some (.int)) (QI rr.1 rr.2)) {k171 : HP → Option (Int32 × HP)} (hk171 : ∀ (h : HP), k171 h = some rr → h.1 = h0.1 → wp x 171 [(0, .ref x0)] [] h) : ∀ (n : Nat) (x3 : Int32) (h : HP), lp (fun _ _ => none) (f_X10_years_B30 N x0 x2 k171) n x3 h = some rr → h.1 = h0.1 → wp x 30 [(3, .int x3), (0, .ref x0), (2, .int x2)] [] h := by
  intro n
  induction n with
  | zero => intro x3 h hq e; exact (Option.some_ne_none _ hq.symm).elim
  | succ n ih => exact s_X10_years_B30 ok hfr f_x0 hF hk171 ih
set_option maxHeartbeats 4000000 in
set_option maxRecDepth 100000 in
theorem m_X10_years {l : Launch} {h : HP} {N : Nat} {x0 : Nat} {x1 : Int32} {x2 : Int32} {rr : Int32} {rh : HP} {fr : Nat} (hq : f_X10_years N h x0 x1 x2 = some (rr, rh)) (hfr : 3 ≤ fr) : Mt l yX10_years cX10_years 6 (some (.int)) fr [.ref x0, .int x1, .int x2] h (QI rr rh) := by
  obtain ⟨rp, ep⟩ : ∃ rp : (Int32 × HP), rp = (rr, rh) := ⟨_, rfl⟩
  have e1p : rr = rp.1 := (congrArg Prod.fst ep).symm
  have e2p : rh = rp.2 := (congrArg Prod.snd ep).symm
  rw [← ep] at hq
  rw [e1p, e2p]
  clear e1p e2p ep
  refine Mt.of (by decide +kernel) (Nat.le_of_ble_eq_true rfl) (fun x hl ok hF => ?_)
  subst hl
  show wp x 0 [(0, .ref x0), (1, .int x1), (2, .int x2)] [] h
  unfold f_X10_years at hq
  obtain ⟨h0, eh0⟩ : ∃ h0 : HP, h = h0 := ⟨h, rfl⟩
  have e : h.1 = h0.1 := by rw [eh0]
  rw [eh0] at hF
  obtain ⟨g_x0, hq⟩ := gP_some hq
  obtain ⟨n_x0, f_x0⟩ := kO_some g_x0
  replace f_x0 := sh_of e.symm f_x0
  refine wp_aload_n (v := x0) ok dX10_years_0 rfl ?_
  refine wp_iconst (v := 0) ok dX10_years_1 (by decide) ?_
  refine wp_putI ok flw_RX10_3 (nr_10_0 _) (sh_of e f_x0) dX10_years_2 ?_
  obtain ⟨h1, e2, hq⟩ := lt_some hq
  refine wp_nmH e2 ?_
  have e3 : h1.1 = h0.1 := (congrArg Prod.fst e2).trans e
  refine wp_iload_n (v := x2) ok dX10_years_5 rfl ?_
  refine wp_i2l ok dX10_years_6 ?_
  refine wp_lconst (v := 1) ok dX10_years_7 (by decide) ?_
  refine wp_ldc2 (v := 60) ok (w_1334) dX10_years_8 ?_
  obtain ⟨v4, e5, hq⟩ := bnd_some hq
  refine wp_callSI (As := [.long (x2.toInt64), .long 1, .long 60]) (rest := []) (h1 := h1) ok (m_X10_in e5 (Nat.le_refl _)) my_X10_in (w_1200) pd_X10_in (Nat.le_trans (by decide) hfr) rfl rfl rfl rfl dX10_years_11 (fun e6 => ?_)
  refine wp_if_ne (tgt := 19) ok dX10_years_14 (by decide) (fun c7 => ?_) (fun c7 => ?_)
  · have hq := ite_f c7 hq
    refine wp_aload_n (v := x0) ok dX10_years_19 rfl ?_
    refine wp_iload_n (v := x1) ok dX10_years_20 rfl ?_
    refine wp_putI ok flw_RX10_408 (nr_10_44 _) (sh_of e3 f_x0) dX10_years_21 ?_
    obtain ⟨h8, e9, hq⟩ := lt_some hq
    refine wp_nmH e9 ?_
    have e10 : h8.1 = h0.1 := (congrArg Prod.fst e9).trans e3
    refine wp_aload_n (v := x0) ok dX10_years_24 rfl ?_
    obtain ⟨h11, e12, hq⟩ := bnd_some hq
    refine wp_callVV (As := []) (rest := []) (h1 := h11) ok (m_X10_copies e12 (Nat.le_refl _)) my_X10_copies (w_1438) pd_X10_copies (Nat.le_trans (by decide) hfr) rfl (ci := 10) rfl (by decide) (sh_of e10 f_x0) rfl rfl rfl dX10_years_25 (fun e13 => ?_)
    have e14 : h11.1 = h0.1 := (e13).trans e10
    refine wp_iconst (v := 0) ok dX10_years_28 (by decide) ?_
    refine wp_istore_n (L' := [(3, .int 0), (0, .ref x0), (1, .int x1), (2, .int x2)]) ok dX10_years_29 rfl rfl ?_
    refine wp_sub (L' := [(3, .int 0), (0, .ref x0), (2, .int x2)]) [0, 1, 3] rfl ?_
    refine l_X10_years_B30 ok hfr f_x0 hF ?_ N 0 h11 hq e14
    · intro h107 hq e108
      refine wp_aload_n (v := x0) ok dX10_years_171 rfl ?_
      refine wp_iconst (v := 0) ok dX10_years_172 (by decide) ?_
      refine wp_putI ok flw_RX10_15 (nr_10_1 _) (sh_of e108 f_x0) dX10_years_173 ?_
      obtain ⟨h109, e110, hq⟩ := lt_some hq
      refine wp_nmH e110 ?_
      have e111 : h109.1 = h0.1 := (congrArg Prod.fst e110).trans e108
      refine wp_aload_n (v := x0) ok dX10_years_176 rfl ?_
      refine wp_aload_n (v := x0) ok dX10_years_177 rfl ?_
      refine wp_aload_n (v := x0) ok dX10_years_178 rfl ?_
      obtain ⟨t112, e113, hq⟩ := bnd_some hq
      obtain ⟨e114, n115, f116⟩ := rK_some e113
      replace f116 := sh_of (e111).symm f116
      refine wp_getR ok fl_RX10_44 (sh_of e111 f_x0) e114 dX10_years_179 ?_
      refine wp_iconst (v := 0) ok dX10_years_182 (by decide) ?_
      obtain ⟨v117, e118, hq⟩ := bnd_some hq
      refine wp_callVI (As := [.ref t112, .int 0]) (rest := [.ref x0]) (h1 := h109) ok (m_X10_sumOf e118 (Nat.le_refl _)) my_X10_sumOf (w_1599) pd_X10_sumOf (Nat.le_trans (by decide) hfr) rfl (ci := 10) rfl (by decide) (sh_of e111 f_x0) rfl rfl rfl dX10_years_183 (fun e119 => ?_)
      refine wp_i2l ok dX10_years_186 ?_
      obtain ⟨h120, e121, hq⟩ := bnd_some hq
      refine wp_callVV (As := [.long (v117.toInt64)]) (rest := []) (h1 := h120) ok (m_X10_enters e121 (Nat.le_refl _)) my_X10_enters (w_1347) pd_X10_enters (Nat.le_trans (by decide) hfr) rfl (ci := 10) rfl (by decide) (sh_of e111 f_x0) rfl rfl rfl dX10_years_187 (fun e122 => ?_)
      have e123 : h120.1 = h0.1 := (e122).trans e111
      refine wp_aload_n (v := x0) ok dX10_years_190 rfl ?_
      refine wp_aload_n (v := x0) ok dX10_years_191 rfl ?_
      refine wp_aload_n (v := x0) ok dX10_years_192 rfl ?_
      obtain ⟨t124, e125, hq⟩ := bnd_some hq
      obtain ⟨e126, n127, f128⟩ := rK_some e125
      replace f128 := sh_of (e123).symm f128
      refine wp_getR ok fl_RX10_44 (sh_of e123 f_x0) e126 dX10_years_193 ?_
      refine wp_bipush (v := 6) ok dX10_years_196 (by decide) ?_
      obtain ⟨v129, e130, hq⟩ := bnd_some hq
      refine wp_callVI (As := [.ref t124, .int 6]) (rest := [.ref x0]) (h1 := h120) ok (m_X10_sumOf e130 (Nat.le_refl _)) my_X10_sumOf (w_1599) pd_X10_sumOf (Nat.le_trans (by decide) hfr) rfl (ci := 10) rfl (by decide) (sh_of e123 f_x0) rfl rfl rfl dX10_years_198 (fun e131 => ?_)
      refine wp_i2l ok dX10_years_201 ?_
      obtain ⟨h132, e133, hq⟩ := bnd_some hq
      refine wp_callVV (As := [.long (v129.toInt64)]) (rest := []) (h1 := h132) ok (m_X10_enters e133 (Nat.le_refl _)) my_X10_enters (w_1347) pd_X10_enters (Nat.le_trans (by decide) hfr) rfl (ci := 10) rfl (by decide) (sh_of e123 f_x0) rfl rfl rfl dX10_years_202 (fun e134 => ?_)
      have e135 : h132.1 = h0.1 := (e134).trans e123
      refine wp_aload_n (v := x0) ok dX10_years_205 rfl ?_
      obtain ⟨t136, e137, hq⟩ := bnd_some hq
      obtain ⟨e138, n139, f140⟩ := rK_some e137
      replace f140 := sh_of (e135).symm f140
      refine wp_getR ok fl_RX10_44 (sh_of e135 f_x0) e138 dX10_years_206 ?_
      refine wp_bipush (v := 26) ok dX10_years_209 (by decide) ?_
      obtain ⟨g141, hq⟩ := gP_some hq
      refine wp_iald ok (sh_of e135 f140) (ix_of (sh_of e135 f140) g141) dX10_years_211 ?_
      exact wp_iret ok hF rfl e135 (re2I hq) dX10_years_212
  · have hq := ite_t c7 hq
    refine wp_iconst (v := -1) ok dX10_years_17 (by decide) ?_
    exact wp_iret ok hF rfl e3 (re2I hq) dX10_years_18
set_option maxHeartbeats 4000000 in
set_option maxRecDepth 100000 in
theorem s_X10_keep_B38 {x : Cx} {h0 : HP} {N fr : Nat} {rr : (Int32 × HP)} (ok : Okx x cX10_keep yX10_keep.cls 3 fr) (hfr : 1 ≤ fr)  {x0 : Nat} {x1 : Int32} {n_x0 : Nat} (f_x0 : h0.1[x0]? = some (10, n_x0)) (hF : Fend x h0 (some (.boolean)) (QI rr.1 rr.2)) {rc : Int32 → HP → Option (Int32 × HP)} (ih : ∀ (x2 : Int32) (h : HP), rc x2 h = some rr → h.1 = h0.1 → wp x 38 [(2, .int x2), (0, .ref x0), (1, .int x1)] [] h) : ∀ (x2 : Int32) (h : HP), f_X10_keep_B38 N x0 x1 rc x2 h = some rr → h.1 = h0.1 → wp x 38 [(2, .int x2), (0, .ref x0), (1, .int x1)] [] h := by
  intro x2 h hq e
  unfold f_X10_keep_B38 at hq
  refine wp_iload_n (v := x2) ok dX10_keep_38 rfl ?_
  refine wp_bipush (v := 28) ok dX10_keep_39 (by decide) ?_
  refine wp_icmp_ge (tgt := 67) ok dX10_keep_41 (by decide) (fun c26 => ?_) (fun c26 => ?_)
  · have hq := ite_t c26 hq
    refine wp_iconst (v := 1) ok dX10_keep_67 (by decide) ?_
    exact wp_iret ok hF (nb_z (Or.inr rfl)) e (re2I hq) dX10_keep_68
  · have hq := ite_f c26 hq
    refine wp_aload_n (v := x0) ok dX10_keep_44 rfl ?_
    obtain ⟨t27, e28, hq⟩ := bnd_some hq
    obtain ⟨e29, n30, f31⟩ := rK_some e28
    replace f31 := sh_of (e).symm f31
    refine wp_getR ok fl_RX10_117 (sh_of e f_x0) e29 dX10_keep_45 ?_
    refine wp_bipush (v := 28) ok dX10_keep_48 (by decide) ?_
    refine wp_iload_n (v := x1) ok dX10_keep_50 rfl ?_
    refine wp_imul ok dX10_keep_51 ?_
    refine wp_iload_n (v := x2) ok dX10_keep_52 rfl ?_
    refine wp_iadd ok dX10_keep_53 ?_
    refine wp_aload_n (v := x0) ok dX10_keep_54 rfl ?_
    obtain ⟨t32, e33, hq⟩ := bnd_some hq
    obtain ⟨e34, n35, f36⟩ := rK_some e33
    replace f36 := sh_of (e).symm f36
    refine wp_getR ok fl_RX10_41 (sh_of e f_x0) e34 dX10_keep_55 ?_
    refine wp_iload_n (v := x2) ok dX10_keep_58 rfl ?_
    obtain ⟨g37, hq⟩ := gP_some hq
    refine wp_iald ok (sh_of e f36) (ix_of (sh_of e f36) g37) dX10_keep_59 ?_
    obtain ⟨g38, hq⟩ := gP_some hq
    refine wp_iast ok (sh_of e f31) (ix_of (sh_of e f31) g38) dX10_keep_60 ?_
    obtain ⟨h39, e40, hq⟩ := lt_some hq
    refine wp_nmH e40 ?_
    have e41 : h39.1 = h0.1 := (congrArg Prod.fst e40).trans e
    obtain ⟨v42, e43, hq⟩ := lt_some hq
    refine wp_iinc (v := x2) (w := 1) (L' := [(2, .int v42), (0, .ref x0), (1, .int x1)]) ok dX10_keep_61 rfl (by decide) rfl (by rw [← e43]; rfl) ?_
    refine wp_goto (tgt := 38) ok dX10_keep_64 (by decide) ?_
    refine wp_sub (L' := [(2, .int v42), (0, .ref x0), (1, .int x1)]) [0, 1, 2] rfl ?_
    exact ih v42 h39 hq e41
set_option maxHeartbeats 4000000 in
set_option maxRecDepth 100000 in
theorem l_X10_keep_B38 {x : Cx} {h0 : HP} {N fr : Nat} {rr : (Int32 × HP)} (ok : Okx x cX10_keep yX10_keep.cls 3 fr) (hfr : 1 ≤ fr)  {x0 : Nat} {x1 : Int32} {n_x0 : Nat} (f_x0 : h0.1[x0]? = some (10, n_x0)) (hF : Fend x h0 (some (.boolean)) (QI rr.1 rr.2)) : ∀ (n : Nat) (x2 : Int32) (h : HP), lp (fun _ _ => none) (f_X10_keep_B38 N x0 x1) n x2 h = some rr → h.1 = h0.1 → wp x 38 [(2, .int x2), (0, .ref x0), (1, .int x1)] [] h := by
  intro n
  induction n with
  | zero => intro x2 h hq e; exact (Option.some_ne_none _ hq.symm).elim
  | succ n ih => exact s_X10_keep_B38 ok hfr f_x0 hF  ih
set_option maxHeartbeats 4000000 in
set_option maxRecDepth 100000 in
theorem m_X10_keep {l : Launch} {h : HP} {N : Nat} {x0 : Nat} {x1 : Int32} {rr : Int32} {rh : HP} {fr : Nat} (hq : f_X10_keep N h x0 x1 = some (rr, rh)) (hfr : 1 ≤ fr) : Mt l yX10_keep cX10_keep 3 (some (.boolean)) fr [.ref x0, .int x1] h (QI rr rh) := by
  obtain ⟨rp, ep⟩ : ∃ rp : (Int32 × HP), rp = (rr, rh) := ⟨_, rfl⟩
  have e1p : rr = rp.1 := (congrArg Prod.fst ep).symm
  have e2p : rh = rp.2 := (congrArg Prod.snd ep).symm
  rw [← ep] at hq
  rw [e1p, e2p]
  clear e1p e2p ep
  refine Mt.of (by decide +kernel) (Nat.le_of_ble_eq_true rfl) (fun x hl ok hF => ?_)
  subst hl
  show wp x 0 [(0, .ref x0), (1, .int x1)] [] h
  unfold f_X10_keep at hq
  obtain ⟨h0, eh0⟩ : ∃ h0 : HP, h = h0 := ⟨h, rfl⟩
  have e : h.1 = h0.1 := by rw [eh0]
  rw [eh0] at hF
  obtain ⟨g_x0, hq⟩ := gP_some hq
  obtain ⟨n_x0, f_x0⟩ := kO_some g_x0
  replace f_x0 := sh_of e.symm f_x0
  refine wp_aload_n (v := x0) ok dX10_keep_0 rfl ?_
  refine wp_iconst (v := 0) ok dX10_keep_1 (by decide) ?_
  refine wp_putI ok flw_RX10_3 (nr_10_0 _) (sh_of e f_x0) dX10_keep_2 ?_
  obtain ⟨h1, e2, hq⟩ := lt_some hq
  refine wp_nmH e2 ?_
  have e3 : h1.1 = h0.1 := (congrArg Prod.fst e2).trans e
  refine wp_iload_n (v := x1) ok dX10_keep_5 rfl ?_
  refine wp_i2l ok dX10_keep_6 ?_
  refine wp_lconst (v := 0) ok dX10_keep_7 (by decide) ?_
  refine wp_ldc2 (v := 2) ok (w_1536) dX10_keep_8 ?_
  obtain ⟨v4, e5, hq⟩ := bnd_some hq
  refine wp_callSI (As := [.long (x1.toInt64), .long 0, .long 2]) (rest := []) (h1 := h1) ok (m_X10_in e5 (Nat.le_refl _)) my_X10_in (w_1200) pd_X10_in (Nat.le_trans (by decide) hfr) rfl rfl rfl rfl dX10_keep_11 (fun e6 => ?_)
  refine wp_if_ne (tgt := 19) ok dX10_keep_14 (by decide) (fun c7 => ?_) (fun c7 => ?_)
  · have hq := ite_f c7 hq
    refine wp_aload_n (v := x0) ok dX10_keep_19 rfl ?_
    obtain ⟨t8, e9, hq⟩ := bnd_some hq
    obtain ⟨e10, n11, f12⟩ := rK_some e9
    replace f12 := sh_of (e3).symm f12
    refine wp_getR ok fl_RX10_110 (sh_of e3 f_x0) e10 dX10_keep_20 ?_
    refine wp_iload_n (v := x1) ok dX10_keep_23 rfl ?_
    refine wp_iconst (v := 1) ok dX10_keep_24 (by decide) ?_
    obtain ⟨g13, hq⟩ := gP_some hq
    refine wp_zast ok (sh_of e3 f12) (ix_of (sh_of e3 f12) g13) dX10_keep_25 ?_
    obtain ⟨h14, e15, hq⟩ := lt_some hq
    refine wp_nmH e15 ?_
    have e16 : h14.1 = h0.1 := (congrArg Prod.fst e15).trans e3
    refine wp_aload_n (v := x0) ok dX10_keep_26 rfl ?_
    obtain ⟨t17, e18, hq⟩ := bnd_some hq
    obtain ⟨e19, n20, f21⟩ := rK_some e18
    replace f21 := sh_of (e16).symm f21
    refine wp_getR ok fl_RX10_114 (sh_of e16 f_x0) e19 dX10_keep_27 ?_
    refine wp_iload_n (v := x1) ok dX10_keep_30 rfl ?_
    refine wp_aload_n (v := x0) ok dX10_keep_31 rfl ?_
    refine wp_getI ok fl_RX10_194 (sh_of e16 f_x0) dX10_keep_32 ?_
    obtain ⟨g22, hq⟩ := gP_some hq
    refine wp_iast ok (sh_of e16 f21) (ix_of (sh_of e16 f21) g22) dX10_keep_35 ?_
    obtain ⟨h23, e24, hq⟩ := lt_some hq
    refine wp_nmH e24 ?_
    have e25 : h23.1 = h0.1 := (congrArg Prod.fst e24).trans e16
    refine wp_iconst (v := 0) ok dX10_keep_36 (by decide) ?_
    refine wp_istore_n (L' := [(2, .int 0), (0, .ref x0), (1, .int x1)]) ok dX10_keep_37 rfl rfl ?_
    refine wp_sub (L' := [(2, .int 0), (0, .ref x0), (1, .int x1)]) [0, 1, 2] rfl ?_
    refine l_X10_keep_B38 ok hfr f_x0 hF  N 0 h23 hq e25
  · have hq := ite_t c7 hq
    refine wp_iconst (v := 0) ok dX10_keep_17 (by decide) ?_
    exact wp_iret ok hF (nb_z (Or.inl rfl)) e3 (re2I hq) dX10_keep_18
set_option maxHeartbeats 4000000 in
set_option maxRecDepth 100000 in
theorem s_X10_again_B43 {x : Cx} {h0 : HP} {N fr : Nat} {rr : (Int32 × HP)} (ok : Okx x cX10_again yX10_again.cls 3 fr) (hfr : 1 ≤ fr)  {x0 : Nat} {x1 : Int32} {n_x0 : Nat} (f_x0 : h0.1[x0]? = some (10, n_x0)) (hF : Fend x h0 (some (.boolean)) (QI rr.1 rr.2)) {rc : Int32 → HP → Option (Int32 × HP)} (ih : ∀ (x2 : Int32) (h : HP), rc x2 h = some rr → h.1 = h0.1 → wp x 43 [(2, .int x2), (0, .ref x0), (1, .int x1)] [] h) : ∀ (x2 : Int32) (h : HP), f_X10_again_B43 N x0 x1 rc x2 h = some rr → h.1 = h0.1 → wp x 43 [(2, .int x2), (0, .ref x0), (1, .int x1)] [] h := by
  intro x2 h hq e
  unfold f_X10_again_B43 at hq
  refine wp_iload_n (v := x2) ok dX10_again_43 rfl ?_
  refine wp_bipush (v := 28) ok dX10_again_44 (by decide) ?_
  refine wp_icmp_ge (tgt := 72) ok dX10_again_46 (by decide) (fun c22 => ?_) (fun c22 => ?_)
  · have hq := ite_t c22 hq
    refine wp_aload_n (v := x0) ok dX10_again_72 rfl ?_
    refine wp_iconst (v := 0) ok dX10_again_73 (by decide) ?_
    refine wp_putI ok flw_RX10_191 (nr_10_25 _) (sh_of e f_x0) dX10_again_74 ?_
    obtain ⟨h23, e24, hq⟩ := lt_some hq
    refine wp_nmH e24 ?_
    have e25 : h23.1 = h0.1 := (congrArg Prod.fst e24).trans e
    refine wp_iconst (v := 1) ok dX10_again_77 (by decide) ?_
    exact wp_iret ok hF (nb_z (Or.inr rfl)) e25 (re2I hq) dX10_again_78
  · have hq := ite_f c22 hq
    refine wp_aload_n (v := x0) ok dX10_again_49 rfl ?_
    obtain ⟨t26, e27, hq⟩ := bnd_some hq
    obtain ⟨e28, n29, f30⟩ := rK_some e27
    replace f30 := sh_of (e).symm f30
    refine wp_getR ok fl_RX10_41 (sh_of e f_x0) e28 dX10_again_50 ?_
    refine wp_iload_n (v := x2) ok dX10_again_53 rfl ?_
    refine wp_aload_n (v := x0) ok dX10_again_54 rfl ?_
    obtain ⟨t31, e32, hq⟩ := bnd_some hq
    obtain ⟨e33, n34, f35⟩ := rK_some e32
    replace f35 := sh_of (e).symm f35
    refine wp_getR ok fl_RX10_117 (sh_of e f_x0) e33 dX10_again_55 ?_
    refine wp_bipush (v := 28) ok dX10_again_58 (by decide) ?_
    refine wp_iload_n (v := x1) ok dX10_again_60 rfl ?_
    refine wp_imul ok dX10_again_61 ?_
    refine wp_iload_n (v := x2) ok dX10_again_62 rfl ?_
    refine wp_iadd ok dX10_again_63 ?_
    obtain ⟨g36, hq⟩ := gP_some hq
    refine wp_iald ok (sh_of e f35) (ix_of (sh_of e f35) g36) dX10_again_64 ?_
    obtain ⟨g37, hq⟩ := gP_some hq
    refine wp_iast ok (sh_of e f30) (ix_of (sh_of e f30) g37) dX10_again_65 ?_
    obtain ⟨h38, e39, hq⟩ := lt_some hq
    refine wp_nmH e39 ?_
    have e40 : h38.1 = h0.1 := (congrArg Prod.fst e39).trans e
    obtain ⟨v41, e42, hq⟩ := lt_some hq
    refine wp_iinc (v := x2) (w := 1) (L' := [(2, .int v41), (0, .ref x0), (1, .int x1)]) ok dX10_again_66 rfl (by decide) rfl (by rw [← e42]; rfl) ?_
    refine wp_goto (tgt := 43) ok dX10_again_69 (by decide) ?_
    refine wp_sub (L' := [(2, .int v41), (0, .ref x0), (1, .int x1)]) [0, 1, 2] rfl ?_
    exact ih v41 h38 hq e40
set_option maxHeartbeats 4000000 in
set_option maxRecDepth 100000 in
theorem l_X10_again_B43 {x : Cx} {h0 : HP} {N fr : Nat} {rr : (Int32 × HP)} (ok : Okx x cX10_again yX10_again.cls 3 fr) (hfr : 1 ≤ fr)  {x0 : Nat} {x1 : Int32} {n_x0 : Nat} (f_x0 : h0.1[x0]? = some (10, n_x0)) (hF : Fend x h0 (some (.boolean)) (QI rr.1 rr.2)) : ∀ (n : Nat) (x2 : Int32) (h : HP), lp (fun _ _ => none) (f_X10_again_B43 N x0 x1) n x2 h = some rr → h.1 = h0.1 → wp x 43 [(2, .int x2), (0, .ref x0), (1, .int x1)] [] h := by
  intro n
  induction n with
  | zero => intro x2 h hq e; exact (Option.some_ne_none _ hq.symm).elim
  | succ n ih => exact s_X10_again_B43 ok hfr f_x0 hF  ih
set_option maxHeartbeats 4000000 in
set_option maxRecDepth 100000 in
theorem m_X10_again {l : Launch} {h : HP} {N : Nat} {x0 : Nat} {x1 : Int32} {rr : Int32} {rh : HP} {fr : Nat} (hq : f_X10_again N h x0 x1 = some (rr, rh)) (hfr : 1 ≤ fr) : Mt l yX10_again cX10_again 3 (some (.boolean)) fr [.ref x0, .int x1] h (QI rr rh) := by
  obtain ⟨rp, ep⟩ : ∃ rp : (Int32 × HP), rp = (rr, rh) := ⟨_, rfl⟩
  have e1p : rr = rp.1 := (congrArg Prod.fst ep).symm
  have e2p : rh = rp.2 := (congrArg Prod.snd ep).symm
  rw [← ep] at hq
  rw [e1p, e2p]
  clear e1p e2p ep
  refine Mt.of (by decide +kernel) (Nat.le_of_ble_eq_true rfl) (fun x hl ok hF => ?_)
  subst hl
  show wp x 0 [(0, .ref x0), (1, .int x1)] [] h
  unfold f_X10_again at hq
  obtain ⟨h0, eh0⟩ : ∃ h0 : HP, h = h0 := ⟨h, rfl⟩
  have e : h.1 = h0.1 := by rw [eh0]
  rw [eh0] at hF
  obtain ⟨g_x0, hq⟩ := gP_some hq
  obtain ⟨n_x0, f_x0⟩ := kO_some g_x0
  replace f_x0 := sh_of e.symm f_x0
  refine wp_aload_n (v := x0) ok dX10_again_0 rfl ?_
  refine wp_iconst (v := 0) ok dX10_again_1 (by decide) ?_
  refine wp_putI ok flw_RX10_3 (nr_10_0 _) (sh_of e f_x0) dX10_again_2 ?_
  obtain ⟨h1, e2, hq⟩ := lt_some hq
  refine wp_nmH e2 ?_
  have e3 : h1.1 = h0.1 := (congrArg Prod.fst e2).trans e
  refine wp_iload_n (v := x1) ok dX10_again_5 rfl ?_
  refine wp_i2l ok dX10_again_6 ?_
  refine wp_lconst (v := 0) ok dX10_again_7 (by decide) ?_
  refine wp_ldc2 (v := 2) ok (w_1536) dX10_again_8 ?_
  obtain ⟨v4, e5, hq⟩ := bnd_some hq
  refine wp_callSI (As := [.long (x1.toInt64), .long 0, .long 2]) (rest := []) (h1 := h1) ok (m_X10_in e5 (Nat.le_refl _)) my_X10_in (w_1200) pd_X10_in (Nat.le_trans (by decide) hfr) rfl rfl rfl rfl dX10_again_11 (fun e6 => ?_)
  refine wp_if_eq (tgt := 39) ok dX10_again_14 (by decide) (fun c7 => ?_) (fun c7 => ?_)
  · have hq := ite_t c7 hq
    refine wp_iconst (v := 0) ok dX10_again_39 (by decide) ?_
    exact wp_iret ok hF (nb_z (Or.inl rfl)) e3 (re2I hq) dX10_again_40
  · have hq := ite_f c7 hq
    refine wp_aload_n (v := x0) ok dX10_again_17 rfl ?_
    obtain ⟨t8, e9, hq⟩ := bnd_some hq
    obtain ⟨e10, n11, f12⟩ := rK_some e9
    replace f12 := sh_of (e3).symm f12
    refine wp_getR ok fl_RX10_110 (sh_of e3 f_x0) e10 dX10_again_18 ?_
    refine wp_iload_n (v := x1) ok dX10_again_21 rfl ?_
    obtain ⟨g13, hq⟩ := gP_some hq
    refine wp_zald ok (sh_of e3 f12) (ix_of (sh_of e3 f12) g13) dX10_again_22 ?_
    refine wp_if_eq (tgt := 39) ok dX10_again_23 (by decide) (fun c14 => ?_) (fun c14 => ?_)
    · have hq := ite_t c14 hq
      refine wp_iconst (v := 0) ok dX10_again_39 (by decide) ?_
      exact wp_iret ok hF (nb_z (Or.inl rfl)) e3 (re2I hq) dX10_again_40
    · have hq := ite_f c14 hq
      refine wp_aload_n (v := x0) ok dX10_again_26 rfl ?_
      obtain ⟨t15, e16, hq⟩ := bnd_some hq
      obtain ⟨e17, n18, f19⟩ := rK_some e16
      replace f19 := sh_of (e3).symm f19
      refine wp_getR ok fl_RX10_114 (sh_of e3 f_x0) e17 dX10_again_27 ?_
      refine wp_iload_n (v := x1) ok dX10_again_30 rfl ?_
      obtain ⟨g20, hq⟩ := gP_some hq
      refine wp_iald ok (sh_of e3 f19) (ix_of (sh_of e3 f19) g20) dX10_again_31 ?_
      refine wp_aload_n (v := x0) ok dX10_again_32 rfl ?_
      refine wp_getI ok fl_RX10_194 (sh_of e3 f_x0) dX10_again_33 ?_
      refine wp_icmp_eq (tgt := 41) ok dX10_again_36 (by decide) (fun c21 => ?_) (fun c21 => ?_)
      · have hq := ite_t c21 hq
        refine wp_iconst (v := 0) ok dX10_again_41 (by decide) ?_
        refine wp_istore_n (L' := [(2, .int 0), (0, .ref x0), (1, .int x1)]) ok dX10_again_42 rfl rfl ?_
        refine wp_sub (L' := [(2, .int 0), (0, .ref x0), (1, .int x1)]) [0, 1, 2] rfl ?_
        refine l_X10_again_B43 ok hfr f_x0 hF  N 0 h1 hq e3
      · have hq := ite_f c21 hq
        refine wp_iconst (v := 0) ok dX10_again_39 (by decide) ?_
        exact wp_iret ok hF (nb_z (Or.inl rfl)) e3 (re2I hq) dX10_again_40
set_option maxHeartbeats 4000000 in
set_option maxRecDepth 100000 in
theorem m_X10_count {l : Launch} {h : HP} {N : Nat} {x0 : Nat} {x1 : Int32} {rr : Int32} {rh : HP} {fr : Nat} (hq : f_X10_count N h x0 x1 = some (rr, rh)) (hfr : 1 ≤ fr) : Mt l yX10_count cX10_count 2 (some (.int)) fr [.ref x0, .int x1] h (QI rr rh) := by
  obtain ⟨rp, ep⟩ : ∃ rp : (Int32 × HP), rp = (rr, rh) := ⟨_, rfl⟩
  have e1p : rr = rp.1 := (congrArg Prod.fst ep).symm
  have e2p : rh = rp.2 := (congrArg Prod.snd ep).symm
  rw [← ep] at hq
  rw [e1p, e2p]
  clear e1p e2p ep
  refine Mt.of (by decide +kernel) (Nat.le_of_ble_eq_true rfl) (fun x hl ok hF => ?_)
  subst hl
  show wp x 0 [(0, .ref x0), (1, .int x1)] [] h
  unfold f_X10_count at hq
  obtain ⟨h0, eh0⟩ : ∃ h0 : HP, h = h0 := ⟨h, rfl⟩
  have e : h.1 = h0.1 := by rw [eh0]
  rw [eh0] at hF
  obtain ⟨g_x0, hq⟩ := gP_some hq
  obtain ⟨n_x0, f_x0⟩ := kO_some g_x0
  replace f_x0 := sh_of e.symm f_x0
  refine wp_aload_n (v := x0) ok dX10_count_0 rfl ?_
  refine wp_iconst (v := 0) ok dX10_count_1 (by decide) ?_
  refine wp_putI ok flw_RX10_3 (nr_10_0 _) (sh_of e f_x0) dX10_count_2 ?_
  obtain ⟨h1, e2, hq⟩ := lt_some hq
  refine wp_nmH e2 ?_
  have e3 : h1.1 = h0.1 := (congrArg Prod.fst e2).trans e
  refine wp_iload_n (v := x1) ok dX10_count_5 rfl ?_
  by_cases c4 : x1 = 0
  · have hq := ite_t c4 hq
    refine wp_tabIn (v := 0) (tgt := 72) ok dX10_count_6 c4 (by decide) (by decide) rfl (by decide) ?_
    refine wp_aload_n (v := x0) ok dX10_count_72 rfl ?_
    refine wp_getI ok fl_RX10_120 (sh_of e3 f_x0) dX10_count_73 ?_
    exact wp_iret ok hF rfl e3 (re2I hq) dX10_count_76
  · have hq := ite_f c4 hq
    by_cases c5 : x1 = 1
    · have hq := ite_t c5 hq
      refine wp_tabIn (v := 1) (tgt := 77) ok dX10_count_6 c5 (by decide) (by decide) rfl (by decide) ?_
      refine wp_aload_n (v := x0) ok dX10_count_77 rfl ?_
      refine wp_getI ok fl_RX10_28 (sh_of e3 f_x0) dX10_count_78 ?_
      exact wp_iret ok hF rfl e3 (re2I hq) dX10_count_81
    · have hq := ite_f c5 hq
      by_cases c6 : x1 = 2
      · have hq := ite_t c6 hq
        refine wp_tabIn (v := 2) (tgt := 82) ok dX10_count_6 c6 (by decide) (by decide) rfl (by decide) ?_
        refine wp_aload_n (v := x0) ok dX10_count_82 rfl ?_
        obtain ⟨t7, e8, hq⟩ := bnd_some hq
        obtain ⟨e9, n10, f11⟩ := rK_some e8
        replace f11 := sh_of (e3).symm f11
        refine wp_getR ok fl_RX10_41 (sh_of e3 f_x0) e9 dX10_count_83 ?_
        refine wp_bipush (v := 25) ok dX10_count_86 (by decide) ?_
        obtain ⟨g12, hq⟩ := gP_some hq
        refine wp_iald ok (sh_of e3 f11) (ix_of (sh_of e3 f11) g12) dX10_count_88 ?_
        exact wp_iret ok hF rfl e3 (re2I hq) dX10_count_89
      · have hq := ite_f c6 hq
        by_cases c13 : x1 = 3
        · have hq := ite_t c13 hq
          refine wp_tabIn (v := 3) (tgt := 90) ok dX10_count_6 c13 (by decide) (by decide) rfl (by decide) ?_
          refine wp_aload_n (v := x0) ok dX10_count_90 rfl ?_
          obtain ⟨t14, e15, hq⟩ := bnd_some hq
          obtain ⟨e16, n17, f18⟩ := rK_some e15
          replace f18 := sh_of (e3).symm f18
          refine wp_getR ok fl_RX10_41 (sh_of e3 f_x0) e16 dX10_count_91 ?_
          refine wp_bipush (v := 24) ok dX10_count_94 (by decide) ?_
          obtain ⟨g19, hq⟩ := gP_some hq
          refine wp_iald ok (sh_of e3 f18) (ix_of (sh_of e3 f18) g19) dX10_count_96 ?_
          exact wp_iret ok hF rfl e3 (re2I hq) dX10_count_97
        · have hq := ite_f c13 hq
          by_cases c20 : x1 = 4
          · have hq := ite_t c20 hq
            refine wp_tabIn (v := 4) (tgt := 98) ok dX10_count_6 c20 (by decide) (by decide) rfl (by decide) ?_
            refine wp_aload_n (v := x0) ok dX10_count_98 rfl ?_
            obtain ⟨t21, e22, hq⟩ := bnd_some hq
            obtain ⟨e23, n24, f25⟩ := rK_some e22
            replace f25 := sh_of (e3).symm f25
            refine wp_getR ok fl_RX10_41 (sh_of e3 f_x0) e23 dX10_count_99 ?_
            refine wp_bipush (v := 26) ok dX10_count_102 (by decide) ?_
            obtain ⟨g26, hq⟩ := gP_some hq
            refine wp_iald ok (sh_of e3 f25) (ix_of (sh_of e3 f25) g26) dX10_count_104 ?_
            exact wp_iret ok hF rfl e3 (re2I hq) dX10_count_105
          · have hq := ite_f c20 hq
            by_cases c27 : x1 = 5
            · have hq := ite_t c27 hq
              refine wp_tabIn (v := 5) (tgt := 106) ok dX10_count_6 c27 (by decide) (by decide) rfl (by decide) ?_
              refine wp_aload_n (v := x0) ok dX10_count_106 rfl ?_
              obtain ⟨t28, e29, hq⟩ := bnd_some hq
              obtain ⟨e30, n31, f32⟩ := rK_some e29
              replace f32 := sh_of (e3).symm f32
              refine wp_getR ok fl_RX10_41 (sh_of e3 f_x0) e30 dX10_count_107 ?_
              refine wp_bipush (v := 27) ok dX10_count_110 (by decide) ?_
              obtain ⟨g33, hq⟩ := gP_some hq
              refine wp_iald ok (sh_of e3 f32) (ix_of (sh_of e3 f32) g33) dX10_count_112 ?_
              exact wp_iret ok hF rfl e3 (re2I hq) dX10_count_113
            · have hq := ite_f c27 hq
              by_cases c34 : x1 = 6
              · have hq := ite_t c34 hq
                refine wp_tabIn (v := 6) (tgt := 114) ok dX10_count_6 c34 (by decide) (by decide) rfl (by decide) ?_
                refine wp_aload_n (v := x0) ok dX10_count_114 rfl ?_
                refine wp_aload_n (v := x0) ok dX10_count_115 rfl ?_
                obtain ⟨t35, e36, hq⟩ := bnd_some hq
                obtain ⟨e37, n38, f39⟩ := rK_some e36
                replace f39 := sh_of (e3).symm f39
                refine wp_getR ok fl_RX10_41 (sh_of e3 f_x0) e37 dX10_count_116 ?_
                refine wp_iconst (v := 0) ok dX10_count_119 (by decide) ?_
                obtain ⟨v40, e41, hq⟩ := bnd_some hq
                refine wp_callVI (As := [.ref t35, .int 0]) (rest := []) (h1 := h1) ok (m_X10_sumOf e41 (Nat.le_refl _)) my_X10_sumOf (w_1599) pd_X10_sumOf (Nat.le_trans (by decide) hfr) rfl (ci := 10) rfl (by decide) (sh_of e3 f_x0) rfl rfl rfl dX10_count_120 (fun e42 => ?_)
                exact wp_iret ok hF rfl e3 (re2I hq) dX10_count_123
              · have hq := ite_f c34 hq
                by_cases c43 : x1 = 7
                · have hq := ite_t c43 hq
                  refine wp_tabIn (v := 7) (tgt := 124) ok dX10_count_6 c43 (by decide) (by decide) rfl (by decide) ?_
                  refine wp_aload_n (v := x0) ok dX10_count_124 rfl ?_
                  refine wp_aload_n (v := x0) ok dX10_count_125 rfl ?_
                  obtain ⟨t44, e45, hq⟩ := bnd_some hq
                  obtain ⟨e46, n47, f48⟩ := rK_some e45
                  replace f48 := sh_of (e3).symm f48
                  refine wp_getR ok fl_RX10_41 (sh_of e3 f_x0) e46 dX10_count_126 ?_
                  refine wp_bipush (v := 6) ok dX10_count_129 (by decide) ?_
                  obtain ⟨v49, e50, hq⟩ := bnd_some hq
                  refine wp_callVI (As := [.ref t44, .int 6]) (rest := []) (h1 := h1) ok (m_X10_sumOf e50 (Nat.le_refl _)) my_X10_sumOf (w_1599) pd_X10_sumOf (Nat.le_trans (by decide) hfr) rfl (ci := 10) rfl (by decide) (sh_of e3 f_x0) rfl rfl rfl dX10_count_131 (fun e51 => ?_)
                  exact wp_iret ok hF rfl e3 (re2I hq) dX10_count_134
                · have hq := ite_f c43 hq
                  by_cases c52 : x1 = 8
                  · have hq := ite_t c52 hq
                    refine wp_tabIn (v := 8) (tgt := 135) ok dX10_count_6 c52 (by decide) (by decide) rfl (by decide) ?_
                    refine wp_aload_n (v := x0) ok dX10_count_135 rfl ?_
                    refine wp_aload_n (v := x0) ok dX10_count_136 rfl ?_
                    obtain ⟨t53, e54, hq⟩ := bnd_some hq
                    obtain ⟨e55, n56, f57⟩ := rK_some e54
                    replace f57 := sh_of (e3).symm f57
                    refine wp_getR ok fl_RX10_41 (sh_of e3 f_x0) e55 dX10_count_137 ?_
                    refine wp_bipush (v := 12) ok dX10_count_140 (by decide) ?_
                    obtain ⟨v58, e59, hq⟩ := bnd_some hq
                    refine wp_callVI (As := [.ref t53, .int 12]) (rest := []) (h1 := h1) ok (m_X10_sumOf e59 (Nat.le_refl _)) my_X10_sumOf (w_1599) pd_X10_sumOf (Nat.le_trans (by decide) hfr) rfl (ci := 10) rfl (by decide) (sh_of e3 f_x0) rfl rfl rfl dX10_count_142 (fun e60 => ?_)
                    refine wp_aload_n (v := x0) ok dX10_count_145 rfl ?_
                    refine wp_aload_n (v := x0) ok dX10_count_146 rfl ?_
                    obtain ⟨t61, e62, hq⟩ := bnd_some hq
                    obtain ⟨e63, n64, f65⟩ := rK_some e62
                    replace f65 := sh_of (e3).symm f65
                    refine wp_getR ok fl_RX10_41 (sh_of e3 f_x0) e63 dX10_count_147 ?_
                    refine wp_bipush (v := 18) ok dX10_count_150 (by decide) ?_
                    obtain ⟨v66, e67, hq⟩ := bnd_some hq
                    refine wp_callVI (As := [.ref t61, .int 18]) (rest := [.int v58]) (h1 := h1) ok (m_X10_sumOf e67 (Nat.le_refl _)) my_X10_sumOf (w_1599) pd_X10_sumOf (Nat.le_trans (by decide) hfr) rfl (ci := 10) rfl (by decide) (sh_of e3 f_x0) rfl rfl rfl dX10_count_152 (fun e68 => ?_)
                    refine wp_iadd ok dX10_count_155 ?_
                    exact wp_iret ok hF rfl e3 (re2I hq) dX10_count_156
                  · have hq := ite_f c52 hq
                    by_cases c69 : x1 = 9
                    · have hq := ite_t c69 hq
                      refine wp_tabIn (v := 9) (tgt := 157) ok dX10_count_6 c69 (by decide) (by decide) rfl (by decide) ?_
                      refine wp_aload_n (v := x0) ok dX10_count_157 rfl ?_
                      refine wp_getI ok fl_RX10_384 (sh_of e3 f_x0) dX10_count_158 ?_
                      exact wp_iret ok hF rfl e3 (re2I hq) dX10_count_161
                    · have hq := ite_f c69 hq
                      by_cases c70 : x1 = 10
                      · have hq := ite_t c70 hq
                        refine wp_tabIn (v := 10) (tgt := 162) ok dX10_count_6 c70 (by decide) (by decide) rfl (by decide) ?_
                        refine wp_aload_n (v := x0) ok dX10_count_162 rfl ?_
                        refine wp_getI ok fl_RX10_191 (sh_of e3 f_x0) dX10_count_163 ?_
                        exact wp_iret ok hF rfl e3 (re2I hq) dX10_count_166
                      · have hq := ite_f c70 hq
                        by_cases c71 : x1 = 11
                        · have hq := ite_t c71 hq
                          refine wp_tabIn (v := 11) (tgt := 167) ok dX10_count_6 c71 (by decide) (by decide) rfl (by decide) ?_
                          refine wp_aload_n (v := x0) ok dX10_count_167 rfl ?_
                          refine wp_getI ok fl_RX10_15 (sh_of e3 f_x0) dX10_count_168 ?_
                          exact wp_iret ok hF rfl e3 (re2I hq) dX10_count_171
                        · have hq := ite_f c71 hq
                          by_cases c72 : x1 = 12
                          · have hq := ite_t c72 hq
                            refine wp_tabIn (v := 12) (tgt := 172) ok dX10_count_6 c72 (by decide) (by decide) rfl (by decide) ?_
                            refine wp_aload_n (v := x0) ok dX10_count_172 rfl ?_
                            refine wp_getI ok fl_RX10_127 (sh_of e3 f_x0) dX10_count_173 ?_
                            exact wp_iret ok hF rfl e3 (re2I hq) dX10_count_176
                          · have hq := ite_f c72 hq
                            refine wp_tabOut (tgt := 177) ok dX10_count_6 (tab_out [0, 1, 2, 3, 4, 5, 6, 7, 8, 9, 10, 11, 12] (by decide) (fun w hw => by simp only [List.mem_cons, List.not_mem_nil, or_false] at hw; rcases hw with rfl | rfl | rfl | rfl | rfl | rfl | rfl | rfl | rfl | rfl | rfl | rfl | rfl <;> assumption)) (by decide) ?_
                            refine wp_bipush (v := -100) ok dX10_count_177 (by decide) ?_
                            exact wp_iret ok hF rfl e3 (re2I hq) dX10_count_179
set_option maxHeartbeats 4000000 in
set_option maxRecDepth 100000 in
theorem m_X10_row {l : Launch} {h : HP} {x0 : Nat} {x1 : Int32} {rr : Int64} {rh : HP} {fr : Nat} (hq : f_X10_row h x0 x1 = some (rr, rh)) (hfr : 1 ≤ fr) : Mt l yX10_row cX10_row 2 (some (.long)) fr [.ref x0, .int x1] h (QJ rr rh) := by
  obtain ⟨rp, ep⟩ : ∃ rp : (Int64 × HP), rp = (rr, rh) := ⟨_, rfl⟩
  have e1p : rr = rp.1 := (congrArg Prod.fst ep).symm
  have e2p : rh = rp.2 := (congrArg Prod.snd ep).symm
  rw [← ep] at hq
  rw [e1p, e2p]
  clear e1p e2p ep
  refine Mt.of (by decide +kernel) (Nat.le_of_ble_eq_true rfl) (fun x hl ok hF => ?_)
  subst hl
  show wp x 0 [(0, .ref x0), (1, .int x1)] [] h
  unfold f_X10_row at hq
  obtain ⟨h0, eh0⟩ : ∃ h0 : HP, h = h0 := ⟨h, rfl⟩
  have e : h.1 = h0.1 := by rw [eh0]
  rw [eh0] at hF
  obtain ⟨g_x0, hq⟩ := gP_some hq
  obtain ⟨n_x0, f_x0⟩ := kO_some g_x0
  replace f_x0 := sh_of e.symm f_x0
  refine wp_aload_n (v := x0) ok dX10_row_0 rfl ?_
  refine wp_iconst (v := 0) ok dX10_row_1 (by decide) ?_
  refine wp_putI ok flw_RX10_3 (nr_10_0 _) (sh_of e f_x0) dX10_row_2 ?_
  obtain ⟨h1, e2, hq⟩ := lt_some hq
  refine wp_nmH e2 ?_
  have e3 : h1.1 = h0.1 := (congrArg Prod.fst e2).trans e
  refine wp_iload_n (v := x1) ok dX10_row_5 rfl ?_
  refine wp_i2l ok dX10_row_6 ?_
  refine wp_lconst (v := 0) ok dX10_row_7 (by decide) ?_
  refine wp_aload_n (v := x0) ok dX10_row_8 rfl ?_
  refine wp_getI ok fl_RX10_15 (sh_of e3 f_x0) dX10_row_9 ?_
  refine wp_iconst (v := 1) ok dX10_row_12 (by decide) ?_
  refine wp_isub ok dX10_row_13 ?_
  refine wp_i2l ok dX10_row_14 ?_
  obtain ⟨v4, e5, hq⟩ := bnd_some hq
  refine wp_callSI (As := [.long (x1.toInt64), .long 0, .long (((h1.2.1 x0 1) - 1).toInt64)]) (rest := []) (h1 := h1) ok (m_X10_in e5 (Nat.le_refl _)) my_X10_in (w_1200) pd_X10_in (Nat.le_trans (by decide) hfr) rfl rfl rfl rfl dX10_row_15 (fun e6 => ?_)
  refine wp_if_ne (tgt := 28) ok dX10_row_18 (by decide) (fun c7 => ?_) (fun c7 => ?_)
  · have hq := ite_f c7 hq
    refine wp_aload_n (v := x0) ok dX10_row_28 rfl ?_
    obtain ⟨t8, e9, hq⟩ := bnd_some hq
    obtain ⟨e10, n11, f12⟩ := rK_some e9
    replace f12 := sh_of (e3).symm f12
    refine wp_getR ok fl_RX10_11 (sh_of e3 f_x0) e10 dX10_row_29 ?_
    refine wp_iload_n (v := x1) ok dX10_row_32 rfl ?_
    obtain ⟨g13, hq⟩ := gP_some hq
    refine wp_lald ok (sh_of e3 f12) (ix_of (sh_of e3 f12) g13) dX10_row_33 ?_
    exact wp_lret ok hF e3 (re2J hq) dX10_row_34
  · have hq := ite_t c7 hq
    refine wp_aload_n (v := x0) ok dX10_row_21 rfl ?_
    refine wp_iconst (v := 1) ok dX10_row_22 (by decide) ?_
    refine wp_putI ok flw_RX10_3 (nr_10_0 _) (sh_of e3 f_x0) dX10_row_23 ?_
    obtain ⟨h14, e15, hq⟩ := lt_some hq
    refine wp_nmH e15 ?_
    have e16 : h14.1 = h0.1 := (congrArg Prod.fst e15).trans e3
    refine wp_lconst (v := 0) ok dX10_row_26 (by decide) ?_
    exact wp_lret ok hF e16 (re2J hq) dX10_row_27
