/-! ===== the throwing methods as functions, walked ===== -/
def QXI (rp : Option Int32 × HP) : Option Value → HP → Prop := fun r h' => ∃ v : Int32, r = some (.int v) ∧ rp = (some v, h')
def QXJ (rp : Option Int64 × HP) : Option Value → HP → Prop := fun r h' => ∃ v : Int64, r = some (.long v) ∧ rp = (some v, h')
def QXt {α : Type} (rp : Option α × HP) : HP → Prop := fun h' => rp = (none, h')
theorem reXI {e : Int32} {h : HP} {rp : Option Int32 × HP} (hq : some (some e, h) = some rp) : QXI rp (some (.int e)) h := ⟨e, rfl, (Option.some.inj hq).symm⟩
theorem reXJ {e : Int64} {h : HP} {rp : Option Int64 × HP} (hq : some (some e, h) = some rp) : QXJ rp (some (.long e)) h := ⟨e, rfl, (Option.some.inj hq).symm⟩
theorem reXt {α : Type} {h : HP} {rp : Option α × HP} (hq : some ((none : Option α), h) = some rp) : QXt rp h := (Option.some.inj hq).symm
theorem fl_RX9_157 : FL RX9 157 1 0 2 := ⟨RX1, TX1, 3, tyX1, tyX1 0, by decide, rfl, hw_1, by decide, rfl, gw_t 180 (by decide +kernel) (by decide +kernel), rfl, tyX1_ok, nmX1, tyX1_ok 0 (by decide), ⟨fun q => absurd q (by decide), fun _ _ => ⟨rfl, rfl⟩⟩⟩
theorem fl_RX9_160 : FL RX9 160 1 1 2 := ⟨RX1, TX1, 3, tyX1, tyX1 1, by decide, rfl, hw_1, by decide, rfl, gw_t 183 (by decide +kernel) (by decide +kernel), rfl, tyX1_ok, nmX1, tyX1_ok 1 (by decide), ⟨fun q => absurd q (by decide), fun _ _ => ⟨rfl, rfl⟩⟩⟩
theorem fl_RX9_417 : FL RX9 417 6 0 2 := ⟨RX6, TX6, 2, tyX6, tyX6 0, by decide, rfl, hw_6, by decide, rfl, gw_t 57 (by decide +kernel) (by decide +kernel), rfl, tyX6_ok, nmX6, tyX6_ok 0 (by decide), ⟨fun q => absurd q (by decide), fun _ _ => ⟨rfl, rfl⟩⟩⟩
def f_X9_market (N : Nat) (h : HP) (x0 : Nat) (x1 : Int32) (x2 : Int32) : Option (Option Int32 × HP) :=
  gP (kO h x0 9 = true) (bnd (rK h x0 2 0) (fun t1 => bnd (f_X0_has h t1 x1) (fun v6 => jn (some (none, h)) (fun k9 => (if v6 = 0 then k9 else bnd (f_X9_within x2 0 5) (fun v11 => (if v11 = 0 then k9 else (if x2 = 0 then bnd (rK h x0 7 102) (fun t16 => gP (ixd x1 (lenH h t16) = true) (some (some (h.2.1 t16 x1.toNatClampNeg), h))) else (if x2 = 1 then bnd (rK h x0 2 0) (fun t23 => bnd (rK h t23 0 106) (fun t28 => gP (ixd 0 (lenH h t28) = true) (bnd (rK h t28 (0 : Int32).toNatClampNeg 102) (fun t34 => gP (ixd x1 (lenH h t34) = true) (some (some (h.2.1 t34 x1.toNatClampNeg), h)))))) else (if x2 = 2 then bnd (rK h x0 2 0) (fun t41 => bnd (rK h t41 0 106) (fun t46 => gP (ixd 1 (lenH h t46) = true) (bnd (rK h t46 (1 : Int32).toNatClampNeg 102) (fun t52 => gP (ixd x1 (lenH h t52) = true) (some (some (h.2.1 t52 x1.toNatClampNeg), h)))))) else (if x2 = 3 then bnd (rK h x0 2 0) (fun t59 => bnd (rK h t59 1 106) (fun t64 => gP (ixd 0 (lenH h t64) = true) (bnd (rK h t64 (0 : Int32).toNatClampNeg 102) (fun t70 => gP (ixd x1 (lenH h t70) = true) (some (some (h.2.1 t70 x1.toNatClampNeg), h)))))) else (if x2 = 4 then bnd (rK h x0 2 0) (fun t77 => bnd (rK h t77 1 106) (fun t82 => gP (ixd 1 (lenH h t82) = true) (bnd (rK h t82 (1 : Int32).toNatClampNeg 102) (fun t88 => gP (ixd x1 (lenH h t88) = true) (some (some (h.2.1 t88 x1.toNatClampNeg), h)))))) else bnd (rK h x0 2 0) (fun t94 => bnd2 (f_X9_priceOf N h x0 t94 x1) (fun v99 h101 => some (some v99, h101)))))))))))))))
def f_X9_load (h : HP) (x0 : Nat) (x1 : Int32) (x2 : Int32) : Option (Option Int32 × HP) :=
  gP (kO h x0 9 = true) (bnd (rK h x0 12 1) (fun t1 => bnd (f_X9_within x1 0 ((h.2.1 t1 2) - 1)) (fun v6 => jn (some (none, h)) (fun k9 => (if v6 = 0 then k9 else bnd (f_X9_within x2 0 1) (fun v11 => (if v11 = 0 then k9 else (if x2 = 0 then bnd (rK h x0 12 1) (fun t27 => bnd (rK h t27 0 102) (fun t32 => gP (ixd x1 (lenH h t32) = true) (some (some (h.2.1 t32 x1.toNatClampNeg), h)))) else bnd (rK h x0 12 1) (fun t16 => bnd (rK h t16 1 102) (fun t21 => gP (ixd x1 (lenH h t21) = true) (some (some (h.2.1 t21 x1.toNatClampNeg), h))))))))))))
def f_X9_row (h : HP) (x0 : Nat) (x1 : Int32) : Option (Option Int64 × HP) :=
  gP (kO h x0 9 = true) (bnd (rK h x0 1 6) (fun t1 => bnd (f_X9_within x1 0 ((h.2.1 t1 1) - 1)) (fun v6 => (if v6 = 0 then some (none, h) else bnd (rK h x0 1 6) (fun t10 => bnd (rK h t10 0 103) (fun t15 => gP (ixd x1 (lenH h t15) = true) (some (some (h.2.2.1 t15 x1.toNatClampNeg), h))))))))
set_option maxHeartbeats 4000000 in
set_option maxRecDepth 100000 in
theorem m_X9_market {l : Launch} (hl0 : l.stackTraces = false) {h : HP} {N : Nat} {x0 : Nat} {x1 : Int32} {x2 : Int32} {rp : Option Int32 × HP} {fr : Nat} (hq : f_X9_market N h x0 x1 x2 = some rp) (hfr : 6 ≤ fr) : MtX l yX9_market cX9_market 3 (some (.int)) fr [.ref x0, .int x1, .int x2] h (QXI rp) (QXt rp) := by
  refine MtX.of hl0 (by decide +kernel) (Nat.le_of_ble_eq_true rfl) (fun x hl ok hF hX => ?_)
  subst hl
  show wp x 0 [(0, .ref x0), (1, .int x1), (2, .int x2)] [] h
  unfold f_X9_market at hq
  obtain ⟨h0, eh0⟩ : ∃ h0 : HP, h = h0 := ⟨h, rfl⟩
  have e : h.1 = h0.1 := by rw [eh0]
  rw [eh0] at hF hX
  obtain ⟨g_x0, hq⟩ := gP_some hq
  obtain ⟨n_x0, f_x0⟩ := kO_some g_x0
  replace f_x0 := sh_of e.symm f_x0
  refine wp_aload_n (v := x0) ok dX9_market_0 rfl ?_
  obtain ⟨t1, e2, hq⟩ := bnd_some hq
  obtain ⟨e3, n4, f5⟩ := rK_some e2
  replace f5 := sh_of (e).symm f5
  refine wp_getR ok fl_RX9_26 (sh_of e f_x0) e3 dX9_market_1 ?_
  refine wp_iload_n (v := x1) ok dX9_market_4 rfl ?_
  obtain ⟨v6, e7, hq⟩ := bnd_some hq
  refine wp_callVI (As := [.int x1]) (rest := []) (h1 := h) ok (m_X0_has e7 (Nat.le_refl _)) my_X0_has (w_561) pd_X0_has (Nat.le_trans (by decide) hfr) rfl (ci := 0) rfl (by decide) (sh_of e f5) rfl rfl rfl dX9_market_5 (fun e8 => ?_)
  obtain ⟨k9, ek9, hq⟩ := jn0_some hq
  have kk9 : k9 = some rp → wp x 20 [] [] h := by
    intro hq
    rw [ek9] at hq
    exact wp_throw ok hX e (reXt hq) (by omega) dX9_market_20 dX9_market_23 dX9_market_24 dX9_market_27
  refine wp_if_eq (tgt := 20) ok dX9_market_8 (by decide) (fun c10 => ?_) (fun c10 => ?_)
  · have hq := ite_t c10 hq
    refine wp_sub (L' := []) [] rfl ?_
    exact kk9 hq
  · have hq := ite_f c10 hq
    refine wp_iload_n (v := x2) ok dX9_market_11 rfl ?_
    refine wp_iconst (v := 0) ok dX9_market_12 (by decide) ?_
    refine wp_iconst (v := 5) ok dX9_market_13 (by decide) ?_
    obtain ⟨v11, e12, hq⟩ := bnd_some hq
    refine wp_callSI (As := [.int x2, .int 0, .int 5]) (rest := []) (h1 := h) ok (m_X9_within e12 (Nat.le_refl _)) my_X9_within (w_491) pd_X9_within (Nat.le_trans (by decide) hfr) rfl rfl rfl rfl dX9_market_14 (fun e13 => ?_)
    refine wp_if_ne (tgt := 28) ok dX9_market_17 (by decide) (fun c14 => ?_) (fun c14 => ?_)
    · have hq := ite_f c14 hq
      refine wp_iload_n (v := x2) ok dX9_market_28 rfl ?_
      by_cases c15 : x2 = 0
      · have hq := ite_t c15 hq
        refine wp_tabIn (v := 0) (tgt := 64) ok dX9_market_29 c15 (by decide) (by decide) rfl (by decide) ?_
        refine wp_aload_n (v := x0) ok dX9_market_64 rfl ?_
        obtain ⟨t16, e17, hq⟩ := bnd_some hq
        obtain ⟨e18, n19, f20⟩ := rK_some e17
        replace f20 := sh_of (e).symm f20
        refine wp_getR ok fl_RX9_51 (sh_of e f_x0) e18 dX9_market_65 ?_
        refine wp_iload_n (v := x1) ok dX9_market_68 rfl ?_
        obtain ⟨g21, hq⟩ := gP_some hq
        refine wp_iald ok (sh_of e f20) (ix_of (sh_of e f20) g21) dX9_market_69 ?_
        exact wp_iret ok hF rfl e (reXI hq) dX9_market_70
      · have hq := ite_f c15 hq
        by_cases c22 : x2 = 1
        · have hq := ite_t c22 hq
          refine wp_tabIn (v := 1) (tgt := 71) ok dX9_market_29 c22 (by decide) (by decide) rfl (by decide) ?_
          refine wp_aload_n (v := x0) ok dX9_market_71 rfl ?_
          obtain ⟨t23, e24, hq⟩ := bnd_some hq
          obtain ⟨e25, n26, f27⟩ := rK_some e24
          replace f27 := sh_of (e).symm f27
          refine wp_getR ok fl_RX9_26 (sh_of e f_x0) e25 dX9_market_72 ?_
          obtain ⟨t28, e29, hq⟩ := bnd_some hq
          obtain ⟨e30, n31, f32⟩ := rK_some e29
          replace f32 := sh_of (e).symm f32
          refine wp_getR ok fl_RX9_147 (sh_of e f27) e30 dX9_market_75 ?_
          refine wp_iconst (v := 0) ok dX9_market_78 (by decide) ?_
          obtain ⟨g33, hq⟩ := gP_some hq
          obtain ⟨t34, e35, hq⟩ := bnd_some hq
          obtain ⟨e36, n37, f38⟩ := rK_some e35
          replace f38 := sh_of (e).symm f38
          refine wp_aald106 ok (sh_of e f32) (ix_of (sh_of e f32) g33) e36 dX9_market_79 ?_
          refine wp_iload_n (v := x1) ok dX9_market_80 rfl ?_
          obtain ⟨g39, hq⟩ := gP_some hq
          refine wp_iald ok (sh_of e f38) (ix_of (sh_of e f38) g39) dX9_market_81 ?_
          exact wp_iret ok hF rfl e (reXI hq) dX9_market_82
        · have hq := ite_f c22 hq
          by_cases c40 : x2 = 2
          · have hq := ite_t c40 hq
            refine wp_tabIn (v := 2) (tgt := 83) ok dX9_market_29 c40 (by decide) (by decide) rfl (by decide) ?_
            refine wp_aload_n (v := x0) ok dX9_market_83 rfl ?_
            obtain ⟨t41, e42, hq⟩ := bnd_some hq
            obtain ⟨e43, n44, f45⟩ := rK_some e42
            replace f45 := sh_of (e).symm f45
            refine wp_getR ok fl_RX9_26 (sh_of e f_x0) e43 dX9_market_84 ?_
            obtain ⟨t46, e47, hq⟩ := bnd_some hq
            obtain ⟨e48, n49, f50⟩ := rK_some e47
            replace f50 := sh_of (e).symm f50
            refine wp_getR ok fl_RX9_147 (sh_of e f45) e48 dX9_market_87 ?_
            refine wp_iconst (v := 1) ok dX9_market_90 (by decide) ?_
            obtain ⟨g51, hq⟩ := gP_some hq
            obtain ⟨t52, e53, hq⟩ := bnd_some hq
            obtain ⟨e54, n55, f56⟩ := rK_some e53
            replace f56 := sh_of (e).symm f56
            refine wp_aald106 ok (sh_of e f50) (ix_of (sh_of e f50) g51) e54 dX9_market_91 ?_
            refine wp_iload_n (v := x1) ok dX9_market_92 rfl ?_
            obtain ⟨g57, hq⟩ := gP_some hq
            refine wp_iald ok (sh_of e f56) (ix_of (sh_of e f56) g57) dX9_market_93 ?_
            exact wp_iret ok hF rfl e (reXI hq) dX9_market_94
          · have hq := ite_f c40 hq
            by_cases c58 : x2 = 3
            · have hq := ite_t c58 hq
              refine wp_tabIn (v := 3) (tgt := 95) ok dX9_market_29 c58 (by decide) (by decide) rfl (by decide) ?_
              refine wp_aload_n (v := x0) ok dX9_market_95 rfl ?_
              obtain ⟨t59, e60, hq⟩ := bnd_some hq
              obtain ⟨e61, n62, f63⟩ := rK_some e60
              replace f63 := sh_of (e).symm f63
              refine wp_getR ok fl_RX9_26 (sh_of e f_x0) e61 dX9_market_96 ?_
              obtain ⟨t64, e65, hq⟩ := bnd_some hq
              obtain ⟨e66, n67, f68⟩ := rK_some e65
              replace f68 := sh_of (e).symm f68
              refine wp_getR ok fl_RX9_150 (sh_of e f63) e66 dX9_market_99 ?_
              refine wp_iconst (v := 0) ok dX9_market_102 (by decide) ?_
              obtain ⟨g69, hq⟩ := gP_some hq
              obtain ⟨t70, e71, hq⟩ := bnd_some hq
              obtain ⟨e72, n73, f74⟩ := rK_some e71
              replace f74 := sh_of (e).symm f74
              refine wp_aald106 ok (sh_of e f68) (ix_of (sh_of e f68) g69) e72 dX9_market_103 ?_
              refine wp_iload_n (v := x1) ok dX9_market_104 rfl ?_
              obtain ⟨g75, hq⟩ := gP_some hq
              refine wp_iald ok (sh_of e f74) (ix_of (sh_of e f74) g75) dX9_market_105 ?_
              exact wp_iret ok hF rfl e (reXI hq) dX9_market_106
            · have hq := ite_f c58 hq
              by_cases c76 : x2 = 4
              · have hq := ite_t c76 hq
                refine wp_tabIn (v := 4) (tgt := 107) ok dX9_market_29 c76 (by decide) (by decide) rfl (by decide) ?_
                refine wp_aload_n (v := x0) ok dX9_market_107 rfl ?_
                obtain ⟨t77, e78, hq⟩ := bnd_some hq
                obtain ⟨e79, n80, f81⟩ := rK_some e78
                replace f81 := sh_of (e).symm f81
                refine wp_getR ok fl_RX9_26 (sh_of e f_x0) e79 dX9_market_108 ?_
                obtain ⟨t82, e83, hq⟩ := bnd_some hq
                obtain ⟨e84, n85, f86⟩ := rK_some e83
                replace f86 := sh_of (e).symm f86
                refine wp_getR ok fl_RX9_150 (sh_of e f81) e84 dX9_market_111 ?_
                refine wp_iconst (v := 1) ok dX9_market_114 (by decide) ?_
                obtain ⟨g87, hq⟩ := gP_some hq
                obtain ⟨t88, e89, hq⟩ := bnd_some hq
                obtain ⟨e90, n91, f92⟩ := rK_some e89
                replace f92 := sh_of (e).symm f92
                refine wp_aald106 ok (sh_of e f86) (ix_of (sh_of e f86) g87) e90 dX9_market_115 ?_
                refine wp_iload_n (v := x1) ok dX9_market_116 rfl ?_
                obtain ⟨g93, hq⟩ := gP_some hq
                refine wp_iald ok (sh_of e f92) (ix_of (sh_of e f92) g93) dX9_market_117 ?_
                exact wp_iret ok hF rfl e (reXI hq) dX9_market_118
              · have hq := ite_f c76 hq
                refine wp_tabOut (tgt := 119) ok dX9_market_29 (tab_out [0, 1, 2, 3, 4] (by decide) (fun w hw => by simp only [List.mem_cons, List.not_mem_nil, or_false] at hw; rcases hw with rfl | rfl | rfl | rfl | rfl <;> assumption)) (by decide) ?_
                refine wp_aload_n (v := x0) ok dX9_market_119 rfl ?_
                refine wp_aload_n (v := x0) ok dX9_market_120 rfl ?_
                obtain ⟨t94, e95, hq⟩ := bnd_some hq
                obtain ⟨e96, n97, f98⟩ := rK_some e95
                replace f98 := sh_of (e).symm f98
                refine wp_getR ok fl_RX9_26 (sh_of e f_x0) e96 dX9_market_121 ?_
                refine wp_iload_n (v := x1) ok dX9_market_124 rfl ?_
                obtain ⟨v99, h101, e100, hq⟩ := bnd2_some hq
                refine wp_callVI (As := [.ref t94, .int x1]) (rest := []) (h1 := h101) ok (m_X9_priceOf e100 (Nat.le_refl _)) my_X9_priceOf (w_553) pd_X9_priceOf (Nat.le_trans (by decide) hfr) rfl (ci := 9) rfl (by decide) (sh_of e f_x0) rfl rfl rfl dX9_market_125 (fun e102 => ?_)
                have e103 : h101.1 = h0.1 := (e102).trans e
                exact wp_iret ok hF rfl e103 (reXI hq) dX9_market_128
    · have hq := ite_t c14 hq
      refine wp_sub (L' := []) [] rfl ?_
      exact kk9 hq
set_option maxHeartbeats 4000000 in
set_option maxRecDepth 100000 in
theorem m_X9_load {l : Launch} (hl0 : l.stackTraces = false) {h : HP} {x0 : Nat} {x1 : Int32} {x2 : Int32} {rp : Option Int32 × HP} {fr : Nat} (hq : f_X9_load h x0 x1 x2 = some rp) (hfr : 6 ≤ fr) : MtX l yX9_load cX9_load 3 (some (.int)) fr [.ref x0, .int x1, .int x2] h (QXI rp) (QXt rp) := by
  refine MtX.of hl0 (by decide +kernel) (Nat.le_of_ble_eq_true rfl) (fun x hl ok hF hX => ?_)
  subst hl
  show wp x 0 [(0, .ref x0), (1, .int x1), (2, .int x2)] [] h
  unfold f_X9_load at hq
  obtain ⟨h0, eh0⟩ : ∃ h0 : HP, h = h0 := ⟨h, rfl⟩
  have e : h.1 = h0.1 := by rw [eh0]
  rw [eh0] at hF hX
  obtain ⟨g_x0, hq⟩ := gP_some hq
  obtain ⟨n_x0, f_x0⟩ := kO_some g_x0
  replace f_x0 := sh_of e.symm f_x0
  refine wp_iload_n (v := x1) ok dX9_load_0 rfl ?_
  refine wp_iconst (v := 0) ok dX9_load_1 (by decide) ?_
  refine wp_aload_n (v := x0) ok dX9_load_2 rfl ?_
  obtain ⟨t1, e2, hq⟩ := bnd_some hq
  obtain ⟨e3, n4, f5⟩ := rK_some e2
  replace f5 := sh_of (e).symm f5
  refine wp_getR ok fl_RX9_84 (sh_of e f_x0) e3 dX9_load_3 ?_
  refine wp_getI ok fl_RX9_135 (sh_of e f5) dX9_load_6 ?_
  refine wp_iconst (v := 1) ok dX9_load_9 (by decide) ?_
  refine wp_isub ok dX9_load_10 ?_
  obtain ⟨v6, e7, hq⟩ := bnd_some hq
  refine wp_callSI (As := [.int x1, .int 0, .int ((h.2.1 t1 2) - 1)]) (rest := []) (h1 := h) ok (m_X9_within e7 (Nat.le_refl _)) my_X9_within (w_491) pd_X9_within (Nat.le_trans (by decide) hfr) rfl rfl rfl rfl dX9_load_11 (fun e8 => ?_)
  obtain ⟨k9, ek9, hq⟩ := jn0_some hq
  have kk9 : k9 = some rp → wp x 26 [] [] h := by
    intro hq
    rw [ek9] at hq
    exact wp_throw ok hX e (reXt hq) (by omega) dX9_load_26 dX9_load_29 dX9_load_30 dX9_load_33
  refine wp_if_eq (tgt := 26) ok dX9_load_14 (by decide) (fun c10 => ?_) (fun c10 => ?_)
  · have hq := ite_t c10 hq
    refine wp_sub (L' := []) [] rfl ?_
    exact kk9 hq
  · have hq := ite_f c10 hq
    refine wp_iload_n (v := x2) ok dX9_load_17 rfl ?_
    refine wp_iconst (v := 0) ok dX9_load_18 (by decide) ?_
    refine wp_iconst (v := 1) ok dX9_load_19 (by decide) ?_
    obtain ⟨v11, e12, hq⟩ := bnd_some hq
    refine wp_callSI (As := [.int x2, .int 0, .int 1]) (rest := []) (h1 := h) ok (m_X9_within e12 (Nat.le_refl _)) my_X9_within (w_491) pd_X9_within (Nat.le_trans (by decide) hfr) rfl rfl rfl rfl dX9_load_20 (fun e13 => ?_)
    refine wp_if_ne (tgt := 34) ok dX9_load_23 (by decide) (fun c14 => ?_) (fun c14 => ?_)
    · have hq := ite_f c14 hq
      refine wp_iload_n (v := x2) ok dX9_load_34 rfl ?_
      refine wp_if_ne (tgt := 50) ok dX9_load_35 (by decide) (fun c15 => ?_) (fun c15 => ?_)
      · have hq := ite_f c15 hq
        refine wp_aload_n (v := x0) ok dX9_load_50 rfl ?_
        obtain ⟨t16, e17, hq⟩ := bnd_some hq
        obtain ⟨e18, n19, f20⟩ := rK_some e17
        replace f20 := sh_of (e).symm f20
        refine wp_getR ok fl_RX9_84 (sh_of e f_x0) e18 dX9_load_51 ?_
        obtain ⟨t21, e22, hq⟩ := bnd_some hq
        obtain ⟨e23, n24, f25⟩ := rK_some e22
        replace f25 := sh_of (e).symm f25
        refine wp_getR ok fl_RX9_160 (sh_of e f20) e23 dX9_load_54 ?_
        refine wp_iload_n (v := x1) ok dX9_load_57 rfl ?_
        obtain ⟨g26, hq⟩ := gP_some hq
        refine wp_iald ok (sh_of e f25) (ix_of (sh_of e f25) g26) dX9_load_58 ?_
        exact wp_iret ok hF rfl e (reXI hq) dX9_load_59
      · have hq := ite_t c15 hq
        refine wp_aload_n (v := x0) ok dX9_load_38 rfl ?_
        obtain ⟨t27, e28, hq⟩ := bnd_some hq
        obtain ⟨e29, n30, f31⟩ := rK_some e28
        replace f31 := sh_of (e).symm f31
        refine wp_getR ok fl_RX9_84 (sh_of e f_x0) e29 dX9_load_39 ?_
        obtain ⟨t32, e33, hq⟩ := bnd_some hq
        obtain ⟨e34, n35, f36⟩ := rK_some e33
        replace f36 := sh_of (e).symm f36
        refine wp_getR ok fl_RX9_157 (sh_of e f31) e34 dX9_load_42 ?_
        refine wp_iload_n (v := x1) ok dX9_load_45 rfl ?_
        obtain ⟨g37, hq⟩ := gP_some hq
        refine wp_iald ok (sh_of e f36) (ix_of (sh_of e f36) g37) dX9_load_46 ?_
        refine wp_goto (tgt := 59) ok dX9_load_47 (by decide) ?_
        exact wp_iret ok hF rfl e (reXI hq) dX9_load_59
    · have hq := ite_t c14 hq
      refine wp_sub (L' := []) [] rfl ?_
      exact kk9 hq
set_option maxHeartbeats 4000000 in
set_option maxRecDepth 100000 in
theorem m_X9_row {l : Launch} (hl0 : l.stackTraces = false) {h : HP} {x0 : Nat} {x1 : Int32} {rp : Option Int64 × HP} {fr : Nat} (hq : f_X9_row h x0 x1 = some rp) (hfr : 6 ≤ fr) : MtX l yX9_row cX9_row 2 (some (.long)) fr [.ref x0, .int x1] h (QXJ rp) (QXt rp) := by
  refine MtX.of hl0 (by decide +kernel) (Nat.le_of_ble_eq_true rfl) (fun x hl ok hF hX => ?_)
  subst hl
  show wp x 0 [(0, .ref x0), (1, .int x1)] [] h
  unfold f_X9_row at hq
  obtain ⟨h0, eh0⟩ : ∃ h0 : HP, h = h0 := ⟨h, rfl⟩
  have e : h.1 = h0.1 := by rw [eh0]
  rw [eh0] at hF hX
  obtain ⟨g_x0, hq⟩ := gP_some hq
  obtain ⟨n_x0, f_x0⟩ := kO_some g_x0
  replace f_x0 := sh_of e.symm f_x0
  refine wp_iload_n (v := x1) ok dX9_row_0 rfl ?_
  refine wp_iconst (v := 0) ok dX9_row_1 (by decide) ?_
  refine wp_aload_n (v := x0) ok dX9_row_2 rfl ?_
  obtain ⟨t1, e2, hq⟩ := bnd_some hq
  obtain ⟨e3, n4, f5⟩ := rK_some e2
  replace f5 := sh_of (e).symm f5
  refine wp_getR ok fl_RX9_19 (sh_of e f_x0) e3 dX9_row_3 ?_
  refine wp_getI ok fl_RX9_416 (sh_of e f5) dX9_row_6 ?_
  refine wp_iconst (v := 1) ok dX9_row_9 (by decide) ?_
  refine wp_isub ok dX9_row_10 ?_
  obtain ⟨v6, e7, hq⟩ := bnd_some hq
  refine wp_callSI (As := [.int x1, .int 0, .int ((h.2.1 t1 1) - 1)]) (rest := []) (h1 := h) ok (m_X9_within e7 (Nat.le_refl _)) my_X9_within (w_491) pd_X9_within (Nat.le_trans (by decide) hfr) rfl rfl rfl rfl dX9_row_11 (fun e8 => ?_)
  refine wp_if_ne (tgt := 25) ok dX9_row_14 (by decide) (fun c9 => ?_) (fun c9 => ?_)
  · have hq := ite_f c9 hq
    refine wp_aload_n (v := x0) ok dX9_row_25 rfl ?_
    obtain ⟨t10, e11, hq⟩ := bnd_some hq
    obtain ⟨e12, n13, f14⟩ := rK_some e11
    replace f14 := sh_of (e).symm f14
    refine wp_getR ok fl_RX9_19 (sh_of e f_x0) e12 dX9_row_26 ?_
    obtain ⟨t15, e16, hq⟩ := bnd_some hq
    obtain ⟨e17, n18, f19⟩ := rK_some e16
    replace f19 := sh_of (e).symm f19
    refine wp_getR ok fl_RX9_417 (sh_of e f14) e17 dX9_row_29 ?_
    refine wp_iload_n (v := x1) ok dX9_row_32 rfl ?_
    obtain ⟨g20, hq⟩ := gP_some hq
    refine wp_lald ok (sh_of e f19) (ix_of (sh_of e f19) g20) dX9_row_33 ?_
    exact wp_lret ok hF e (reXJ hq) dX9_row_34
  · have hq := ite_t c9 hq
    exact wp_throw ok hX e (reXt hq) (by omega) dX9_row_17 dX9_row_20 dX9_row_21 dX9_row_24
