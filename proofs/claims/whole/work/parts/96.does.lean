/-! ===== year: the acts ===== -/
def actT (N : Nat) (h : HP) (x0 : Nat) (v36 v9 v16 y30 v27 : Int32) : Option (Int32 × HP) :=
  (if v36 = 98 then bnd (rK h x0 2 0) (fun t40 => bnd2 (f_X0_burn h t40 v9) (fun v45 h47 => some (v45, h47))) else (if v36 = 99 then some ((-1), h) else (if v36 = 100 then some ((-1), h) else (if v36 = 101 then some ((-1), h) else (if v36 = 102 then bnd (rK h x0 2 0) (fun t54 => bnd2 (f_X0_setFlow h t54 v9) (fun v59 h61 => some (v59, h61))) else (if v36 = 103 then some ((-1), h) else (if v36 = 104 then some ((-1), h) else (if v36 = 105 then some ((-1), h) else (if v36 = 106 then some ((-1), h) else (if v36 = 107 then some ((-1), h) else (if v36 = 108 then bnd (rK h x0 2 0) (fun t70 => bnd2 (f_X0_layBy h t70 v9 y30 (100 * v27)) (fun v75 h77 => some (v75, h77))) else (if v36 = 109 then bnd (rK h x0 2 0) (fun t81 => bnd (rK h x0 12 1) (fun t86 => bnd2 (f_X0_pass N h t81 t86 v9) (fun v91 h93 => some (v91, h93)))) else (if v36 = 110 then some ((-1), h) else (if v36 = 111 then some ((-1), h) else (if v36 = 112 then bnd (rK h x0 2 0) (fun t99 => bnd2 (f_X0_turnPort h t99) (fun v104 h106 => some (v104, h106))) else (if v36 = 113 then some ((-1), h) else (if v36 = 114 then some ((-1), h) else (if v36 = 115 then bnd (rK h x0 2 0) (fun t112 => bnd2 (f_X0_spend h t112 v9 y30 (100 * v27)) (fun v117 h119 => some (v117, h119))) else (if v36 = 116 then bnd (rK h x0 2 0) (fun t123 => bnd2 (f_X0_tax N h t123 v9 (v16 - 48)) (fun v128 h130 => some (v128, h130))) else some ((-1), h))))))))))))))))))))
theorem act_e (N : Nat) (h : HP) (x0 : Nat) (x1 : Int32) : f_X9_act N h x0 x1 = gP (kO h x0 9 = true) (bnd (rK h x0 0 8) (fun t1 => bnd (f_X8_at h t1 (x1 + 1) 60) (fun v6 => lt_ ((v6 - 48)) (fun v9 => bnd (rK h x0 0 8) (fun t11 => bnd (f_X8_at h t11 (x1 + 2) 60) (fun v16 => bnd (rK h x0 0 8) (fun t19 => bnd (f_X8_at h t19 (x1 + 3) 60) (fun v24 => lt_ ((v24 - 48)) (fun v27 => jn (fun (y30 : Int32) => bnd (rK h x0 0 8) (fun t31 => bnd (f_X8_at h t31 x1 60) (fun v36 => actT N h x0 v36 v9 v16 y30 v27))) (fun k29 => (if v16 = 111 then k29 0 else k29 1))))))))))) := rfl

theorem at60_x {t : Nat → Nat} {n p : Nat} {b c : Bool} {h : HP} (s : SH b c h) (tx : TxX h t n) (hn : n ≤ 60) (hp : p ≤ 100) : f_X8_at h 1 (n32 p) (n32 60) = some (if p < n then n32 (t p) else -n32 1) := by
  have t1 := tx.1
  unfold f_X8_at
  by_cases q : p < n
  · have e1 : ¬ n ≤ p := by omega
    have e2 : ¬ 60 ≤ p := by omega
    have t2 := tx.2 p (by omega)
    rw [if_pos q]
    simp -implicitDefEqProofs (disch := omega) only [s.root, gP_p, gP_t, bnd_s, bnd2_s, ltt_s, jn_s, n32_nat, n32_le, n32_lt, n32_eq, n32_add, n32_sub, n32_dec, n32_mul, n32_div, n32_irm, n32_lit, n32_oN, n32_ix, n32_m1, n32_m2, neg_le0, neg_lt0, neg_lt1, neg_le1, n32_min, n32_max, if_true, if_false, Nat.one_ne_zero, gd_some, true_or, or_true, false_or, or_false, Nat.not_lt_zero, t1, e1, e2, t2]
  · rw [if_neg q]
    have e1 : n ≤ p := by omega
    simp -implicitDefEqProofs (disch := omega) only [s.root, gP_p, gP_t, bnd_s, bnd2_s, ltt_s, jn_s, n32_nat, n32_le, n32_lt, n32_eq, n32_add, n32_sub, n32_dec, n32_mul, n32_div, n32_irm, n32_lit, n32_oN, n32_ix, n32_m1, n32_m2, neg_le0, neg_lt0, neg_lt1, neg_le1, n32_min, n32_max, if_true, if_false, Nat.one_ne_zero, gd_some, true_or, or_true, false_or, or_false, Nat.not_lt_zero, t1, e1]
theorem ch_all : (List.range 256).all (fun v => Nat.ble 7 (kd v) || v == kdL.getD (kd v) 0) = true := by decide +kernel
theorem kd_ch {v k : Nat} (hv : v < 256) (e : kd v = k) (hk : k < 7) : v = kdL.getD k 0 := by
  have h1 := List.all_eq_true.mp ch_all v (List.mem_range.mpr hv)
  rw [Bool.or_eq_true, Nat.ble_eq, beq_iff_eq] at h1
  rw [← e]
  exact h1.resolve_left (by omega)
theorem act_g {N : Nat} {p : Nat} {v0 v6 v16 v24 : Int32} {b c : Bool} {h : HP} (s : SH b c h) (a0 : f_X8_at h 1 (n32 p) (n32 60) = some v0) (a1 : f_X8_at h 1 (n32 (p + 1)) (n32 60) = some v6) (a2 : f_X8_at h 1 (n32 (p + 2)) (n32 60) = some v16) (a3 : f_X8_at h 1 (n32 (p + 3)) (n32 60) = some v24) : f_X9_act N h 0 (n32 p) = actT N h 0 v0 (v6 - n32 48) v16 (if v16 = n32 111 then n32 0 else n32 1) (v24 - n32 48) := by
  rw [act_e]
  by_cases q : v16 = n32 111
  · rw [if_pos q]
    simp -implicitDefEqProofs (disch := omega) only [gP_p, gP_t, bnd_s, bnd2_s, ltt_s, jn_s, n32_nat, n32_le, n32_lt, n32_eq, n32_add, n32_sub, n32_dec, n32_mul, n32_div, n32_irm, n32_lit, n32_oN, n32_ix, n32_m1, n32_m2, neg_le0, neg_lt0, neg_lt1, neg_le1, n32_min, n32_max, if_true, if_false, Nat.one_ne_zero, gd_some, true_or, or_true, false_or, or_false, s.root, a0, a1, a2, a3, q]
  · rw [if_neg q]
    simp -implicitDefEqProofs (disch := omega) only [gP_p, gP_t, bnd_s, bnd2_s, ltt_s, jn_s, n32_nat, n32_le, n32_lt, n32_eq, n32_add, n32_sub, n32_dec, n32_mul, n32_div, n32_irm, n32_lit, n32_oN, n32_ix, n32_m1, n32_m2, neg_le0, neg_lt0, neg_lt1, neg_le1, n32_min, n32_max, if_true, if_false, Nat.one_ne_zero, gd_some, true_or, or_true, false_or, or_false, s.root, a0, a1, a2, a3, q]
abbrev D1 (t : Nat → Nat) (i : Nat) : Nat := t (AP t i + 1) - 48
abbrev D2 (t : Nat → Nat) (i : Nat) : Nat := t (AP t i + 2) - 48
abbrev D3 (t : Nat → Nat) (i : Nat) : Nat := t (AP t i + 3) - 48
abbrev Dk (t : Nat → Nat) (i : Nat) : Nat := if t (AP t i + 2) = 111 then 0 else 1
noncomputable def yA (sz : Nat) (F : Fle) (t : Nat → Nat) (i : Nat) (r : Nat → Nat) : Int32 × (Nat → Nat) :=
  if ka t i = 0 then (n32 (mLds sz F (D1 t i) r), mMons sz F (D1 t i) r) else if ka t i = 1 then aTax sz (n32 (D1 t i)) (n32 (D2 t i)) r else if ka t i = 2 then aBurn sz (n32 (D1 t i)) r else if ka t i = 3 then mPort r else if ka t i = 4 then aFlow (n32 (D1 t i)) r else if ka t i = 5 then aLay sz (n32 (D1 t i)) (n32 (Dk t i)) (n32 (100 * D3 t i)) r else aSpd sz (n32 (D1 t i)) (n32 (Dk t i)) (n32 (100 * D3 t i)) r
theorem yA_0 {sz : Nat} {F : Fle} {t : Nat → Nat} {i : Nat} {r : Nat → Nat} (e : ka t i = 0) : yA sz F t i r = (n32 (mLds sz F (D1 t i) r), mMons sz F (D1 t i) r) := if_pos e
theorem yA_1 {sz : Nat} {F : Fle} {t : Nat → Nat} {i : Nat} {r : Nat → Nat} (e : ka t i = 1) : yA sz F t i r = aTax sz (n32 (D1 t i)) (n32 (D2 t i)) r := by
  unfold yA
  rw [if_neg (by omega), if_pos e]
theorem yA_2 {sz : Nat} {F : Fle} {t : Nat → Nat} {i : Nat} {r : Nat → Nat} (e : ka t i = 2) : yA sz F t i r = aBurn sz (n32 (D1 t i)) r := by
  unfold yA
  rw [if_neg (by omega), if_neg (by omega), if_pos e]
theorem yA_3 {sz : Nat} {F : Fle} {t : Nat → Nat} {i : Nat} {r : Nat → Nat} (e : ka t i = 3) : yA sz F t i r = mPort r := by
  unfold yA
  rw [if_neg (by omega), if_neg (by omega), if_neg (by omega), if_pos e]
theorem yA_4 {sz : Nat} {F : Fle} {t : Nat → Nat} {i : Nat} {r : Nat → Nat} (e : ka t i = 4) : yA sz F t i r = aFlow (n32 (D1 t i)) r := by
  unfold yA
  rw [if_neg (by omega), if_neg (by omega), if_neg (by omega), if_neg (by omega), if_pos e]
theorem yA_5 {sz : Nat} {F : Fle} {t : Nat → Nat} {i : Nat} {r : Nat → Nat} (e : ka t i = 5) : yA sz F t i r = aLay sz (n32 (D1 t i)) (n32 (Dk t i)) (n32 (100 * D3 t i)) r := by
  unfold yA
  rw [if_neg (by omega), if_neg (by omega), if_neg (by omega), if_neg (by omega), if_neg (by omega), if_pos e]
theorem yA_6 {sz : Nat} {F : Fle} {t : Nat → Nat} {i : Nat} {r : Nat → Nat} (e : ka t i = 6) : yA sz F t i r = aSpd sz (n32 (D1 t i)) (n32 (Dk t i)) (n32 (100 * D3 t i)) r := by
  unfold yA
  rw [if_neg (by omega), if_neg (by omega), if_neg (by omega), if_neg (by omega), if_neg (by omega), if_neg (by omega)]
/-- what a good act has behind its first sign -/
theorem VA_d {t : Nat → Nat} {E i : Nat} (v : VA t E i) : AP t (i + 1) ≤ E ∧ (ka t i ≠ 3 → AP t i + 1 < E ∧ 48 ≤ t (AP t i + 1) ∧ t (AP t i + 1) ≤ 57) ∧ (ka t i = 1 → AP t i + 2 < E ∧ 49 ≤ t (AP t i + 2) ∧ t (AP t i + 2) ≤ 57) ∧ (5 ≤ ka t i → (AP t i + 2 < E ∧ (t (AP t i + 2) = 111 ∨ t (AP t i + 2) = 110)) ∧ (AP t i + 3 < E ∧ 49 ≤ t (AP t i + 3) ∧ t (AP t i + 3) ≤ 57)) := by
  obtain ⟨v1, v2, v3⟩ := v
  have gi := fun j hj => gs_in (t := t) (E := E) (k := ka t i) (p := AP t i) (i := j) hj
  have g1 := gs_E (t := t) (E := E) (k := ka t i) (p := AP t i) (by omega)
  rw [v3] at gi g1
  refine ⟨by rw [AP_s]; exact g1, fun k3 => ?_, fun k1 => ?_, fun k5 => ?_⟩
  · rcases (show ka t i = 0 ∨ ka t i = 1 ∨ ka t i = 2 ∨ ka t i = 4 ∨ ka t i = 5 ∨ ka t i = 6 by omega) with e | e | e | e | e | e <;> (rw [e] at gi; exact sg48.mp (gi 1 (by decide)))
  · rw [k1] at gi
    exact sg49.mp (gi 2 (by decide))
  · rcases (show ka t i = 5 ∨ ka t i = 6 by omega) with e | e
    · rw [e] at gi
      exact ⟨sg107.mp (gi 2 (by decide)), sg49.mp (gi 3 (by decide))⟩
    · rw [e] at gi
      exact ⟨sg107.mp (gi 2 (by decide)), sg49.mp (gi 3 (by decide))⟩
theorem yA_ok {B sz E i : Nat} {F : Fle} {t r : Nat → Nat} (hz : sz ≤ 6) (v : VA t E i) (rb : RBm B r) (zb : ZB sz r) : RBm (B + 5 * al (ka t i)) (yA sz F t i r).2 ∧ ZB sz (yA sz F t i r).2 := by
  obtain ⟨w1, w2, w3, w4⟩ := VA_d v
  have k7 := v.2.1
  have mo : ∀ a : Int32 × (Nat → Nat), RBm B a.2 ∧ ZB sz a.2 → RBm (B + 5 * al (ka t i)) a.2 ∧ ZB sz a.2 := fun a ha => ⟨ha.1.mo (by omega), ha.2⟩
  rcases (show ka t i = 0 ∨ ka t i = 1 ∨ ka t i = 2 ∨ ka t i = 3 ∨ ka t i = 4 ∨ ka t i = 5 ∨ ka t i = 6 by omega) with e | e | e | e | e | e | e
  · rw [yA_0 e, e]
    have d := w2 (by omega)
    refine ⟨(rb.mons (D1 t i)).mo ?_, zb.mons _⟩
    have ea : al 0 = 2 := rfl
    rw [ea]
    show B + (t (AP t i + 1) - 48) ≤ _
    omega
  · rw [yA_1 e]; exact mo _ (ok_tax hz rb zb)
  · rw [yA_2 e]; exact mo _ (ok_burn hz rb zb)
  · rw [yA_3 e]; exact mo _ (ok_port rb zb)
  · rw [yA_4 e]; exact mo _ (ok_flow rb zb)
  · rw [yA_5 e]; exact mo _ (ok_lay hz rb zb)
  · rw [yA_6 e]; exact mo _ (ok_spd hz rb zb)
theorem yact_x {sz n i B : Nat} {F : Fle} {t r : Nat → Nat} {b c : Bool} {h : HP} (hz : sz ≤ 6) (fb : FB F) (v : VA t n i) (hn : n ≤ 60) (tb : ∀ i, i < n → t i < 256) (s : SH b c h) (tx : TxX h t n) (z : h.2.1 5 2 = n32 sz) (cr : CR h 5 r) (fR : FR h (flr b) F) (rb : RBm B r) (hB : B ≤ 1000000) : gd (f_X9_act 1000 h 0 (n32 (AP t i))) (XD h 5 sz (yA sz F t i r)) := by
  obtain ⟨w1, w2, w3, w4⟩ := VA_d v
  have k7 := v.2.1
  have p0 := v.1
  have al1 := al_1 k7
  rw [AP_s] at w1
  have a0 := at60_x (p := AP t i) s tx hn (by omega)
  rw [if_pos p0] at a0
  have a1 := at60_x (p := AP t i + 1) s tx hn (by omega)
  have a2 := at60_x (p := AP t i + 2) s tx hn (by omega)
  have a3 := at60_x (p := AP t i + 3) s tx hn (by omega)
  rw [act_g s a0 a1 a2 a3]
  clear a0 a1 a2 a3
  have chr := fun k (e : ka t i = k) (hk : k < 7) => kd_ch (tb (AP t i) p0) e hk
  obtain ⟨e1, e2, e3, e4, e5, e6, e7⟩ := fl_rc b
  rcases (show ka t i = 0 ∨ ka t i = 1 ∨ ka t i = 2 ∨ ka t i = 3 ∨ ka t i = 4 ∨ ka t i = 5 ∨ ka t i = 6 by omega) with e | e | e | e | e | e | e
  · have tc : t (AP t i) = 109 := chr 0 e (by omega)
    obtain ⟨d1, d2, d3⟩ := w2 (by omega)
    rw [if_pos d1, tc, yA_0 e, n32_sub d2]
    unfold actT
    rw [if_neg (show ¬ n32 109 = 98 by decide), if_neg (show ¬ n32 109 = 99 by decide), if_neg (show ¬ n32 109 = 100 by decide), if_neg (show ¬ n32 109 = 101 by decide), if_neg (show ¬ n32 109 = 102 by decide), if_neg (show ¬ n32 109 = 103 by decide), if_neg (show ¬ n32 109 = 104 by decide), if_neg (show ¬ n32 109 = 105 by decide), if_neg (show ¬ n32 109 = 106 by decide), if_neg (show ¬ n32 109 = 107 by decide), if_neg (show ¬ n32 109 = 108 by decide), if_pos (show n32 109 = 109 by decide)]
    simp -implicitDefEqProofs (disch := omega) only [gP_p, gP_t, bnd_s, bnd2_s, ltt_s, jn_s, n32_nat, n32_le, n32_lt, n32_eq, n32_add, n32_sub, n32_dec, n32_mul, n32_div, n32_irm, n32_lit, n32_oN, n32_ix, n32_m1, n32_m2, neg_le0, neg_lt0, neg_lt1, neg_le1, n32_min, n32_max, if_true, if_false, Nat.one_ne_zero, gd_some, true_or, or_true, false_or, or_false, s.root, gd_bnd2]
    refine gd_mono (pass_y (n := D1 t i) (by omega) (by show t (AP t i + 1) - 48 < 1000; omega) hz fb (by show t (AP t i + 1) - 48 < 1000; omega) e5 e6 e7 e4 (s.co CL5) (s.flc b) z cr fR rb hB) ?_
    rintro ⟨v2, h2⟩ ⟨f1, f2, f3, f4⟩
    exact ⟨f1, f2, f4, f3⟩
  · have tc : t (AP t i) = 116 := chr 1 e (by omega)
    obtain ⟨d1, d2, d3⟩ := w2 (by omega)
    obtain ⟨g1, g2, g3⟩ := w3 e
    have g2' : 48 ≤ t (AP t i + 2) := by omega
    rw [if_pos d1, if_pos g1, tc, yA_1 e, n32_sub d2]
    unfold actT
    rw [if_neg (show ¬ n32 116 = 98 by decide), if_neg (show ¬ n32 116 = 99 by decide), if_neg (show ¬ n32 116 = 100 by decide), if_neg (show ¬ n32 116 = 101 by decide), if_neg (show ¬ n32 116 = 102 by decide), if_neg (show ¬ n32 116 = 103 by decide), if_neg (show ¬ n32 116 = 104 by decide), if_neg (show ¬ n32 116 = 105 by decide), if_neg (show ¬ n32 116 = 106 by decide), if_neg (show ¬ n32 116 = 107 by decide), if_neg (show ¬ n32 116 = 108 by decide), if_neg (show ¬ n32 116 = 109 by decide), if_neg (show ¬ n32 116 = 110 by decide), if_neg (show ¬ n32 116 = 111 by decide), if_neg (show ¬ n32 116 = 112 by decide), if_neg (show ¬ n32 116 = 113 by decide), if_neg (show ¬ n32 116 = 114 by decide), if_neg (show ¬ n32 116 = 115 by decide), if_pos (show n32 116 = 116 by decide)]
    simp -implicitDefEqProofs (disch := omega) only [gP_p, gP_t, bnd_s, bnd2_s, ltt_s, jn_s, n32_nat, n32_le, n32_lt, n32_eq, n32_add, n32_sub, n32_dec, n32_mul, n32_div, n32_irm, n32_lit, n32_oN, n32_ix, n32_m1, n32_m2, neg_le0, neg_lt0, neg_lt1, neg_le1, n32_min, n32_max, if_true, if_false, Nat.one_ne_zero, gd_some, true_or, or_true, false_or, or_false, s.root, gd_bnd2]
    exact tax_x (N := 997) (s.co CL5) z hz cr rb
  · have tc : t (AP t i) = 98 := chr 2 e (by omega)
    obtain ⟨d1, d2, d3⟩ := w2 (by omega)
    rw [if_pos d1, tc, yA_2 e, n32_sub d2]
    unfold actT
    rw [if_pos (show n32 98 = 98 by decide)]
    simp -implicitDefEqProofs (disch := omega) only [gP_p, gP_t, bnd_s, bnd2_s, ltt_s, jn_s, n32_nat, n32_le, n32_lt, n32_eq, n32_add, n32_sub, n32_dec, n32_mul, n32_div, n32_irm, n32_lit, n32_oN, n32_ix, n32_m1, n32_m2, neg_le0, neg_lt0, neg_lt1, neg_le1, n32_min, n32_max, if_true, if_false, Nat.one_ne_zero, gd_some, true_or, or_true, false_or, or_false, s.root, gd_bnd2]
    exact burn_x (s.co CL5) z hz cr rb
  · have tc : t (AP t i) = 112 := chr 3 e (by omega)
    rw [tc, yA_3 e]
    unfold actT
    rw [if_neg (show ¬ n32 112 = 98 by decide), if_neg (show ¬ n32 112 = 99 by decide), if_neg (show ¬ n32 112 = 100 by decide), if_neg (show ¬ n32 112 = 101 by decide), if_neg (show ¬ n32 112 = 102 by decide), if_neg (show ¬ n32 112 = 103 by decide), if_neg (show ¬ n32 112 = 104 by decide), if_neg (show ¬ n32 112 = 105 by decide), if_neg (show ¬ n32 112 = 106 by decide), if_neg (show ¬ n32 112 = 107 by decide), if_neg (show ¬ n32 112 = 108 by decide), if_neg (show ¬ n32 112 = 109 by decide), if_neg (show ¬ n32 112 = 110 by decide), if_neg (show ¬ n32 112 = 111 by decide), if_pos (show n32 112 = 112 by decide)]
    simp -implicitDefEqProofs (disch := omega) only [gP_p, gP_t, bnd_s, bnd2_s, ltt_s, jn_s, n32_nat, n32_le, n32_lt, n32_eq, n32_add, n32_sub, n32_dec, n32_mul, n32_div, n32_irm, n32_lit, n32_oN, n32_ix, n32_m1, n32_m2, neg_le0, neg_lt0, neg_lt1, neg_le1, n32_min, n32_max, if_true, if_false, Nat.one_ne_zero, gd_some, true_or, or_true, false_or, or_false, s.root, gd_bnd2]
    exact port_x (s.co CL5) z cr rb
  · have tc : t (AP t i) = 102 := chr 4 e (by omega)
    obtain ⟨d1, d2, d3⟩ := w2 (by omega)
    rw [if_pos d1, tc, yA_4 e, n32_sub d2]
    unfold actT
    rw [if_neg (show ¬ n32 102 = 98 by decide), if_neg (show ¬ n32 102 = 99 by decide), if_neg (show ¬ n32 102 = 100 by decide), if_neg (show ¬ n32 102 = 101 by decide), if_pos (show n32 102 = 102 by decide)]
    simp -implicitDefEqProofs (disch := omega) only [gP_p, gP_t, bnd_s, bnd2_s, ltt_s, jn_s, n32_nat, n32_le, n32_lt, n32_eq, n32_add, n32_sub, n32_dec, n32_mul, n32_div, n32_irm, n32_lit, n32_oN, n32_ix, n32_m1, n32_m2, neg_le0, neg_lt0, neg_lt1, neg_le1, n32_min, n32_max, if_true, if_false, Nat.one_ne_zero, gd_some, true_or, or_true, false_or, or_false, s.root, gd_bnd2]
    exact flow_x (s.co CL5) z cr
  · have tc : t (AP t i) = 108 := chr 5 e (by omega)
    obtain ⟨d1, d2, d3⟩ := w2 (by omega)
    obtain ⟨⟨g1, g2⟩, g3, g4, g5⟩ := w4 (by omega)
    have g4' : 48 ≤ t (AP t i + 3) := by omega
    have ey : (if n32 (t (AP t i + 2)) = n32 111 then n32 0 else n32 1) = n32 (Dk t i) := by
      have tb2 := tb (AP t i + 2) g1
      by_cases q : t (AP t i + 2) = 111
      · rw [if_pos (by rw [q])]
        show _ = n32 (if t (AP t i + 2) = 111 then 0 else 1)
        rw [if_pos q]
      · rw [if_neg (by rw [n32_eq (by omega) (by omega)]; exact q)]
        show _ = n32 (if t (AP t i + 2) = 111 then 0 else 1)
        rw [if_neg q]
    rw [if_pos d1, if_pos g1, if_pos g3, ey, tc, yA_5 e, n32_sub d2, n32_sub g4']
    unfold actT
    rw [if_neg (show ¬ n32 108 = 98 by decide), if_neg (show ¬ n32 108 = 99 by decide), if_neg (show ¬ n32 108 = 100 by decide), if_neg (show ¬ n32 108 = 101 by decide), if_neg (show ¬ n32 108 = 102 by decide), if_neg (show ¬ n32 108 = 103 by decide), if_neg (show ¬ n32 108 = 104 by decide), if_neg (show ¬ n32 108 = 105 by decide), if_neg (show ¬ n32 108 = 106 by decide), if_neg (show ¬ n32 108 = 107 by decide), if_pos (show n32 108 = 108 by decide)]
    simp -implicitDefEqProofs (disch := omega) only [gP_p, gP_t, bnd_s, bnd2_s, ltt_s, jn_s, n32_nat, n32_le, n32_lt, n32_eq, n32_add, n32_sub, n32_dec, n32_mul, n32_div, n32_irm, n32_lit, n32_oN, n32_ix, n32_m1, n32_m2, neg_le0, neg_lt0, neg_lt1, neg_le1, n32_min, n32_max, if_true, if_false, Nat.one_ne_zero, gd_some, true_or, or_true, false_or, or_false, s.root, gd_bnd2]
    exact lay_x (s.co CL5) z hz cr rb
  · have tc : t (AP t i) = 115 := chr 6 e (by omega)
    obtain ⟨d1, d2, d3⟩ := w2 (by omega)
    obtain ⟨⟨g1, g2⟩, g3, g4, g5⟩ := w4 (by omega)
    have g4' : 48 ≤ t (AP t i + 3) := by omega
    have ey : (if n32 (t (AP t i + 2)) = n32 111 then n32 0 else n32 1) = n32 (Dk t i) := by
      have tb2 := tb (AP t i + 2) g1
      by_cases q : t (AP t i + 2) = 111
      · rw [if_pos (by rw [q])]
        show _ = n32 (if t (AP t i + 2) = 111 then 0 else 1)
        rw [if_pos q]
      · rw [if_neg (by rw [n32_eq (by omega) (by omega)]; exact q)]
        show _ = n32 (if t (AP t i + 2) = 111 then 0 else 1)
        rw [if_neg q]
    rw [if_pos d1, if_pos g1, if_pos g3, ey, tc, yA_6 e, n32_sub d2, n32_sub g4']
    unfold actT
    rw [if_neg (show ¬ n32 115 = 98 by decide), if_neg (show ¬ n32 115 = 99 by decide), if_neg (show ¬ n32 115 = 100 by decide), if_neg (show ¬ n32 115 = 101 by decide), if_neg (show ¬ n32 115 = 102 by decide), if_neg (show ¬ n32 115 = 103 by decide), if_neg (show ¬ n32 115 = 104 by decide), if_neg (show ¬ n32 115 = 105 by decide), if_neg (show ¬ n32 115 = 106 by decide), if_neg (show ¬ n32 115 = 107 by decide), if_neg (show ¬ n32 115 = 108 by decide), if_neg (show ¬ n32 115 = 109 by decide), if_neg (show ¬ n32 115 = 110 by decide), if_neg (show ¬ n32 115 = 111 by decide), if_neg (show ¬ n32 115 = 112 by decide), if_neg (show ¬ n32 115 = 113 by decide), if_neg (show ¬ n32 115 = 114 by decide), if_pos (show n32 115 = 115 by decide)]
    simp -implicitDefEqProofs (disch := omega) only [gP_p, gP_t, bnd_s, bnd2_s, ltt_s, jn_s, n32_nat, n32_le, n32_lt, n32_eq, n32_add, n32_sub, n32_dec, n32_mul, n32_div, n32_irm, n32_lit, n32_oN, n32_ix, n32_m1, n32_m2, neg_le0, neg_lt0, neg_lt1, neg_le1, n32_min, n32_max, if_true, if_false, Nat.one_ne_zero, gd_some, true_or, or_true, false_or, or_false, s.root, gd_bnd2]
    exact spd_x (s.co CL5) z hz cr rb
theorem does_m {sz E i B : Nat} {F : Fle} {t r : Nat → Nat} {b c : Bool} {h : HP} (hz : sz ≤ 6) (fb : FB F) (v : VA t E i) (hi : i < 60) (s : SH b c h) (z : h.2.1 188 3 = n32 sz) (mr : MR h 193 r) (mf : MF h F) (y : YC t h i) (rb : RBm B r) (hB : B ≤ 1000000) : gd (f_X10_does 1000 h 188 (n32 i)) (fun q => q.1 = (if n32 0 ≤ (yA sz F t i r).1 then n32 1 else n32 0) ∧ MR q.2 193 (yA sz F t i r).2 ∧ fr [41, 47, 30] h q.2) := by
  obtain ⟨w1, w2, w3, w4⟩ := VA_d v
  obtain ⟨y1, y2, y3, y4⟩ := y
  have k7 := v.2.1
  have fin : ∀ (a : Int32 × (Nat → Nat)) (o : Option (Int32 × HP)), gd o (MD h 193 a) → gd (bnd2 o (fun v39 h41 => (if v39 < n32 0 then some (n32 0, h41) else some (n32 1, h41)))) (fun q => q.1 = (if n32 0 ≤ a.1 then n32 1 else n32 0) ∧ MR q.2 193 a.2 ∧ fr [41, 47, 30] h q.2) := by
    intro a o ho
    rw [gd_bnd2]
    refine gd_mono ho ?_
    rintro ⟨u, h1⟩ ⟨u1, u2, u3⟩
    have u1' : u = a.1 := u1
    subst u1'
    have u3' : fr [30] h h1 := u3
    by_cases q : n32 0 ≤ a.1
    · rw [if_pos q]
      show gd (if a.1 < n32 0 then _ else _) _
      rw [if_neg (by rw [neg_c]; exact fun z => z q)]
      exact gd_some.mpr ⟨rfl, u2, u3'.mono (by decide)⟩
    · rw [if_neg q]
      show gd (if a.1 < n32 0 then _ else _) _
      rw [if_pos (by rw [neg_c]; exact q)]
      exact gd_some.mpr ⟨rfl, u2, u3'.mono (by decide)⟩
  unfold f_X10_does
  rcases (show ka t i = 0 ∨ ka t i = 1 ∨ ka t i = 2 ∨ ka t i = 3 ∨ ka t i = 4 ∨ ka t i = 5 ∨ ka t i = 6 by omega) with e | e | e | e | e | e | e
  · rw [e] at y1
    have y2' := y2 (by omega)
    obtain ⟨d1, d2, d3⟩ := w2 (by omega)
    have hl := lds_le (sz := sz) fb (D1 t i) (r := r)
    have d4 : D1 t i ≤ 9 := by show t (AP t i + 1) - 48 ≤ 9; omega
    rw [yA_0 e, if_pos (show n32 0 ≤ n32 (mLds sz F (D1 t i) r) by rw [n32_le (by omega) (by omega)]; omega)]
    simp -implicitDefEqProofs (disch := omega) only [gP_p, gP_t, bnd_s, bnd2_s, ltt_s, jn_s, n32_nat, n32_le, n32_lt, n32_eq, n32_add, n32_sub, n32_dec, n32_mul, n32_div, n32_irm, n32_lit, n32_oN, n32_ix, n32_m1, n32_m2, neg_le0, neg_lt0, neg_lt1, neg_le1, n32_min, n32_max, if_true, if_false, Nat.one_ne_zero, gd_some, true_or, or_true, false_or, or_false, s.mod, y1, y2', gd_bnd]
    refine gd_mono (goes_y (n := D1 t i) (by omega) (by omega) (Or.inl rfl) hz fb (by omega) rb hB s z mr mf) ?_
    rintro h1 ⟨m1, m2, m3⟩
    first | exact gd_some.mpr ⟨rfl, m1, m2.mono (by decide)⟩ | exact ⟨rfl, m1, m2.mono (by decide)⟩ | exact ⟨trivial, m1, m2.mono (by decide)⟩
  · rw [e] at y1
    have y2' := y2 (by omega)
    have y3' := y3 e
    rw [yA_1 e]
    have key := fin _ _ (tax_m (N := 997) (x1 := n32 (D1 t i)) (x2 := n32 (D2 t i)) (Or.inl rfl) s z hz mr rb)
    simp -implicitDefEqProofs (disch := omega) only [gP_p, gP_t, bnd_s, bnd2_s, ltt_s, jn_s, n32_nat, n32_le, n32_lt, n32_eq, n32_add, n32_sub, n32_dec, n32_mul, n32_div, n32_irm, n32_lit, n32_oN, n32_ix, n32_m1, n32_m2, neg_le0, neg_lt0, neg_lt1, neg_le1, n32_min, n32_max, if_true, if_false, Nat.one_ne_zero, gd_some, true_or, or_true, false_or, or_false, s.mod, y1, y2', y3']
    exact key
  · rw [e] at y1
    have y2' := y2 (by omega)
    rw [yA_2 e]
    have key := fin _ _ (burn_m (x1 := n32 (D1 t i)) s z hz mr rb)
    simp -implicitDefEqProofs (disch := omega) only [gP_p, gP_t, bnd_s, bnd2_s, ltt_s, jn_s, n32_nat, n32_le, n32_lt, n32_eq, n32_add, n32_sub, n32_dec, n32_mul, n32_div, n32_irm, n32_lit, n32_oN, n32_ix, n32_m1, n32_m2, neg_le0, neg_lt0, neg_lt1, neg_le1, n32_min, n32_max, if_true, if_false, Nat.one_ne_zero, gd_some, true_or, or_true, false_or, or_false, s.mod, y1, y2']
    exact key
  · rw [e] at y1
    have m27 := mr 27 (by omega)
    have b27 := rb.2.2.2.1
    rw [yA_3 e, if_pos (show n32 0 ≤ (mPort r).1 by show n32 0 ≤ n32 (1 - r 27); rw [n32_le (by omega) (by omega)]; omega)]
    simp -implicitDefEqProofs (disch := omega) only [gP_p, gP_t, bnd_s, bnd2_s, ltt_s, jn_s, n32_nat, n32_le, n32_lt, n32_eq, n32_add, n32_sub, n32_dec, n32_mul, n32_div, n32_irm, n32_lit, n32_oN, n32_ix, n32_m1, n32_m2, neg_le0, neg_lt0, neg_lt1, neg_le1, n32_min, n32_max, if_true, if_false, Nat.one_ne_zero, gd_some, true_or, or_true, false_or, or_false, s.mod, y1, m27]
    exact gd_some.mpr ⟨rfl, mR_set mr, (fr.rf _ _).sI rfl⟩
  · rw [e] at y1
    have y2' := y2 (by omega)
    rw [yA_4 e]
    have key := fin _ _ (flow_m (x1 := n32 (D1 t i)) s mr)
    simp -implicitDefEqProofs (disch := omega) only [gP_p, gP_t, bnd_s, bnd2_s, ltt_s, jn_s, n32_nat, n32_le, n32_lt, n32_eq, n32_add, n32_sub, n32_dec, n32_mul, n32_div, n32_irm, n32_lit, n32_oN, n32_ix, n32_m1, n32_m2, neg_le0, neg_lt0, neg_lt1, neg_le1, n32_min, n32_max, if_true, if_false, Nat.one_ne_zero, gd_some, true_or, or_true, false_or, or_false, s.mod, y1, y2']
    exact key
  · rw [e] at y1
    have y2' := y2 (by omega)
    obtain ⟨y4', y5'⟩ := y4 (by omega)
    rw [yA_5 e]
    have key := fin _ _ (lay_m (x1 := n32 (D1 t i)) (x2 := n32 (Dk t i)) (x3 := n32 (100 * D3 t i)) s z hz mr rb)
    simp -implicitDefEqProofs (disch := omega) only [gP_p, gP_t, bnd_s, bnd2_s, ltt_s, jn_s, n32_nat, n32_le, n32_lt, n32_eq, n32_add, n32_sub, n32_dec, n32_mul, n32_div, n32_irm, n32_lit, n32_oN, n32_ix, n32_m1, n32_m2, neg_le0, neg_lt0, neg_lt1, neg_le1, n32_min, n32_max, if_true, if_false, Nat.one_ne_zero, gd_some, true_or, or_true, false_or, or_false, s.mod, y1, y2', y4', y5']
    exact key
  · rw [e] at y1
    have y2' := y2 (by omega)
    obtain ⟨y4', y5'⟩ := y4 (by omega)
    rw [yA_6 e]
    have key := fin _ _ (spd_m (x1 := n32 (D1 t i)) (x2 := n32 (Dk t i)) (x3 := n32 (100 * D3 t i)) s z hz mr rb)
    simp -implicitDefEqProofs (maxSteps := 1000000) (disch := omega) only [gP_p, gP_t, bnd_s, bnd2_s, ltt_s, jn_s, n32_nat, n32_le, n32_lt, n32_eq, n32_add, n32_sub, n32_dec, n32_mul, n32_div, n32_irm, n32_lit, n32_oN, n32_ix, n32_m1, n32_m2, neg_le0, neg_lt0, neg_lt1, neg_le1, n32_min, n32_max, if_true, if_false, Nat.one_ne_zero, gd_some, true_or, or_true, false_or, or_false, s.mod, y1, y2', y4', y5']
    exact key
