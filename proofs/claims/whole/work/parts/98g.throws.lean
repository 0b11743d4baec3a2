/-! ===== market, load, row ===== -/
theorem rE_some {h : HP} {o : Nat} {v : Int32} {h1 : HP} : rE h o (some v, h1) = (0, setJ h1 o 0 v.toInt64) := rfl
theorem rE_none {h : HP} {o : Nat} {h1 : HP} : rE h o (none, h1) = (1, h1) := rfl
theorem rEJ_some {h : HP} {o : Nat} {v : Int64} {h1 : HP} : rEJ h o (some v, h1) = (0, setJ h1 o 0 v) := rfl
theorem rEJ_none {h : HP} {o : Nat} {h1 : HP} : rEJ h o (none, h1) = (1, h1) := rfl
theorem thr_m {b c : Bool} {h : HP} (s : SH b c h) : f_X10_thrown h 188 = some (h.2.1 188 0) := by
  unfold f_X10_thrown
  rw [gP_p (by simp only [s.mod])]
theorem rf_m {b c : Bool} {h : HP} (s : SH b c h) : f_X10_refuse h 188 = some (n32 0, setI h 188 0 (n32 1)) := by
  unfold f_X10_refuse
  simp -implicitDefEqProofs (disch := omega) only [gP_p, gP_t, bnd_s, bnd2_s, ltt_s, jn_s, n32_nat, n32_le, n32_lt, n32_eq, n32_add, n32_sub, n32_dec, n32_mul, n32_div, n32_irm, n32_lit, n32_oN, n32_ix, n32_m1, n32_m2, neg_le0, neg_lt0, neg_lt1, neg_le1, n32_min, n32_max, if_true, if_false, Nat.one_ne_zero, gd_some, true_or, or_true, false_or, or_false, s.mod]
theorem frJ {R : List Nat} {h : HP} {v : Int64} (hr : R.contains 60 = true) : fr R h (setJ h 219 0 v) := (fr.rf _ _).sJ (by exact hr)
theorem Iv.q9 {B : Nat} {b c : Bool} {sz : Nat} {h h' : HP} (s : Iv B b c sz h) (f : fr [4, 5, 9, 10, 13, 17, 19, 31, 32, 33, 40, 41, 42, 43, 44, 45, 46, 47, 50, 60] h h') : Iv B b c sz h' := by
  obtain ⟨a0, a1, a2, a3, a4, a5, a6, a7, a8, a9, a10⟩ := s
  exact ⟨a0.fr f, a1.fr f (by decide), a2.fr f (by decide), a3.fr f (by decide), a4.fr f (by decide), a5.fr f (by decide), a6.fr f (by cases b <;> decide), a7.fr f (by cases c <;> decide), a8.fr f (by decide), a9.fr f (by decide), a10.fr f (by decide)⟩
/-- a reading that answers -/
theorem ans_op {k : Nat} {b c : Bool} {sz : Nat} {h : HP} {v : Int32} {fX : HP → Option (Option Int32 × HP)} {fM : HP → Option (Int32 × HP)} (iv : Iv (300 * k) b c sz h) (X : gd (fX h) (fun p => p.1 = some v ∧ fr [17, 19] h p.2)) (M : ∀ g, fr [17, 19, 60] h g → SH b c g → gd (fM g) (fun p => p.1 = v ∧ p.2.2.1 188 0 = n32 0 ∧ fr [50, 32] g p.2)) : ∃ (rp : Option Int32 × HP) (b' : Int32) (h2 : HP) (t : Int32), fX h = some rp ∧ fM (rE h 219 rp).2 = some (b', h2) ∧ f_X10_thrown h2 188 = some t ∧ t = (rE h 219 rp).1 ∧ ((rE h 219 rp).1 = 0 → h2.2.2.1 219 0 = b'.toInt64) ∧ Inv (k + 1) h2 := by
  obtain ⟨⟨o, h1⟩, e1, e2, e3⟩ := X
  have e2' : o = some v := e2
  subst e2'
  have e3' : fr [17, 19] h h1 := e3
  have fJ : fr [60] h1 (setJ h1 219 0 v.toInt64) := frJ rfl
  have fA : fr [17, 19, 60] h (setJ h1 219 0 v.toInt64) := (e3'.mono (by decide)).tr (fJ.mono (by decide))
  have s1 := iv.1.fr fA
  obtain ⟨⟨v2, h2⟩, t1, t2, t3, t4⟩ := M _ fA s1
  have t2' : v2 = v := t2
  subst t2'
  have t4' : fr [50, 32] (setJ h1 219 0 v2.toInt64) h2 := t4
  have fB : fr [17, 19, 60, 50, 32] h h2 := (fA.mono (by decide)).tr (t4'.mono (by decide))
  have z : h2.2.1 188 0 = n32 0 := t3
  refine ⟨_, v2, h2, n32 0, e1, t1, by rw [thr_m (iv.1.fr fB), z], rfl, fun _ => ?_, Iv.up (iv.q9 (fB.mono (by decide)))⟩
  rw [t4'.aj [60] (by decide) 219 0 rfl]
  exact sJ_eq
/-- a reading that throws -/
theorem thr_op {k : Nat} {b c : Bool} {sz : Nat} {h : HP} {fX : HP → Option (Option Int32 × HP)} {fM : HP → Option (Int32 × HP)} (iv : Iv (300 * k) b c sz h) (X : fX h = some (none, h)) (M : gd (fM h) (fun p => p.2.2.1 188 0 = n32 1 ∧ fr [50] h p.2)) : ∃ (rp : Option Int32 × HP) (b' : Int32) (h2 : HP) (t : Int32), fX h = some rp ∧ fM (rE h 219 rp).2 = some (b', h2) ∧ f_X10_thrown h2 188 = some t ∧ t = (rE h 219 rp).1 ∧ ((rE h 219 rp).1 = 0 → h2.2.2.1 219 0 = b'.toInt64) ∧ Inv (k + 1) h2 := by
  obtain ⟨⟨v2, h2⟩, t1, t2, t3⟩ := M
  have t3' : fr [50] h h2 := t3
  have z : h2.2.1 188 0 = n32 1 := t2
  exact ⟨(none, h), v2, h2, n32 1, X, t1, by rw [thr_m (iv.1.fr t3'), z], rfl, fun q => absurd q (by show ¬ (1 : Int32) = 0; decide), Iv.up (iv.q9 (t3'.mono (by decide)))⟩
theorem op_market {k : Nat} (hk : k < 512) : ∀ (h : HP) (a1 a2 : Int32), Inv k h → ∃ (rp : Option Int32 × HP) (b : Int32) (h2 : HP) (t : Int32), f_X9_market 200 h 0 a1 a2 = some rp ∧ f_X10_market 200 (rE h 219 rp).2 188 a1 a2 = some (b, h2) ∧ f_X10_thrown h2 188 = some t ∧ t = (rE h 219 rp).1 ∧ ((rE h 219 rp).1 = 0 → h2.2.2.1 219 0 = b.toInt64) ∧ Inv (k + 1) h2 := by
  intro h x1 x2 I
  obtain ⟨b, c, sz, iv⟩ := I
  obtain ⟨a0, a1, a2, a3, a4, a5, a6, a7, a8, a9, a10⟩ := id iv
  obtain ⟨z1, z2, z3⟩ := id a1
  obtain ⟨r, r1, r2, r3, r4⟩ := id a4
  obtain ⟨g, g1, g2, g3⟩ := id a5
  obtain ⟨L, l1, l2, l3⟩ := id a7
  have f0 : ∀ g, fr [50] g (setI g 188 0 (n32 0)) := fun g => (fr.rf _ _).sI rfl
  have co := a0.co CL5
  have th : ∀ (hm : ∀ g', SH b c g' → g'.2.1 188 3 = n32 sz → f_X10_market 200 g' 188 x1 x2 = some (n32 0, setI (setI g' 188 0 (n32 0)) 188 0 (n32 1))) (hx : f_X9_market 200 h 0 x1 x2 = some (none, h)), ∃ (rp : Option Int32 × HP) (b : Int32) (h2 : HP) (t : Int32), f_X9_market 200 h 0 x1 x2 = some rp ∧ f_X10_market 200 (rE h 219 rp).2 188 x1 x2 = some (b, h2) ∧ f_X10_thrown h2 188 = some t ∧ t = (rE h 219 rp).1 ∧ ((rE h 219 rp).1 = 0 → h2.2.2.1 219 0 = b.toInt64) ∧ Inv (k + 1) h2 := fun hm hx => thr_op (fX := fun h => f_X9_market 200 h 0 x1 x2) (fM := fun h => f_X10_market 200 h 188 x1 x2) iv hx (by
    show gd (f_X10_market 200 h 188 x1 x2) _
    rw [hm h a0 z3]
    exact gd_some.mpr ⟨sI_eq, ((fr.rf _ _).sI rfl).sI rfl⟩)
  by_cases q1 : 0 ≤ x1.toInt ∧ x1.toInt < (sz : Int)
  · obtain ⟨m, -, hm, rfl⟩ := n32_of2 (lo := 0) (hi := sz - 1) q1.1 (by omega)
    have hm' : m < sz := by
      have := q1.2
      rw [n32_int (by omega)] at this
      omega
    have hx : f_X0_has h 5 (n32 m) = some (n32 1) := has_y co z2 z1 hm'
    have hM : ∀ g', SH b c g' → g'.2.1 188 3 = n32 sz → f_X10_isMarket g' 188 (n32 m) = some (n32 1) := fun g' s' z' => isMz_y s' z' z1 hm'
    by_cases q2 : 0 ≤ x2.toInt ∧ x2.toInt ≤ 5
    · obtain ⟨w, -, hw, rfl⟩ := n32_of2 (lo := 0) (hi := 5) q2.1 q2.2
      have wy : f_X9_within (n32 w) (n32 0) (n32 5) = some (n32 1) := within_y q2
      have iy : f_X10_in (n32 w).toInt64 0 5 = some (n32 1) := in_y (a := 0) (b := 5) rfl rfl q2
      have M0 : ∀ g', fr [17, 19, 60] h g' → (setI g' 188 0 (n32 0)).2.1 188 3 = n32 sz := fun g' f' => by
        rw [sI_ne (by omega), f'.ai [23] (by decide) 188 3 rfl]; exact z3
      obtain ⟨s0, s1', s2, s3, s4, s5⟩ := id r1
      obtain ⟨c0, c1, c2, c3, c4, c5, c6, c7, c8, c9⟩ := co
      have c30 := c3 0 (by omega)
      have c31 := c3 1 (by omega)
      have c40 := c4 0 (by omega)
      have c41 := c4 1 (by omega)
      have c70 := c7 0 (by omega)
      have c71 := c7 1 (by omega)
      have c80 := c8 0 (by omega)
      have c81 := c8 1 (by omega)
      have c6' : lenH h 6 = 2 := c5
      have c7' : lenH h 9 = 2 := c6
      have v10 := s0 0 m (by omega) (by omega)
      have v11 := s0 1 m (by omega) (by omega)
      have v20 := s1' 0 m (by omega) (by omega)
      have v21 := s1' 1 m (by omega) (by omega)
      simp only [Nat.add_zero, Nat.mul_zero, Nat.zero_add, Nat.mul_one] at c30 c31 c40 c41 c70 c71 c80 c81 v10 v11 v20 v21
      rcases (show w = 0 ∨ w = 1 ∨ w = 2 ∨ w = 3 ∨ w = 4 ∨ w = 5 by omega) with rfl | rfl | rfl | rfl | rfl | rfl
      · refine ans_op (v := n32 (g m)) (fX := fun h => f_X9_market 200 h 0 (n32 m) (n32 0)) (fM := fun h => f_X10_market 200 h 188 (n32 m) (n32 0)) iv ?_ (fun g' f' s' => ?_)
        · have gm := g1 m hm'
          show gd (f_X9_market 200 h 0 (n32 m) (n32 0)) _
          unfold f_X9_market
          simp -implicitDefEqProofs (maxSteps := 1000000) (disch := omega) only [gP_p, gP_t, bnd_s, bnd2_s, ltt_s, jn_s, n32_nat, n32_le, n32_lt, n32_eq, n32_add, n32_sub, n32_dec, n32_mul, n32_div, n32_irm, n32_lit, n32_oN, n32_ix, n32_m1, n32_m2, neg_le0, neg_lt0, neg_lt1, neg_le1, n32_min, n32_max, if_true, if_false, Nat.one_ne_zero, gd_some, true_or, or_true, false_or, or_false, Nat.reduceEqDiff, Nat.reduceSub, Nat.reduceMul, Nat.reduceAdd, a0.root, hx, wy, gm]
          exact ⟨trivial, fr.rf _ _⟩
        · have hM' := hM _ (s'.fr (f0 g')) (M0 g' f')
          have gm : g'.2.1 192 m = n32 (g m) := by rw [f'.ai [29] (by decide) 192 m rfl]; exact g2 m hm'
          show gd (f_X10_market 200 g' 188 (n32 m) (n32 0)) _
          unfold f_X10_market
          simp -implicitDefEqProofs (maxSteps := 1000000) (disch := omega) only [gP_p, gP_t, bnd_s, bnd2_s, ltt_s, jn_s, n32_nat, n32_le, n32_lt, n32_eq, n32_add, n32_sub, n32_dec, n32_mul, n32_div, n32_irm, n32_lit, n32_oN, n32_ix, n32_m1, n32_m2, neg_le0, neg_lt0, neg_lt1, neg_le1, n32_min, n32_max, if_true, if_false, Nat.one_ne_zero, gd_some, true_or, or_true, false_or, or_false, Nat.reduceEqDiff, Nat.reduceSub, Nat.reduceMul, Nat.reduceAdd, s'.mod, hM', iy, gm, sI_eq, sI_ne, sI_J, sI_R, sI_kO, sI_rK, sI_len, sJ_eq, sJ_ne, sJ_I, sJ_kO, sJ_rK, sJ_len]
          exact ⟨trivial, trivial, (f0 g').mono (by decide)⟩
      · refine ans_op (v := n32 (r m)) (fX := fun h => f_X9_market 200 h 0 (n32 m) (n32 1)) (fM := fun h => f_X10_market 200 h 188 (n32 m) (n32 1)) iv ?_ (fun g' f' s' => ?_)
        · show gd (f_X9_market 200 h 0 (n32 m) (n32 1)) _
          unfold f_X9_market
          simp -implicitDefEqProofs (maxSteps := 1000000) (disch := omega) only [gP_p, gP_t, bnd_s, bnd2_s, ltt_s, jn_s, n32_nat, n32_le, n32_lt, n32_eq, n32_add, n32_sub, n32_dec, n32_mul, n32_div, n32_irm, n32_lit, n32_oN, n32_ix, n32_m1, n32_m2, neg_le0, neg_lt0, neg_lt1, neg_le1, n32_min, n32_max, if_true, if_false, Nat.one_ne_zero, gd_some, true_or, or_true, false_or, or_false, Nat.reduceEqDiff, Nat.reduceSub, Nat.reduceMul, Nat.reduceAdd, a0.root, hx, wy, c1, c2, c6', c7', c30, c40, c80, c70, v10]
          exact ⟨trivial, fr.rf _ _⟩
        · have hM' := hM _ (s'.fr (f0 g')) (M0 g' f')
          have gm : g'.2.1 193 m = n32 (r m) := by rw [f'.ai [30] (by decide) 193 m rfl]; exact r2 m (by omega)
          show gd (f_X10_market 200 g' 188 (n32 m) (n32 1)) _
          unfold f_X10_market
          simp -implicitDefEqProofs (maxSteps := 1000000) (disch := omega) only [gP_p, gP_t, bnd_s, bnd2_s, ltt_s, jn_s, n32_nat, n32_le, n32_lt, n32_eq, n32_add, n32_sub, n32_dec, n32_mul, n32_div, n32_irm, n32_lit, n32_oN, n32_ix, n32_m1, n32_m2, neg_le0, neg_lt0, neg_lt1, neg_le1, n32_min, n32_max, if_true, if_false, Nat.one_ne_zero, gd_some, true_or, or_true, false_or, or_false, Nat.reduceEqDiff, Nat.reduceSub, Nat.reduceMul, Nat.reduceAdd, s'.mod, hM', iy, gm, sI_eq, sI_ne, sI_J, sI_R, sI_kO, sI_rK, sI_len, sJ_eq, sJ_ne, sJ_I, sJ_kO, sJ_rK, sJ_len, Nat.sub_self, Nat.mul_zero, Nat.zero_add]
          exact ⟨trivial, trivial, (f0 g').mono (by decide)⟩
      · refine ans_op (v := n32 (r (6 + m))) (fX := fun h => f_X9_market 200 h 0 (n32 m) (n32 2)) (fM := fun h => f_X10_market 200 h 188 (n32 m) (n32 2)) iv ?_ (fun g' f' s' => ?_)
        · show gd (f_X9_market 200 h 0 (n32 m) (n32 2)) _
          unfold f_X9_market
          simp -implicitDefEqProofs (maxSteps := 1000000) (disch := omega) only [gP_p, gP_t, bnd_s, bnd2_s, ltt_s, jn_s, n32_nat, n32_le, n32_lt, n32_eq, n32_add, n32_sub, n32_dec, n32_mul, n32_div, n32_irm, n32_lit, n32_oN, n32_ix, n32_m1, n32_m2, neg_le0, neg_lt0, neg_lt1, neg_le1, n32_min, n32_max, if_true, if_false, Nat.one_ne_zero, gd_some, true_or, or_true, false_or, or_false, Nat.reduceEqDiff, Nat.reduceSub, Nat.reduceMul, Nat.reduceAdd, a0.root, hx, wy, c1, c2, c6', c7', c31, c41, c81, c71, v11]
          exact ⟨trivial, fr.rf _ _⟩
        · have hM' := hM _ (s'.fr (f0 g')) (M0 g' f')
          have gm : g'.2.1 193 (6 + m) = n32 (r (6 + m)) := by rw [f'.ai [30] (by decide) 193 _ rfl]; exact r2 _ (by omega)
          show gd (f_X10_market 200 g' 188 (n32 m) (n32 2)) _
          unfold f_X10_market
          simp -implicitDefEqProofs (maxSteps := 1000000) (disch := omega) only [gP_p, gP_t, bnd_s, bnd2_s, ltt_s, jn_s, n32_nat, n32_le, n32_lt, n32_eq, n32_add, n32_sub, n32_dec, n32_mul, n32_div, n32_irm, n32_lit, n32_oN, n32_ix, n32_m1, n32_m2, neg_le0, neg_lt0, neg_lt1, neg_le1, n32_min, n32_max, if_true, if_false, Nat.one_ne_zero, gd_some, true_or, or_true, false_or, or_false, Nat.reduceEqDiff, Nat.reduceSub, Nat.reduceMul, Nat.reduceAdd, s'.mod, hM', iy, gm, sI_eq, sI_ne, sI_J, sI_R, sI_kO, sI_rK, sI_len, sJ_eq, sJ_ne, sJ_I, sJ_kO, sJ_rK, sJ_len]
          exact ⟨trivial, trivial, (f0 g').mono (by decide)⟩
      · refine ans_op (v := n32 (r (12 + m))) (fX := fun h => f_X9_market 200 h 0 (n32 m) (n32 3)) (fM := fun h => f_X10_market 200 h 188 (n32 m) (n32 3)) iv ?_ (fun g' f' s' => ?_)
        · show gd (f_X9_market 200 h 0 (n32 m) (n32 3)) _
          unfold f_X9_market
          simp -implicitDefEqProofs (maxSteps := 1000000) (disch := omega) only [gP_p, gP_t, bnd_s, bnd2_s, ltt_s, jn_s, n32_nat, n32_le, n32_lt, n32_eq, n32_add, n32_sub, n32_dec, n32_mul, n32_div, n32_irm, n32_lit, n32_oN, n32_ix, n32_m1, n32_m2, neg_le0, neg_lt0, neg_lt1, neg_le1, n32_min, n32_max, if_true, if_false, Nat.one_ne_zero, gd_some, true_or, or_true, false_or, or_false, Nat.reduceEqDiff, Nat.reduceSub, Nat.reduceMul, Nat.reduceAdd, a0.root, hx, wy, c1, c2, c6', c7', c30, c40, c80, c70, v20]
          exact ⟨trivial, fr.rf _ _⟩
        · have hM' := hM _ (s'.fr (f0 g')) (M0 g' f')
          have gm : g'.2.1 193 (12 + m) = n32 (r (12 + m)) := by rw [f'.ai [30] (by decide) 193 _ rfl]; exact r2 _ (by omega)
          show gd (f_X10_market 200 g' 188 (n32 m) (n32 3)) _
          unfold f_X10_market
          simp -implicitDefEqProofs (maxSteps := 1000000) (disch := omega) only [gP_p, gP_t, bnd_s, bnd2_s, ltt_s, jn_s, n32_nat, n32_le, n32_lt, n32_eq, n32_add, n32_sub, n32_dec, n32_mul, n32_div, n32_irm, n32_lit, n32_oN, n32_ix, n32_m1, n32_m2, neg_le0, neg_lt0, neg_lt1, neg_le1, n32_min, n32_max, if_true, if_false, Nat.one_ne_zero, gd_some, true_or, or_true, false_or, or_false, Nat.reduceEqDiff, Nat.reduceSub, Nat.reduceMul, Nat.reduceAdd, s'.mod, hM', iy, gm, sI_eq, sI_ne, sI_J, sI_R, sI_kO, sI_rK, sI_len, sJ_eq, sJ_ne, sJ_I, sJ_kO, sJ_rK, sJ_len]
          exact ⟨trivial, trivial, (f0 g').mono (by decide)⟩
      · refine ans_op (v := n32 (r (12 + (6 + m)))) (fX := fun h => f_X9_market 200 h 0 (n32 m) (n32 4)) (fM := fun h => f_X10_market 200 h 188 (n32 m) (n32 4)) iv ?_ (fun g' f' s' => ?_)
        · show gd (f_X9_market 200 h 0 (n32 m) (n32 4)) _
          unfold f_X9_market
          simp -implicitDefEqProofs (maxSteps := 1000000) (disch := omega) only [gP_p, gP_t, bnd_s, bnd2_s, ltt_s, jn_s, n32_nat, n32_le, n32_lt, n32_eq, n32_add, n32_sub, n32_dec, n32_mul, n32_div, n32_irm, n32_lit, n32_oN, n32_ix, n32_m1, n32_m2, neg_le0, neg_lt0, neg_lt1, neg_le1, n32_min, n32_max, if_true, if_false, Nat.one_ne_zero, gd_some, true_or, or_true, false_or, or_false, Nat.reduceEqDiff, Nat.reduceSub, Nat.reduceMul, Nat.reduceAdd, a0.root, hx, wy, c1, c2, c6', c7', c31, c41, c81, c71, v21]
          exact ⟨trivial, fr.rf _ _⟩
        · have hM' := hM _ (s'.fr (f0 g')) (M0 g' f')
          have gm : g'.2.1 193 (18 + m) = n32 (r (12 + (6 + m))) := by rw [f'.ai [30] (by decide) 193 _ rfl, show 18 + m = 12 + (6 + m) by omega]; exact r2 _ (by omega)
          show gd (f_X10_market 200 g' 188 (n32 m) (n32 4)) _
          unfold f_X10_market
          simp -implicitDefEqProofs (maxSteps := 1000000) (disch := omega) only [gP_p, gP_t, bnd_s, bnd2_s, ltt_s, jn_s, n32_nat, n32_le, n32_lt, n32_eq, n32_add, n32_sub, n32_dec, n32_mul, n32_div, n32_irm, n32_lit, n32_oN, n32_ix, n32_m1, n32_m2, neg_le0, neg_lt0, neg_lt1, neg_le1, n32_min, n32_max, if_true, if_false, Nat.one_ne_zero, gd_some, true_or, or_true, false_or, or_false, Nat.reduceEqDiff, Nat.reduceSub, Nat.reduceMul, Nat.reduceAdd, s'.mod, hM', iy, gm, sI_eq, sI_ne, sI_J, sI_R, sI_kO, sI_rK, sI_len, sJ_eq, sJ_ne, sJ_I, sJ_kO, sJ_rK, sJ_len]
          exact ⟨trivial, trivial, (f0 g').mono (by decide)⟩
      · refine ans_op (v := n32 (prc L g r m)) (fX := fun h => f_X9_market 200 h 0 (n32 m) (n32 5)) (fM := fun h => f_X10_market 200 h 188 (n32 m) (n32 5)) iv ?_ (fun g' f' s' => ?_)
        · have px := priceOf_x (N := 200) (by omega) l3 a0 CL5 z2 z1 hm' r1 r3 (by omega) g1 l1
          show gd (f_X9_market 200 h 0 (n32 m) (n32 5)) _
          unfold f_X9_market
          simp -implicitDefEqProofs (maxSteps := 1000000) (disch := omega) only [gP_p, gP_t, bnd_s, bnd2_s, ltt_s, jn_s, n32_nat, n32_le, n32_lt, n32_eq, n32_add, n32_sub, n32_dec, n32_mul, n32_div, n32_irm, n32_lit, n32_oN, n32_ix, n32_m1, n32_m2, neg_le0, neg_lt0, neg_lt1, neg_le1, n32_min, n32_max, if_true, if_false, Nat.one_ne_zero, gd_some, true_or, or_true, false_or, or_false, Nat.reduceEqDiff, Nat.reduceSub, Nat.reduceMul, Nat.reduceAdd, a0.root, hx, wy, gd_bnd2]
          refine gd_mono px ?_
          rintro ⟨u, h1⟩ ⟨u1, u2⟩
          have u1' : u = n32 (prc L g r m) := u1
          subst u1'
          first | exact gd_some.mpr ⟨rfl, u2⟩ | exact ⟨rfl, u2⟩ | exact ⟨trivial, u2⟩
        · have hM' := hM _ (s'.fr (f0 g')) (M0 g' f')
          have fA : fr [17, 19, 60, 50] h (setI g' 188 0 (n32 0)) := (f'.mono (by decide)).tr ((f0 g').mono (by decide))
          have pm := priceOf_m (N := 200) (by omega) (Or.inl rfl) l3 (s'.fr (f0 g')) (l2.fr fA (by decide)) hm' z1 (fun m hm => by rw [fA.ai [29] (by decide) 192 m rfl]; exact g2 m hm) g3 (fun j hj => by rw [fA.ai [30] (by decide) 193 j rfl]; exact r2 j hj) r3 (by omega)
          show gd (f_X10_market 200 g' 188 (n32 m) (n32 5)) _
          unfold f_X10_market
          simp -implicitDefEqProofs (maxSteps := 1000000) (disch := omega) only [gP_p, gP_t, bnd_s, bnd2_s, ltt_s, jn_s, n32_nat, n32_le, n32_lt, n32_eq, n32_add, n32_sub, n32_dec, n32_mul, n32_div, n32_irm, n32_lit, n32_oN, n32_ix, n32_m1, n32_m2, neg_le0, neg_lt0, neg_lt1, neg_le1, n32_min, n32_max, if_true, if_false, Nat.one_ne_zero, gd_some, true_or, or_true, false_or, or_false, Nat.reduceEqDiff, Nat.reduceSub, Nat.reduceMul, Nat.reduceAdd, s'.mod, hM', iy, sI_eq, sI_ne, sI_J, sI_R, sI_kO, sI_rK, sI_len, sJ_eq, sJ_ne, sJ_I, sJ_kO, sJ_rK, sJ_len, gd_bnd2]
          refine gd_mono pm ?_
          rintro ⟨u, h1⟩ ⟨u1, u2⟩
          have u1' : u = n32 (prc L g r m) := u1
          subst u1'
          have u2' : fr [32] (setI g' 188 0 (n32 0)) h1 := u2
          have z0 : h1.2.1 188 0 = n32 0 := by rw [u2'.ai [50] (by decide) 188 0 rfl, sI_eq]
          first | exact gd_some.mpr ⟨rfl, z0, ((f0 g').mono (by decide)).tr (u2'.mono (by decide))⟩ | exact ⟨rfl, z0, ((f0 g').mono (by decide)).tr (u2'.mono (by decide))⟩ | exact ⟨trivial, z0, ((f0 g').mono (by decide)).tr (u2'.mono (by decide))⟩
    · have wn : f_X9_within x2 (n32 0) (n32 5) = some (n32 0) := within_n q2
      have inn : f_X10_in x2.toInt64 0 5 = some (n32 0) := in_n (a := 0) (b := 5) rfl rfl q2
      refine th (fun g' s' z' => ?_) ?_
      · have hM' := hM _ (s'.fr (f0 g')) (by rw [sI_ne (by omega)]; exact z')
        unfold f_X10_market
        simp -implicitDefEqProofs (maxSteps := 1000000) (disch := omega) only [gP_p, gP_t, bnd_s, bnd2_s, ltt_s, jn_s, n32_nat, n32_le, n32_lt, n32_eq, n32_add, n32_sub, n32_dec, n32_mul, n32_div, n32_irm, n32_lit, n32_oN, n32_ix, n32_m1, n32_m2, neg_le0, neg_lt0, neg_lt1, neg_le1, n32_min, n32_max, if_true, if_false, Nat.one_ne_zero, gd_some, true_or, or_true, false_or, or_false, Nat.reduceEqDiff, Nat.reduceSub, Nat.reduceMul, Nat.reduceAdd, s'.mod, hM', inn, sI_eq, sI_ne, sI_J, sI_R, sI_kO, sI_rK, sI_len, sJ_eq, sJ_ne, sJ_I, sJ_kO, sJ_rK, sJ_len, rf_m (s'.fr (f0 g'))]
      · unfold f_X9_market
        simp -implicitDefEqProofs (maxSteps := 1000000) (disch := omega) only [gP_p, gP_t, bnd_s, bnd2_s, ltt_s, jn_s, n32_nat, n32_le, n32_lt, n32_eq, n32_add, n32_sub, n32_dec, n32_mul, n32_div, n32_irm, n32_lit, n32_oN, n32_ix, n32_m1, n32_m2, neg_le0, neg_lt0, neg_lt1, neg_le1, n32_min, n32_max, if_true, if_false, Nat.one_ne_zero, gd_some, true_or, or_true, false_or, or_false, Nat.reduceEqDiff, Nat.reduceSub, Nat.reduceMul, Nat.reduceAdd, a0.root, hx, wn]
  · have hx : f_X0_has h 5 x1 = some (n32 0) := has_n co z2 z1 q1
    refine th (fun g' s' z' => ?_) ?_
    · have hM' := isMz_n (x := x1) (s'.fr (f0 g')) (by rw [sI_ne (by omega)]; exact z') z1 q1
      unfold f_X10_market
      simp -implicitDefEqProofs (maxSteps := 1000000) (disch := omega) only [gP_p, gP_t, bnd_s, bnd2_s, ltt_s, jn_s, n32_nat, n32_le, n32_lt, n32_eq, n32_add, n32_sub, n32_dec, n32_mul, n32_div, n32_irm, n32_lit, n32_oN, n32_ix, n32_m1, n32_m2, neg_le0, neg_lt0, neg_lt1, neg_le1, n32_min, n32_max, if_true, if_false, Nat.one_ne_zero, gd_some, true_or, or_true, false_or, or_false, Nat.reduceEqDiff, Nat.reduceSub, Nat.reduceMul, Nat.reduceAdd, s'.mod, hM', sI_eq, sI_ne, sI_J, sI_R, sI_kO, sI_rK, sI_len, sJ_eq, sJ_ne, sJ_I, sJ_kO, sJ_rK, sJ_len, rf_m (s'.fr (f0 g'))]
    · unfold f_X9_market
      simp -implicitDefEqProofs (maxSteps := 1000000) (disch := omega) only [gP_p, gP_t, bnd_s, bnd2_s, ltt_s, jn_s, n32_nat, n32_le, n32_lt, n32_eq, n32_add, n32_sub, n32_dec, n32_mul, n32_div, n32_irm, n32_lit, n32_oN, n32_ix, n32_m1, n32_m2, neg_le0, neg_lt0, neg_lt1, neg_le1, n32_min, n32_max, if_true, if_false, Nat.one_ne_zero, gd_some, true_or, or_true, false_or, or_false, Nat.reduceEqDiff, Nat.reduceSub, Nat.reduceMul, Nat.reduceAdd, a0.root, hx]
theorem op_load {k : Nat} (hk : k < 512) : ∀ (h : HP) (a1 a2 : Int32), Inv k h → ∃ (rp : Option Int32 × HP) (b : Int32) (h2 : HP) (t : Int32), f_X9_load h 0 a1 a2 = some rp ∧ f_X10_load (rE h 219 rp).2 188 a1 a2 = some (b, h2) ∧ f_X10_thrown h2 188 = some t ∧ t = (rE h 219 rp).1 ∧ ((rE h 219 rp).1 = 0 → h2.2.2.1 219 0 = b.toInt64) ∧ Inv (k + 1) h2 := by
  intro h x1 x2 I
  obtain ⟨b, c, sz, iv⟩ := I
  obtain ⟨a0, a1, a2, a3, a4, a5, a6, a7, a8, a9, a10⟩ := id iv
  obtain ⟨F, f1, f2, f3⟩ := id a6
  have f0 : ∀ g, fr [50] g (setI g 188 0 (n32 0)) := fun g => (fr.rf _ _).sI rfl
  obtain ⟨fc0, fc1, fc2, fc3, fc4⟩ := a0.flc b
  obtain ⟨b1, b2, b3⟩ := f3
  have zX : h.2.1 (flr b) 2 = n32 F.1 := f1.1
  have zM : ∀ g', fr [17, 19, 60] h g' → g'.2.1 188 5 = n32 F.1 := fun g' f' => by rw [f'.ai [24] (by decide) 188 5 rfl]; exact f2.1
  have e1 : n32 F.1 - n32 1 = n32 (F.1 - 1) := n32_sub b1
  have ei : (n32 (F.1 - 1)).toInt64.toInt = ((F.1 - 1 : Nat) : Int) := by rw [Int32.toInt_toInt64, n32_int (by omega)]
  have th : ∀ (hm : f_X10_load h 188 x1 x2 = some (n32 0, setI (setI h 188 0 (n32 0)) 188 0 (n32 1))) (hx : f_X9_load h 0 x1 x2 = some (none, h)), ∃ (rp : Option Int32 × HP) (b : Int32) (h2 : HP) (t : Int32), f_X9_load h 0 x1 x2 = some rp ∧ f_X10_load (rE h 219 rp).2 188 x1 x2 = some (b, h2) ∧ f_X10_thrown h2 188 = some t ∧ t = (rE h 219 rp).1 ∧ ((rE h 219 rp).1 = 0 → h2.2.2.1 219 0 = b.toInt64) ∧ Inv (k + 1) h2 := fun hm hx => thr_op (fX := fun h => f_X9_load h 0 x1 x2) (fM := fun h => f_X10_load h 188 x1 x2) iv hx (by
    show gd (f_X10_load h 188 x1 x2) _
    rw [hm]
    exact gd_some.mpr ⟨sI_eq, ((fr.rf _ _).sI rfl).sI rfl⟩)
  by_cases q1 : 0 ≤ x1.toInt ∧ x1.toInt ≤ ((F.1 - 1 : Nat) : Int)
  · obtain ⟨m, -, hm, rfl⟩ := n32_of2 (lo := 0) (hi := F.1 - 1) q1.1 q1.2
    have wy1 : f_X9_within (n32 m) (n32 0) (n32 (F.1 - 1)) = some (n32 1) := within_y (by rw [n32_int (show F.1 - 1 < 2147483648 by omega)]; exact q1)
    have iy1 : f_X10_in (n32 m).toInt64 0 (n32 (F.1 - 1)).toInt64 = some (n32 1) := in_y (a := 0) rfl ei q1
    by_cases q2 : 0 ≤ x2.toInt ∧ x2.toInt ≤ 1
    · obtain ⟨w, -, hw, rfl⟩ := n32_of2 (lo := 0) (hi := 1) q2.1 q2.2
      have wy : f_X9_within (n32 w) (n32 0) (n32 1) = some (n32 1) := within_y q2
      have iy : f_X10_in (n32 w).toInt64 0 1 = some (n32 1) := in_y (a := 0) (b := 1) rfl rfl q2
      obtain ⟨x3, x4⟩ := f1.2 m (by omega)
      rcases (show w = 0 ∨ w = 1 by omega) with rfl | rfl
      · refine ans_op (v := if F.2.1 m = 2 then -n32 1 else n32 (F.2.1 m)) (fX := fun h => f_X9_load h 0 (n32 m) (n32 0)) (fM := fun h => f_X10_load h 188 (n32 m) (n32 0)) iv ?_ (fun g' f' s' => ?_)
        · show gd (f_X9_load h 0 (n32 m) (n32 0)) _
          unfold f_X9_load
          simp -implicitDefEqProofs (disch := omega) only [gP_p, gP_t, bnd_s, bnd2_s, n32_nat, n32_le, n32_lt, n32_eq, n32_add, n32_sub, n32_dec, n32_mul, n32_div, n32_irm, n32_lit, n32_oN, n32_ix, n32_m1, n32_m2, neg_le0, neg_lt0, neg_lt1, neg_le1, n32_min, n32_max, if_true, if_false, Nat.one_ne_zero, true_or, or_true, false_or, or_false, a0.root, zX, e1, wy1]
          simp -implicitDefEqProofs (disch := omega) only [gP_p, gP_t, bnd_s, bnd2_s, ltt_s, jn_s, n32_nat, n32_le, n32_lt, n32_eq, n32_add, n32_sub, n32_dec, n32_mul, n32_div, n32_irm, n32_lit, n32_oN, n32_ix, n32_m1, n32_m2, neg_le0, neg_lt0, neg_lt1, neg_le1, n32_min, n32_max, if_true, if_false, Nat.one_ne_zero, gd_some, true_or, or_true, false_or, or_false, a0.root, wy, fc1, fc3, x3]
          exact ⟨trivial, fr.rf _ _⟩
        · have gm : g'.2.1 190 m = (if F.2.1 m = 2 then -n32 1 else n32 (F.2.1 m)) := by rw [f'.ai [24] (by decide) 190 m rfl]; exact (f2.2 m (by omega)).1
          have zM' := zM g' f'
          show gd (f_X10_load g' 188 (n32 m) (n32 0)) _
          unfold f_X10_load
          simp -implicitDefEqProofs (disch := omega) only [gP_p, gP_t, bnd_s, bnd2_s, n32_nat, n32_le, n32_lt, n32_eq, n32_add, n32_sub, n32_dec, n32_mul, n32_div, n32_irm, n32_lit, n32_oN, n32_ix, n32_m1, n32_m2, neg_le0, neg_lt0, neg_lt1, neg_le1, n32_min, n32_max, if_true, if_false, Nat.one_ne_zero, true_or, or_true, false_or, or_false, ltt_s, s'.mod, sI_eq, sI_ne, sI_J, sI_R, sI_kO, sI_rK, sI_len, sJ_eq, sJ_ne, sJ_I, sJ_kO, sJ_rK, sJ_len, zM', e1, iy1]
          simp -implicitDefEqProofs (disch := omega) only [gP_p, gP_t, bnd_s, bnd2_s, ltt_s, jn_s, n32_nat, n32_le, n32_lt, n32_eq, n32_add, n32_sub, n32_dec, n32_mul, n32_div, n32_irm, n32_lit, n32_oN, n32_ix, n32_m1, n32_m2, neg_le0, neg_lt0, neg_lt1, neg_le1, n32_min, n32_max, if_true, if_false, Nat.one_ne_zero, gd_some, true_or, or_true, false_or, or_false, s'.mod, sI_eq, sI_ne, sI_J, sI_R, sI_kO, sI_rK, sI_len, sJ_eq, sJ_ne, sJ_I, sJ_kO, sJ_rK, sJ_len, iy, gm]
          exact ⟨trivial, trivial, (f0 g').mono (by decide)⟩
      · refine ans_op (v := n32 (F.2.2 m)) (fX := fun h => f_X9_load h 0 (n32 m) (n32 1)) (fM := fun h => f_X10_load h 188 (n32 m) (n32 1)) iv ?_ (fun g' f' s' => ?_)
        · show gd (f_X9_load h 0 (n32 m) (n32 1)) _
          unfold f_X9_load
          simp -implicitDefEqProofs (disch := omega) only [gP_p, gP_t, bnd_s, bnd2_s, n32_nat, n32_le, n32_lt, n32_eq, n32_add, n32_sub, n32_dec, n32_mul, n32_div, n32_irm, n32_lit, n32_oN, n32_ix, n32_m1, n32_m2, neg_le0, neg_lt0, neg_lt1, neg_le1, n32_min, n32_max, if_true, if_false, Nat.one_ne_zero, true_or, or_true, false_or, or_false, a0.root, zX, e1, wy1]
          simp -implicitDefEqProofs (disch := omega) only [gP_p, gP_t, bnd_s, bnd2_s, ltt_s, jn_s, n32_nat, n32_le, n32_lt, n32_eq, n32_add, n32_sub, n32_dec, n32_mul, n32_div, n32_irm, n32_lit, n32_oN, n32_ix, n32_m1, n32_m2, neg_le0, neg_lt0, neg_lt1, neg_le1, n32_min, n32_max, if_true, if_false, Nat.one_ne_zero, gd_some, true_or, or_true, false_or, or_false, a0.root, wy, fc2, fc4, x4]
          exact ⟨trivial, fr.rf _ _⟩
        · have gm : g'.2.1 191 m = n32 (F.2.2 m) := by rw [f'.ai [24] (by decide) 191 m rfl]; exact (f2.2 m (by omega)).2
          have zM' := zM g' f'
          show gd (f_X10_load g' 188 (n32 m) (n32 1)) _
          unfold f_X10_load
          simp -implicitDefEqProofs (disch := omega) only [gP_p, gP_t, bnd_s, bnd2_s, n32_nat, n32_le, n32_lt, n32_eq, n32_add, n32_sub, n32_dec, n32_mul, n32_div, n32_irm, n32_lit, n32_oN, n32_ix, n32_m1, n32_m2, neg_le0, neg_lt0, neg_lt1, neg_le1, n32_min, n32_max, if_true, if_false, Nat.one_ne_zero, true_or, or_true, false_or, or_false, ltt_s, s'.mod, sI_eq, sI_ne, sI_J, sI_R, sI_kO, sI_rK, sI_len, sJ_eq, sJ_ne, sJ_I, sJ_kO, sJ_rK, sJ_len, zM', e1, iy1]
          simp -implicitDefEqProofs (disch := omega) only [gP_p, gP_t, bnd_s, bnd2_s, ltt_s, jn_s, n32_nat, n32_le, n32_lt, n32_eq, n32_add, n32_sub, n32_dec, n32_mul, n32_div, n32_irm, n32_lit, n32_oN, n32_ix, n32_m1, n32_m2, neg_le0, neg_lt0, neg_lt1, neg_le1, n32_min, n32_max, if_true, if_false, Nat.one_ne_zero, gd_some, true_or, or_true, false_or, or_false, s'.mod, sI_eq, sI_ne, sI_J, sI_R, sI_kO, sI_rK, sI_len, sJ_eq, sJ_ne, sJ_I, sJ_kO, sJ_rK, sJ_len, iy, gm]
          exact ⟨trivial, trivial, (f0 g').mono (by decide)⟩
    · have wn : f_X9_within x2 (n32 0) (n32 1) = some (n32 0) := within_n q2
      have inn : f_X10_in x2.toInt64 0 1 = some (n32 0) := in_n (a := 0) (b := 1) rfl rfl q2
      have zM' := f2.1
      refine th ?_ ?_
      · unfold f_X10_load
        simp -implicitDefEqProofs (disch := omega) only [gP_p, gP_t, bnd_s, bnd2_s, n32_nat, n32_le, n32_lt, n32_eq, n32_add, n32_sub, n32_dec, n32_mul, n32_div, n32_irm, n32_lit, n32_oN, n32_ix, n32_m1, n32_m2, neg_le0, neg_lt0, neg_lt1, neg_le1, n32_min, n32_max, if_true, if_false, Nat.one_ne_zero, true_or, or_true, false_or, or_false, ltt_s, a0.mod, sI_eq, sI_ne, sI_J, sI_R, sI_kO, sI_rK, sI_len, sJ_eq, sJ_ne, sJ_I, sJ_kO, sJ_rK, sJ_len, zM', e1, iy1]
        simp -implicitDefEqProofs (disch := omega) only [gP_p, gP_t, bnd_s, bnd2_s, ltt_s, jn_s, n32_nat, n32_le, n32_lt, n32_eq, n32_add, n32_sub, n32_dec, n32_mul, n32_div, n32_irm, n32_lit, n32_oN, n32_ix, n32_m1, n32_m2, neg_le0, neg_lt0, neg_lt1, neg_le1, n32_min, n32_max, if_true, if_false, Nat.one_ne_zero, gd_some, true_or, or_true, false_or, or_false, a0.mod, sI_eq, sI_ne, sI_J, sI_R, sI_kO, sI_rK, sI_len, sJ_eq, sJ_ne, sJ_I, sJ_kO, sJ_rK, sJ_len, inn, rf_m (a0.fr (f0 h))]
      · unfold f_X9_load
        simp -implicitDefEqProofs (disch := omega) only [gP_p, gP_t, bnd_s, bnd2_s, n32_nat, n32_le, n32_lt, n32_eq, n32_add, n32_sub, n32_dec, n32_mul, n32_div, n32_irm, n32_lit, n32_oN, n32_ix, n32_m1, n32_m2, neg_le0, neg_lt0, neg_lt1, neg_le1, n32_min, n32_max, if_true, if_false, Nat.one_ne_zero, true_or, or_true, false_or, or_false, a0.root, zX, e1, wy1]
        simp -implicitDefEqProofs (disch := omega) only [gP_p, gP_t, bnd_s, bnd2_s, ltt_s, jn_s, n32_nat, n32_le, n32_lt, n32_eq, n32_add, n32_sub, n32_dec, n32_mul, n32_div, n32_irm, n32_lit, n32_oN, n32_ix, n32_m1, n32_m2, neg_le0, neg_lt0, neg_lt1, neg_le1, n32_min, n32_max, if_true, if_false, Nat.one_ne_zero, gd_some, true_or, or_true, false_or, or_false, a0.root, wn]
  · have wn : f_X9_within x1 (n32 0) (n32 (F.1 - 1)) = some (n32 0) := within_n (by rw [n32_int (show F.1 - 1 < 2147483648 by omega)]; exact q1)
    have inn : f_X10_in x1.toInt64 0 (n32 (F.1 - 1)).toInt64 = some (n32 0) := in_n (a := 0) rfl ei q1
    have zM' := f2.1
    refine th ?_ ?_
    · unfold f_X10_load
      simp -implicitDefEqProofs (disch := omega) only [gP_p, gP_t, bnd_s, bnd2_s, n32_nat, n32_le, n32_lt, n32_eq, n32_add, n32_sub, n32_dec, n32_mul, n32_div, n32_irm, n32_lit, n32_oN, n32_ix, n32_m1, n32_m2, neg_le0, neg_lt0, neg_lt1, neg_le1, n32_min, n32_max, if_true, if_false, Nat.one_ne_zero, true_or, or_true, false_or, or_false, ltt_s, a0.mod, sI_eq, sI_ne, sI_J, sI_R, sI_kO, sI_rK, sI_len, sJ_eq, sJ_ne, sJ_I, sJ_kO, sJ_rK, sJ_len, zM', e1, inn]
      simp -implicitDefEqProofs (disch := omega) only [gP_p, gP_t, bnd_s, bnd2_s, ltt_s, jn_s, n32_nat, n32_le, n32_lt, n32_eq, n32_add, n32_sub, n32_dec, n32_mul, n32_div, n32_irm, n32_lit, n32_oN, n32_ix, n32_m1, n32_m2, neg_le0, neg_lt0, neg_lt1, neg_le1, n32_min, n32_max, if_true, if_false, Nat.one_ne_zero, gd_some, true_or, or_true, false_or, or_false, a0.mod, sI_eq, sI_ne, sI_J, sI_R, sI_kO, sI_rK, sI_len, sJ_eq, sJ_ne, sJ_I, sJ_kO, sJ_rK, sJ_len, rf_m (a0.fr (f0 h))]
    · unfold f_X9_load
      simp -implicitDefEqProofs (disch := omega) only [gP_p, gP_t, bnd_s, bnd2_s, n32_nat, n32_le, n32_lt, n32_eq, n32_add, n32_sub, n32_dec, n32_mul, n32_div, n32_irm, n32_lit, n32_oN, n32_ix, n32_m1, n32_m2, neg_le0, neg_lt0, neg_lt1, neg_le1, n32_min, n32_max, if_true, if_false, Nat.one_ne_zero, true_or, or_true, false_or, or_false, a0.root, zX, e1, wn]
      simp -implicitDefEqProofs (disch := omega) only [gP_p, gP_t, bnd_s, bnd2_s, ltt_s, jn_s, n32_nat, n32_le, n32_lt, n32_eq, n32_add, n32_sub, n32_dec, n32_mul, n32_div, n32_irm, n32_lit, n32_oN, n32_ix, n32_m1, n32_m2, neg_le0, neg_lt0, neg_lt1, neg_le1, n32_min, n32_max, if_true, if_false, Nat.one_ne_zero, gd_some, true_or, or_true, false_or, or_false]
theorem n32_m1i {n : Nat} (h : n < 2147483648) : (n32 n - n32 1).toInt = (n : Int) - 1 := by
  have e1 : (n32 1).toInt = 1 := rfl
  rw [Int32.toInt_sub, n32_int h, e1, Int.bmod_eq_of_le (by omega) (by omega)]
theorem op_row {k : Nat} (hk : k < 512) : ∀ (h : HP) (a1 : Int32), Inv k h → ∃ (rp : Option Int64 × HP) (b : Int64) (h2 : HP) (t : Int32), f_X9_row h 0 a1 = some rp ∧ f_X10_row (rEJ h 219 rp).2 188 a1 = some (b, h2) ∧ f_X10_thrown h2 188 = some t ∧ t = (rEJ h 219 rp).1 ∧ ((rEJ h 219 rp).1 = 0 → h2.2.2.1 219 0 = b) ∧ Inv (k + 1) h2 := by
  intro h x1 I
  obtain ⟨b, c, sz, iv⟩ := I
  obtain ⟨a0, a1, a2, a3, a4, a5, a6, a7, a8, a9, a10⟩ := id iv
  obtain ⟨l, ⟨l6, lx1, lx2⟩, lm1, lm2⟩ := id a3
  have f0 : ∀ g, fr [50] g (setI g 188 0 (n32 0)) := fun g => (fr.rf _ _).sI rfl
  have ei : (n32 l.length - n32 1).toInt64.toInt = (l.length : Int) - 1 := by rw [Int32.toInt_toInt64, n32_m1i (by omega)]
  by_cases q1 : 0 ≤ x1.toInt ∧ x1.toInt ≤ (l.length : Int) - 1
  · obtain ⟨m, -, hm, rfl⟩ := n32_of2 (lo := 0) (hi := l.length) q1.1 (by omega)
    have hm' : m < l.length := by
      have := q1.2
      rw [n32_int (by omega)] at this
      omega
    have wy : f_X9_within (n32 m) 0 (n32 l.length - 1) = some (n32 1) := within_y (by rw [show (n32 l.length - 1 : Int32) = n32 l.length - n32 1 from rfl, n32_m1i (by omega)]; exact q1)
    have iy : f_X10_in (n32 m).toInt64 0 (n32 l.length - 1).toInt64 = some (n32 1) := in_y (a := 0) rfl ei q1
    have X : f_X9_row h 0 (n32 m) = some (some (l.getD m 0), h) := by
      have v := lx2 m hm'
      unfold f_X9_row
      rw [gP_p (by simp only [a0.root]), show rK h 0 1 6 = some 3 from by simp only [a0.root], bnd_s, lx1, wy, bnd_s]
      simp -implicitDefEqProofs (disch := omega) only [gP_p, gP_t, bnd_s, bnd2_s, ltt_s, jn_s, n32_nat, n32_le, n32_lt, n32_eq, n32_add, n32_sub, n32_dec, n32_mul, n32_div, n32_irm, n32_lit, n32_oN, n32_ix, n32_m1, n32_m2, neg_le0, neg_lt0, neg_lt1, neg_le1, n32_min, n32_max, if_true, if_false, Nat.one_ne_zero, gd_some, true_or, or_true, false_or, or_false, a0.root, v]
    have fJ : fr [60] h (setJ h 219 0 (l.getD m 0)) := frJ rfl
    have fA : fr [60, 50] h (setI (setJ h 219 0 (l.getD m 0)) 188 0 (n32 0)) := (fJ.mono (by decide)).tr ((f0 _).mono (by decide))
    have sA := a0.fr fA
    have M : f_X10_row (setJ h 219 0 (l.getD m 0)) 188 (n32 m) = some (l.getD m 0, setI (setJ h 219 0 (l.getD m 0)) 188 0 (n32 0)) := by
      have z1 : (setI (setJ h 219 0 (l.getD m 0)) 188 0 0).2.1 188 1 = n32 l.length := by show (setI (setJ h 219 0 (l.getD m 0)) 188 0 (n32 0)).2.1 188 1 = _; rw [fA.ai [22] (by decide) 188 1 rfl]; exact lm1
      have v : (setI (setJ h 219 0 (l.getD m 0)) 188 0 (n32 0)).2.2.1 189 m = l.getD m 0 := by rw [fA.aj [22] (by decide) 189 m rfl]; exact lm2 m hm'
      unfold f_X10_row
      rw [gP_p (by simp only [(a0.fr fJ).mod]), ltt_s, z1, iy, bnd_s]
      simp -implicitDefEqProofs (disch := omega) only [gP_p, gP_t, bnd_s, bnd2_s, ltt_s, jn_s, n32_nat, n32_le, n32_lt, n32_eq, n32_add, n32_sub, n32_dec, n32_mul, n32_div, n32_irm, n32_lit, n32_oN, n32_ix, n32_m1, n32_m2, neg_le0, neg_lt0, neg_lt1, neg_le1, n32_min, n32_max, if_true, if_false, Nat.one_ne_zero, gd_some, true_or, or_true, false_or, or_false, sA.mod, v]
    refine ⟨(some (l.getD m 0), h), l.getD m 0, _, n32 0, X, M, by rw [thr_m sA, sI_eq], rfl, fun _ => sJ_eq, Iv.up (iv.q9 (fA.mono (by decide)))⟩
  · have wn : f_X9_within x1 0 (n32 l.length - 1) = some (n32 0) := within_n (by rw [show (n32 l.length - 1 : Int32) = n32 l.length - n32 1 from rfl, n32_m1i (by omega)]; exact q1)
    have inn : f_X10_in x1.toInt64 0 (n32 l.length - 1).toInt64 = some (n32 0) := in_n (a := 0) rfl ei q1
    have X : f_X9_row h 0 x1 = some (none, h) := by
      unfold f_X9_row
      rw [gP_p (by simp only [a0.root]), show rK h 0 1 6 = some 3 from by simp only [a0.root], bnd_s, lx1, wn, bnd_s]
      rfl
    have fA : fr [50] h (setI (setI h 188 0 (n32 0)) 188 0 (n32 1)) := ((fr.rf _ _).sI rfl).sI rfl
    have M : f_X10_row h 188 x1 = some (0, setI (setI h 188 0 (n32 0)) 188 0 (n32 1)) := by
      have z1 : (setI h 188 0 0).2.1 188 1 = n32 l.length := by show (setI h 188 0 (n32 0)).2.1 188 1 = _; rw [(f0 h).ai [22] (by decide) 188 1 rfl]; exact lm1
      unfold f_X10_row
      rw [gP_p (by simp only [a0.mod]), ltt_s, z1, inn, bnd_s]
      rfl
    exact ⟨(none, h), 0, _, n32 1, X, M, by rw [thr_m (a0.fr fA), sI_eq], rfl, fun q => absurd q (by show ¬ (1 : Int32) = 0; decide), Iv.up (iv.q9 (fA.mono (by decide)))⟩
