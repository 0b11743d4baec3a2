/-! ===== deeds, as numbers; both sides do them ===== -/
theorem RBm.up {B j v : Nat} {r : Nat → Nat} (s : RBm B r) (h : (j < 24 ∧ v ≤ 99999) ∨ (j = 24 ∧ v ≤ 9) ∨ (j = 26 ∧ v ≤ 999999) ∨ (j = 27 ∧ v ≤ 1)) : RBm B (up r j v) := by
  obtain ⟨a, b, c, d, e⟩ := s
  refine ⟨fun i hi => ?_, ?_, ?_, ?_, ?_⟩
  · by_cases q : i = j
    · rw [q, up_eq]; omega
    · rw [up_ne q]; exact a i hi
  · by_cases q : 24 = j
    · rw [q, up_eq]; omega
    · rw [up_ne q]; exact b
  · by_cases q : 26 = j
    · rw [q, up_eq]; omega
    · rw [up_ne q]; exact c
  · by_cases q : 27 = j
    · rw [q, up_eq]; omega
    · rw [up_ne q]; exact d
  · rw [up_ne (by omega)]; exact e
theorem ZB.up {sz j v : Nat} {r : Nat → Nat} (s : ZB sz r) (h : j % 6 < sz ∨ 24 ≤ j) : ZB sz (up r j v) := by
  intro k m hk h1 h2
  rw [up_ne (by omega), up_ne (by omega)]
  exact s k m hk h1 h2
noncomputable def aIf (c : Prop) (a b : Int32 × (Nat → Nat)) : Int32 × (Nat → Nat) := by
  classical
  exact if c then a else b
theorem aIf_y {c : Prop} {a b : Int32 × (Nat → Nat)} (h : c) : aIf c a b = a := by unfold aIf; exact if_pos h
theorem aIf_n {c : Prop} {a b : Int32 × (Nat → Nat)} (h : ¬ c) : aIf c a b = b := by unfold aIf; exact if_neg h
def mBring (m k n : Nat) (r : Nat → Nat) : Int32 × (Nat → Nat) := (n32 (min 99999 (r (6 * k + m) + n)), up r (6 * k + m) (min 99999 (r (6 * k + m) + n)))
def mLay (m k n : Nat) (r : Nat → Nat) : Int32 × (Nat → Nat) := if n ≤ r (6 * k + m) then (if r (12 + (6 * k + m)) + n ≤ 99999 then (n32 (r (12 + (6 * k + m)) + n), up (up r (6 * k + m) (r (6 * k + m) - n)) (12 + (6 * k + m)) (r (12 + (6 * k + m)) + n)) else (-n32 3, r)) else (-n32 2, r)
def mSpd (m k n : Nat) (r : Nat → Nat) : Int32 × (Nat → Nat) := if n ≤ r (12 + (6 * k + m)) then (n32 (r (12 + (6 * k + m)) - n), up (up r (12 + (6 * k + m)) (r (12 + (6 * k + m)) - n)) (6 * k + m) (min 99999 (r (6 * k + m) + n))) else (-n32 2, r)
def tx1 (j t : Nat) (r : Nat → Nat) : Nat → Nat := up (up r j (r j - r j * t / 10)) 26 (min 999999 (r 26 + r j * t / 10))
def mTax (m t : Nat) (r : Nat → Nat) : Int32 × (Nat → Nat) := (n32 (tx1 (6 + m) t (tx1 m t r) 26), tx1 (6 + m) t (tx1 m t r))
def mBurn (m : Nat) (r : Nat → Nat) : Int32 × (Nat → Nat) := (if r (6 + m) = 0 then -n32 2 else n32 (r (6 + m)), up r (6 + m) 0)
def mPort (r : Nat → Nat) : Int32 × (Nat → Nat) := (n32 (1 - r 27), up r 27 (1 - r 27))
noncomputable def aBring (sz : Nat) (x1 x2 x3 : Int32) (r : Nat → Nat) : Int32 × (Nat → Nat) := aIf (mayP sz x1 x2 x3) (mBring x1.toNatClampNeg x2.toNatClampNeg x3.toNatClampNeg r) (-n32 1, r)
noncomputable def aLay (sz : Nat) (x1 x2 x3 : Int32) (r : Nat → Nat) : Int32 × (Nat → Nat) := aIf (mayP sz x1 x2 x3) (mLay x1.toNatClampNeg x2.toNatClampNeg x3.toNatClampNeg r) (-n32 1, r)
noncomputable def aSpd (sz : Nat) (x1 x2 x3 : Int32) (r : Nat → Nat) : Int32 × (Nat → Nat) := aIf (mayP sz x1 x2 x3) (mSpd x1.toNatClampNeg x2.toNatClampNeg x3.toNatClampNeg r) (-n32 1, r)
def taxP (sz : Nat) (x1 x2 : Int32) : Prop := (0 ≤ x1.toInt ∧ x1.toInt < (sz : Int)) ∧ (1 ≤ x2.toInt ∧ x2.toInt ≤ 9)
noncomputable def aTax (sz : Nat) (x1 x2 : Int32) (r : Nat → Nat) : Int32 × (Nat → Nat) := aIf (taxP sz x1 x2) (mTax x1.toNatClampNeg x2.toNatClampNeg r) (-n32 1, r)
noncomputable def aBurn (sz : Nat) (x1 : Int32) (r : Nat → Nat) : Int32 × (Nat → Nat) := aIf (0 ≤ x1.toInt ∧ x1.toInt < (sz : Int)) (mBurn x1.toNatClampNeg r) (-n32 1, r)
noncomputable def aFlow (x1 : Int32) (r : Nat → Nat) : Int32 × (Nat → Nat) := aIf (0 ≤ x1.toInt ∧ x1.toInt ≤ 9) (n32 (r 24), up r 24 x1.toNatClampNeg) (-n32 1, r)
theorem may_nat {sz : Nat} {x1 x2 x3 : Int32} (h : mayP sz x1 x2 x3) (hz : sz ≤ 6) : ∃ m k n, m < sz ∧ k < 2 ∧ 1 ≤ n ∧ n ≤ 9999 ∧ x1 = n32 m ∧ x2 = n32 k ∧ x3 = n32 n ∧ x1.toNatClampNeg = m ∧ x2.toNatClampNeg = k ∧ x3.toNatClampNeg = n := by
  obtain ⟨m, hm, e1⟩ := n32_of h.1.1 h.1.2
  obtain ⟨k, -, hk, e2⟩ := n32_of2 (lo := 0) (hi := 1) h.2.1.1 h.2.1.2
  obtain ⟨n, hn1, hn2, e3⟩ := n32_of2 (lo := 1) (hi := 9999) h.2.2.1 h.2.2.2
  exact ⟨m, k, n, hm, by omega, hn1, hn2, e1, e2, e3, by rw [e1, n32_nat (by omega)], by rw [e2, n32_nat (by omega)], by rw [e3, n32_nat (by omega)]⟩
/-! bounds -/
theorem ok_if {B sz : Nat} {c : Prop} {a b : Int32 × (Nat → Nat)} (h1 : c → RBm B a.2 ∧ ZB sz a.2) (h2 : RBm B b.2 ∧ ZB sz b.2) : RBm B (aIf c a b).2 ∧ ZB sz (aIf c a b).2 := by
  by_cases q : c
  · rw [aIf_y q]; exact h1 q
  · rw [aIf_n q]; exact h2
theorem ok_bring {B sz : Nat} {x1 x2 x3 : Int32} {r : Nat → Nat} (hz : sz ≤ 6) (s : RBm B r) (z : ZB sz r) : RBm B (aBring sz x1 x2 x3 r).2 ∧ ZB sz (aBring sz x1 x2 x3 r).2 := ok_if (fun h => by
  obtain ⟨m, k, n, hm, hk, hn1, hn2, -, -, -, e1, e2, e3⟩ := may_nat h hz
  rw [e1, e2, e3]
  exact ⟨s.up (Or.inl ⟨by omega, by omega⟩), z.up (by omega)⟩) ⟨s, z⟩
theorem ok_lay {B sz : Nat} {x1 x2 x3 : Int32} {r : Nat → Nat} (hz : sz ≤ 6) (s : RBm B r) (z : ZB sz r) : RBm B (aLay sz x1 x2 x3 r).2 ∧ ZB sz (aLay sz x1 x2 x3 r).2 := ok_if (fun h => by
  obtain ⟨m, k, n, hm, hk, hn1, hn2, -, -, -, e1, e2, e3⟩ := may_nat h hz
  rw [e1, e2, e3]
  have b0 := s.1 (6 * k + m) (by omega)
  unfold mLay
  split
  · split
    · exact ⟨(s.up (Or.inl ⟨by omega, by omega⟩)).up (Or.inl ⟨by omega, by omega⟩), (z.up (by omega)).up (by omega)⟩
    · exact ⟨s, z⟩
  · exact ⟨s, z⟩) ⟨s, z⟩
theorem ok_spd {B sz : Nat} {x1 x2 x3 : Int32} {r : Nat → Nat} (hz : sz ≤ 6) (s : RBm B r) (z : ZB sz r) : RBm B (aSpd sz x1 x2 x3 r).2 ∧ ZB sz (aSpd sz x1 x2 x3 r).2 := ok_if (fun h => by
  obtain ⟨m, k, n, hm, hk, hn1, hn2, -, -, -, e1, e2, e3⟩ := may_nat h hz
  rw [e1, e2, e3]
  have b0 := s.1 (12 + (6 * k + m)) (by omega)
  unfold mSpd
  split
  · exact ⟨(s.up (Or.inl ⟨by omega, by omega⟩)).up (Or.inl ⟨by omega, by omega⟩), (z.up (by omega)).up (by omega)⟩
  · exact ⟨s, z⟩) ⟨s, z⟩
theorem tx1_ok {B sz j t : Nat} {r : Nat → Nat} (s : RBm B r) (z : ZB sz r) (hj : j < 12) (hz : j % 6 < sz) : RBm B (tx1 j t r) ∧ ZB sz (tx1 j t r) := by
  have b0 := s.1 j (by omega)
  unfold tx1
  exact ⟨(s.up (Or.inl ⟨by omega, by omega⟩)).up (Or.inr (Or.inr (Or.inl ⟨rfl, by omega⟩))), (z.up (by omega)).up (by omega)⟩
theorem ok_tax {B sz : Nat} {x1 x2 : Int32} {r : Nat → Nat} (hz : sz ≤ 6) (s : RBm B r) (z : ZB sz r) : RBm B (aTax sz x1 x2 r).2 ∧ ZB sz (aTax sz x1 x2 r).2 := ok_if (fun h => by
  obtain ⟨m, hm, e1⟩ := n32_of h.1.1 h.1.2
  rw [show x1.toNatClampNeg = m by rw [e1, n32_nat (by omega)]]
  have a := tx1_ok (t := x2.toNatClampNeg) s z (j := m) (by omega) (by omega)
  exact tx1_ok a.1 a.2 (by omega) (by omega)) ⟨s, z⟩
theorem ok_burn {B sz : Nat} {x1 : Int32} {r : Nat → Nat} (hz : sz ≤ 6) (s : RBm B r) (z : ZB sz r) : RBm B (aBurn sz x1 r).2 ∧ ZB sz (aBurn sz x1 r).2 := ok_if (fun h => by
  obtain ⟨m, hm, e1⟩ := n32_of h.1 h.2
  rw [show x1.toNatClampNeg = m by rw [e1, n32_nat (by omega)]]
  exact ⟨s.up (Or.inl ⟨by omega, by omega⟩), z.up (by omega)⟩) ⟨s, z⟩
theorem ok_flow {B sz : Nat} {x1 : Int32} {r : Nat → Nat} (s : RBm B r) (z : ZB sz r) : RBm B (aFlow x1 r).2 ∧ ZB sz (aFlow x1 r).2 := ok_if (fun h => by
  obtain ⟨v, -, hv, e1⟩ := n32_of2 (lo := 0) (hi := 9) h.1 h.2
  rw [show x1.toNatClampNeg = v by rw [e1, n32_nat (by omega)]]
  exact ⟨s.up (Or.inr (Or.inl ⟨rfl, hv⟩)), z.up (by omega)⟩) ⟨s, z⟩
theorem ok_port {B sz : Nat} {r : Nat → Nat} (s : RBm B r) (z : ZB sz r) : RBm B (mPort r).2 ∧ ZB sz (mPort r).2 := ⟨s.up (Or.inr (Or.inr (Or.inr ⟨rfl, by omega⟩))), z.up (by omega)⟩
/-! the program's -/
def XD (h : HP) (c sz : Nat) (a : Int32 × (Nat → Nat)) : Int32 × HP → Prop := fun p => p.1 = a.1 ∧ CR p.2 c a.2 ∧ p.2.2.1 c 2 = n32 sz ∧ fr [rc c] h p.2
theorem bring_x {h : HP} {c sz : Nat} {x1 x2 x3 : Int32} {r : Nat → Nat} {B : Nat} (co : CO h c) (z : h.2.1 c 2 = n32 sz) (hz : sz ≤ 6) (s : CR h c r) (rb : RBm B r) : gd (f_X0_bring h c x1 x2 x3) (XD h c sz (aBring sz x1 x2 x3 r)) := by
  unfold aBring
  by_cases q : mayP sz x1 x2 x3
  · obtain ⟨m, k, n, hm, hk, hn1, hn2, e1, e2, e3, e4, e5, e6⟩ := may_nat q hz
    rw [aIf_y q, e4, e5, e6]
    subst e1
    subst e2
    subst e3
    have b0 := rb.1 (6 * k + m) (by omega)
    have my := may_y co z hz hm hk hn1 hn2
    have ay := add_y (n := n) co z hz hm hk (s.1 k m hk (by omega)) (by omega)
    obtain ⟨c0, c1, c2, c3, c4, c5, c6, c7, c8, c9⟩ := id co
    unfold f_X0_bring
    simp -implicitDefEqProofs (disch := omega) only [gP_p c0, my, gP_p, gP_t, bnd_s, bnd2_s, ltt_s, jn_s, n32_nat, n32_le, n32_lt, n32_eq, n32_add, n32_sub, n32_dec, n32_mul, n32_div, n32_irm, n32_lit, n32_oN, n32_ix, n32_m1, n32_m2, neg_le0, neg_lt0, neg_lt1, neg_le1, n32_min, n32_max, if_true, if_false, Nat.one_ne_zero, gd_some, true_or, or_true, false_or, or_false, ay, sI_eq, sI_ne, sI_J, sI_R, sI_kO, sI_rK, sI_len, sJ_eq, sJ_ne, sJ_I, sJ_kO, sJ_rK, sJ_len, c1, c3, c5, c7]
    refine ⟨rfl, s.set hk (by omega), by rw [sI_ne (by omega)]; exact z, (fr.rf _ _).sI ?_⟩
    rw [show c + 2 + k = c + (2 + k) by omega]
    exact co.in1 (by omega)
  · rw [aIf_n q]
    unfold f_X0_bring
    simp -implicitDefEqProofs (disch := omega) only [gP_p co.1, may_n co z hz q, gP_p, gP_t, bnd_s, bnd2_s, ltt_s, jn_s, n32_nat, n32_le, n32_lt, n32_eq, n32_add, n32_sub, n32_dec, n32_mul, n32_div, n32_irm, n32_lit, n32_oN, n32_ix, n32_m1, n32_m2, neg_le0, neg_lt0, neg_lt1, neg_le1, n32_min, n32_max, if_true, if_false, Nat.one_ne_zero, gd_some, true_or, or_true, false_or, or_false]
    exact ⟨rfl, s, z, fr.rf _ _⟩
theorem lay_x {h : HP} {c sz : Nat} {x1 x2 x3 : Int32} {r : Nat → Nat} {B : Nat} (co : CO h c) (z : h.2.1 c 2 = n32 sz) (hz : sz ≤ 6) (s : CR h c r) (rb : RBm B r) : gd (f_X0_layBy h c x1 x2 x3) (XD h c sz (aLay sz x1 x2 x3 r)) := by
  unfold aLay
  by_cases q : mayP sz x1 x2 x3
  · obtain ⟨m, k, n, hm, hk, hn1, hn2, e1, e2, e3, e4, e5, e6⟩ := may_nat q hz
    rw [aIf_y q, e4, e5, e6]
    subst e1
    subst e2
    subst e3
    have b0 := rb.1 (6 * k + m) (by omega)
    have b1 := rb.1 (12 + (6 * k + m)) (by omega)
    have my := may_y co z hz hm hk hn1 hn2
    have v0 := s.1 k m hk (by omega)
    have v1 := s.2.1 k m hk (by omega)
    obtain ⟨c0, c1, c2, c3, c4, c5, c6, c7, c8, c9⟩ := id co
    unfold f_X0_layBy mLay
    by_cases q1 : n ≤ r (6 * k + m)
    · by_cases q2 : r (12 + (6 * k + m)) + n ≤ 99999
      · simp -implicitDefEqProofs (disch := omega) only [gP_p c0, my, gP_p, gP_t, bnd_s, bnd2_s, ltt_s, jn_s, n32_nat, n32_le, n32_lt, n32_eq, n32_add, n32_sub, n32_dec, n32_mul, n32_div, n32_irm, n32_lit, n32_oN, n32_ix, n32_m1, n32_m2, neg_le0, neg_lt0, neg_lt1, neg_le1, n32_min, n32_max, if_true, if_false, Nat.one_ne_zero, gd_some, true_or, or_true, false_or, or_false, sI_eq, sI_ne, sI_J, sI_R, sI_kO, sI_rK, sI_len, sJ_eq, sJ_ne, sJ_I, sJ_kO, sJ_rK, sJ_len, c1, c2, c3, c4, c5, c6, c7, c8, v0, v1, q1, q2]
        refine ⟨rfl, (s.set hk (by omega)).setL hk (by omega), by rw [sI_ne (by omega), sI_ne (by omega)]; exact z, ((fr.rf _ _).sI ?_).sI ?_⟩
        · rw [show c + 2 + k = c + (2 + k) by omega]
          exact co.in1 (by omega)
        · rw [show c + 5 + k = c + (5 + k) by omega]
          exact co.in1 (by omega)
      · simp -implicitDefEqProofs (disch := omega) only [gP_p c0, my, gP_p, gP_t, bnd_s, bnd2_s, ltt_s, jn_s, n32_nat, n32_le, n32_lt, n32_eq, n32_add, n32_sub, n32_dec, n32_mul, n32_div, n32_irm, n32_lit, n32_oN, n32_ix, n32_m1, n32_m2, neg_le0, neg_lt0, neg_lt1, neg_le1, n32_min, n32_max, if_true, if_false, Nat.one_ne_zero, gd_some, true_or, or_true, false_or, or_false, sI_eq, sI_ne, sI_J, sI_R, sI_kO, sI_rK, sI_len, sJ_eq, sJ_ne, sJ_I, sJ_kO, sJ_rK, sJ_len, c1, c2, c3, c4, c5, c6, c7, c8, v0, v1, q1, q2]
        exact ⟨rfl, s, z, fr.rf _ _⟩
    · simp -implicitDefEqProofs (disch := omega) only [gP_p c0, my, gP_p, gP_t, bnd_s, bnd2_s, ltt_s, jn_s, n32_nat, n32_le, n32_lt, n32_eq, n32_add, n32_sub, n32_dec, n32_mul, n32_div, n32_irm, n32_lit, n32_oN, n32_ix, n32_m1, n32_m2, neg_le0, neg_lt0, neg_lt1, neg_le1, n32_min, n32_max, if_true, if_false, Nat.one_ne_zero, gd_some, true_or, or_true, false_or, or_false, sI_eq, sI_ne, sI_J, sI_R, sI_kO, sI_rK, sI_len, sJ_eq, sJ_ne, sJ_I, sJ_kO, sJ_rK, sJ_len, c1, c2, c3, c4, c5, c6, c7, c8, v0, v1, q1]
      exact ⟨rfl, s, z, fr.rf _ _⟩
  · rw [aIf_n q]
    unfold f_X0_layBy
    simp -implicitDefEqProofs (disch := omega) only [gP_p co.1, may_n co z hz q, gP_p, gP_t, bnd_s, bnd2_s, ltt_s, jn_s, n32_nat, n32_le, n32_lt, n32_eq, n32_add, n32_sub, n32_dec, n32_mul, n32_div, n32_irm, n32_lit, n32_oN, n32_ix, n32_m1, n32_m2, neg_le0, neg_lt0, neg_lt1, neg_le1, n32_min, n32_max, if_true, if_false, Nat.one_ne_zero, gd_some, true_or, or_true, false_or, or_false]
    exact ⟨rfl, s, z, fr.rf _ _⟩
theorem spd_x {h : HP} {c sz : Nat} {x1 x2 x3 : Int32} {r : Nat → Nat} {B : Nat} (co : CO h c) (z : h.2.1 c 2 = n32 sz) (hz : sz ≤ 6) (s : CR h c r) (rb : RBm B r) : gd (f_X0_spend h c x1 x2 x3) (XD h c sz (aSpd sz x1 x2 x3 r)) := by
  unfold aSpd
  by_cases q : mayP sz x1 x2 x3
  · obtain ⟨m, k, n, hm, hk, hn1, hn2, e1, e2, e3, e4, e5, e6⟩ := may_nat q hz
    rw [aIf_y q, e4, e5, e6]
    subst e1
    subst e2
    subst e3
    have b0 := rb.1 (6 * k + m) (by omega)
    have b1 := rb.1 (12 + (6 * k + m)) (by omega)
    have my := may_y co z hz hm hk hn1 hn2
    have v0 := s.1 k m hk (by omega)
    have v1 := s.2.1 k m hk (by omega)
    have in5 : ∀ j, [rc c].contains (reg (c + 5 + k) j) = true := fun j => by
      rw [show c + 5 + k = c + (5 + k) by omega]
      exact co.in1 (by omega)
    have in2 : ∀ j, [rc c].contains (reg (c + 2 + k) j) = true := fun j => by
      rw [show c + 2 + k = c + (2 + k) by omega]
      exact co.in1 (by omega)
    unfold f_X0_spend mSpd
    by_cases q1 : n ≤ r (12 + (6 * k + m))
    · have f1 : fr [rc c] h (setI h (c + 5 + k) m (n32 (r (12 + (6 * k + m)) - n))) := (fr.rf _ _).sI (in5 _)
      have z1 : (setI h (c + 5 + k) m (n32 (r (12 + (6 * k + m)) - n))).2.1 c 2 = n32 sz := by rw [sI_ne (by omega)]; exact z
      have v2 : (setI h (c + 5 + k) m (n32 (r (12 + (6 * k + m)) - n))).2.1 (c + 2 + k) m = n32 (r (6 * k + m)) := by rw [sI_ne (by omega)]; exact v0
      have ay := add_y (n := n) (co.fr f1) z1 hz hm hk v2 (by omega)
      obtain ⟨c0, c1, c2, c3, c4, c5, c6, c7, c8, c9⟩ := id co
      simp -implicitDefEqProofs (disch := omega) only [gP_p c0, my, gP_p, gP_t, bnd_s, bnd2_s, ltt_s, jn_s, n32_nat, n32_le, n32_lt, n32_eq, n32_add, n32_sub, n32_dec, n32_mul, n32_div, n32_irm, n32_lit, n32_oN, n32_ix, n32_m1, n32_m2, neg_le0, neg_lt0, neg_lt1, neg_le1, n32_min, n32_max, if_true, if_false, Nat.one_ne_zero, gd_some, true_or, or_true, false_or, or_false, sI_eq, sI_ne, sI_J, sI_R, sI_kO, sI_rK, sI_len, sJ_eq, sJ_ne, sJ_I, sJ_kO, sJ_rK, sJ_len, c1, c2, c3, c4, c5, c6, c7, c8, v0, v1, q1, ay]
      refine ⟨rfl, ?_, by rw [sI_ne (by omega)]; exact z1, f1.sI (in2 _)⟩
      exact (s.setL hk (by omega)).set hk (by omega)
    · obtain ⟨c0, c1, c2, c3, c4, c5, c6, c7, c8, c9⟩ := id co
      simp -implicitDefEqProofs (disch := omega) only [gP_p c0, my, gP_p, gP_t, bnd_s, bnd2_s, ltt_s, jn_s, n32_nat, n32_le, n32_lt, n32_eq, n32_add, n32_sub, n32_dec, n32_mul, n32_div, n32_irm, n32_lit, n32_oN, n32_ix, n32_m1, n32_m2, neg_le0, neg_lt0, neg_lt1, neg_le1, n32_min, n32_max, if_true, if_false, Nat.one_ne_zero, gd_some, true_or, or_true, false_or, or_false, sI_eq, sI_ne, sI_J, sI_R, sI_kO, sI_rK, sI_len, sJ_eq, sJ_ne, sJ_I, sJ_kO, sJ_rK, sJ_len, c1, c2, c3, c4, c5, c6, c7, c8, v0, v1, q1]
      exact ⟨rfl, s, z, fr.rf _ _⟩
  · rw [aIf_n q]
    unfold f_X0_spend
    simp -implicitDefEqProofs (disch := omega) only [gP_p co.1, may_n co z hz q, gP_p, gP_t, bnd_s, bnd2_s, ltt_s, jn_s, n32_nat, n32_le, n32_lt, n32_eq, n32_add, n32_sub, n32_dec, n32_mul, n32_div, n32_irm, n32_lit, n32_oN, n32_ix, n32_m1, n32_m2, neg_le0, neg_lt0, neg_lt1, neg_le1, n32_min, n32_max, if_true, if_false, Nat.one_ne_zero, gd_some, true_or, or_true, false_or, or_false]
    exact ⟨rfl, s, z, fr.rf _ _⟩
theorem tax_x {N : Nat} {h : HP} {c sz : Nat} {x1 x2 : Int32} {r : Nat → Nat} {B : Nat} (co : CO h c) (z : h.2.1 c 2 = n32 sz) (hz : sz ≤ 6) (s : CR h c r) (rb : RBm B r) : gd (f_X0_tax (N + 3) h c x1 x2) (XD h c sz (aTax sz x1 x2 r)) := by
  unfold aTax
  by_cases q1 : 0 ≤ x1.toInt ∧ x1.toInt < (sz : Int)
  · obtain ⟨m, hm, rfl⟩ := n32_of q1.1 q1.2
    by_cases q2 : 1 ≤ x2.toInt ∧ x2.toInt ≤ 9
    · obtain ⟨t, ht1, ht, rfl⟩ := n32_of2 (lo := 1) (hi := 9) q2.1 q2.2
      rw [aIf_y ⟨q1, q2⟩, n32_nat (by omega), n32_nat (by omega)]
      have wy : f_X9_within (n32 t) (n32 1) (n32 9) = some (n32 1) := within_y q2
      have b0 := rb.1 m (by omega)
      have b1 := rb.1 (6 + m) (by omega)
      have b2 : r m * t ≤ 99999 * 9 := Nat.mul_le_mul b0 ht
      have b3 : r (6 + m) * t ≤ 99999 * 9 := Nat.mul_le_mul b1 ht
      have b4 := rb.2.2.1
      have b5 : r m * t ≤ r m * 9 := Nat.mul_le_mul_left _ ht
      have b6 : r (6 + m) * t ≤ r (6 + m) * 9 := Nat.mul_le_mul_left _ ht
      have b7 : r m * t / 10 ≤ r m := by omega
      have b8 : r (6 + m) * t / 10 ≤ r (6 + m) := by omega
      have v0 : h.2.1 (c + 2) m = n32 (r m) := by have := s.1 0 m (by omega) (by omega); rw [show 6 * 0 + m = m by omega] at this; exact this
      have v1 : h.2.1 (c + 2 + 1) m = n32 (r (6 + m)) := s.1 1 m (by omega) (by omega)
      have v2 := s.2.2.2.2.1
      have in2 : ∀ k j, k < 2 → [rc c].contains (reg (c + 2 + k) j) = true := fun k j hk => by
        rw [show c + 2 + k = c + (2 + k) by omega]
        exact co.in1 (by omega)
      have in0 : ∀ j, [rc c].contains (reg c j) = true := fun j => co.in1 (i := 0) (by omega)
      have ih20 := in2 0 m (by omega)
      have ih21 := in2 1 m (by omega)
      have hh := has_y co z hz hm
      obtain ⟨c0, c1, c2, c3, c4, c5, c6, c7, c8, c9⟩ := id co
      have c30 : rK h (c + 1) 0 102 = some (c + 2) := c3 0 (by omega)
      have c31 := c3 1 (by omega)
      have c70 : lenH h (c + 2) = 6 := c7 0 (by omega)
      have c71 := c7 1 (by omega)
      unfold f_X0_tax
      simp -implicitDefEqProofs (disch := omega) only [gP_p c0, hh, wy, gP_p, gP_t, bnd_s, bnd2_s, ltt_s, jn_s, n32_nat, n32_le, n32_lt, n32_eq, n32_add, n32_sub, n32_dec, n32_mul, n32_div, n32_irm, n32_lit, n32_oN, n32_ix, n32_m1, n32_m2, neg_le0, neg_lt0, neg_lt1, neg_le1, n32_min, n32_max, if_true, if_false, Nat.one_ne_zero, gd_some, true_or, or_true, false_or, or_false, lp_s, f_X0_tax_B22, sI_eq, sI_ne, sI_J, sI_R, sI_kO, sI_rK, sI_len, sJ_eq, sJ_ne, sJ_I, sJ_kO, sJ_rK, sJ_len, c1, c30, c31, c5, c70, c71, v0, v1, v2, Nat.add_zero, Nat.zero_add, Nat.reduceAdd, Nat.reduceLT]
      have e1 : CR (setI h (c + 2 + 0) m (n32 (r m - r m * t / 10))) c (up r m (r m - r m * t / 10)) := by
        have := s.set (k := 0) (m := m) (v := r m - r m * t / 10) (by omega) (by omega)
        rw [show 6 * 0 + m = m by omega] at this
        exact this
      have e2 := e1.setS (j := 5) (v := min 999999 (r 26 + r m * t / 10)) (by omega) (by omega)
      have t1 : tx1 m t r (6 + m) = r (6 + m) := by
        unfold tx1
        rw [up_ne (by omega), up_ne (by omega)]
      have t2 : tx1 m t r 26 = min 999999 (r 26 + r m * t / 10) := by
        unfold tx1
        rw [up_eq]
      have e3 := e2.set (k := 1) (m := m) (v := r (6 + m) - r (6 + m) * t / 10) (by omega) (by omega)
      have e4 := e3.setS (j := 5) (v := min 999999 (min 999999 (r 26 + r m * t / 10) + r (6 + m) * t / 10)) (by omega) (by omega)
      refine ⟨?_, ?_, ?_, ((((fr.rf _ _).sI ih20).sI (in0 _)).sI ih21).sI (in0 _)⟩
      · show _ = n32 (tx1 (6 + m) t (tx1 m t r) 26)
        unfold tx1
        rw [up_eq, up_eq, up_ne (by omega), up_ne (by omega)]
      · refine e4.ext fun j hj => ?_
        show tx1 (6 + m) t (tx1 m t r) j = _
        have : tx1 (6 + m) t (tx1 m t r) j = up (up (tx1 m t r) (6 + m) (tx1 m t r (6 + m) - tx1 m t r (6 + m) * t / 10)) 26 (min 999999 (tx1 m t r 26 + tx1 m t r (6 + m) * t / 10)) j := rfl
        rw [this, t1, t2]
        rfl
      · rw [sI_ne (by omega), sI_ne (by omega), sI_ne (by omega), sI_ne (by omega)]
        exact z
    · rw [aIf_n (fun a => q2 a.2)]
      have wn : f_X9_within x2 (n32 1) (n32 9) = some (n32 0) := within_n q2
      unfold f_X0_tax
      simp -implicitDefEqProofs (disch := omega) only [gP_p co.1, has_y co z hz hm, wn, gP_p, gP_t, bnd_s, bnd2_s, ltt_s, jn_s, n32_nat, n32_le, n32_lt, n32_eq, n32_add, n32_sub, n32_dec, n32_mul, n32_div, n32_irm, n32_lit, n32_oN, n32_ix, n32_m1, n32_m2, neg_le0, neg_lt0, neg_lt1, neg_le1, n32_min, n32_max, if_true, if_false, Nat.one_ne_zero, gd_some, true_or, or_true, false_or, or_false]
      exact ⟨rfl, s, z, fr.rf _ _⟩
  · rw [aIf_n (fun a => q1 a.1)]
    unfold f_X0_tax
    simp -implicitDefEqProofs (disch := omega) only [gP_p co.1, has_n co z hz q1, gP_p, gP_t, bnd_s, bnd2_s, ltt_s, jn_s, n32_nat, n32_le, n32_lt, n32_eq, n32_add, n32_sub, n32_dec, n32_mul, n32_div, n32_irm, n32_lit, n32_oN, n32_ix, n32_m1, n32_m2, neg_le0, neg_lt0, neg_lt1, neg_le1, n32_min, n32_max, if_true, if_false, Nat.one_ne_zero, gd_some, true_or, or_true, false_or, or_false]
    exact ⟨rfl, s, z, fr.rf _ _⟩
theorem burn_x {h : HP} {c sz : Nat} {x1 : Int32} {r : Nat → Nat} {B : Nat} (co : CO h c) (z : h.2.1 c 2 = n32 sz) (hz : sz ≤ 6) (s : CR h c r) (rb : RBm B r) : gd (f_X0_burn h c x1) (XD h c sz (aBurn sz x1 r)) := by
  unfold aBurn
  by_cases q1 : 0 ≤ x1.toInt ∧ x1.toInt < (sz : Int)
  · obtain ⟨m, hm, rfl⟩ := n32_of q1.1 q1.2
    rw [aIf_y q1, n32_nat (by omega)]
    have b1 := rb.1 (6 + m) (by omega)
    have v1 : h.2.1 (c + 2 + 1) m = n32 (r (6 + m)) := s.1 1 m (by omega) (by omega)
    have hh := has_y co z hz hm
    obtain ⟨c0, c1, c2, c3, c4, c5, c6, c7, c8, c9⟩ := id co
    have c31 := c3 1 (by omega)
    have c71 := c7 1 (by omega)
    have e3 := s.set (k := 1) (m := m) (v := 0) (by omega) (by omega)
    have f : fr [rc c] h (setI h (c + 2 + 1) m (n32 0)) := (fr.rf _ _).sI (co.in1 (i := 3) (by omega))
    have zz : (setI h (c + 2 + 1) m (n32 0)).2.1 c 2 = n32 sz := by rw [sI_ne (by omega)]; exact z
    unfold f_X0_burn mBurn
    by_cases q2 : r (6 + m) = 0
    · simp -implicitDefEqProofs (disch := omega) only [gP_p c0, hh, gP_p, gP_t, bnd_s, bnd2_s, ltt_s, jn_s, n32_nat, n32_le, n32_lt, n32_eq, n32_add, n32_sub, n32_dec, n32_mul, n32_div, n32_irm, n32_lit, n32_oN, n32_ix, n32_m1, n32_m2, neg_le0, neg_lt0, neg_lt1, neg_le1, n32_min, n32_max, if_true, if_false, Nat.one_ne_zero, gd_some, true_or, or_true, false_or, or_false, c1, c31, c5, c71, v1, q2]
      exact ⟨rfl, e3, zz, f⟩
    · simp -implicitDefEqProofs (disch := omega) only [gP_p c0, hh, gP_p, gP_t, bnd_s, bnd2_s, ltt_s, jn_s, n32_nat, n32_le, n32_lt, n32_eq, n32_add, n32_sub, n32_dec, n32_mul, n32_div, n32_irm, n32_lit, n32_oN, n32_ix, n32_m1, n32_m2, neg_le0, neg_lt0, neg_lt1, neg_le1, n32_min, n32_max, if_true, if_false, Nat.one_ne_zero, gd_some, true_or, or_true, false_or, or_false, c1, c31, c5, c71, v1, q2]
      exact ⟨rfl, e3, zz, f⟩
  · rw [aIf_n q1]
    unfold f_X0_burn
    simp -implicitDefEqProofs (disch := omega) only [gP_p co.1, has_n co z hz q1, gP_p, gP_t, bnd_s, bnd2_s, ltt_s, jn_s, n32_nat, n32_le, n32_lt, n32_eq, n32_add, n32_sub, n32_dec, n32_mul, n32_div, n32_irm, n32_lit, n32_oN, n32_ix, n32_m1, n32_m2, neg_le0, neg_lt0, neg_lt1, neg_le1, n32_min, n32_max, if_true, if_false, Nat.one_ne_zero, gd_some, true_or, or_true, false_or, or_false]
    exact ⟨rfl, s, z, fr.rf _ _⟩
theorem port_x {h : HP} {c sz : Nat} {r : Nat → Nat} {B : Nat} (co : CO h c) (z : h.2.1 c 2 = n32 sz) (s : CR h c r) (rb : RBm B r) : gd (f_X0_turnPort h c) (XD h c sz (mPort r)) := by
  have b := rb.2.2.2.1
  have v := s.2.2.2.2.2
  have e := s.setS (j := 6) (v := 1 - r 27) (by omega) (by omega)
  have f : fr [rc c] h (setI h c 6 (n32 (1 - r 27))) := (fr.rf _ _).sI (co.in1 (i := 0) (by omega))
  have zz : (setI h c 6 (n32 (1 - r 27))).2.1 c 2 = n32 sz := by rw [sI_ne (by omega)]; exact z
  unfold f_X0_turnPort mPort
  rcases (show r 27 = 0 ∨ r 27 = 1 by omega) with q | q
  · rw [q] at v e f zz ⊢
    simp -implicitDefEqProofs (disch := omega) only [gP_p co.1, gP_p, gP_t, bnd_s, bnd2_s, ltt_s, jn_s, n32_nat, n32_le, n32_lt, n32_eq, n32_add, n32_sub, n32_dec, n32_mul, n32_div, n32_irm, n32_lit, n32_oN, n32_ix, n32_m1, n32_m2, neg_le0, neg_lt0, neg_lt1, neg_le1, n32_min, n32_max, if_true, if_false, Nat.one_ne_zero, gd_some, true_or, or_true, false_or, or_false, v, sI_eq]
    exact ⟨rfl, e, zz, f⟩
  · rw [q] at v e f zz ⊢
    simp -implicitDefEqProofs (disch := omega) only [gP_p co.1, gP_p, gP_t, bnd_s, bnd2_s, ltt_s, jn_s, n32_nat, n32_le, n32_lt, n32_eq, n32_add, n32_sub, n32_dec, n32_mul, n32_div, n32_irm, n32_lit, n32_oN, n32_ix, n32_m1, n32_m2, neg_le0, neg_lt0, neg_lt1, neg_le1, n32_min, n32_max, if_true, if_false, Nat.one_ne_zero, gd_some, true_or, or_true, false_or, or_false, v, sI_eq]
    exact ⟨rfl, e, zz, f⟩
theorem flow_x {h : HP} {c sz : Nat} {x1 : Int32} {r : Nat → Nat} (co : CO h c) (z : h.2.1 c 2 = n32 sz) (s : CR h c r) : gd (f_X0_setFlow h c x1) (XD h c sz (aFlow x1 r)) := by
  unfold aFlow
  by_cases q1 : 0 ≤ x1.toInt ∧ x1.toInt ≤ 9
  · obtain ⟨v, -, hv, rfl⟩ := n32_of2 (lo := 0) (hi := 9) q1.1 q1.2
    rw [aIf_y q1, n32_nat (by omega)]
    have wy : f_X9_within (n32 v) (n32 0) (n32 9) = some (n32 1) := within_y q1
    have v2 := s.2.2.1
    have e := s.setS (j := 3) (v := v) (by omega) (by omega)
    unfold f_X0_setFlow
    simp -implicitDefEqProofs (disch := omega) only [gP_p co.1, wy, gP_p, gP_t, bnd_s, bnd2_s, ltt_s, jn_s, n32_nat, n32_le, n32_lt, n32_eq, n32_add, n32_sub, n32_dec, n32_mul, n32_div, n32_irm, n32_lit, n32_oN, n32_ix, n32_m1, n32_m2, neg_le0, neg_lt0, neg_lt1, neg_le1, n32_min, n32_max, if_true, if_false, Nat.one_ne_zero, gd_some, true_or, or_true, false_or, or_false, v2]
    exact ⟨rfl, e, by rw [sI_ne (by omega)]; exact z, (fr.rf _ _).sI (co.in1 (i := 0) (by omega))⟩
  · rw [aIf_n q1]
    have wn : f_X9_within x1 (n32 0) (n32 9) = some (n32 0) := within_n q1
    unfold f_X0_setFlow
    simp -implicitDefEqProofs (disch := omega) only [gP_p co.1, wn, gP_p, gP_t, bnd_s, bnd2_s, ltt_s, jn_s, n32_nat, n32_le, n32_lt, n32_eq, n32_add, n32_sub, n32_dec, n32_mul, n32_div, n32_irm, n32_lit, n32_oN, n32_ix, n32_m1, n32_m2, neg_le0, neg_lt0, neg_lt1, neg_le1, n32_min, n32_max, if_true, if_false, Nat.one_ne_zero, gd_some, true_or, or_true, false_or, or_false]
    exact ⟨rfl, s, z, fr.rf _ _⟩
