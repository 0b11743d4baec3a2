/-! ===== fractions ===== -/
def w64 (n : Nat) : Int64 := Int64.ofNat n
theorem w64_int {i : Nat} (h : i < 9223372036854775808) : (w64 i).toInt = (i : Int) := Int64.toInt_ofNat_of_lt h
theorem w64_mul (i j : Nat) : w64 i * w64 j = w64 (i * j) := (Int64.ofNat_mul i j).symm
theorem w64_div {i j : Nat} (hi : i < 9223372036854775808) (hj : j < 9223372036854775808) : w64 i / w64 j = w64 (i / j) := (Int64.ofNat_div hi hj).symm
theorem w64_sub {i j : Nat} (h : j ≤ i) : w64 i - w64 j = w64 (i - j) := (Int64.ofNat_sub i j h).symm
theorem w64_eq {i j : Nat} (hi : i < 9223372036854775808) (hj : j < 9223372036854775808) : (w64 i = w64 j) = (i = j) := propext ⟨fun h => by
  have h2 : (w64 i).toInt = (w64 j).toInt := by rw [h]
  rw [w64_int hi, w64_int hj] at h2
  omega, fun h => by rw [h]⟩
theorem w64_rem {i j : Nat} (hi : i < 9223372036854775808) (hj : j < 9223372036854775808) : lrm (w64 i) (w64 j) = w64 (i % j) := by
  have e := Nat.div_add_mod i j
  unfold lrm
  rw [w64_div hi hj, w64_mul, w64_sub (by rw [Nat.mul_comm]; omega), Nat.mul_comm, show i - j * (i / j) = i % j by omega]
theorem w64_n32 {i : Nat} (h : i < 2147483648) : (n32 i).toInt64 = w64 i := by
  rw [← Int64.toInt_inj, Int32.toInt_toInt64, n32_int h, w64_int (by omega)]
theorem w64_0 : (0 : Int64) = w64 0 := rfl
theorem w64_1 : (1 : Int64) = w64 1 := rfl
theorem w64_10 : (10 : Int64) = w64 10 := rfl
theorem cmp_z {b : Nat} (h : b < 9223372036854775808) : (lg_cmp (w64 b) (w64 0) = n32 0) = (b = 0) := by
  have e : (lg_cmp (w64 b) (w64 0) = (0 : Int32)) ↔ w64 b = w64 0 := lg_cmp_eq _ _
  rw [w64_eq h (by omega)] at e
  exact propext e
theorem gcd_st (a b : Nat) : Nat.gcd b (a % b) = Nat.gcd a b := by rw [Nat.gcd_comm a b, Nat.gcd_rec b a, Nat.gcd_comm]
theorem mod_half {b r : Nat} (h1 : 0 < r) (h2 : r < b) : 2 * (b % r) < b := by
  have e1 := Nat.div_add_mod b r
  have e2 := Nat.mod_lt b h1
  have e3 : 0 < b / r := Nat.div_pos (by omega) h1
  have e4 : r * 1 ≤ r * (b / r) := Nat.mul_le_mul_left r e3
  omega
theorem cd_l {N : Nat} {k : Int64 → Option Int64} {R : Option Int64} : ∀ (e a b i fuel : Nat), a < 4611686018427387904 → b < 2 ^ e → e ≤ 40 → i + 2 * e ≤ 100 → 2 * e < fuel → k (w64 (Nat.gcd a b)) = R → lp (fun _ _ _ => none) (f_X9_commonDivisor_B9 N k) fuel (w64 a) (w64 b) (n32 i) = R := by
  intro e
  induction e with
  | zero =>
    intro a b i fuel ha hb he hi hf K
    obtain ⟨k', rfl⟩ : ∃ k, fuel = k + 1 := ⟨fuel - 1, by omega⟩
    have b0 : b = 0 := by
      have : 2 ^ 0 = 1 := rfl
      omega
    subst b0
    rw [Nat.gcd_zero_right] at K
    simp -implicitDefEqProofs (disch := omega) only [lp_s, f_X9_commonDivisor_B9, gP_p, gP_t, bnd_s, bnd2_s, ltt_s, jn_s, n32_nat, n32_le, n32_lt, n32_eq, n32_add, n32_sub, n32_dec, n32_mul, n32_div, n32_irm, n32_lit, n32_oN, n32_ix, n32_m1, n32_m2, neg_le0, neg_lt0, neg_lt1, neg_le1, n32_min, n32_max, if_true, if_false, Nat.one_ne_zero, gd_some, true_or, or_true, false_or, or_false, w64_0, cmp_z, ite_self]
    exact K
  | succ e ih =>
    intro a b i fuel ha hb he hi hf K
    obtain ⟨k', rfl⟩ : ∃ k, fuel = k + 1 + 1 := ⟨fuel - 2, by omega⟩
    have p2 : 2 ^ (e + 1) = 2 * 2 ^ e := by rw [Nat.pow_succ]; omega
    have p3 : 2 ^ e ≤ 2 ^ 40 := Nat.pow_le_pow_right (by omega) (by omega)
    have p4 : 2 ^ 40 = 1099511627776 := rfl
    have i1 : ¬ 100 ≤ i := by omega
    have i2 : ¬ 100 ≤ i + 1 := by omega
    by_cases q : b = 0
    · subst q
      rw [Nat.gcd_zero_right] at K
      rw [lp_s, f_X9_commonDivisor_B9]
      simp -implicitDefEqProofs (disch := omega) only [gP_p, gP_t, bnd_s, bnd2_s, ltt_s, jn_s, n32_nat, n32_le, n32_lt, n32_eq, n32_add, n32_sub, n32_dec, n32_mul, n32_div, n32_irm, n32_lit, n32_oN, n32_ix, n32_m1, n32_m2, neg_le0, neg_lt0, neg_lt1, neg_le1, n32_min, n32_max, if_true, if_false, Nat.one_ne_zero, gd_some, true_or, or_true, false_or, or_false, w64_0, cmp_z, i1]
      exact K
    · have r1 : a % b < b := Nat.mod_lt _ (by omega)
      rw [lp_s, f_X9_commonDivisor_B9]
      simp -implicitDefEqProofs (disch := omega) only [gP_p, gP_t, bnd_s, bnd2_s, ltt_s, jn_s, n32_nat, n32_le, n32_lt, n32_eq, n32_add, n32_sub, n32_dec, n32_mul, n32_div, n32_irm, n32_lit, n32_oN, n32_ix, n32_m1, n32_m2, neg_le0, neg_lt0, neg_lt1, neg_le1, n32_min, n32_max, if_true, if_false, Nat.one_ne_zero, gd_some, true_or, or_true, false_or, or_false, w64_0, cmp_z, i1, q, w64_eq, w64_rem, not_false_eq_true]
      by_cases q2 : a % b = 0
      · rw [← gcd_st, q2, Nat.gcd_zero_right] at K
        rw [lp_s, f_X9_commonDivisor_B9, q2]
        simp -implicitDefEqProofs (disch := omega) only [gP_p, gP_t, bnd_s, bnd2_s, ltt_s, jn_s, n32_nat, n32_le, n32_lt, n32_eq, n32_add, n32_sub, n32_dec, n32_mul, n32_div, n32_irm, n32_lit, n32_oN, n32_ix, n32_m1, n32_m2, neg_le0, neg_lt0, neg_lt1, neg_le1, n32_min, n32_max, if_true, if_false, Nat.one_ne_zero, gd_some, true_or, or_true, false_or, or_false, w64_0, cmp_z, i2]
        exact K
      · have mh := mod_half (b := b) (r := a % b) (by omega) r1
        rw [lp_s, f_X9_commonDivisor_B9]
        simp -implicitDefEqProofs (disch := omega) only [gP_p, gP_t, bnd_s, bnd2_s, ltt_s, jn_s, n32_nat, n32_le, n32_lt, n32_eq, n32_add, n32_sub, n32_dec, n32_mul, n32_div, n32_irm, n32_lit, n32_oN, n32_ix, n32_m1, n32_m2, neg_le0, neg_lt0, neg_lt1, neg_le1, n32_min, n32_max, if_true, if_false, Nat.one_ne_zero, gd_some, true_or, or_true, false_or, or_false, w64_0, cmp_z, i2, q2, w64_eq, w64_rem, not_false_eq_true]
        refine ih (a % b) (b % (a % b)) (i + 1 + 1) k' (by omega) (by omega) (by omega) (by omega) (by omega) ?_
        rw [gcd_st, gcd_st]
        exact K
theorem cm_l : ∀ (e a b fuel : Nat), a < 4611686018427387904 → b < 2 ^ e → e ≤ 40 → 2 * e < fuel → lp (fun _ _ => none) (fun rf => f_X10_common_S rf) fuel (w64 a) (w64 b) = some (w64 (Nat.gcd a b)) := by
  intro e
  induction e with
  | zero =>
    intro a b fuel ha hb he hf
    obtain ⟨k', rfl⟩ : ∃ k, fuel = k + 1 := ⟨fuel - 1, by omega⟩
    have b0 : b = 0 := by
      have : 2 ^ 0 = 1 := rfl
      omega
    subst b0
    rw [Nat.gcd_zero_right]
    simp -implicitDefEqProofs (disch := omega) only [lp_s, f_X10_common_S, gP_p, gP_t, bnd_s, bnd2_s, ltt_s, jn_s, n32_nat, n32_le, n32_lt, n32_eq, n32_add, n32_sub, n32_dec, n32_mul, n32_div, n32_irm, n32_lit, n32_oN, n32_ix, n32_m1, n32_m2, neg_le0, neg_lt0, neg_lt1, neg_le1, n32_min, n32_max, if_true, if_false, Nat.one_ne_zero, gd_some, true_or, or_true, false_or, or_false, w64_0, cmp_z]
  | succ e ih =>
    intro a b fuel ha hb he hf
    obtain ⟨k', rfl⟩ : ∃ k, fuel = k + 1 + 1 := ⟨fuel - 2, by omega⟩
    have p2 : 2 ^ (e + 1) = 2 * 2 ^ e := by rw [Nat.pow_succ]; omega
    have p3 : 2 ^ e ≤ 2 ^ 40 := Nat.pow_le_pow_right (by omega) (by omega)
    have p4 : 2 ^ 40 = 1099511627776 := rfl
    by_cases q : b = 0
    · subst q
      rw [Nat.gcd_zero_right]
      rw [lp_s, f_X10_common_S]
      simp -implicitDefEqProofs (disch := omega) only [gP_p, gP_t, bnd_s, bnd2_s, ltt_s, jn_s, n32_nat, n32_le, n32_lt, n32_eq, n32_add, n32_sub, n32_dec, n32_mul, n32_div, n32_irm, n32_lit, n32_oN, n32_ix, n32_m1, n32_m2, neg_le0, neg_lt0, neg_lt1, neg_le1, n32_min, n32_max, if_true, if_false, Nat.one_ne_zero, gd_some, true_or, or_true, false_or, or_false, w64_0, cmp_z]
    · have r1 : a % b < b := Nat.mod_lt _ (by omega)
      rw [lp_s, f_X10_common_S]
      simp -implicitDefEqProofs (disch := omega) only [gP_p, gP_t, bnd_s, bnd2_s, ltt_s, jn_s, n32_nat, n32_le, n32_lt, n32_eq, n32_add, n32_sub, n32_dec, n32_mul, n32_div, n32_irm, n32_lit, n32_oN, n32_ix, n32_m1, n32_m2, neg_le0, neg_lt0, neg_lt1, neg_le1, n32_min, n32_max, if_true, if_false, Nat.one_ne_zero, gd_some, true_or, or_true, false_or, or_false, w64_0, cmp_z, q, w64_eq, w64_rem, not_false_eq_true]
      by_cases q2 : a % b = 0
      · rw [← gcd_st, q2, Nat.gcd_zero_right]
        rw [lp_s, f_X10_common_S]
        simp -implicitDefEqProofs (disch := omega) only [gP_p, gP_t, bnd_s, bnd2_s, ltt_s, jn_s, n32_nat, n32_le, n32_lt, n32_eq, n32_add, n32_sub, n32_dec, n32_mul, n32_div, n32_irm, n32_lit, n32_oN, n32_ix, n32_m1, n32_m2, neg_le0, neg_lt0, neg_lt1, neg_le1, n32_min, n32_max, if_true, if_false, Nat.one_ne_zero, gd_some, true_or, or_true, false_or, or_false, w64_0, cmp_z]
      · have mh := mod_half (b := b) (r := a % b) (by omega) r1
        rw [lp_s, f_X10_common_S]
        simp -implicitDefEqProofs (disch := omega) only [gP_p, gP_t, bnd_s, bnd2_s, ltt_s, jn_s, n32_nat, n32_le, n32_lt, n32_eq, n32_add, n32_sub, n32_dec, n32_mul, n32_div, n32_irm, n32_lit, n32_oN, n32_ix, n32_m1, n32_m2, neg_le0, neg_lt0, neg_lt1, neg_le1, n32_min, n32_max, if_true, if_false, Nat.one_ne_zero, gd_some, true_or, or_true, false_or, or_false, w64_0, cmp_z, q2, w64_eq, w64_rem, not_false_eq_true]
        rw [ih (a % b) (b % (a % b)) k' (by omega) (by omega) (by omega) (by omega), gcd_st, gcd_st]
        rfl
/-- both tell it -/
def frL (a b : Nat) : List Int64 := [w64 (a / Nat.gcd a b), w64 (b / Nat.gcd a b)]
theorem gcd_b {a b : Nat} (hb : 0 < b) : 0 < Nat.gcd a b ∧ Nat.gcd a b ≤ b := ⟨Nat.gcd_pos_of_pos_right a hb, Nat.gcd_le_right a hb⟩
theorem tf_x {a b : Nat} {bb c : Bool} {h : HP} (s : SH bb c h) (ha : a < 4611686018427387904) (hb : 0 < b) (hb2 : b < 1099511627776) : gd (f_X9_tellFraction 100 h 0 (w64 a) (w64 b)) (fun h' => RowX h' (frL a b) ∧ fr [2] h h') := by
  obtain ⟨g1, g2⟩ := gcd_b (a := a) hb
  have gz : ¬ Nat.gcd a b = 0 := by omega
  have e : f_X9_commonDivisor 100 (w64 a) (w64 b) = some (w64 (Nat.gcd a b)) := by
    unfold f_X9_commonDivisor
    refine cd_l 40 a b 0 100 ha hb2 (by omega) (by omega) (by omega) ?_
    simp -implicitDefEqProofs (disch := omega) only [w64_0, n32_nat, n32_le, n32_lt, n32_eq, n32_add, n32_sub, n32_dec, n32_mul, n32_div, n32_irm, n32_lit, n32_oN, n32_ix, n32_m1, n32_m2, neg_le0, neg_lt0, neg_lt1, neg_le1, n32_min, n32_max, cmp_z, gz, if_false]
  unfold f_X9_tellFraction
  simp -implicitDefEqProofs (disch := omega) only [s.root, gP_p, gP_t, bnd_s, bnd2_s, ltt_s, jn_s, n32_nat, n32_le, n32_lt, n32_eq, n32_add, n32_sub, n32_dec, n32_mul, n32_div, n32_irm, n32_lit, n32_oN, n32_ix, n32_m1, n32_m2, neg_le0, neg_lt0, neg_lt1, neg_le1, n32_min, n32_max, if_true, if_false, Nat.one_ne_zero, gd_some, true_or, or_true, false_or, or_false, e, w64_0, w64_eq, gz, not_false_eq_true, w64_div, gd_bnd]
  exact gd_mono (tell2_x s) (fun h' z => z)
theorem tf_m {a b : Nat} {bb c : Bool} {h : HP} (s : SH bb c h) (ha : a < 4611686018427387904) (hb : 0 < b) (hb2 : b < 1099511627776) : gd (f_X10_tellsFraction 100 h 188 (w64 a) (w64 b)) (fun h' => RowM h' (frL a b) ∧ fr [22] h h') := by
  obtain ⟨g1, g2⟩ := gcd_b (a := a) hb
  have gz : ¬ Nat.gcd a b = 0 := by omega
  have e : f_X10_common 100 (w64 a) (w64 b) = some (w64 (Nat.gcd a b)) := by
    unfold f_X10_common
    exact cm_l 40 a b 100 ha hb2 (by omega) (by omega)
  obtain ⟨y1, y2⟩ := rowM_0 (h := h)
  have s2 := s.fr y2
  unfold f_X10_tellsFraction
  simp -implicitDefEqProofs (disch := omega) only [s.mod, gP_p, gP_t, bnd_s, bnd2_s, ltt_s, jn_s, n32_nat, n32_le, n32_lt, n32_eq, n32_add, n32_sub, n32_dec, n32_mul, n32_div, n32_irm, n32_lit, n32_oN, n32_ix, n32_m1, n32_m2, neg_le0, neg_lt0, neg_lt1, neg_le1, n32_min, n32_max, if_true, if_false, Nat.one_ne_zero, gd_some, true_or, or_true, false_or, or_false, e, w64_0, w64_eq, gz, not_false_eq_true, w64_div, gd_bnd]
  refine gd_mono (ent_m s2 y1 (by show 0 < 24; omega)) ?_
  rintro g2 ⟨z1, z2⟩
  refine gd_mono (ent_m (s2.fr z2) z1 (by show 1 < 24; omega)) ?_
  rintro g3 ⟨w1, w2⟩
  exact ⟨w1, (y2.tr z2).tr w2⟩
theorem powT_b {p : Nat} (hp : p ≤ 10) : ∀ j, j ≤ 10 → (10 - p) ^ j ≤ 10 ^ j := fun j _ => Nat.pow_le_pow_left (by omega) j
theorem ten_b {j : Nat} (h : j ≤ 10) : 10 ^ j ≤ 10000000000 := Nat.pow_le_pow_right (n := 10) (by omega) h
theorem snd_x {N k p : Nat} {h : HP} {kk : Int64 → Int64 → Option (Int32 × HP)} {Q : Int32 × HP → Prop} (hk : k ≤ 10) (hp : p ≤ 10) (K : gd (kk (w64 ((10 - p) ^ k)) (w64 (10 ^ k))) Q) : ∀ (d i fuel : Nat), i + d = k → d < fuel → gd (lp (fun _ _ _ => none) (f_X9_sound_B40 N 0 (n32 k) (n32 p) h kk) fuel (w64 ((10 - p) ^ i)) (w64 (10 ^ i)) (n32 i)) Q := by
  intro d
  induction d with
  | zero =>
    intro i fuel hi hf
    obtain ⟨k', rfl⟩ : ∃ k, fuel = k + 1 := ⟨fuel - 1, by omega⟩
    have e : i = k := by omega
    subst e
    simp -implicitDefEqProofs (disch := omega) only [lp_s, f_X9_sound_B40, gP_p, gP_t, bnd_s, bnd2_s, ltt_s, jn_s, n32_nat, n32_le, n32_lt, n32_eq, n32_add, n32_sub, n32_dec, n32_mul, n32_div, n32_irm, n32_lit, n32_oN, n32_ix, n32_m1, n32_m2, neg_le0, neg_lt0, neg_lt1, neg_le1, n32_min, n32_max, if_true, if_false, Nat.one_ne_zero, gd_some, true_or, or_true, false_or, or_false, Nat.le_refl]
    exact K
  | succ d ih =>
    intro i fuel hi hf
    obtain ⟨k', rfl⟩ : ∃ k, fuel = k + 1 := ⟨fuel - 1, by omega⟩
    have e : ¬ k ≤ i := by omega
    have nx := ih (i + 1) k' (by omega) (by omega)
    rw [Nat.pow_succ, Nat.pow_succ] at nx
    simp -implicitDefEqProofs (disch := omega) only [lp_s, f_X9_sound_B40, gP_p, gP_t, bnd_s, bnd2_s, ltt_s, jn_s, n32_nat, n32_le, n32_lt, n32_eq, n32_add, n32_sub, n32_dec, n32_mul, n32_div, n32_irm, n32_lit, n32_oN, n32_ix, n32_m1, n32_m2, neg_le0, neg_lt0, neg_lt1, neg_le1, n32_min, n32_max, if_true, if_false, Nat.one_ne_zero, gd_some, true_or, or_true, false_or, or_false, e, w64_10, w64_n32, w64_mul]
    exact nx
theorem snd_m {N k p : Nat} {h : HP} {kk : Int64 → Int64 → Option (Int32 × HP)} {Q : Int32 × HP → Prop} (hk : k ≤ 10) (hp : p ≤ 10) (K : gd (kk (w64 ((10 - p) ^ k)) (w64 (10 ^ k))) Q) : ∀ (d i fuel : Nat), i + d = k → d < fuel → gd (lp (fun _ _ _ => none) (f_X10_sound_B51 N 188 (n32 k) (n32 p) h kk) fuel (w64 ((10 - p) ^ i)) (w64 (10 ^ i)) (n32 i)) Q := by
  intro d
  induction d with
  | zero =>
    intro i fuel hi hf
    obtain ⟨k', rfl⟩ : ∃ k, fuel = k + 1 := ⟨fuel - 1, by omega⟩
    have e : i = k := by omega
    subst e
    simp -implicitDefEqProofs (disch := omega) only [lp_s, f_X10_sound_B51, gP_p, gP_t, bnd_s, bnd2_s, ltt_s, jn_s, n32_nat, n32_le, n32_lt, n32_eq, n32_add, n32_sub, n32_dec, n32_mul, n32_div, n32_irm, n32_lit, n32_oN, n32_ix, n32_m1, n32_m2, neg_le0, neg_lt0, neg_lt1, neg_le1, n32_min, n32_max, if_true, if_false, Nat.one_ne_zero, gd_some, true_or, or_true, false_or, or_false, Nat.le_refl]
    exact K
  | succ d ih =>
    intro i fuel hi hf
    obtain ⟨k', rfl⟩ : ∃ k, fuel = k + 1 := ⟨fuel - 1, by omega⟩
    have e : ¬ k ≤ i := by omega
    have nx := ih (i + 1) k' (by omega) (by omega)
    rw [Nat.pow_succ, Nat.pow_succ] at nx
    simp -implicitDefEqProofs (disch := omega) only [lp_s, f_X10_sound_B51, gP_p, gP_t, bnd_s, bnd2_s, ltt_s, jn_s, n32_nat, n32_le, n32_lt, n32_eq, n32_add, n32_sub, n32_dec, n32_mul, n32_div, n32_irm, n32_lit, n32_oN, n32_ix, n32_m1, n32_m2, neg_le0, neg_lt0, neg_lt1, neg_le1, n32_min, n32_max, if_true, if_false, Nat.one_ne_zero, gd_some, true_or, or_true, false_or, or_false, e, w64_10, w64_n32, w64_mul]
    exact nx
/-- an operation that only tells -/
theorem t_op {k : Nat} {h : HP} {fX fM : HP → Option (Int32 × HP)} (I : Inv k h) {v : Int32} {l : List Int64} (X : ∀ b c, SH b c h → gd (fX h) (fun p => p.1 = v ∧ RowX p.2 l ∧ fr [2] h p.2)) (M : ∀ b c g, SH b c g → gd (fM g) (fun p => p.1 = v ∧ RowM p.2 l ∧ fr [22, 50] g p.2)) :
    ∃ (v : Int32) (h1 h2 : HP), fX h = some (v, h1) ∧ fM h1 = some (v, h2) ∧ Inv (k + 1) h2 := by
  obtain ⟨b, c, sz, iv⟩ := I
  have s := iv.1
  obtain ⟨⟨v1, g1⟩, e1, e2, e3, e4⟩ := X b c s
  obtain ⟨⟨v2, g2⟩, t1, t2, t3, t4⟩ := M b c g1 (s.fr e4)
  have ev : v1 = v2 := e2.trans t2.symm
  subst ev
  exact ⟨_, g1, g2, e1, t1, Iv.up (iv.q1 ((e4.mono (by decide)).tr (t4.mono (by decide))) (e3.fr t4 (by decide)) t3)⟩
/-- an operation that says no -/
theorem n_op {k : Nat} {h : HP} {fX fM : HP → Option (Int32 × HP)} (I : Inv k h) {v : Int32} (X : ∀ b c, SH b c h → fX h = some (v, h)) (M : ∀ b c, SH b c h → fM h = some (v, setI h 188 0 (n32 0))) :
    ∃ (v : Int32) (h1 h2 : HP), fX h = some (v, h1) ∧ fM h1 = some (v, h2) ∧ Inv (k + 1) h2 := by
  obtain ⟨b, c, sz, iv⟩ := I
  have th : fr [50] h (setI h 188 0 (n32 0)) := (fr.rf _ _).sI rfl
  exact ⟨v, h, _, X b c iv.1, M b c iv.1, Iv.up (iv.q0 (th.mono (by decide)))⟩
theorem op_sound {k : Nat} (hk : k < 512) : ∀ (h : HP) (a1 a2 a3 : Int32), Inv k h → ∃ (v : Int32) (h1 h2 : HP), f_X9_sound 100 h 0 a1 a2 a3 = some (v, h1) ∧ f_X10_sound 100 h1 188 a1 a2 a3 = some (v, h2) ∧ Inv (k + 1) h2 := by
  intro h x1 x2 x3 I
  by_cases q1 : 1 ≤ x1.toInt ∧ x1.toInt ≤ 10
  · obtain ⟨n, hn1, hn2, rfl⟩ := n32_of2 (lo := 1) (hi := 10) q1.1 q1.2
    have w1 : f_X9_within (n32 n) (n32 1) (n32 10) = some (n32 1) := within_y q1
    have m1 : f_X10_in (n32 n).toInt64 1 10 = some (n32 1) := in_y rfl rfl q1
    have ei : (n32 n).toInt64.toInt = (n : Int) := by rw [Int32.toInt_toInt64, n32_int (by omega)]
    by_cases q2 : 0 ≤ x2.toInt ∧ x2.toInt ≤ (n : Int)
    · obtain ⟨kk, -, hk2, rfl⟩ := n32_of2 (lo := 0) (hi := n) q2.1 q2.2
      have w2 : f_X9_within (n32 kk) (n32 0) (n32 n) = some (n32 1) := within_y (by rw [n32_int (show n < 2147483648 by omega)]; exact q2)
      have m2 : f_X10_in (n32 kk).toInt64 0 (n32 n).toInt64 = some (n32 1) := in_y rfl ei q2
      by_cases q3 : 0 ≤ x3.toInt ∧ x3.toInt ≤ 10
      · obtain ⟨p, -, hp2, rfl⟩ := n32_of2 (lo := 0) (hi := 10) q3.1 q3.2
        have w3 : f_X9_within (n32 p) (n32 0) (n32 10) = some (n32 1) := within_y q3
        have m3 : f_X10_in (n32 p).toInt64 0 10 = some (n32 1) := in_y rfl rfl q3
        have b1 := ten_b (j := kk) (by omega)
        have b2 := powT_b hp2 kk (by omega)
        have b3 : 0 < 10 ^ kk := Nat.pow_pos (by omega)
        refine t_op (v := n32 0) (l := frL ((10 - p) ^ kk) (10 ^ kk)) (fX := fun h => f_X9_sound 100 h 0 (n32 n) (n32 kk) (n32 p)) (fM := fun h => f_X10_sound 100 h 188 (n32 n) (n32 kk) (n32 p)) I (fun b c s => ?_) (fun b c g s => ?_)
        · show gd (f_X9_sound 100 h 0 (n32 n) (n32 kk) (n32 p)) _
          unfold f_X9_sound
          rw [gP_p (by simp only [s.root])]
          simp -implicitDefEqProofs (disch := omega) only [gP_p, gP_t, bnd_s, bnd2_s, ltt_s, jn_s, n32_nat, n32_le, n32_lt, n32_eq, n32_add, n32_sub, n32_dec, n32_mul, n32_div, n32_irm, n32_lit, n32_oN, n32_ix, n32_m1, n32_m2, neg_le0, neg_lt0, neg_lt1, neg_le1, n32_min, n32_max, if_true, if_false, Nat.one_ne_zero, gd_some, true_or, or_true, false_or, or_false, w1, w2, w3]
          refine snd_x (by omega) hp2 ?_ kk 0 100 (by omega) (by omega)
          simp -implicitDefEqProofs (disch := omega) only [gd_bnd]
          exact gd_mono (tf_x s (by omega) b3 (by omega)) (fun h' z => gd_some.mpr ⟨rfl, z⟩)
        · have f0 : fr [50] g (setI g 188 0 (n32 0)) := (fr.rf _ _).sI rfl
          show gd (f_X10_sound 100 g 188 (n32 n) (n32 kk) (n32 p)) _
          unfold f_X10_sound
          rw [gP_p (by simp only [s.mod])]
          simp -implicitDefEqProofs (disch := omega) only [gP_p, gP_t, bnd_s, bnd2_s, ltt_s, jn_s, n32_nat, n32_le, n32_lt, n32_eq, n32_add, n32_sub, n32_dec, n32_mul, n32_div, n32_irm, n32_lit, n32_oN, n32_ix, n32_m1, n32_m2, neg_le0, neg_lt0, neg_lt1, neg_le1, n32_min, n32_max, if_true, if_false, Nat.one_ne_zero, gd_some, true_or, or_true, false_or, or_false, m1, m2, m3]
          refine snd_m (by omega) hp2 ?_ kk 0 100 (by omega) (by omega)
          simp -implicitDefEqProofs (disch := omega) only [gd_bnd]
          exact gd_mono (tf_m (s.fr f0) (by omega) b3 (by omega)) (fun h' z => gd_some.mpr ⟨rfl, z.1, (f0.mono (by decide)).tr (z.2.mono (by decide))⟩)
      · have w3 : f_X9_within x3 (n32 0) (n32 10) = some (n32 0) := within_n q3
        have m3 : f_X10_in x3.toInt64 0 10 = some (n32 0) := in_n rfl rfl q3
        refine n_op (v := -n32 1) (fX := fun h => f_X9_sound 100 h 0 (n32 n) (n32 kk) x3) (fM := fun h => f_X10_sound 100 h 188 (n32 n) (n32 kk) x3) I (fun b c s => ?_) (fun b c s => ?_)
        · show f_X9_sound 100 h 0 (n32 n) (n32 kk) x3 = _
          unfold f_X9_sound
          rw [gP_p (by simp only [s.root])]
          simp -implicitDefEqProofs (disch := omega) only [gP_p, gP_t, bnd_s, bnd2_s, ltt_s, jn_s, n32_nat, n32_le, n32_lt, n32_eq, n32_add, n32_sub, n32_dec, n32_mul, n32_div, n32_irm, n32_lit, n32_oN, n32_ix, n32_m1, n32_m2, neg_le0, neg_lt0, neg_lt1, neg_le1, n32_min, n32_max, if_true, if_false, Nat.one_ne_zero, gd_some, true_or, or_true, false_or, or_false, w1, w2, w3]
        · show f_X10_sound 100 h 188 (n32 n) (n32 kk) x3 = _
          unfold f_X10_sound
          rw [gP_p (by simp only [s.mod])]
          simp -implicitDefEqProofs (disch := omega) only [gP_p, gP_t, bnd_s, bnd2_s, ltt_s, jn_s, n32_nat, n32_le, n32_lt, n32_eq, n32_add, n32_sub, n32_dec, n32_mul, n32_div, n32_irm, n32_lit, n32_oN, n32_ix, n32_m1, n32_m2, neg_le0, neg_lt0, neg_lt1, neg_le1, n32_min, n32_max, if_true, if_false, Nat.one_ne_zero, gd_some, true_or, or_true, false_or, or_false, m1, m2, m3]
    · have w2 : f_X9_within x2 (n32 0) (n32 n) = some (n32 0) := within_n (by rw [n32_int (show n < 2147483648 by omega)]; exact q2)
      have m2 : f_X10_in x2.toInt64 0 (n32 n).toInt64 = some (n32 0) := in_n rfl ei q2
      refine n_op (v := -n32 1) (fX := fun h => f_X9_sound 100 h 0 (n32 n) x2 x3) (fM := fun h => f_X10_sound 100 h 188 (n32 n) x2 x3) I (fun b c s => ?_) (fun b c s => ?_)
      · show f_X9_sound 100 h 0 (n32 n) x2 x3 = _
        unfold f_X9_sound
        rw [gP_p (by simp only [s.root])]
        simp -implicitDefEqProofs (disch := omega) only [gP_p, gP_t, bnd_s, bnd2_s, ltt_s, jn_s, n32_nat, n32_le, n32_lt, n32_eq, n32_add, n32_sub, n32_dec, n32_mul, n32_div, n32_irm, n32_lit, n32_oN, n32_ix, n32_m1, n32_m2, neg_le0, neg_lt0, neg_lt1, neg_le1, n32_min, n32_max, if_true, if_false, Nat.one_ne_zero, gd_some, true_or, or_true, false_or, or_false, w1, w2]
      · show f_X10_sound 100 h 188 (n32 n) x2 x3 = _
        unfold f_X10_sound
        rw [gP_p (by simp only [s.mod])]
        simp -implicitDefEqProofs (disch := omega) only [gP_p, gP_t, bnd_s, bnd2_s, ltt_s, jn_s, n32_nat, n32_le, n32_lt, n32_eq, n32_add, n32_sub, n32_dec, n32_mul, n32_div, n32_irm, n32_lit, n32_oN, n32_ix, n32_m1, n32_m2, neg_le0, neg_lt0, neg_lt1, neg_le1, n32_min, n32_max, if_true, if_false, Nat.one_ne_zero, gd_some, true_or, or_true, false_or, or_false, m1, m2]
  · have w1 : f_X9_within x1 (n32 1) (n32 10) = some (n32 0) := within_n q1
    have m1 : f_X10_in x1.toInt64 1 10 = some (n32 0) := in_n rfl rfl q1
    refine n_op (v := -n32 1) (fX := fun h => f_X9_sound 100 h 0 x1 x2 x3) (fM := fun h => f_X10_sound 100 h 188 x1 x2 x3) I (fun b c s => ?_) (fun b c s => ?_)
    · show f_X9_sound 100 h 0 x1 x2 x3 = _
      unfold f_X9_sound
      rw [gP_p (by simp only [s.root])]
      simp -implicitDefEqProofs (disch := omega) only [gP_p, gP_t, bnd_s, bnd2_s, ltt_s, jn_s, n32_nat, n32_le, n32_lt, n32_eq, n32_add, n32_sub, n32_dec, n32_mul, n32_div, n32_irm, n32_lit, n32_oN, n32_ix, n32_m1, n32_m2, neg_le0, neg_lt0, neg_lt1, neg_le1, n32_min, n32_max, if_true, if_false, Nat.one_ne_zero, gd_some, true_or, or_true, false_or, or_false, w1]
    · show f_X10_sound 100 h 188 x1 x2 x3 = _
      unfold f_X10_sound
      rw [gP_p (by simp only [s.mod])]
      simp -implicitDefEqProofs (disch := omega) only [gP_p, gP_t, bnd_s, bnd2_s, ltt_s, jn_s, n32_nat, n32_le, n32_lt, n32_eq, n32_add, n32_sub, n32_dec, n32_mul, n32_div, n32_irm, n32_lit, n32_oN, n32_ix, n32_m1, n32_m2, neg_le0, neg_lt0, neg_lt1, neg_le1, n32_min, n32_max, if_true, if_false, Nat.one_ne_zero, gd_some, true_or, or_true, false_or, or_false, m1]
