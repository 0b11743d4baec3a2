/-! ===== deeds in the reference ===== -/
theorem isMz_y {b c : Bool} {h : HP} {sz m : Nat} (s : SH b c h) (z : h.2.1 188 3 = n32 sz) (hz : sz ≤ 6) (hm : m < sz) : f_X10_isMarket h 188 (n32 m) = some (n32 1) := by
  unfold f_X10_isMarket
  rw [gP_p (by simp only [s.mod]), in_eq, z]
  have e1 : (0 : Int64).toInt = 0 := rfl
  rw [if_pos, bnd_s, gP_p]
  · right; rfl
  · rw [Int32.toInt_toInt64, Int32.toInt_toInt64, e1, show (1 : Int32) = n32 1 from rfl, n32_sub (by omega), n32_int (by omega), n32_int (by omega)]
    omega
theorem isMz_n {b c : Bool} {h : HP} {sz : Nat} {x : Int32} (s : SH b c h) (z : h.2.1 188 3 = n32 sz) (hz : sz ≤ 6) (hx : ¬ (0 ≤ x.toInt ∧ x.toInt < (sz : Int))) : f_X10_isMarket h 188 x = some (n32 0) := by
  unfold f_X10_isMarket
  rw [gP_p (by simp only [s.mod]), in_eq, z]
  have e1 : (0 : Int64).toInt = 0 := rfl
  have e2 : (n32 sz - 1).toInt = (sz : Int) - 1 := by
    rw [Int32.toInt_sub, n32_int (by omega), show (1 : Int32).toInt = 1 from rfl, Int.bmod_eq_of_le (by omega) (by omega)]
  rw [if_neg, bnd_s, gP_p]
  · left; rfl
  · rw [Int32.toInt_toInt64, Int32.toInt_toInt64, e1, e2]
    omega
theorem kindM_y {x : Int32} (h : 0 ≤ x.toInt ∧ x.toInt ≤ 1) : f_X10_isKind x = some (n32 1) := by
  unfold f_X10_isKind
  rw [in_y (a := 0) (b := 1) rfl rfl h, bnd_s, gP_p (by right; rfl)]
theorem kindM_n {x : Int32} (h : ¬ (0 ≤ x.toInt ∧ x.toInt ≤ 1)) : f_X10_isKind x = some (n32 0) := by
  unfold f_X10_isKind
  rw [in_n (a := 0) (b := 1) rfl rfl h, bnd_s, gP_p (by left; rfl)]
theorem someM_y {x : Int32} (h : 1 ≤ x.toInt ∧ x.toInt ≤ 9999) : f_X10_isSome x = some (n32 1) := by
  unfold f_X10_isSome
  rw [in_y (a := 1) (b := 9999) rfl rfl h, bnd_s, gP_p (by right; rfl)]
theorem someM_n {x : Int32} (h : ¬ (1 ≤ x.toInt ∧ x.toInt ≤ 9999)) : f_X10_isSome x = some (n32 0) := by
  unfold f_X10_isSome
  rw [in_n (a := 1) (b := 9999) rfl rfl h, bnd_s, gP_p (by left; rfl)]
def MD (h : HP) (a : Nat) (x : Int32 × (Nat → Nat)) : Int32 × HP → Prop := fun p => p.1 = x.1 ∧ MR p.2 a x.2 ∧ fr [rc a] h p.2
theorem lay_m {b c : Bool} {h : HP} {sz : Nat} {x1 x2 x3 : Int32} {r : Nat → Nat} {B : Nat} (s : SH b c h) (z : h.2.1 188 3 = n32 sz) (hz : sz ≤ 6) (mr : MR h 193 r) (rb : RBm B r) : gd (f_X10_laysBy h 188 x1 x2 x3) (MD h 193 (aLay sz x1 x2 x3 r)) := by
  unfold aLay f_X10_laysBy
  by_cases q1 : 0 ≤ x1.toInt ∧ x1.toInt < (sz : Int)
  · obtain ⟨m, hm, rfl⟩ := n32_of q1.1 q1.2
    have h1 := isMz_y s z hz hm
    by_cases q2 : 0 ≤ x2.toInt ∧ x2.toInt ≤ 1
    · obtain ⟨k, -, hk, rfl⟩ := n32_of2 (lo := 0) (hi := 1) q2.1 q2.2
      have h2 := kindM_y q2
      by_cases q3 : 1 ≤ x3.toInt ∧ x3.toInt ≤ 9999
      · obtain ⟨n, hn1, hn2, rfl⟩ := n32_of2 (lo := 1) (hi := 9999) q3.1 q3.2
        have h3 := someM_y q3
        rw [aIf_y ⟨q1, q2, q3⟩, n32_nat (by omega), n32_nat (by omega), n32_nat (by omega)]
        have b0 := rb.1 (6 * k + m) (by omega)
        have b1 := rb.1 (12 + (6 * k + m)) (by omega)
        have v0 := mr (6 * k + m) (by omega)
        have v1 := mr (12 + (6 * k + m)) (by omega)
        unfold mLay
        by_cases p1 : n ≤ r (6 * k + m)
        · by_cases p2 : r (12 + (6 * k + m)) + n ≤ 99999
          · simp -implicitDefEqProofs (disch := omega) only [s.mod, gP_p, gP_t, bnd_s, bnd2_s, ltt_s, jn_s, n32_nat, n32_le, n32_lt, n32_eq, n32_add, n32_sub, n32_dec, n32_mul, n32_div, n32_irm, n32_lit, n32_oN, n32_ix, n32_m1, n32_m2, neg_le0, neg_lt0, neg_lt1, neg_le1, n32_min, n32_max, if_true, if_false, Nat.one_ne_zero, gd_some, true_or, or_true, false_or, or_false, h1, h2, h3, f_X10_at, v0, v1, p1, p2, sI_eq, sI_ne, sI_J, sI_R, sI_kO, sI_rK, sI_len, sJ_eq, sJ_ne, sJ_I, sJ_kO, sJ_rK, sJ_len]
            exact ⟨rfl, mR_set (mR_set mr), ((fr.rf _ _).sI rfl).sI rfl⟩
          · simp -implicitDefEqProofs (disch := omega) only [s.mod, gP_p, gP_t, bnd_s, bnd2_s, ltt_s, jn_s, n32_nat, n32_le, n32_lt, n32_eq, n32_add, n32_sub, n32_dec, n32_mul, n32_div, n32_irm, n32_lit, n32_oN, n32_ix, n32_m1, n32_m2, neg_le0, neg_lt0, neg_lt1, neg_le1, n32_min, n32_max, if_true, if_false, Nat.one_ne_zero, gd_some, true_or, or_true, false_or, or_false, h1, h2, h3, f_X10_at, v0, v1, p1, p2, sI_eq, sI_ne, sI_J, sI_R, sI_kO, sI_rK, sI_len, sJ_eq, sJ_ne, sJ_I, sJ_kO, sJ_rK, sJ_len]
            exact ⟨rfl, mr, fr.rf _ _⟩
        · simp -implicitDefEqProofs (disch := omega) only [s.mod, gP_p, gP_t, bnd_s, bnd2_s, ltt_s, jn_s, n32_nat, n32_le, n32_lt, n32_eq, n32_add, n32_sub, n32_dec, n32_mul, n32_div, n32_irm, n32_lit, n32_oN, n32_ix, n32_m1, n32_m2, neg_le0, neg_lt0, neg_lt1, neg_le1, n32_min, n32_max, if_true, if_false, Nat.one_ne_zero, gd_some, true_or, or_true, false_or, or_false, h1, h2, h3, f_X10_at, v0, v1, p1, sI_eq, sI_ne, sI_J, sI_R, sI_kO, sI_rK, sI_len, sJ_eq, sJ_ne, sJ_I, sJ_kO, sJ_rK, sJ_len]
          exact ⟨rfl, mr, fr.rf _ _⟩
      · rw [aIf_n (fun a => q3 a.2.2)]
        simp -implicitDefEqProofs (disch := omega) only [s.mod, gP_p, gP_t, bnd_s, bnd2_s, ltt_s, jn_s, n32_nat, n32_le, n32_lt, n32_eq, n32_add, n32_sub, n32_dec, n32_mul, n32_div, n32_irm, n32_lit, n32_oN, n32_ix, n32_m1, n32_m2, neg_le0, neg_lt0, neg_lt1, neg_le1, n32_min, n32_max, if_true, if_false, Nat.one_ne_zero, gd_some, true_or, or_true, false_or, or_false, h1, h2, someM_n q3]
        exact ⟨rfl, mr, fr.rf _ _⟩
    · rw [aIf_n (fun a => q2 a.2.1)]
      simp -implicitDefEqProofs (disch := omega) only [s.mod, gP_p, gP_t, bnd_s, bnd2_s, ltt_s, jn_s, n32_nat, n32_le, n32_lt, n32_eq, n32_add, n32_sub, n32_dec, n32_mul, n32_div, n32_irm, n32_lit, n32_oN, n32_ix, n32_m1, n32_m2, neg_le0, neg_lt0, neg_lt1, neg_le1, n32_min, n32_max, if_true, if_false, Nat.one_ne_zero, gd_some, true_or, or_true, false_or, or_false, h1, kindM_n q2]
      exact ⟨rfl, mr, fr.rf _ _⟩
  · rw [aIf_n (fun a => q1 a.1)]
    simp -implicitDefEqProofs (disch := omega) only [s.mod, gP_p, gP_t, bnd_s, bnd2_s, ltt_s, jn_s, n32_nat, n32_le, n32_lt, n32_eq, n32_add, n32_sub, n32_dec, n32_mul, n32_div, n32_irm, n32_lit, n32_oN, n32_ix, n32_m1, n32_m2, neg_le0, neg_lt0, neg_lt1, neg_le1, n32_min, n32_max, if_true, if_false, Nat.one_ne_zero, gd_some, true_or, or_true, false_or, or_false, isMz_n s z hz q1]
    exact ⟨rfl, mr, fr.rf _ _⟩
theorem spd_m {b c : Bool} {h : HP} {sz : Nat} {x1 x2 x3 : Int32} {r : Nat → Nat} {B : Nat} (s : SH b c h) (z : h.2.1 188 3 = n32 sz) (hz : sz ≤ 6) (mr : MR h 193 r) (rb : RBm B r) : gd (f_X10_spendsOf h 188 x1 x2 x3) (MD h 193 (aSpd sz x1 x2 x3 r)) := by
  unfold aSpd f_X10_spendsOf
  by_cases q1 : 0 ≤ x1.toInt ∧ x1.toInt < (sz : Int)
  · obtain ⟨m, hm, rfl⟩ := n32_of q1.1 q1.2
    have h1 := isMz_y s z hz hm
    by_cases q2 : 0 ≤ x2.toInt ∧ x2.toInt ≤ 1
    · obtain ⟨k, -, hk, rfl⟩ := n32_of2 (lo := 0) (hi := 1) q2.1 q2.2
      have h2 := kindM_y q2
      by_cases q3 : 1 ≤ x3.toInt ∧ x3.toInt ≤ 9999
      · obtain ⟨n, hn1, hn2, rfl⟩ := n32_of2 (lo := 1) (hi := 9999) q3.1 q3.2
        have h3 := someM_y q3
        rw [aIf_y ⟨q1, q2, q3⟩, n32_nat (by omega), n32_nat (by omega), n32_nat (by omega)]
        have b0 := rb.1 (6 * k + m) (by omega)
        have b1 := rb.1 (12 + (6 * k + m)) (by omega)
        have v0 := mr (6 * k + m) (by omega)
        have v1 := mr (12 + (6 * k + m)) (by omega)
        unfold mSpd
        by_cases p1 : n ≤ r (12 + (6 * k + m))
        · simp -implicitDefEqProofs (disch := omega) only [s.mod, gP_p, gP_t, bnd_s, bnd2_s, ltt_s, jn_s, n32_nat, n32_le, n32_lt, n32_eq, n32_add, n32_sub, n32_dec, n32_mul, n32_div, n32_irm, n32_lit, n32_oN, n32_ix, n32_m1, n32_m2, neg_le0, neg_lt0, neg_lt1, neg_le1, n32_min, n32_max, if_true, if_false, Nat.one_ne_zero, gd_some, true_or, or_true, false_or, or_false, h1, h2, h3, f_X10_at, v0, v1, p1, sI_eq, sI_ne, sI_J, sI_R, sI_kO, sI_rK, sI_len, sJ_eq, sJ_ne, sJ_I, sJ_kO, sJ_rK, sJ_len]
          refine ⟨rfl, ?_, ((fr.rf _ _).sI rfl).sI rfl⟩
          exact mR_set (mR_set mr)
        · simp -implicitDefEqProofs (disch := omega) only [s.mod, gP_p, gP_t, bnd_s, bnd2_s, ltt_s, jn_s, n32_nat, n32_le, n32_lt, n32_eq, n32_add, n32_sub, n32_dec, n32_mul, n32_div, n32_irm, n32_lit, n32_oN, n32_ix, n32_m1, n32_m2, neg_le0, neg_lt0, neg_lt1, neg_le1, n32_min, n32_max, if_true, if_false, Nat.one_ne_zero, gd_some, true_or, or_true, false_or, or_false, h1, h2, h3, f_X10_at, v0, v1, p1, sI_eq, sI_ne, sI_J, sI_R, sI_kO, sI_rK, sI_len, sJ_eq, sJ_ne, sJ_I, sJ_kO, sJ_rK, sJ_len]
          exact ⟨rfl, mr, fr.rf _ _⟩
      · rw [aIf_n (fun a => q3 a.2.2)]
        simp -implicitDefEqProofs (disch := omega) only [s.mod, gP_p, gP_t, bnd_s, bnd2_s, ltt_s, jn_s, n32_nat, n32_le, n32_lt, n32_eq, n32_add, n32_sub, n32_dec, n32_mul, n32_div, n32_irm, n32_lit, n32_oN, n32_ix, n32_m1, n32_m2, neg_le0, neg_lt0, neg_lt1, neg_le1, n32_min, n32_max, if_true, if_false, Nat.one_ne_zero, gd_some, true_or, or_true, false_or, or_false, h1, h2, someM_n q3]
        exact ⟨rfl, mr, fr.rf _ _⟩
    · rw [aIf_n (fun a => q2 a.2.1)]
      simp -implicitDefEqProofs (disch := omega) only [s.mod, gP_p, gP_t, bnd_s, bnd2_s, ltt_s, jn_s, n32_nat, n32_le, n32_lt, n32_eq, n32_add, n32_sub, n32_dec, n32_mul, n32_div, n32_irm, n32_lit, n32_oN, n32_ix, n32_m1, n32_m2, neg_le0, neg_lt0, neg_lt1, neg_le1, n32_min, n32_max, if_true, if_false, Nat.one_ne_zero, gd_some, true_or, or_true, false_or, or_false, h1, kindM_n q2]
      exact ⟨rfl, mr, fr.rf _ _⟩
  · rw [aIf_n (fun a => q1 a.1)]
    simp -implicitDefEqProofs (disch := omega) only [s.mod, gP_p, gP_t, bnd_s, bnd2_s, ltt_s, jn_s, n32_nat, n32_le, n32_lt, n32_eq, n32_add, n32_sub, n32_dec, n32_mul, n32_div, n32_irm, n32_lit, n32_oN, n32_ix, n32_m1, n32_m2, neg_le0, neg_lt0, neg_lt1, neg_le1, n32_min, n32_max, if_true, if_false, Nat.one_ne_zero, gd_some, true_or, or_true, false_or, or_false, isMz_n s z hz q1]
    exact ⟨rfl, mr, fr.rf _ _⟩
theorem tax_m {N a : Nat} {b c : Bool} {h : HP} {sz : Nat} {x1 x2 : Int32} {r : Nat → Nat} {B : Nat} (ha : a = 193 ∨ a = 194) (s : SH b c h) (z : h.2.1 188 3 = n32 sz) (hz : sz ≤ 6) (mr : MR h a r) (rb : RBm B r) : gd (f_X10_taxesOf (N + 3) h 188 a x1 x2) (MD h a (aTax sz x1 x2 r)) := by
  have hka : kO h a 102 = true := by rcases ha with rfl | rfl <;> simp only [s.mod]
  have hla : lenH h a = 28 := by rcases ha with rfl | rfl <;> simp only [s.mod]
  have hra : ∀ j, [rc a].contains (reg a j) = true := fun j => by rw [reg_c (by omega)]; simp
  unfold aTax f_X10_taxesOf
  by_cases q1 : 0 ≤ x1.toInt ∧ x1.toInt < (sz : Int)
  · obtain ⟨m, hm, rfl⟩ := n32_of q1.1 q1.2
    have h1 := isMz_y s z hz hm
    by_cases q2 : 1 ≤ x2.toInt ∧ x2.toInt ≤ 9
    · obtain ⟨t, ht1, ht, rfl⟩ := n32_of2 (lo := 1) (hi := 9) q2.1 q2.2
      rw [aIf_y ⟨q1, q2⟩, n32_nat (by omega), n32_nat (by omega)]
      have h2 := in_y (x := n32 t) (lo := 1) (hi := 9) (a := 1) (b := 9) rfl rfl q2
      have b0 := rb.1 m (by omega)
      have b1 := rb.1 (6 + m) (by omega)
      have b2 : r m * t ≤ 99999 * 9 := Nat.mul_le_mul b0 ht
      have b3 : r (6 + m) * t ≤ 99999 * 9 := Nat.mul_le_mul b1 ht
      have b4 := rb.2.2.1
      have b5 : r m * t ≤ r m * 9 := Nat.mul_le_mul_left _ ht
      have b6 : r (6 + m) * t ≤ r (6 + m) * 9 := Nat.mul_le_mul_left _ ht
      have b7 : r m * t / 10 ≤ r m := by omega
      have b8 : r (6 + m) * t / 10 ≤ r (6 + m) := by omega
      have v0 := mr m (by omega)
      have v1 := mr (6 + m) (by omega)
      have v2 := mr 26 (by omega)
      simp -implicitDefEqProofs (disch := omega) only [s.mod, hka, hla, gP_p, gP_t, bnd_s, bnd2_s, ltt_s, jn_s, n32_nat, n32_le, n32_lt, n32_eq, n32_add, n32_sub, n32_dec, n32_mul, n32_div, n32_irm, n32_lit, n32_oN, n32_ix, n32_m1, n32_m2, neg_le0, neg_lt0, neg_lt1, neg_le1, n32_min, n32_max, if_true, if_false, Nat.one_ne_zero, gd_some, true_or, or_true, false_or, or_false, h1, h2, lp_s, f_X10_taxesOf_B25, f_X10_at, sI_eq, sI_ne, sI_J, sI_R, sI_kO, sI_rK, sI_len, sJ_eq, sJ_ne, sJ_I, sJ_kO, sJ_rK, sJ_len, v0, v1, v2, Nat.mul_zero, Nat.mul_one, Nat.add_zero, Nat.zero_add, Nat.reduceAdd, Nat.reduceLT]
      have e4 := mR_set (j := 26) (v := min 999999 (min 999999 (r 26 + r m * t / 10) + r (6 + m) * t / 10)) (mR_set (j := 6 + m) (v := r (6 + m) - r (6 + m) * t / 10) (mR_set (j := 26) (v := min 999999 (r 26 + r m * t / 10)) (mR_set (j := m) (v := r m - r m * t / 10) mr)))
      have t1 : tx1 m t r (6 + m) = r (6 + m) := by
        unfold tx1
        rw [up_ne (by omega), up_ne (by omega)]
      have t2 : tx1 m t r 26 = min 999999 (r 26 + r m * t / 10) := by
        unfold tx1
        rw [up_eq]
      refine ⟨?_, ?_, ((((fr.rf _ _).sI (hra _)).sI (hra _)).sI (hra _)).sI (hra _)⟩
      · show _ = n32 (tx1 (6 + m) t (tx1 m t r) 26)
        unfold tx1
        rw [up_eq, up_eq, up_ne (by omega), up_ne (by omega)]
      · refine e4.ext fun j hj => ?_
        show tx1 (6 + m) t (tx1 m t r) j = _
        have : tx1 (6 + m) t (tx1 m t r) j = up (up (tx1 m t r) (6 + m) (tx1 m t r (6 + m) - tx1 m t r (6 + m) * t / 10)) 26 (min 999999 (tx1 m t r 26 + tx1 m t r (6 + m) * t / 10)) j := rfl
        rw [this, t1, t2]
        rfl
    · rw [aIf_n (fun a => q2 a.2)]
      simp -implicitDefEqProofs (disch := omega) only [s.mod, hka, gP_p, gP_t, bnd_s, bnd2_s, ltt_s, jn_s, n32_nat, n32_le, n32_lt, n32_eq, n32_add, n32_sub, n32_dec, n32_mul, n32_div, n32_irm, n32_lit, n32_oN, n32_ix, n32_m1, n32_m2, neg_le0, neg_lt0, neg_lt1, neg_le1, n32_min, n32_max, if_true, if_false, Nat.one_ne_zero, gd_some, true_or, or_true, false_or, or_false, h1, in_n (x := x2) (lo := 1) (hi := 9) (a := 1) (b := 9) rfl rfl q2]
      exact ⟨rfl, mr, fr.rf _ _⟩
  · rw [aIf_n (fun a => q1 a.1)]
    simp -implicitDefEqProofs (disch := omega) only [s.mod, hka, gP_p, gP_t, bnd_s, bnd2_s, ltt_s, jn_s, n32_nat, n32_le, n32_lt, n32_eq, n32_add, n32_sub, n32_dec, n32_mul, n32_div, n32_irm, n32_lit, n32_oN, n32_ix, n32_m1, n32_m2, neg_le0, neg_lt0, neg_lt1, neg_le1, n32_min, n32_max, if_true, if_false, Nat.one_ne_zero, gd_some, true_or, or_true, false_or, or_false, isMz_n s z hz q1]
    exact ⟨rfl, mr, fr.rf _ _⟩
theorem burn_m {b c : Bool} {h : HP} {sz : Nat} {x1 : Int32} {r : Nat → Nat} {B : Nat} (s : SH b c h) (z : h.2.1 188 3 = n32 sz) (hz : sz ≤ 6) (mr : MR h 193 r) (rb : RBm B r) : gd (f_X10_burnsAt h 188 x1) (MD h 193 (aBurn sz x1 r)) := by
  unfold aBurn f_X10_burnsAt
  by_cases q1 : 0 ≤ x1.toInt ∧ x1.toInt < (sz : Int)
  · obtain ⟨m, hm, rfl⟩ := n32_of q1.1 q1.2
    rw [aIf_y q1, n32_nat (by omega)]
    have b1 := rb.1 (6 + m) (by omega)
    have v1 := mr (6 + m) (by omega)
    have e : MR (setI h 193 (6 + m) (n32 0)) 193 (up r (6 + m) 0) := mR_set mr
    unfold mBurn
    by_cases q2 : r (6 + m) = 0
    · simp -implicitDefEqProofs (disch := omega) only [s.mod, gP_p, gP_t, bnd_s, bnd2_s, ltt_s, jn_s, n32_nat, n32_le, n32_lt, n32_eq, n32_add, n32_sub, n32_dec, n32_mul, n32_div, n32_irm, n32_lit, n32_oN, n32_ix, n32_m1, n32_m2, neg_le0, neg_lt0, neg_lt1, neg_le1, n32_min, n32_max, if_true, if_false, Nat.one_ne_zero, gd_some, true_or, or_true, false_or, or_false, isMz_y s z hz hm, f_X10_at, Nat.mul_one, v1, q2]
      exact ⟨rfl, e, (fr.rf _ _).sI rfl⟩
    · simp -implicitDefEqProofs (disch := omega) only [s.mod, gP_p, gP_t, bnd_s, bnd2_s, ltt_s, jn_s, n32_nat, n32_le, n32_lt, n32_eq, n32_add, n32_sub, n32_dec, n32_mul, n32_div, n32_irm, n32_lit, n32_oN, n32_ix, n32_m1, n32_m2, neg_le0, neg_lt0, neg_lt1, neg_le1, n32_min, n32_max, if_true, if_false, Nat.one_ne_zero, gd_some, true_or, or_true, false_or, or_false, isMz_y s z hz hm, f_X10_at, Nat.mul_one, v1, q2]
      exact ⟨rfl, e, (fr.rf _ _).sI rfl⟩
  · rw [aIf_n q1]
    simp -implicitDefEqProofs (disch := omega) only [s.mod, gP_p, gP_t, bnd_s, bnd2_s, ltt_s, jn_s, n32_nat, n32_le, n32_lt, n32_eq, n32_add, n32_sub, n32_dec, n32_mul, n32_div, n32_irm, n32_lit, n32_oN, n32_ix, n32_m1, n32_m2, neg_le0, neg_lt0, neg_lt1, neg_le1, n32_min, n32_max, if_true, if_false, Nat.one_ne_zero, gd_some, true_or, or_true, false_or, or_false, isMz_n s z hz q1]
    exact ⟨rfl, mr, fr.rf _ _⟩
theorem flow_m {b c : Bool} {h : HP} {x1 : Int32} {r : Nat → Nat} (s : SH b c h) (mr : MR h 193 r) : gd (f_X10_flowsBy h 188 x1) (MD h 193 (aFlow x1 r)) := by
  unfold aFlow f_X10_flowsBy
  by_cases q1 : 0 ≤ x1.toInt ∧ x1.toInt ≤ 9
  · obtain ⟨v, -, hv, rfl⟩ := n32_of2 (lo := 0) (hi := 9) q1.1 q1.2
    rw [aIf_y q1, n32_nat (by omega)]
    have v1 := mr 24 (by omega)
    simp -implicitDefEqProofs (disch := omega) only [s.mod, gP_p, gP_t, bnd_s, bnd2_s, ltt_s, jn_s, n32_nat, n32_le, n32_lt, n32_eq, n32_add, n32_sub, n32_dec, n32_mul, n32_div, n32_irm, n32_lit, n32_oN, n32_ix, n32_m1, n32_m2, neg_le0, neg_lt0, neg_lt1, neg_le1, n32_min, n32_max, if_true, if_false, Nat.one_ne_zero, gd_some, true_or, or_true, false_or, or_false, in_y (x := n32 v) (lo := 0) (hi := 9) (a := 0) (b := 9) rfl rfl q1, v1]
    exact ⟨rfl, mR_set mr, (fr.rf _ _).sI rfl⟩
  · rw [aIf_n q1]
    simp -implicitDefEqProofs (disch := omega) only [s.mod, gP_p, gP_t, bnd_s, bnd2_s, ltt_s, jn_s, n32_nat, n32_le, n32_lt, n32_eq, n32_add, n32_sub, n32_dec, n32_mul, n32_div, n32_irm, n32_lit, n32_oN, n32_ix, n32_m1, n32_m2, neg_le0, neg_lt0, neg_lt1, neg_le1, n32_min, n32_max, if_true, if_false, Nat.one_ne_zero, gd_some, true_or, or_true, false_or, or_false, in_n (x := x1) (lo := 0) (hi := 9) (a := 0) (b := 9) rfl rfl q1]
    exact ⟨rfl, mr, fr.rf _ _⟩
