/-! ===== finds ===== -/
def chz (n : Nat) : Nat → Nat
  | 0 => 1
  | i + 1 => chz n i * (n - i) / (i + 1)
def chs (n k : Nat) : Nat := if n < k then 0 else chz n k
def frS (n s i : Nat) (p : Nat × Nat) : Nat × Nat := (p.1 * (n - s - i) / Nat.gcd (p.1 * (n - s - i)) (p.2 * (n - i)), p.2 * (n - i) / Nat.gcd (p.1 * (n - s - i)) (p.2 * (n - i)))
def frn (n s : Nat) : Nat → Nat × Nat
  | 0 => (1, 1)
  | i + 1 => frS n s i (frn n s i)
theorem chz_b : ∀ n, n < 31 → ∀ i, i < n + 1 → chz n i ≤ 155117520 := by decide +kernel
def fok (n s k : Nat) : Bool := decide ((frn n s k).1 ≤ (frn n s k).2) && decide (0 < (frn n s k).2) && decide ((frn n s k).2 ≤ 155117520) && decide (chs (n - s) k ≤ chs n k) && decide (0 < chs n k) && decide (chs n k ≤ 155117520) && decide (((frn n s k).2 - (frn n s k).1) / Nat.gcd ((frn n s k).2 - (frn n s k).1) (frn n s k).2 = (chs n k - chs (n - s) k) / Nat.gcd (chs n k - chs (n - s) k) (chs n k)) && decide ((frn n s k).2 / Nat.gcd ((frn n s k).2 - (frn n s k).1) (frn n s k).2 = chs n k / Nat.gcd (chs n k - chs (n - s) k) (chs n k))
theorem fok_a : ∀ n, n < 31 → ∀ s, s < n + 1 → ∀ k, k < n + 1 → fok n s k = true := by decide +kernel
theorem frn_b (n : Nat) (hn : n < 31) (s : Nat) (hs : s < n + 1) (k : Nat) (hk : k < n + 1) : (frn n s k).1 ≤ (frn n s k).2 ∧ 0 < (frn n s k).2 ∧ (frn n s k).2 ≤ 155117520 ∧ chs (n - s) k ≤ chs n k ∧ 0 < chs n k ∧ chs n k ≤ 155117520 ∧     ((frn n s k).2 - (frn n s k).1) / Nat.gcd ((frn n s k).2 - (frn n s k).1) (frn n s k).2 = (chs n k - chs (n - s) k) / Nat.gcd (chs n k - chs (n - s) k) (chs n k) ∧ (frn n s k).2 / Nat.gcd ((frn n s k).2 - (frn n s k).1) (frn n s k).2 = chs n k / Nat.gcd (chs n k - chs (n - s) k) (chs n k) := by
  have e := fok_a n hn s hs k hk
  simp only [fok, Bool.and_eq_true, decide_eq_true_eq, and_assoc] at e
  exact e
theorem chz_l {N n k : Nat} (hn : n ≤ 30) (hk : k ≤ n) : ∀ (d j fuel : Nat), j + d = k → d < fuel → lp (fun _ _ => none) (f_X9_choices_B14 N (n32 n) (n32 k)) fuel (w64 (chz n j)) (n32 (j + 1)) = some (w64 (chz n k)) := by
  intro d
  induction d with
  | zero =>
    intro j fuel hj hf
    obtain ⟨k', rfl⟩ : ∃ k, fuel = k + 1 := ⟨fuel - 1, by omega⟩
    have e : j = k := by omega
    have e2 : k < j + 1 := by omega
    subst e
    simp -implicitDefEqProofs (disch := omega) only [lp_s, f_X9_choices_B14, gP_p, gP_t, bnd_s, bnd2_s, ltt_s, jn_s, n32_nat, n32_le, n32_lt, n32_eq, n32_add, n32_sub, n32_dec, n32_mul, n32_div, n32_irm, n32_lit, n32_oN, n32_ix, n32_m1, n32_m2, neg_le0, neg_lt0, neg_lt1, neg_le1, n32_min, n32_max, if_true, if_false, Nat.one_ne_zero, gd_some, true_or, or_true, false_or, or_false, e2]
  | succ d ih =>
    intro j fuel hj hf
    obtain ⟨k', rfl⟩ : ∃ k, fuel = k + 1 := ⟨fuel - 1, by omega⟩
    have e1 : ¬ k < j + 1 := by omega
    have e2 : ¬ n < j + 1 := by omega
    have e3 : n - (j + 1) + 1 = n - j := by omega
    have e4 : ¬ j + 1 = 0 := by omega
    have bd := chz_b n (by omega) j (by omega)
    have b2 : chz n j * (n - j) ≤ 155117520 * 30 := Nat.mul_le_mul bd (by omega)
    have nx := ih (j + 1) k' (by omega) (by omega)
    rw [show chz n (j + 1) = chz n j * (n - j) / (j + 1) from rfl] at nx
    rw [lp_s, f_X9_choices_B14]
    simp -implicitDefEqProofs (disch := omega) only [gP_p, gP_t, bnd_s, bnd2_s, ltt_s, jn_s, n32_nat, n32_le, n32_lt, n32_eq, n32_add, n32_sub, n32_dec, n32_mul, n32_div, n32_irm, n32_lit, n32_oN, n32_ix, n32_m1, n32_m2, neg_le0, neg_lt0, neg_lt1, neg_le1, n32_min, n32_max, if_true, if_false, Nat.one_ne_zero, gd_some, true_or, or_true, false_or, or_false, e1, e2, e3, e4, w64_0, w64_n32, w64_eq, w64_mul, w64_div, not_false_eq_true]
    exact nx
theorem chz_0 {N n k : Nat} (hn : n ≤ 30) (hk : n < k) (hk2 : k ≤ 30) : ∀ (d j fuel : Nat), j + d = n → d < fuel → lp (fun _ _ => none) (f_X9_choices_B14 N (n32 n) (n32 k)) fuel (w64 0) (n32 (j + 1)) = some (w64 0) := by
  intro d
  induction d with
  | zero =>
    intro j fuel hj hf
    obtain ⟨k', rfl⟩ : ∃ k, fuel = k + 1 := ⟨fuel - 1, by omega⟩
    have e : j = n := by omega
    have e2 : n < j + 1 := by omega
    subst e
    rw [lp_s, f_X9_choices_B14]
    simp -implicitDefEqProofs (disch := omega) only [gP_p, gP_t, bnd_s, bnd2_s, ltt_s, jn_s, n32_nat, n32_le, n32_lt, n32_eq, n32_add, n32_sub, n32_dec, n32_mul, n32_div, n32_irm, n32_lit, n32_oN, n32_ix, n32_m1, n32_m2, neg_le0, neg_lt0, neg_lt1, neg_le1, n32_min, n32_max, if_true, if_false, Nat.one_ne_zero, gd_some, true_or, or_true, false_or, or_false, e2, ite_self]
  | succ d ih =>
    intro j fuel hj hf
    obtain ⟨k', rfl⟩ : ∃ k, fuel = k + 1 := ⟨fuel - 1, by omega⟩
    have e1 : ¬ k < j + 1 := by omega
    have e2 : ¬ n < j + 1 := by omega
    have e4 : ¬ j + 1 = 0 := by omega
    have nx := ih (j + 1) k' (by omega) (by omega)
    rw [lp_s, f_X9_choices_B14]
    simp -implicitDefEqProofs (disch := omega) only [gP_p, gP_t, bnd_s, bnd2_s, ltt_s, jn_s, n32_nat, n32_le, n32_lt, n32_eq, n32_add, n32_sub, n32_dec, n32_mul, n32_div, n32_irm, n32_lit, n32_oN, n32_ix, n32_m1, n32_m2, neg_le0, neg_lt0, neg_lt1, neg_le1, n32_min, n32_max, if_true, if_false, Nat.one_ne_zero, gd_some, true_or, or_true, false_or, or_false, e1, e2, e4, w64_0, w64_n32, w64_eq, w64_mul, w64_div, Nat.zero_mul, Nat.zero_div, not_false_eq_true]
    exact nx
theorem chs_x {n k : Nat} (hn : n ≤ 30) (hk : k ≤ 30) : f_X9_choices 100 (n32 n) (n32 k) = some (w64 (chs n k)) := by
  unfold f_X9_choices chs
  by_cases q : n < k
  · have key := chz_0 (N := 100) hn q hk n 0 100 (by omega) (by omega)
    rw [if_pos q]
    simp -implicitDefEqProofs (disch := omega) only [gP_p, gP_t, bnd_s, bnd2_s, ltt_s, jn_s, n32_nat, n32_le, n32_lt, n32_eq, n32_add, n32_sub, n32_dec, n32_mul, n32_div, n32_irm, n32_lit, n32_oN, n32_ix, n32_m1, n32_m2, neg_le0, neg_lt0, neg_lt1, neg_le1, n32_min, n32_max, if_true, if_false, Nat.one_ne_zero, gd_some, true_or, or_true, false_or, or_false, q, w64_0]
    exact key
  · have key := chz_l (N := 100) hn (k := k) (by omega) k 0 100 (by omega) (by omega)
    rw [if_neg q]
    simp -implicitDefEqProofs (disch := omega) only [gP_p, gP_t, bnd_s, bnd2_s, ltt_s, jn_s, n32_nat, n32_le, n32_lt, n32_eq, n32_add, n32_sub, n32_dec, n32_mul, n32_div, n32_irm, n32_lit, n32_oN, n32_ix, n32_m1, n32_m2, neg_le0, neg_lt0, neg_lt1, neg_le1, n32_min, n32_max, if_true, if_false, Nat.one_ne_zero, gd_some, true_or, or_true, false_or, or_false, q, w64_1]
    exact key
theorem n32_trunc {a b : Nat} (ha : a ≤ 1000) (hb : b ≤ 1000) : f_J9_max_7cf53 (n32 0) (n32 a - n32 b) = some (n32 (a - b)) := by
  by_cases q : b ≤ a
  · rw [n32_sub q, n32_max (by omega) (by omega), Nat.max_eq_right (Nat.zero_le _)]
  · unfold f_J9_max_7cf53
    have e : (n32 a - n32 b).toInt = (a : Int) - (b : Int) := by
      rw [Int32.toInt_sub, n32_int (by omega), n32_int (by omega), Int.bmod_eq_of_le (by omega) (by omega)]
    have e0 : (n32 0).toInt = 0 := rfl
    rw [if_neg (by rw [Int32.lt_iff_toInt_lt, e, e0]; omega), show a - b = 0 by omega]
theorem fnd_m {n s k : Nat} {h : HP} {kk : Int64 → Int64 → Option (Int32 × HP)} {Q : Int32 × HP → Prop} (hn : n ≤ 30) (hs : s ≤ n) (hk : k ≤ n) (K : gd (kk (w64 (frn n s k).1) (w64 (frn n s k).2)) Q) : ∀ (d i fuel : Nat), i + d = k → d < fuel → gd (lp (fun _ _ _ => none) (f_X10_finds_B50 100 188 (n32 n) (n32 s) (n32 k) h kk) fuel (w64 (frn n s i).1) (w64 (frn n s i).2) (n32 i)) Q := by
  intro d
  induction d with
  | zero =>
    intro i fuel hi hf
    obtain ⟨k', rfl⟩ : ∃ k, fuel = k + 1 := ⟨fuel - 1, by omega⟩
    have e : i = k := by omega
    subst e
    rw [lp_s, f_X10_finds_B50]
    simp -implicitDefEqProofs (disch := omega) only [gP_p, gP_t, bnd_s, bnd2_s, ltt_s, jn_s, n32_nat, n32_le, n32_lt, n32_eq, n32_add, n32_sub, n32_dec, n32_mul, n32_div, n32_irm, n32_lit, n32_oN, n32_ix, n32_m1, n32_m2, neg_le0, neg_lt0, neg_lt1, neg_le1, n32_min, n32_max, if_true, if_false, Nat.one_ne_zero, gd_some, true_or, or_true, false_or, or_false, Nat.le_refl]
    exact K
  | succ d ih =>
    intro i fuel hi hf
    obtain ⟨k', rfl⟩ : ∃ k, fuel = k + 1 := ⟨fuel - 1, by omega⟩
    have e : ¬ k ≤ i := by omega
    obtain ⟨b1, b2, b3, -⟩ := frn_b n (by omega) s (by omega) i (by omega)
    have tr := n32_trunc (a := n - s) (b := i) (by omega) (by omega)
    have nx := ih (i + 1) k' (by omega) (by omega)
    rw [show frn n s (i + 1) = frS n s i (frn n s i) from rfl] at nx
    unfold frS at nx
    generalize frn n s i = p at nx b1 b2 b3
    have m1 : p.1 * (n - s - i) ≤ 155117520 * 30 := Nat.mul_le_mul (by omega) (by omega)
    have m2 : p.2 * (n - i) ≤ 155117520 * 30 := Nat.mul_le_mul (by omega) (by omega)
    have m3 : 0 < p.2 * (n - i) := Nat.mul_pos b2 (by omega)
    obtain ⟨g1, g2⟩ := gcd_b (a := p.1 * (n - s - i)) m3
    have gz : ¬ Nat.gcd (p.1 * (n - s - i)) (p.2 * (n - i)) = 0 := by omega
    have cm : f_X10_common 100 (w64 (p.1 * (n - s - i))) (w64 (p.2 * (n - i))) = some (w64 (Nat.gcd (p.1 * (n - s - i)) (p.2 * (n - i)))) := by
      unfold f_X10_common
      exact cm_l 40 _ _ 100 (by omega) (by omega) (by omega) (by omega)
    rw [lp_s, f_X10_finds_B50]
    rw [n32_sub hs, show (0 : Int32) = n32 0 from rfl, tr]
    simp -implicitDefEqProofs (disch := omega) only [gP_p, gP_t, bnd_s, bnd2_s, ltt_s, jn_s, n32_nat, n32_le, n32_lt, n32_eq, n32_add, n32_sub, n32_dec, n32_mul, n32_div, n32_irm, n32_lit, n32_oN, n32_ix, n32_m1, n32_m2, neg_le0, neg_lt0, neg_lt1, neg_le1, n32_min, n32_max, if_true, if_false, Nat.one_ne_zero, gd_some, true_or, or_true, false_or, or_false, e, w64_n32, w64_mul, cm, w64_0, w64_eq, gz, w64_div, not_false_eq_true]
    exact nx
theorem op_finds {k : Nat} (hk : k < 512) : ∀ (h : HP) (a1 a2 a3 : Int32), Inv k h → ∃ (v : Int32) (h1 h2 : HP), f_X9_finds 100 h 0 a1 a2 a3 = some (v, h1) ∧ f_X10_finds 100 h1 188 a1 a2 a3 = some (v, h2) ∧ Inv (k + 1) h2 := by
  intro h x1 x2 x3 I
  by_cases q1 : 1 ≤ x1.toInt ∧ x1.toInt ≤ 30
  · obtain ⟨n, hn1, hn2, rfl⟩ := n32_of2 (lo := 1) (hi := 30) q1.1 q1.2
    have w1 : f_X9_within (n32 n) (n32 1) (n32 30) = some (n32 1) := within_y q1
    have m1 : f_X10_in (n32 n).toInt64 1 30 = some (n32 1) := in_y rfl rfl q1
    have ei : (n32 n).toInt64.toInt = (n : Int) := by rw [Int32.toInt_toInt64, n32_int (by omega)]
    by_cases q2 : 0 ≤ x2.toInt ∧ x2.toInt ≤ (n : Int)
    · obtain ⟨s', -, hs2, rfl⟩ := n32_of2 (lo := 0) (hi := n) q2.1 q2.2
      have w2 : f_X9_within (n32 s') (n32 0) (n32 n) = some (n32 1) := within_y (by rw [n32_int (show n < 2147483648 by omega)]; exact q2)
      have m2 : f_X10_in (n32 s').toInt64 0 (n32 n).toInt64 = some (n32 1) := in_y rfl ei q2
      by_cases q3 : 0 ≤ x3.toInt ∧ x3.toInt ≤ (n : Int)
      · obtain ⟨kk, -, hk2, rfl⟩ := n32_of2 (lo := 0) (hi := n) q3.1 q3.2
        have w3 : f_X9_within (n32 kk) (n32 0) (n32 n) = some (n32 1) := within_y (by rw [n32_int (show n < 2147483648 by omega)]; exact q3)
        have m3 : f_X10_in (n32 kk).toInt64 0 (n32 n).toInt64 = some (n32 1) := in_y rfl ei q3
        obtain ⟨b1, b2, b3, b4, b5, b6, b7, b8⟩ := frn_b n (by omega) s' (by omega) kk (by omega)
        have c1 := chs_x (n := n) (k := kk) (by omega) (by omega)
        have c2 := chs_x (n := n - s') (k := kk) (by omega) (by omega)
        have eL : frL ((frn n s' kk).2 - (frn n s' kk).1) (frn n s' kk).2 = frL (chs n kk - chs (n - s') kk) (chs n kk) := by
          unfold frL
          rw [b7, b8]
        refine t_op (v := n32 0) (l := frL (chs n kk - chs (n - s') kk) (chs n kk)) (fX := fun h => f_X9_finds 100 h 0 (n32 n) (n32 s') (n32 kk)) (fM := fun h => f_X10_finds 100 h 188 (n32 n) (n32 s') (n32 kk)) I (fun b c s => ?_) (fun b c g s => ?_)
        · show gd (f_X9_finds 100 h 0 (n32 n) (n32 s') (n32 kk)) _
          unfold f_X9_finds
          rw [gP_p (by simp only [s.root])]
          simp -implicitDefEqProofs (disch := omega) only [gP_p, gP_t, bnd_s, bnd2_s, ltt_s, jn_s, n32_nat, n32_le, n32_lt, n32_eq, n32_add, n32_sub, n32_dec, n32_mul, n32_div, n32_irm, n32_lit, n32_oN, n32_ix, n32_m1, n32_m2, neg_le0, neg_lt0, neg_lt1, neg_le1, n32_min, n32_max, if_true, if_false, Nat.one_ne_zero, gd_some, true_or, or_true, false_or, or_false, w1, w2, w3, c1, c2, w64_sub, gd_bnd]
          exact gd_mono (tf_x s (by omega) b5 (by omega)) (fun h' z => ⟨trivial, z⟩)
        · have f0 : fr [50] g (setI g 188 0 (n32 0)) := (fr.rf _ _).sI rfl
          show gd (f_X10_finds 100 g 188 (n32 n) (n32 s') (n32 kk)) _
          unfold f_X10_finds
          rw [gP_p (by simp only [s.mod])]
          simp -implicitDefEqProofs (disch := omega) only [gP_p, gP_t, bnd_s, bnd2_s, ltt_s, jn_s, n32_nat, n32_le, n32_lt, n32_eq, n32_add, n32_sub, n32_dec, n32_mul, n32_div, n32_irm, n32_lit, n32_oN, n32_ix, n32_m1, n32_m2, neg_le0, neg_lt0, neg_lt1, neg_le1, n32_min, n32_max, if_true, if_false, Nat.one_ne_zero, gd_some, true_or, or_true, false_or, or_false, m1, m2, m3]
          refine fnd_m (s := s') hn2 hs2 hk2 ?_ kk 0 100 (by omega) (by omega)
          rw [← eL]
          simp -implicitDefEqProofs (disch := omega) only [w64_sub, gd_bnd]
          exact gd_mono (tf_m (s.fr f0) (by omega) b2 (by omega)) (fun h' z => gd_some.mpr ⟨rfl, z.1, (f0.mono (by decide)).tr (z.2.mono (by decide))⟩)
      · have w3 : f_X9_within x3 (n32 0) (n32 n) = some (n32 0) := within_n (by rw [n32_int (show n < 2147483648 by omega)]; exact q3)
        have m3 : f_X10_in x3.toInt64 0 (n32 n).toInt64 = some (n32 0) := in_n rfl ei q3
        refine n_op (v := -n32 1) (fX := fun h => f_X9_finds 100 h 0 (n32 n) (n32 s') x3) (fM := fun h => f_X10_finds 100 h 188 (n32 n) (n32 s') x3) I (fun b c s => ?_) (fun b c s => ?_)
        · show f_X9_finds 100 h 0 (n32 n) (n32 s') x3 = _
          unfold f_X9_finds
          rw [gP_p (by simp only [s.root])]
          simp -implicitDefEqProofs (disch := omega) only [gP_p, gP_t, bnd_s, bnd2_s, ltt_s, jn_s, n32_nat, n32_le, n32_lt, n32_eq, n32_add, n32_sub, n32_dec, n32_mul, n32_div, n32_irm, n32_lit, n32_oN, n32_ix, n32_m1, n32_m2, neg_le0, neg_lt0, neg_lt1, neg_le1, n32_min, n32_max, if_true, if_false, Nat.one_ne_zero, gd_some, true_or, or_true, false_or, or_false, w1, w2, w3]
        · show f_X10_finds 100 h 188 (n32 n) (n32 s') x3 = _
          unfold f_X10_finds
          rw [gP_p (by simp only [s.mod])]
          simp -implicitDefEqProofs (disch := omega) only [gP_p, gP_t, bnd_s, bnd2_s, ltt_s, jn_s, n32_nat, n32_le, n32_lt, n32_eq, n32_add, n32_sub, n32_dec, n32_mul, n32_div, n32_irm, n32_lit, n32_oN, n32_ix, n32_m1, n32_m2, neg_le0, neg_lt0, neg_lt1, neg_le1, n32_min, n32_max, if_true, if_false, Nat.one_ne_zero, gd_some, true_or, or_true, false_or, or_false, m1, m2, m3]
    · have w2 : f_X9_within x2 (n32 0) (n32 n) = some (n32 0) := within_n (by rw [n32_int (show n < 2147483648 by omega)]; exact q2)
      have m2 : f_X10_in x2.toInt64 0 (n32 n).toInt64 = some (n32 0) := in_n rfl ei q2
      refine n_op (v := -n32 1) (fX := fun h => f_X9_finds 100 h 0 (n32 n) x2 x3) (fM := fun h => f_X10_finds 100 h 188 (n32 n) x2 x3) I (fun b c s => ?_) (fun b c s => ?_)
      · show f_X9_finds 100 h 0 (n32 n) x2 x3 = _
        unfold f_X9_finds
        rw [gP_p (by simp only [s.root])]
        simp -implicitDefEqProofs (disch := omega) only [gP_p, gP_t, bnd_s, bnd2_s, ltt_s, jn_s, n32_nat, n32_le, n32_lt, n32_eq, n32_add, n32_sub, n32_dec, n32_mul, n32_div, n32_irm, n32_lit, n32_oN, n32_ix, n32_m1, n32_m2, neg_le0, neg_lt0, neg_lt1, neg_le1, n32_min, n32_max, if_true, if_false, Nat.one_ne_zero, gd_some, true_or, or_true, false_or, or_false, w1, w2]
      · show f_X10_finds 100 h 188 (n32 n) x2 x3 = _
        unfold f_X10_finds
        rw [gP_p (by simp only [s.mod])]
        simp -implicitDefEqProofs (disch := omega) only [gP_p, gP_t, bnd_s, bnd2_s, ltt_s, jn_s, n32_nat, n32_le, n32_lt, n32_eq, n32_add, n32_sub, n32_dec, n32_mul, n32_div, n32_irm, n32_lit, n32_oN, n32_ix, n32_m1, n32_m2, neg_le0, neg_lt0, neg_lt1, neg_le1, n32_min, n32_max, if_true, if_false, Nat.one_ne_zero, gd_some, true_or, or_true, false_or, or_false, m1, m2]
  · have w1 : f_X9_within x1 (n32 1) (n32 30) = some (n32 0) := within_n q1
    have m1 : f_X10_in x1.toInt64 1 30 = some (n32 0) := in_n rfl rfl q1
    refine n_op (v := -n32 1) (fX := fun h => f_X9_finds 100 h 0 x1 x2 x3) (fM := fun h => f_X10_finds 100 h 188 x1 x2 x3) I (fun b c s => ?_) (fun b c s => ?_)
    · show f_X9_finds 100 h 0 x1 x2 x3 = _
      unfold f_X9_finds
      rw [gP_p (by simp only [s.root])]
      simp -implicitDefEqProofs (disch := omega) only [gP_p, gP_t, bnd_s, bnd2_s, ltt_s, jn_s, n32_nat, n32_le, n32_lt, n32_eq, n32_add, n32_sub, n32_dec, n32_mul, n32_div, n32_irm, n32_lit, n32_oN, n32_ix, n32_m1, n32_m2, neg_le0, neg_lt0, neg_lt1, neg_le1, n32_min, n32_max, if_true, if_false, Nat.one_ne_zero, gd_some, true_or, or_true, false_or, or_false, w1]
    · show f_X10_finds 100 h 188 x1 x2 x3 = _
      unfold f_X10_finds
      rw [gP_p (by simp only [s.mod])]
      simp -implicitDefEqProofs (disch := omega) only [gP_p, gP_t, bnd_s, bnd2_s, ltt_s, jn_s, n32_nat, n32_le, n32_lt, n32_eq, n32_add, n32_sub, n32_dec, n32_mul, n32_div, n32_irm, n32_lit, n32_oN, n32_ix, n32_m1, n32_m2, neg_le0, neg_lt0, neg_lt1, neg_le1, n32_min, n32_max, if_true, if_false, Nat.one_ne_zero, gd_some, true_or, or_true, false_or, or_false, m1]
