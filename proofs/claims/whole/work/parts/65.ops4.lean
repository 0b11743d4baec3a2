/-! ===== grows, rises, closes ===== -/
theorem lp_200 {K : Type} {z : K} {b : K → K} : lp z b 200 = b (lp z b 199) := rfl
theorem lp_1000 {K : Type} {z : K} {b : K → K} : lp z b 1000 = b (lp z b 999) := rfl
def z32 (i : Int) : Int32 := Int32.ofInt i
theorem z32_int {i : Int} (h1 : -2147483648 ≤ i) (h2 : i < 2147483648) : (z32 i).toInt = i := Int32.toInt_ofInt_of_le (by omega) (by omega)
theorem z32_n (n : Nat) : z32 (n : Int) = n32 n := Int32.ofInt_eq_ofNat
theorem z32_d (a b : Nat) : n32 a - n32 b = z32 ((a : Int) - (b : Int)) := by
  unfold z32
  rw [Int32.ofInt_sub, Int32.ofInt_eq_ofNat, Int32.ofInt_eq_ofNat]
  rfl
theorem z32_le {i j : Int} (h1 : -2147483648 ≤ i) (h2 : i < 2147483648) (h3 : -2147483648 ≤ j) (h4 : j < 2147483648) : (z32 i ≤ z32 j) = (i ≤ j) := by rw [Int32.le_iff_toInt_le, z32_int h1 h2, z32_int h3 h4]
theorem z32_max {i j : Int} (h1 : -2147483648 ≤ i) (h2 : i < 2147483648) (h3 : -2147483648 ≤ j) (h4 : j < 2147483648) : f_J9_max_7cf53 (z32 i) (z32 j) = some (z32 (if j ≤ i then i else j)) := by
  unfold f_J9_max_7cf53
  simp only [Int32.lt_iff_toInt_lt, z32_int h1 h2, z32_int h3 h4]
  by_cases q : j ≤ i
  · rw [if_pos q, if_neg (by omega)]
  · rw [if_neg q, if_pos (by omega)]
noncomputable def gr (w : Wd) (q : Nat → Nat) (m : Nat) : Int := (wP w q m : Int) - (wP w (wr w) m : Int)
theorem gr_b {w : Wd} {q : Nat → Nat} {m : Nat} : -99999 ≤ gr w q m ∧ gr w q m ≤ 99999 := by
  have h1 := wP_le (w := w) (q := q) (m := m)
  have h2 := wP_le (w := w) (q := wr w) (m := m)
  unfold gr
  omega
theorem growth_x {m : Nat} {w : Wd} {h0 h : HP} {l : List Int64} {q : Nat → Nat} {D : Nat} (ok : wOK w) (t : XT w l h0 h q D) (hD : D ≤ 400000) (hm : m < wsz w) : gd (f_X9_growth 200 h 0 (n32 m)) (fun p => p.1 = z32 (gr w q m) ∧ XT w l h0 p.2 q D) := by
  unfold f_X9_growth
  simp -implicitDefEqProofs (disch := omega) only [t.1.1.root, gP_p, gP_t, bnd_s, bnd2_s, ltt_s, jn_s, n32_nat, n32_le, n32_lt, n32_eq, n32_add, n32_sub, n32_dec, n32_mul, n32_div, n32_irm, n32_lit, n32_oN, n32_ix, n32_m1, n32_m2, neg_le0, neg_lt0, neg_lt1, neg_le1, n32_min, n32_max, if_true, if_false, Nat.one_ne_zero, gd_some, gd_bnd2]
  refine gd_mono (x_price (by omega) ok t hD hm) ?_
  rintro ⟨u, h1⟩ ⟨e1, t1⟩
  have e1' : u = n32 (wP w q m) := e1
  subst e1'
  simp -implicitDefEqProofs (disch := omega) only [t1.1.1.root, gP_p, gP_t, bnd_s, bnd2_s, ltt_s, jn_s, n32_nat, n32_le, n32_lt, n32_eq, n32_add, n32_sub, n32_dec, n32_mul, n32_div, n32_irm, n32_lit, n32_oN, n32_ix, n32_m1, n32_m2, neg_le0, neg_lt0, neg_lt1, neg_le1, n32_min, n32_max, if_true, if_false, Nat.one_ne_zero, gd_some, gd_bnd2]
  refine gd_mono (x_nowT (by omega) ok t1 hm) ?_
  rintro ⟨u, h2⟩ ⟨e2, t2⟩
  have e2' : u = n32 (wP w (wr w) m) := e2
  subst e2'
  exact ⟨z32_d _ _, t2⟩
noncomputable def grM (w : Wd) (q : Nat → Nat) : Nat → Nat → Int → Nat → Int × Nat
  | 0, _, mo, ch => (mo, ch)
  | d + 1, i, mo, ch => if gr w q i ≤ mo then grM w q d (i + 1) mo ch else grM w q d (i + 1) (gr w q i) i
theorem grows_x {w : Wd} {h0 : HP} {l : List Int64} {q : Nat → Nat} {D : Nat} (ok : wOK w) (hD : D ≤ 400000) : ∀ (d i fuel : Nat) (h : HP) (mo : Int) (ch : Nat), i + d = wsz w → d < fuel → XT w l h0 h q D → -99999 ≤ mo → mo ≤ 99999 →
    gd (lp (fun _ _ _ _ => none) (f_X9_grows_B41 200 0 (fun (x41 : Int32) (x42 : Int32) (h43 : HP) => bnd (rK h43 0 1 6) (fun t45 => bnd (f_X6_tell h43 t45 (x42.toInt64)) (fun h50 => some (x41, h50))))) fuel (n32 ch) (z32 mo) (n32 i) h) (XA [(z32 (grM w q d i mo ch).1).toInt64] (n32 (grM w q d i mo ch).2) h0) := by
  have hz := ok.1
  intro d
  induction d with
  | zero =>
    intro i fuel h mo ch hn hf t hmo hmo2
    obtain ⟨k, rfl⟩ : ∃ k, fuel = k + 1 := ⟨fuel - 1, by omega⟩
    have e : wsz w ≤ i := by omega
    have z := t.1.2.1
    simp -implicitDefEqProofs (disch := omega) only [lp_s, f_X9_grows_B41, gP_p, gP_t, bnd_s, bnd2_s, ltt_s, jn_s, n32_nat, n32_le, n32_lt, n32_eq, n32_add, n32_sub, n32_dec, n32_mul, n32_div, n32_irm, n32_lit, n32_oN, n32_ix, n32_m1, n32_m2, neg_le0, neg_lt0, neg_lt1, neg_le1, n32_min, n32_max, if_true, if_false, Nat.one_ne_zero, gd_some, z, e, t.1.1.root, gd_bnd]
    refine gd_mono (x_tell1 t) ?_
    rintro h3 ⟨r3, f3⟩
    exact ⟨rfl, r3, f3⟩
  | succ d ih =>
    intro i fuel h mo ch hi hf t hmo hmo2
    obtain ⟨k, rfl⟩ : ∃ k, fuel = k + 1 := ⟨fuel - 1, by omega⟩
    have e : ¬ wsz w ≤ i := by omega
    have z := t.1.2.1
    have gb := gr_b (w := w) (q := q) (m := i)
    simp -implicitDefEqProofs (disch := omega) only [lp_s, f_X9_grows_B41, gP_p, gP_t, bnd_s, bnd2_s, ltt_s, jn_s, n32_nat, n32_le, n32_lt, n32_eq, n32_add, n32_sub, n32_dec, n32_mul, n32_div, n32_irm, n32_lit, n32_oN, n32_ix, n32_m1, n32_m2, neg_le0, neg_lt0, neg_lt1, neg_le1, n32_min, n32_max, if_true, if_false, Nat.one_ne_zero, gd_some, z, e, t.1.1.root, gd_bnd2]
    refine gd_mono (growth_x ok t hD (by omega)) ?_
    rintro ⟨u2, h2⟩ ⟨e2, t2⟩
    have e2' : u2 = z32 (gr w q i) := e2
    subst e2'
    unfold grM
    by_cases q1 : gr w q i ≤ mo
    · rw [if_pos q1]
      simp -implicitDefEqProofs (disch := omega) only [gP_p, gP_t, bnd_s, bnd2_s, ltt_s, jn_s, n32_nat, n32_le, n32_lt, n32_eq, n32_add, n32_sub, n32_dec, n32_mul, n32_div, n32_irm, n32_lit, n32_oN, n32_ix, n32_m1, n32_m2, neg_le0, neg_lt0, neg_lt1, neg_le1, n32_min, n32_max, if_true, if_false, Nat.one_ne_zero, gd_some, z32_le, q1]
      exact ih (i + 1) k h2 mo ch (by omega) (by omega) t2 hmo hmo2
    · rw [if_neg q1]
      simp -implicitDefEqProofs (disch := omega) only [gP_p, gP_t, bnd_s, bnd2_s, ltt_s, jn_s, n32_nat, n32_le, n32_lt, n32_eq, n32_add, n32_sub, n32_dec, n32_mul, n32_div, n32_irm, n32_lit, n32_oN, n32_ix, n32_m1, n32_m2, neg_le0, neg_lt0, neg_lt1, neg_le1, n32_min, n32_max, if_true, if_false, Nat.one_ne_zero, gd_some, z32_le, q1, gd_bnd2]
      refine gd_mono (growth_x ok t2 hD (by omega)) ?_
      rintro ⟨u3, h3⟩ ⟨e3, t3⟩
      have e3' : u3 = z32 (gr w q i) := e3
      subst e3'
      exact ih (i + 1) k h3 (gr w q i) i (by omega) (by omega) t3 gb.1 gb.2
theorem grows_m {w : Wd} {h0 : HP} {l : List Int64} {q : Nat → Nat} {D : Nat} (ok : wOK w) (hD : D ≤ 400000) : ∀ (d i fuel : Nat) (h : HP) (mo : Int) (ch : Nat), i + d = wsz w → d < fuel → MT w l h0 h q D → -2000000000 ≤ mo → mo ≤ 99999 → ch ≤ 10 →
    gd (lp (fun _ _ _ _ => none) (f_X10_grows_B42 200 188 (fun (x52 : Int32) (x53 : Int32) (h54 : HP) => (if x52 < 0 then some (x52, h54) else lt_ (setI h54 188 1 0) (fun h57 => bnd (f_X10_enters h57 188 (x53.toInt64)) (fun h60 => some (x52, h60)))))) fuel (n32 ch) (z32 mo) (n32 i) h) (MA [(z32 (grM w q d i mo ch).1).toInt64] (n32 (grM w q d i mo ch).2) h0) := by
  have hz := ok.1
  intro d
  induction d with
  | zero =>
    intro i fuel h mo ch hn hf t hmo hmo2 hch
    obtain ⟨k, rfl⟩ : ∃ k, fuel = k + 1 := ⟨fuel - 1, by omega⟩
    have e : wsz w ≤ i := by omega
    have z := t.1.2.1
    have e3 : ¬ ch < 0 := by omega
    simp -implicitDefEqProofs (disch := omega) only [lp_s, f_X10_grows_B42, gP_p, gP_t, bnd_s, bnd2_s, ltt_s, jn_s, n32_nat, n32_le, n32_lt, n32_eq, n32_add, n32_sub, n32_dec, n32_mul, n32_div, n32_irm, n32_lit, n32_oN, n32_ix, n32_m1, n32_m2, neg_le0, neg_lt0, neg_lt1, neg_le1, n32_min, n32_max, if_true, if_false, Nat.one_ne_zero, gd_some, z, e, e3, t.1.1.mod, gd_bnd]
    refine gd_mono (m_ent (m_told0 t) (by show 0 < 6; omega)) ?_
    intro h3 t3
    exact ⟨rfl, t3.2.1, t3.2.2.2.1⟩
  | succ d ih =>
    intro i fuel h mo ch hi hf t hmo hmo2 hch
    obtain ⟨k, rfl⟩ : ∃ k, fuel = k + 1 := ⟨fuel - 1, by omega⟩
    have e : ¬ wsz w ≤ i := by omega
    have z := t.1.2.1
    have gb := gr_b (w := w) (q := q) (m := i)
    have goal := fun h1 mo ch t1 a b c => ih (i + 1) k h1 mo ch (by omega) (by omega) t1 a b c
    simp -implicitDefEqProofs (disch := omega) only [gP_p, gP_t, bnd_s, bnd2_s, ltt_s, jn_s, n32_nat, n32_le, n32_lt, n32_eq, n32_add, n32_sub, n32_dec, n32_mul, n32_div, n32_irm, n32_lit, n32_oN, n32_ix, n32_m1, n32_m2, neg_le0, neg_lt0, neg_lt1, neg_le1, n32_min, n32_max, if_true, if_false, Nat.one_ne_zero, gd_some] at goal
    simp -implicitDefEqProofs (disch := omega) only [lp_s, f_X10_grows_B42, gP_p, gP_t, bnd_s, bnd2_s, ltt_s, jn_s, n32_nat, n32_le, n32_lt, n32_eq, n32_add, n32_sub, n32_dec, n32_mul, n32_div, n32_irm, n32_lit, n32_oN, n32_ix, n32_m1, n32_m2, neg_le0, neg_lt0, neg_lt1, neg_le1, n32_min, n32_max, if_true, if_false, Nat.one_ne_zero, gd_some, z, e, t.1.1.mod, gd_bnd2]
    refine gd_mono (m_price (by omega) ok t hD (by omega)) ?_
    rintro ⟨u2, h2⟩ ⟨e2, t2⟩
    have e2' : u2 = n32 (wP w q i) := e2
    subst e2'
    simp -implicitDefEqProofs (disch := omega) only [gP_p, gP_t, bnd_s, bnd2_s, ltt_s, jn_s, n32_nat, n32_le, n32_lt, n32_eq, n32_add, n32_sub, n32_dec, n32_mul, n32_div, n32_irm, n32_lit, n32_oN, n32_ix, n32_m1, n32_m2, neg_le0, neg_lt0, neg_lt1, neg_le1, n32_min, n32_max, if_true, if_false, Nat.one_ne_zero, gd_some, t2.1.1.mod, gd_bnd2]
    refine gd_mono (m_nowT (by omega) ok t2 (by omega)) ?_
    rintro ⟨u3, h3⟩ ⟨e3, t3⟩
    have e3' : u3 = n32 (wP w (wr w) i) := e3
    subst e3'
    have ed : n32 (wP w q i) - n32 (wP w (wr w) i) = z32 (gr w q i) := z32_d _ _
    unfold grM
    by_cases q1 : gr w q i ≤ mo
    · rw [if_pos q1]
      simp -implicitDefEqProofs (disch := omega) only [ltt_s, jn_s, ed, z32_le, z32_max, q1, if_true, bnd_s, gP_p, gP_t, bnd_s, bnd2_s, ltt_s, jn_s, n32_nat, n32_le, n32_lt, n32_eq, n32_add, n32_sub, n32_dec, n32_mul, n32_div, n32_irm, n32_lit, n32_oN, n32_ix, n32_m1, n32_m2, neg_le0, neg_lt0, neg_lt1, neg_le1, n32_min, n32_max, if_true, if_false, Nat.one_ne_zero, gd_some]
      exact goal h3 mo ch t3 hmo hmo2 hch
    · rw [if_neg q1]
      simp -implicitDefEqProofs (disch := omega) only [ltt_s, jn_s, ed, z32_le, z32_max, q1, if_false, bnd_s, gP_p, gP_t, bnd_s, bnd2_s, ltt_s, jn_s, n32_nat, n32_le, n32_lt, n32_eq, n32_add, n32_sub, n32_dec, n32_mul, n32_div, n32_irm, n32_lit, n32_oN, n32_ix, n32_m1, n32_m2, neg_le0, neg_lt0, neg_lt1, neg_le1, n32_min, n32_max, if_true, if_false, Nat.one_ne_zero, gd_some]
      exact goal h3 (gr w q i) i t3 (by omega) gb.2 (by omega)

theorem op_grows {k : Nat} (hk : k < 512) : ∀ (h : HP) (a1 : Int32), Inv k h → ∃ (v : Int32) (h1 h2 : HP), f_X9_grows 200 h 0 a1 = some (v, h1) ∧ f_X10_grows 200 h1 188 a1 = some (v, h2) ∧ Inv (k + 1) h2 := fun h a1 I => q_op hk (fX := fun h => f_X9_grows 200 h 0 a1) (fM := fun h => f_X10_grows 200 h 188 a1) (fun w l ok => by
  have hB := ok.2.2.2.2.2.2
  have hz := ok.1
  by_cases c1 : 1 ≤ a1.toInt ∧ a1.toInt ≤ 60
  · obtain ⟨n, ln, hn, rfl⟩ := n32_of2 (lo := 1) (hi := 60) c1.1 c1.2
    have xn : f_X9_within (n32 n) (n32 1) (n32 60) = some (n32 1) := within_y c1
    have mn := in_y (x := n32 n) (lo := 1) (hi := 60) (a := 1) (b := 60) rfl rfl c1
    by_cases c9 : wsz w = 0
    · refine ⟨-n32 2, l, fun h x rx => ?_, fun h x rm => ?_⟩
      · have z := x.2.1
        unfold f_X9_grows
        simp -implicitDefEqProofs (disch := omega) only [x.1.root, gP_p, gP_t, bnd_s, bnd2_s, ltt_s, jn_s, n32_nat, n32_le, n32_lt, n32_eq, n32_add, n32_sub, n32_dec, n32_mul, n32_div, n32_irm, n32_lit, n32_oN, n32_ix, n32_m1, n32_m2, neg_le0, neg_lt0, neg_lt1, neg_le1, n32_min, n32_max, if_true, if_false, Nat.one_ne_zero, gd_some, xn, z, c9]
        exact fin_x rx (fr.rf _ _)
      · obtain ⟨v1, rm1, f1⟩ := thr0 x rm
        unfold f_X10_grows
        simp -implicitDefEqProofs (disch := omega) only [x.1.mod, gP_p, gP_t, bnd_s, bnd2_s, ltt_s, jn_s, n32_nat, n32_le, n32_lt, n32_eq, n32_add, n32_sub, n32_dec, n32_mul, n32_div, n32_irm, n32_lit, n32_oN, n32_ix, n32_m1, n32_m2, neg_le0, neg_lt0, neg_lt1, neg_le1, n32_min, n32_max, if_true, if_false, Nat.one_ne_zero, gd_some]
        simp -implicitDefEqProofs (disch := omega) only [v1.1.mod, gP_p, gP_t, bnd_s, bnd2_s, ltt_s, jn_s, n32_nat, n32_le, n32_lt, n32_eq, n32_add, n32_sub, n32_dec, n32_mul, n32_div, n32_irm, n32_lit, n32_oN, n32_ix, n32_m1, n32_m2, neg_le0, neg_lt0, neg_lt1, neg_le1, n32_min, n32_max, if_true, if_false, Nat.one_ne_zero, gd_some, mn, gd_bnd]
        refine gd_mono (m_copies (by omega) ok v1 rm1 f1) ?_
        intro h2 t2
        simp -implicitDefEqProofs (disch := omega) only [t2.1.1.mod, gP_p, gP_t, bnd_s, bnd2_s, ltt_s, jn_s, n32_nat, n32_le, n32_lt, n32_eq, n32_add, n32_sub, n32_dec, n32_mul, n32_div, n32_irm, n32_lit, n32_oN, n32_ix, n32_m1, n32_m2, neg_le0, neg_lt0, neg_lt1, neg_le1, n32_min, n32_max, if_true, if_false, Nat.one_ne_zero, gd_some, gd_bnd]
        refine gd_mono (m_goes (by omega) (by omega) (by omega) ok t2 (by omega)) ?_
        intro h3 t3
        have z := t3.1.2.1
        simp -implicitDefEqProofs (disch := omega) only [lp_200, f_X10_grows_B42, gP_p, gP_t, bnd_s, bnd2_s, ltt_s, jn_s, n32_nat, n32_le, n32_lt, n32_eq, n32_add, n32_sub, n32_dec, n32_mul, n32_div, n32_irm, n32_lit, n32_oN, n32_ix, n32_m1, n32_m2, neg_le0, neg_lt0, neg_lt1, neg_le1, n32_min, n32_max, if_true, if_false, Nat.one_ne_zero, gd_some, z, c9, Nat.le_refl]
        exact gd_some.mpr (fin_m t3.2.1 t3.2.2.2.1)
    · refine ⟨n32 (grM w (wMs w n (wr w)) (wsz w - 1) 1 (gr w (wMs w n (wr w)) 0) 0).2, [(z32 (grM w (wMs w n (wr w)) (wsz w - 1) 1 (gr w (wMs w n (wr w)) 0) 0).1).toInt64], fun h x rx => ?_, fun h x rm => ?_⟩
      · have z := x.2.1
        have gb := gr_b (w := w) (q := wMs w n (wr w)) (m := 0)
        unfold f_X9_grows
        simp -implicitDefEqProofs (disch := omega) only [x.1.root, gP_p, gP_t, bnd_s, bnd2_s, ltt_s, jn_s, n32_nat, n32_le, n32_lt, n32_eq, n32_add, n32_sub, n32_dec, n32_mul, n32_div, n32_irm, n32_lit, n32_oN, n32_ix, n32_m1, n32_m2, neg_le0, neg_lt0, neg_lt1, neg_le1, n32_min, n32_max, if_true, if_false, Nat.one_ne_zero, gd_some, xn, z, c9, gd_bnd]
        refine gd_mono (x_try (by omega) (by omega) (by omega) ok x rx (fr.rf _ _)) ?_
        intro h2 t2
        simp -implicitDefEqProofs (disch := omega) only [gd_bnd2]
        refine gd_mono (growth_x ok t2 (by omega) (by omega)) ?_
        rintro ⟨u, h3⟩ ⟨e3, t3⟩
        have e3' : u = z32 (gr w (wMs w n (wr w)) 0) := e3
        subst e3'
        exact grows_x ok (by omega) (wsz w - 1) 1 200 h3 _ 0 (by omega) (by omega) t3 gb.1 gb.2
      · obtain ⟨v1, rm1, f1⟩ := thr0 x rm
        have gb := gr_b (w := w) (q := wMs w n (wr w)) (m := 0)
        unfold f_X10_grows
        simp -implicitDefEqProofs (disch := omega) only [x.1.mod, gP_p, gP_t, bnd_s, bnd2_s, ltt_s, jn_s, n32_nat, n32_le, n32_lt, n32_eq, n32_add, n32_sub, n32_dec, n32_mul, n32_div, n32_irm, n32_lit, n32_oN, n32_ix, n32_m1, n32_m2, neg_le0, neg_lt0, neg_lt1, neg_le1, n32_min, n32_max, if_true, if_false, Nat.one_ne_zero, gd_some]
        simp -implicitDefEqProofs (disch := omega) only [v1.1.mod, gP_p, gP_t, bnd_s, bnd2_s, ltt_s, jn_s, n32_nat, n32_le, n32_lt, n32_eq, n32_add, n32_sub, n32_dec, n32_mul, n32_div, n32_irm, n32_lit, n32_oN, n32_ix, n32_m1, n32_m2, neg_le0, neg_lt0, neg_lt1, neg_le1, n32_min, n32_max, if_true, if_false, Nat.one_ne_zero, gd_some, mn, gd_bnd]
        refine gd_mono (m_copies (by omega) ok v1 rm1 f1) ?_
        intro h2 t2
        simp -implicitDefEqProofs (disch := omega) only [t2.1.1.mod, gP_p, gP_t, bnd_s, bnd2_s, ltt_s, jn_s, n32_nat, n32_le, n32_lt, n32_eq, n32_add, n32_sub, n32_dec, n32_mul, n32_div, n32_irm, n32_lit, n32_oN, n32_ix, n32_m1, n32_m2, neg_le0, neg_lt0, neg_lt1, neg_le1, n32_min, n32_max, if_true, if_false, Nat.one_ne_zero, gd_some, gd_bnd]
        refine gd_mono (m_goes (by omega) (by omega) (by omega) ok t2 (by omega)) ?_
        intro h3 t3
        have z := t3.1.2.1
        have goal := fun h1 mo ch t1 a b c => grows_m (h0 := h) (l := l) (q := wMs w n (wr w)) (D := wB w + n) ok (by omega) (wsz w - 1) 1 199 h1 mo ch (by omega) (by omega) t1 a b c
        simp -implicitDefEqProofs (disch := omega) only [gP_p, gP_t, bnd_s, bnd2_s, ltt_s, jn_s, n32_nat, n32_le, n32_lt, n32_eq, n32_add, n32_sub, n32_dec, n32_mul, n32_div, n32_irm, n32_lit, n32_oN, n32_ix, n32_m1, n32_m2, neg_le0, neg_lt0, neg_lt1, neg_le1, n32_min, n32_max, if_true, if_false, Nat.one_ne_zero, gd_some] at goal
        simp -implicitDefEqProofs (disch := omega) only [lp_200, f_X10_grows_B42, gP_p, gP_t, bnd_s, bnd2_s, ltt_s, jn_s, n32_nat, n32_le, n32_lt, n32_eq, n32_add, n32_sub, n32_dec, n32_mul, n32_div, n32_irm, n32_lit, n32_oN, n32_ix, n32_m1, n32_m2, neg_le0, neg_lt0, neg_lt1, neg_le1, n32_min, n32_max, if_true, if_false, Nat.one_ne_zero, gd_some, z, c9, Nat.le_zero_eq, t3.1.1.mod, gd_bnd2]
        refine gd_mono (m_price (by omega) ok t3 (by omega) (by omega)) ?_
        rintro ⟨u4, h4⟩ ⟨e4, t4⟩
        have e4' : u4 = n32 (wP w (wMs w n (wr w)) 0) := e4
        subst e4'
        simp -implicitDefEqProofs (disch := omega) only [gP_p, gP_t, bnd_s, bnd2_s, ltt_s, jn_s, n32_nat, n32_le, n32_lt, n32_eq, n32_add, n32_sub, n32_dec, n32_mul, n32_div, n32_irm, n32_lit, n32_oN, n32_ix, n32_m1, n32_m2, neg_le0, neg_lt0, neg_lt1, neg_le1, n32_min, n32_max, if_true, if_false, Nat.one_ne_zero, gd_some, t4.1.1.mod, gd_bnd2]
        refine gd_mono (m_nowT (by omega) ok t4 (by omega)) ?_
        rintro ⟨u5, h5⟩ ⟨e5, t5⟩
        have e5' : u5 = n32 (wP w (wr w) 0) := e5
        subst e5'
        have ed : n32 (wP w (wMs w n (wr w)) 0) - n32 (wP w (wr w) 0) = z32 (gr w (wMs w n (wr w)) 0) := z32_d _ _
        have em : -n32 2000000000 = z32 (-2000000000) := by decide
        have q1 : ¬ gr w (wMs w n (wr w)) 0 ≤ -2000000000 := by omega
        simp -implicitDefEqProofs (disch := omega) only [ltt_s, jn_s, ed, em, z32_le, z32_max, q1, if_false, bnd_s, gP_p, gP_t, bnd_s, bnd2_s, ltt_s, jn_s, n32_nat, n32_le, n32_lt, n32_eq, n32_add, n32_sub, n32_dec, n32_mul, n32_div, n32_irm, n32_lit, n32_oN, n32_ix, n32_m1, n32_m2, neg_le0, neg_lt0, neg_lt1, neg_le1, n32_min, n32_max, if_true, if_false, Nat.one_ne_zero, gd_some]
        exact goal h5 _ 0 t5 (by omega) gb.2 (by omega)
  · have xn : f_X9_within a1 (n32 1) (n32 60) = some (n32 0) := within_n c1
    have mn := in_n (x := a1) (lo := 1) (hi := 60) (a := 1) (b := 60) rfl rfl c1
    refine ⟨-n32 1, l, fun h x rx => ?_, fun h x rm => ?_⟩
    · unfold f_X9_grows
      simp -implicitDefEqProofs (disch := omega) only [x.1.root, gP_p, gP_t, bnd_s, bnd2_s, ltt_s, jn_s, n32_nat, n32_le, n32_lt, n32_eq, n32_add, n32_sub, n32_dec, n32_mul, n32_div, n32_irm, n32_lit, n32_oN, n32_ix, n32_m1, n32_m2, neg_le0, neg_lt0, neg_lt1, neg_le1, n32_min, n32_max, if_true, if_false, Nat.one_ne_zero, gd_some, xn]
      exact fin_x rx (fr.rf _ _)
    · obtain ⟨v1, rm1, f1⟩ := thr0 x rm
      unfold f_X10_grows
      simp -implicitDefEqProofs (disch := omega) only [x.1.mod, gP_p, gP_t, bnd_s, bnd2_s, ltt_s, jn_s, n32_nat, n32_le, n32_lt, n32_eq, n32_add, n32_sub, n32_dec, n32_mul, n32_div, n32_irm, n32_lit, n32_oN, n32_ix, n32_m1, n32_m2, neg_le0, neg_lt0, neg_lt1, neg_le1, n32_min, n32_max, if_true, if_false, Nat.one_ne_zero, gd_some]
      simp -implicitDefEqProofs (disch := omega) only [gP_p, gP_t, bnd_s, bnd2_s, ltt_s, jn_s, n32_nat, n32_le, n32_lt, n32_eq, n32_add, n32_sub, n32_dec, n32_mul, n32_div, n32_irm, n32_lit, n32_oN, n32_ix, n32_m1, n32_m2, neg_le0, neg_lt0, neg_lt1, neg_le1, n32_min, n32_max, if_true, if_false, Nat.one_ne_zero, gd_some, mn]
      exact fin_m rm1 f1) h I
