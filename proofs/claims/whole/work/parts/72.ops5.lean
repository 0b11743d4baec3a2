/-! ===== rises, strings, counts, bearers ===== -/
noncomputable def riM (w : Wd) (q : Nat → Nat) : Nat → Nat → Int32 → Int32 → Int32 × Int32
  | 0, _, a, b => (a, b)
  | d + 1, i, a, b => riM w q d (i + 1) (if wP w q i ≤ wP w (wr w) i then a else a ||| shl (n32 1) (n32 i)) (if wP w (wr w) i ≤ wP w q i then b else b ||| shl (n32 1) (n32 i))
theorem gr_le0 {w : Wd} {q : Nat → Nat} {m : Nat} : (z32 (gr w q m) ≤ n32 0) = (wP w q m ≤ wP w (wr w) m) := by
  have h := gr_b (w := w) (q := q) (m := m)
  rw [show n32 0 = z32 0 from rfl, z32_le (by omega) (by omega) (by omega) (by omega)]
  unfold gr
  exact propext ⟨fun h => by omega, fun h => by omega⟩
theorem gr_ge0 {w : Wd} {q : Nat → Nat} {m : Nat} : (n32 0 ≤ z32 (gr w q m)) = (wP w (wr w) m ≤ wP w q m) := by
  have h := gr_b (w := w) (q := q) (m := m)
  rw [show n32 0 = z32 0 from rfl, z32_le (by omega) (by omega) (by omega) (by omega)]
  unfold gr
  exact propext ⟨fun h => by omega, fun h => by omega⟩
theorem or_0 {a : Int32} : a ||| n32 0 = a := Int32.or_zero
theorem rises_x {w : Wd} {h0 : HP} {l : List Int64} {q : Nat → Nat} {D : Nat} (ok : wOK w) (hD : D ≤ 400000) : ∀ (d i fuel : Nat) (h : HP) (a b : Int32), i + d = wsz w → d < fuel → XT w l h0 h q D →
    gd (lp (fun _ _ _ _ => none) (f_X9_rises_B24 200 0 (fun (x32 : Int32) (x33 : Int32) (h34 : HP) => bnd (rK h34 0 1 6) (fun t36 => bnd (f_X6_tell h34 t36 (x33.toInt64)) (fun h41 => some (x32, h41))))) fuel a b (n32 i) h) (XA [(riM w q d i a b).2.toInt64] (riM w q d i a b).1 h0) := by
  have hz := ok.1
  intro d
  induction d with
  | zero =>
    intro i fuel h a b hn hf t
    obtain ⟨k, rfl⟩ : ∃ k, fuel = k + 1 := ⟨fuel - 1, by omega⟩
    have e : wsz w ≤ i := by omega
    have z := t.1.2.1
    simp -implicitDefEqProofs (disch := omega) only [lp_s, f_X9_rises_B24, gP_p, gP_t, bnd_s, bnd2_s, ltt_s, jn_s, n32_nat, n32_le, n32_lt, n32_eq, n32_add, n32_sub, n32_dec, n32_mul, n32_div, n32_irm, n32_lit, n32_oN, n32_ix, n32_m1, n32_m2, neg_le0, neg_lt0, neg_lt1, neg_le1, n32_min, n32_max, if_true, if_false, Nat.one_ne_zero, gd_some, true_or, or_true, false_or, or_false, z, e, t.1.1.root, gd_bnd]
    refine gd_mono (x_tell1 t) ?_
    rintro h3 ⟨r3, f3⟩
    exact ⟨rfl, r3, f3⟩
  | succ d ih =>
    intro i fuel h a b hi hf t
    obtain ⟨k, rfl⟩ : ∃ k, fuel = k + 1 := ⟨fuel - 1, by omega⟩
    have e : ¬ wsz w ≤ i := by omega
    have z := t.1.2.1
    simp -implicitDefEqProofs (disch := omega) only [lp_s, f_X9_rises_B24, gP_p, gP_t, bnd_s, bnd2_s, ltt_s, jn_s, n32_nat, n32_le, n32_lt, n32_eq, n32_add, n32_sub, n32_dec, n32_mul, n32_div, n32_irm, n32_lit, n32_oN, n32_ix, n32_m1, n32_m2, neg_le0, neg_lt0, neg_lt1, neg_le1, n32_min, n32_max, if_true, if_false, Nat.one_ne_zero, gd_some, true_or, or_true, false_or, or_false, z, e, t.1.1.root, gd_bnd2]
    refine gd_mono (growth_x ok t hD (by omega)) ?_
    rintro ⟨u2, h2⟩ ⟨e2, t2⟩
    have e2' : u2 = z32 (gr w q i) := e2
    subst e2'
    unfold riM
    have goal := ih (i + 1) k h2 (if wP w q i ≤ wP w (wr w) i then a else a ||| shl (n32 1) (n32 i)) (if wP w (wr w) i ≤ wP w q i then b else b ||| shl (n32 1) (n32 i)) (by omega) (by omega) t2
    by_cases q1 : wP w q i ≤ wP w (wr w) i
    · by_cases q2 : wP w (wr w) i ≤ wP w q i
      · rw [if_pos q1, if_pos q2] at goal ⊢
        simp -implicitDefEqProofs (disch := omega) only [gP_p, gP_t, bnd_s, bnd2_s, ltt_s, jn_s, n32_nat, n32_le, n32_lt, n32_eq, n32_add, n32_sub, n32_dec, n32_mul, n32_div, n32_irm, n32_lit, n32_oN, n32_ix, n32_m1, n32_m2, neg_le0, neg_lt0, neg_lt1, neg_le1, n32_min, n32_max, if_true, if_false, Nat.one_ne_zero, gd_some, true_or, or_true, false_or, or_false, gr_le0, gr_ge0, q1, q2]
        exact goal
      · rw [if_pos q1, if_neg q2] at goal ⊢
        simp -implicitDefEqProofs (disch := omega) only [gP_p, gP_t, bnd_s, bnd2_s, ltt_s, jn_s, n32_nat, n32_le, n32_lt, n32_eq, n32_add, n32_sub, n32_dec, n32_mul, n32_div, n32_irm, n32_lit, n32_oN, n32_ix, n32_m1, n32_m2, neg_le0, neg_lt0, neg_lt1, neg_le1, n32_min, n32_max, if_true, if_false, Nat.one_ne_zero, gd_some, true_or, or_true, false_or, or_false, gr_le0, gr_ge0, q1, q2]
        exact goal
    · by_cases q2 : wP w (wr w) i ≤ wP w q i
      · rw [if_neg q1, if_pos q2] at goal ⊢
        simp -implicitDefEqProofs (disch := omega) only [gP_p, gP_t, bnd_s, bnd2_s, ltt_s, jn_s, n32_nat, n32_le, n32_lt, n32_eq, n32_add, n32_sub, n32_dec, n32_mul, n32_div, n32_irm, n32_lit, n32_oN, n32_ix, n32_m1, n32_m2, neg_le0, neg_lt0, neg_lt1, neg_le1, n32_min, n32_max, if_true, if_false, Nat.one_ne_zero, gd_some, true_or, or_true, false_or, or_false, gr_le0, gr_ge0, q1, q2]
        exact goal
      · exact absurd (Nat.le_total _ _) (fun z => z.elim q1 q2)
theorem rises_m {w : Wd} {h0 : HP} {l : List Int64} {q : Nat → Nat} {D : Nat} (ok : wOK w) (hD : D ≤ 400000) : ∀ (d i fuel : Nat) (h : HP) (a b : Int32), i + d = wsz w → d < fuel → MT w l h0 h q D →
    gd (lp (fun _ _ _ _ => none) (f_X10_rises_B39 200 188 (fun (x76 : Int32) (x77 : Int32) (h78 : HP) => lt_ (setI h78 188 1 0) (fun h80 => bnd (f_X10_enters h80 188 (x77.toInt64)) (fun h83 => some (x76, h83))))) fuel a b (n32 i) h) (MA [(riM w q d i a b).2.toInt64] (riM w q d i a b).1 h0) := by
  have hz := ok.1
  intro d
  induction d with
  | zero =>
    intro i fuel h a b hn hf t
    obtain ⟨k, rfl⟩ : ∃ k, fuel = k + 1 := ⟨fuel - 1, by omega⟩
    have e : wsz w ≤ i := by omega
    have z := t.1.2.1
    simp -implicitDefEqProofs (disch := omega) only [lp_s, f_X10_rises_B39, gP_p, gP_t, bnd_s, bnd2_s, ltt_s, jn_s, n32_nat, n32_le, n32_lt, n32_eq, n32_add, n32_sub, n32_dec, n32_mul, n32_div, n32_irm, n32_lit, n32_oN, n32_ix, n32_m1, n32_m2, neg_le0, neg_lt0, neg_lt1, neg_le1, n32_min, n32_max, if_true, if_false, Nat.one_ne_zero, gd_some, true_or, or_true, false_or, or_false, z, e, t.1.1.mod, gd_bnd]
    refine gd_mono (m_ent (m_told0 t) (by show 0 < 6; omega)) ?_
    intro h3 t3
    exact ⟨rfl, t3.2.1, t3.2.2.2.1⟩
  | succ d ih =>
    intro i fuel h a b hi hf t
    obtain ⟨k, rfl⟩ : ∃ k, fuel = k + 1 := ⟨fuel - 1, by omega⟩
    have e : ¬ wsz w ≤ i := by omega
    have z := t.1.2.1
    have goal := fun h2 t2 => ih (i + 1) k h2 (if wP w q i ≤ wP w (wr w) i then a else a ||| shl (n32 1) (n32 i)) (if wP w (wr w) i ≤ wP w q i then b else b ||| shl (n32 1) (n32 i)) (by omega) (by omega) t2
    simp -implicitDefEqProofs (disch := omega) only [gP_p, gP_t, bnd_s, bnd2_s, ltt_s, jn_s, n32_nat, n32_le, n32_lt, n32_eq, n32_add, n32_sub, n32_dec, n32_mul, n32_div, n32_irm, n32_lit, n32_oN, n32_ix, n32_m1, n32_m2, neg_le0, neg_lt0, neg_lt1, neg_le1, n32_min, n32_max, if_true, if_false, Nat.one_ne_zero, gd_some, true_or, or_true, false_or, or_false] at goal
    have p1 := wP_le (w := w) (q := q) (m := i)
    have p2 := wP_le (w := w) (q := wr w) (m := i)
    simp -implicitDefEqProofs (disch := omega) only [lp_s, f_X10_rises_B39, gP_p, gP_t, bnd_s, bnd2_s, ltt_s, jn_s, n32_nat, n32_le, n32_lt, n32_eq, n32_add, n32_sub, n32_dec, n32_mul, n32_div, n32_irm, n32_lit, n32_oN, n32_ix, n32_m1, n32_m2, neg_le0, neg_lt0, neg_lt1, neg_le1, n32_min, n32_max, if_true, if_false, Nat.one_ne_zero, gd_some, true_or, or_true, false_or, or_false, z, e, t.1.1.mod, gd_bnd2]
    refine gd_mono (m_price (by omega) ok t hD (by omega)) ?_
    rintro ⟨u2, h2⟩ ⟨e2, t2⟩
    have e2' : u2 = n32 (wP w q i) := e2
    subst e2'
    simp -implicitDefEqProofs (disch := omega) only [gP_p, gP_t, bnd_s, bnd2_s, ltt_s, jn_s, n32_nat, n32_le, n32_lt, n32_eq, n32_add, n32_sub, n32_dec, n32_mul, n32_div, n32_irm, n32_lit, n32_oN, n32_ix, n32_m1, n32_m2, neg_le0, neg_lt0, neg_lt1, neg_le1, n32_min, n32_max, if_true, if_false, Nat.one_ne_zero, gd_some, true_or, or_true, false_or, or_false, t2.1.1.mod, gd_bnd2]
    refine gd_mono (m_nowT (by omega) ok t2 (by omega)) ?_
    rintro ⟨u3, h3⟩ ⟨e3, t3⟩
    have e3' : u3 = n32 (wP w (wr w) i) := e3
    subst e3'
    have rest : ∀ y43, (a ||| y43 = (if wP w q i ≤ wP w (wr w) i then a else a ||| shl (n32 1) (n32 i))) → gd (bnd (rK h3 188 10 102) (fun t46 => bnd2 (f_X10_priceOf 200 h3 188 t46 (n32 i)) (fun v51 h53 => bnd (rK h53 188 9 102) (fun t56 => bnd2 (f_X10_priceOf 200 h53 188 t56 (n32 i)) (fun v61 h63 => (if v61 ≤ v51 then lp (fun _ _ _ _ => none) (f_X10_rises_B39 200 188 (fun (x76 : Int32) (x77 : Int32) (h78 : HP) => bnd (f_X10_enters (setI h78 188 1 (n32 0)) 188 (x77.toInt64)) (fun h83 => some (x76, h83)))) k (a ||| y43) (b ||| n32 0) (n32 (i + 1)) h63 else lp (fun _ _ _ _ => none) (f_X10_rises_B39 200 188 (fun (x76 : Int32) (x77 : Int32) (h78 : HP) => bnd (f_X10_enters (setI h78 188 1 (n32 0)) 188 (x77.toInt64)) (fun h83 => some (x76, h83)))) k (a ||| y43) (b ||| shl (n32 1) (n32 i)) (n32 (i + 1)) h63)))))) (MA [(riM w q (d + 1) i a b).2.toInt64] (riM w q (d + 1) i a b).1 h0) := fun y43 hy => by
      rw [hy]
      simp -implicitDefEqProofs (disch := omega) only [gP_p, gP_t, bnd_s, bnd2_s, ltt_s, jn_s, n32_nat, n32_le, n32_lt, n32_eq, n32_add, n32_sub, n32_dec, n32_mul, n32_div, n32_irm, n32_lit, n32_oN, n32_ix, n32_m1, n32_m2, neg_le0, neg_lt0, neg_lt1, neg_le1, n32_min, n32_max, if_true, if_false, Nat.one_ne_zero, gd_some, true_or, or_true, false_or, or_false, t3.1.1.mod, gd_bnd2]
      refine gd_mono (m_price (by omega) ok t3 hD (by omega)) ?_
      rintro ⟨u4, h4⟩ ⟨e4, t4⟩
      have e4' : u4 = n32 (wP w q i) := e4
      subst e4'
      simp -implicitDefEqProofs (disch := omega) only [gP_p, gP_t, bnd_s, bnd2_s, ltt_s, jn_s, n32_nat, n32_le, n32_lt, n32_eq, n32_add, n32_sub, n32_dec, n32_mul, n32_div, n32_irm, n32_lit, n32_oN, n32_ix, n32_m1, n32_m2, neg_le0, neg_lt0, neg_lt1, neg_le1, n32_min, n32_max, if_true, if_false, Nat.one_ne_zero, gd_some, true_or, or_true, false_or, or_false, t4.1.1.mod, gd_bnd2]
      refine gd_mono (m_nowT (by omega) ok t4 (by omega)) ?_
      rintro ⟨u5, h5⟩ ⟨e5, t5⟩
      have e5' : u5 = n32 (wP w (wr w) i) := e5
      subst e5'
      have goal5 := goal h5 t5
      unfold riM
      by_cases q2 : wP w (wr w) i ≤ wP w q i
      · rw [if_pos q2] at goal5 ⊢
        simp -implicitDefEqProofs (disch := omega) only [gP_p, gP_t, bnd_s, bnd2_s, ltt_s, jn_s, n32_nat, n32_le, n32_lt, n32_eq, n32_add, n32_sub, n32_dec, n32_mul, n32_div, n32_irm, n32_lit, n32_oN, n32_ix, n32_m1, n32_m2, neg_le0, neg_lt0, neg_lt1, neg_le1, n32_min, n32_max, if_true, if_false, Nat.one_ne_zero, gd_some, true_or, or_true, false_or, or_false, q2, or_0]
        exact goal5
      · rw [if_neg q2] at goal5 ⊢
        simp -implicitDefEqProofs (disch := omega) only [gP_p, gP_t, bnd_s, bnd2_s, ltt_s, jn_s, n32_nat, n32_le, n32_lt, n32_eq, n32_add, n32_sub, n32_dec, n32_mul, n32_div, n32_irm, n32_lit, n32_oN, n32_ix, n32_m1, n32_m2, neg_le0, neg_lt0, neg_lt1, neg_le1, n32_min, n32_max, if_true, if_false, Nat.one_ne_zero, gd_some, true_or, or_true, false_or, or_false, q2]
        exact goal5
    by_cases q1 : wP w q i ≤ wP w (wr w) i
    · simp -implicitDefEqProofs (disch := omega) only [gP_p, gP_t, bnd_s, bnd2_s, ltt_s, jn_s, n32_nat, n32_le, n32_lt, n32_eq, n32_add, n32_sub, n32_dec, n32_mul, n32_div, n32_irm, n32_lit, n32_oN, n32_ix, n32_m1, n32_m2, neg_le0, neg_lt0, neg_lt1, neg_le1, n32_min, n32_max, if_true, if_false, Nat.one_ne_zero, gd_some, true_or, or_true, false_or, or_false, q1, or_0]
      have := rest (n32 0) (by rw [if_pos q1, or_0])
      simp -implicitDefEqProofs (disch := omega) only [or_0] at this
      exact this
    · simp -implicitDefEqProofs (disch := omega) only [gP_p, gP_t, bnd_s, bnd2_s, ltt_s, jn_s, n32_nat, n32_le, n32_lt, n32_eq, n32_add, n32_sub, n32_dec, n32_mul, n32_div, n32_irm, n32_lit, n32_oN, n32_ix, n32_m1, n32_m2, neg_le0, neg_lt0, neg_lt1, neg_le1, n32_min, n32_max, if_true, if_false, Nat.one_ne_zero, gd_some, true_or, or_true, false_or, or_false, q1, or_0]
      have := rest (shl (n32 1) (n32 i)) (by rw [if_neg q1])
      simp -implicitDefEqProofs (disch := omega) only [or_0] at this
      exact this

theorem op_rises {k : Nat} (hk : k < 512) : ∀ (h : HP) (a1 : Int32), Inv k h → ∃ (v : Int32) (h1 h2 : HP), f_X9_rises 200 h 0 a1 = some (v, h1) ∧ f_X10_rises 200 h1 188 a1 = some (v, h2) ∧ Inv (k + 1) h2 := fun h a1 I => q_op hk (fX := fun h => f_X9_rises 200 h 0 a1) (fM := fun h => f_X10_rises 200 h 188 a1) (fun w l ok => by
  have hB := ok.2.2.2.2.2.2
  have hz := ok.1
  by_cases c1 : 1 ≤ a1.toInt ∧ a1.toInt ≤ 60
  · obtain ⟨n, ln, hn, rfl⟩ := n32_of2 (lo := 1) (hi := 60) c1.1 c1.2
    have xn : f_X9_within (n32 n) (n32 1) (n32 60) = some (n32 1) := within_y c1
    have mn := in_y (x := n32 n) (lo := 1) (hi := 60) (a := 1) (b := 60) rfl rfl c1
    refine ⟨(riM w (wMs w n (wr w)) (wsz w) 0 (n32 0) (n32 0)).1, [(riM w (wMs w n (wr w)) (wsz w) 0 (n32 0) (n32 0)).2.toInt64], fun h x rx => ?_, fun h x rm => ?_⟩
    · unfold f_X9_rises
      simp -implicitDefEqProofs (disch := omega) only [x.1.root, gP_p, gP_t, bnd_s, bnd2_s, ltt_s, jn_s, n32_nat, n32_le, n32_lt, n32_eq, n32_add, n32_sub, n32_dec, n32_mul, n32_div, n32_irm, n32_lit, n32_oN, n32_ix, n32_m1, n32_m2, neg_le0, neg_lt0, neg_lt1, neg_le1, n32_min, n32_max, if_true, if_false, Nat.one_ne_zero, gd_some, true_or, or_true, false_or, or_false, xn, gd_bnd]
      refine gd_mono (x_try (by omega) (by omega) (by omega) ok x rx (fr.rf _ _)) ?_
      intro h2 t2
      exact rises_x ok (by omega) (wsz w) 0 200 h2 _ _ (by omega) (by omega) t2
    · obtain ⟨v1, rm1, f1⟩ := thr0 x rm
      unfold f_X10_rises
      simp -implicitDefEqProofs (disch := omega) only [x.1.mod, gP_p, gP_t, bnd_s, bnd2_s, ltt_s, jn_s, n32_nat, n32_le, n32_lt, n32_eq, n32_add, n32_sub, n32_dec, n32_mul, n32_div, n32_irm, n32_lit, n32_oN, n32_ix, n32_m1, n32_m2, neg_le0, neg_lt0, neg_lt1, neg_le1, n32_min, n32_max, if_true, if_false, Nat.one_ne_zero, gd_some, true_or, or_true, false_or, or_false]
      simp -implicitDefEqProofs (disch := omega) only [v1.1.mod, gP_p, gP_t, bnd_s, bnd2_s, ltt_s, jn_s, n32_nat, n32_le, n32_lt, n32_eq, n32_add, n32_sub, n32_dec, n32_mul, n32_div, n32_irm, n32_lit, n32_oN, n32_ix, n32_m1, n32_m2, neg_le0, neg_lt0, neg_lt1, neg_le1, n32_min, n32_max, if_true, if_false, Nat.one_ne_zero, gd_some, true_or, or_true, false_or, or_false, mn, gd_bnd]
      refine gd_mono (m_copies (by omega) ok v1 rm1 f1) ?_
      intro h2 t2
      simp -implicitDefEqProofs (disch := omega) only [t2.1.1.mod, gP_p, gP_t, bnd_s, bnd2_s, ltt_s, jn_s, n32_nat, n32_le, n32_lt, n32_eq, n32_add, n32_sub, n32_dec, n32_mul, n32_div, n32_irm, n32_lit, n32_oN, n32_ix, n32_m1, n32_m2, neg_le0, neg_lt0, neg_lt1, neg_le1, n32_min, n32_max, if_true, if_false, Nat.one_ne_zero, gd_some, true_or, or_true, false_or, or_false, gd_bnd]
      refine gd_mono (m_goes (by omega) (by omega) (by omega) ok t2 (by omega)) ?_
      intro h3 t3
      exact rises_m ok (by omega) (wsz w) 0 200 h3 _ _ (by omega) (by omega) t3
  · have xn : f_X9_within a1 (n32 1) (n32 60) = some (n32 0) := within_n c1
    have mn := in_n (x := a1) (lo := 1) (hi := 60) (a := 1) (b := 60) rfl rfl c1
    refine ⟨-n32 1, l, fun h x rx => ?_, fun h x rm => ?_⟩
    · unfold f_X9_rises
      simp -implicitDefEqProofs (disch := omega) only [x.1.root, gP_p, gP_t, bnd_s, bnd2_s, ltt_s, jn_s, n32_nat, n32_le, n32_lt, n32_eq, n32_add, n32_sub, n32_dec, n32_mul, n32_div, n32_irm, n32_lit, n32_oN, n32_ix, n32_m1, n32_m2, neg_le0, neg_lt0, neg_lt1, neg_le1, n32_min, n32_max, if_true, if_false, Nat.one_ne_zero, gd_some, true_or, or_true, false_or, or_false, xn]
      exact fin_x rx (fr.rf _ _)
    · obtain ⟨v1, rm1, f1⟩ := thr0 x rm
      unfold f_X10_rises
      simp -implicitDefEqProofs (disch := omega) only [x.1.mod, gP_p, gP_t, bnd_s, bnd2_s, ltt_s, jn_s, n32_nat, n32_le, n32_lt, n32_eq, n32_add, n32_sub, n32_dec, n32_mul, n32_div, n32_irm, n32_lit, n32_oN, n32_ix, n32_m1, n32_m2, neg_le0, neg_lt0, neg_lt1, neg_le1, n32_min, n32_max, if_true, if_false, Nat.one_ne_zero, gd_some, true_or, or_true, false_or, or_false]
      simp -implicitDefEqProofs (disch := omega) only [gP_p, gP_t, bnd_s, bnd2_s, ltt_s, jn_s, n32_nat, n32_le, n32_lt, n32_eq, n32_add, n32_sub, n32_dec, n32_mul, n32_div, n32_irm, n32_lit, n32_oN, n32_ix, n32_m1, n32_m2, neg_le0, neg_lt0, neg_lt1, neg_le1, n32_min, n32_max, if_true, if_false, Nat.one_ne_zero, gd_some, true_or, or_true, false_or, or_false, mn]
      exact fin_m rm1 f1) h I

theorem op_strings {k : Nat} (hk : k < 512) : ∀ (h : HP) (a1 a2 : Int32), Inv k h → ∃ (v : Int32) (h1 h2 : HP), f_X9_strings h 0 a1 a2 = some (v, h1) ∧ f_X10_strings h1 188 a1 a2 = some (v, h2) ∧ Inv (k + 1) h2 := fun h a1 a2 I => q_op hk (fX := fun h => f_X9_strings h 0 a1 a2) (fM := fun h => f_X10_strings h 188 a1 a2) (fun w l ok => by
  have hB := ok.2.2.2.2.2.2
  have hz := ok.1
  by_cases c1 : 0 ≤ a1.toInt ∧ a1.toInt ≤ 99999
  · obtain ⟨v, lv, hv, rfl⟩ := n32_of2 (lo := 0) (hi := 99999) c1.1 c1.2
    have xv : f_X9_within (n32 v) (n32 0) (n32 99999) = some (n32 1) := within_y c1
    have mv := in_y (x := n32 v) (lo := 0) (hi := 99999) (a := 0) (b := 99999) rfl rfl c1
    by_cases c2 : 1 ≤ a2.toInt ∧ a2.toInt ≤ 9
    · obtain ⟨q, lq, hq, rfl⟩ := n32_of2 (lo := 1) (hi := 9) c2.1 c2.2
      have xq : f_X9_within (n32 q) (n32 1) (n32 9) = some (n32 1) := within_y c2
      have mq := in_y (x := n32 q) (lo := 1) (hi := 9) (a := 1) (b := 9) rfl rfl c2
      refine ⟨n32 (v / 40), [(n32 (v % 40)).toInt64, (n32 ((v / 40 + 25 * q - 1) / (25 * q))).toInt64], fun h x rx => ?_, fun h x rm => ?_⟩
      · have e1 : 0 < 25 * q := by omega
        have e2 : ¬ 25 * q = 0 := by omega
        unfold f_X9_strings
        simp -implicitDefEqProofs (disch := omega) only [x.1.root, gP_p, gP_t, bnd_s, bnd2_s, ltt_s, jn_s, n32_nat, n32_le, n32_lt, n32_eq, n32_add, n32_sub, n32_dec, n32_mul, n32_div, n32_irm, n32_lit, n32_oN, n32_ix, n32_m1, n32_m2, neg_le0, neg_lt0, neg_lt1, neg_le1, n32_min, n32_max, if_true, if_false, Nat.one_ne_zero, gd_some, true_or, or_true, false_or, or_false, xv, xq, f_X9_roundedUp, e1, e2, not_false_eq_true, gd_bnd]
        refine gd_mono (xq_tell2 ⟨x, rx, fr.rf _ _⟩) ?_
        intro h2 t2
        exact ⟨rfl, t2.2.1, t2.2.2⟩
      · obtain ⟨v1, rm1, f1⟩ := thr0 x rm
        have e2 : ¬ 25 * q = 0 := by omega
        unfold f_X10_strings
        simp -implicitDefEqProofs (disch := omega) only [x.1.mod, gP_p, gP_t, bnd_s, bnd2_s, ltt_s, jn_s, n32_nat, n32_le, n32_lt, n32_eq, n32_add, n32_sub, n32_dec, n32_mul, n32_div, n32_irm, n32_lit, n32_oN, n32_ix, n32_m1, n32_m2, neg_le0, neg_lt0, neg_lt1, neg_le1, n32_min, n32_max, if_true, if_false, Nat.one_ne_zero, gd_some, true_or, or_true, false_or, or_false]
        simp -implicitDefEqProofs (disch := omega) only [v1.1.mod, gP_p, gP_t, bnd_s, bnd2_s, ltt_s, jn_s, n32_nat, n32_le, n32_lt, n32_eq, n32_add, n32_sub, n32_dec, n32_mul, n32_div, n32_irm, n32_lit, n32_oN, n32_ix, n32_m1, n32_m2, neg_le0, neg_lt0, neg_lt1, neg_le1, n32_min, n32_max, if_true, if_false, Nat.one_ne_zero, gd_some, true_or, or_true, false_or, or_false, mv, mq, e2, not_false_eq_true, gd_bnd]
        refine gd_mono (mq_ent (mq_told0 ⟨v1, rm1, f1⟩) (by show 0 < 6; omega)) ?_
        intro h2 t2
        refine gd_mono (mq_ent t2 (by show 1 < 6; omega)) ?_
        intro h3 t3
        exact ⟨rfl, t3.2.1, t3.2.2⟩
    · have xq : f_X9_within a2 (n32 1) (n32 9) = some (n32 0) := within_n c2
      have mq := in_n (x := a2) (lo := 1) (hi := 9) (a := 1) (b := 9) rfl rfl c2
      refine ⟨-n32 1, l, fun h x rx => ?_, fun h x rm => ?_⟩
      · unfold f_X9_strings
        simp -implicitDefEqProofs (disch := omega) only [x.1.root, gP_p, gP_t, bnd_s, bnd2_s, ltt_s, jn_s, n32_nat, n32_le, n32_lt, n32_eq, n32_add, n32_sub, n32_dec, n32_mul, n32_div, n32_irm, n32_lit, n32_oN, n32_ix, n32_m1, n32_m2, neg_le0, neg_lt0, neg_lt1, neg_le1, n32_min, n32_max, if_true, if_false, Nat.one_ne_zero, gd_some, true_or, or_true, false_or, or_false, xv, xq]
        exact fin_x rx (fr.rf _ _)
      · obtain ⟨v1, rm1, f1⟩ := thr0 x rm
        unfold f_X10_strings
        simp -implicitDefEqProofs (disch := omega) only [x.1.mod, gP_p, gP_t, bnd_s, bnd2_s, ltt_s, jn_s, n32_nat, n32_le, n32_lt, n32_eq, n32_add, n32_sub, n32_dec, n32_mul, n32_div, n32_irm, n32_lit, n32_oN, n32_ix, n32_m1, n32_m2, neg_le0, neg_lt0, neg_lt1, neg_le1, n32_min, n32_max, if_true, if_false, Nat.one_ne_zero, gd_some, true_or, or_true, false_or, or_false]
        simp -implicitDefEqProofs (disch := omega) only [gP_p, gP_t, bnd_s, bnd2_s, ltt_s, jn_s, n32_nat, n32_le, n32_lt, n32_eq, n32_add, n32_sub, n32_dec, n32_mul, n32_div, n32_irm, n32_lit, n32_oN, n32_ix, n32_m1, n32_m2, neg_le0, neg_lt0, neg_lt1, neg_le1, n32_min, n32_max, if_true, if_false, Nat.one_ne_zero, gd_some, true_or, or_true, false_or, or_false, mv, mq]
        exact fin_m rm1 f1
  · have xv : f_X9_within a1 (n32 0) (n32 99999) = some (n32 0) := within_n c1
    have mv := in_n (x := a1) (lo := 0) (hi := 99999) (a := 0) (b := 99999) rfl rfl c1
    refine ⟨-n32 1, l, fun h x rx => ?_, fun h x rm => ?_⟩
    · unfold f_X9_strings
      simp -implicitDefEqProofs (disch := omega) only [x.1.root, gP_p, gP_t, bnd_s, bnd2_s, ltt_s, jn_s, n32_nat, n32_le, n32_lt, n32_eq, n32_add, n32_sub, n32_dec, n32_mul, n32_div, n32_irm, n32_lit, n32_oN, n32_ix, n32_m1, n32_m2, neg_le0, neg_lt0, neg_lt1, neg_le1, n32_min, n32_max, if_true, if_false, Nat.one_ne_zero, gd_some, true_or, or_true, false_or, or_false, xv]
      exact fin_x rx (fr.rf _ _)
    · obtain ⟨v1, rm1, f1⟩ := thr0 x rm
      unfold f_X10_strings
      simp -implicitDefEqProofs (disch := omega) only [x.1.mod, gP_p, gP_t, bnd_s, bnd2_s, ltt_s, jn_s, n32_nat, n32_le, n32_lt, n32_eq, n32_add, n32_sub, n32_dec, n32_mul, n32_div, n32_irm, n32_lit, n32_oN, n32_ix, n32_m1, n32_m2, neg_le0, neg_lt0, neg_lt1, neg_le1, n32_min, n32_max, if_true, if_false, Nat.one_ne_zero, gd_some, true_or, or_true, false_or, or_false]
      simp -implicitDefEqProofs (disch := omega) only [gP_p, gP_t, bnd_s, bnd2_s, ltt_s, jn_s, n32_nat, n32_le, n32_lt, n32_eq, n32_add, n32_sub, n32_dec, n32_mul, n32_div, n32_irm, n32_lit, n32_oN, n32_ix, n32_m1, n32_m2, neg_le0, neg_lt0, neg_lt1, neg_le1, n32_min, n32_max, if_true, if_false, Nat.one_ne_zero, gd_some, true_or, or_true, false_or, or_false, mv]
      exact fin_m rm1 f1) h I

def cntL (w : Nat) : Nat → Nat
  | 0 => 0
  | n + 1 => if n < (n + 99) / 100 * w then n + 1 else cntL w n
theorem cnt_b {v w : Nat} (hv : v ≤ 10000) (hw : w ≤ 99) : (v + 99) / 100 * w ≤ 101 * 99 := Nat.mul_le_mul (by omega) hw
theorem counted_x {v w : Nat} (hv : v ≤ 10000) (hw : w ≤ 99) : f_X9_counted (n32 v) (n32 w) = some (n32 ((v + 99) / 100 * w)) := by
  have e2 : ¬ 100 = 0 := by omega
  unfold f_X9_counted f_X9_roundedUp
  simp -implicitDefEqProofs (disch := omega) only [gP_p, gP_t, bnd_s, bnd2_s, ltt_s, jn_s, n32_nat, n32_le, n32_lt, n32_eq, n32_add, n32_sub, n32_dec, n32_mul, n32_div, n32_irm, n32_lit, n32_oN, n32_ix, n32_m1, n32_m2, neg_le0, neg_lt0, neg_lt1, neg_le1, n32_min, n32_max, if_true, if_false, Nat.one_ne_zero, gd_some, true_or, or_true, false_or, or_false, e2, not_false_eq_true]
  rw [if_pos (by omega), bnd_s, n32_mul, Nat.mul_comm, show v + 100 - 1 = v + 99 by omega]
theorem counts_x {w : Nat} {k : Int32 → Option (Int32 × HP)} {Q : Int32 × HP → Prop} {x1 : Int32} {h : HP} (hw : w ≤ 99) (K : ∀ c, c ≤ 10000 → c = cntL w 10000 → gd (k (n32 c)) Q) : ∀ (x fuel : Nat), x ≤ 10000 → x < fuel → cntL w x = cntL w 10000 → gd (lp (fun _ => none) (f_X9_counts_B27 10100 0 x1 (n32 w) h k) fuel (n32 x)) Q := by
  intro x
  induction x with
  | zero =>
    intro fuel hx hf e
    obtain ⟨k', rfl⟩ : ∃ k, fuel = k + 1 := ⟨fuel - 1, by omega⟩
    simp -implicitDefEqProofs (disch := omega) only [lp_s, f_X9_counts_B27, gP_p, gP_t, bnd_s, bnd2_s, ltt_s, jn_s, n32_nat, n32_le, n32_lt, n32_eq, n32_add, n32_sub, n32_dec, n32_mul, n32_div, n32_irm, n32_lit, n32_oN, n32_ix, n32_m1, n32_m2, neg_le0, neg_lt0, neg_lt1, neg_le1, n32_min, n32_max, if_true, if_false, Nat.one_ne_zero, gd_some, true_or, or_true, false_or, or_false, Nat.le_refl]
    exact K 0 hx e
  | succ x ih =>
    intro fuel hx hf e
    obtain ⟨k', rfl⟩ : ∃ k, fuel = k + 1 := ⟨fuel - 1, by omega⟩
    have n1 : ¬ x + 1 ≤ 0 := by omega
    have p1 : x + 1 - 1 = x := by omega
    have cb := cnt_b (v := x) (w := w) (by omega) hw
    have e' := e
    unfold cntL at e
    simp -implicitDefEqProofs (disch := omega) only [lp_s, f_X9_counts_B27, gP_p, gP_t, bnd_s, bnd2_s, ltt_s, jn_s, n32_nat, n32_le, n32_lt, n32_eq, n32_add, n32_sub, n32_dec, n32_mul, n32_div, n32_irm, n32_lit, n32_oN, n32_ix, n32_m1, n32_m2, neg_le0, neg_lt0, neg_lt1, neg_le1, n32_min, n32_max, if_true, if_false, Nat.one_ne_zero, gd_some, true_or, or_true, false_or, or_false, n1, p1, counted_x]
    by_cases q : x < (x + 99) / 100 * w
    · rw [if_pos q] at e ⊢
      exact K (x + 1) hx e
    · rw [if_neg q] at e ⊢
      exact ih k' (by omega) (by omega) (by rw [e]; rfl)
theorem counts_m {w : Nat} {k : Int32 → Option (Int32 × HP)} {Q : Int32 × HP → Prop} {x1 x3 : Int32} {h : HP} (hw : w ≤ 99) (K : ∀ c, c ≤ 10000 → c = cntL w 10000 → gd (k (n32 c)) Q) : ∀ (x fuel : Nat), x ≤ 10000 → x < fuel → cntL w x = cntL w 10000 → gd (lp (fun _ => none) (f_X10_counts_B46 10100 188 x1 (n32 w) x3 h k) fuel (n32 x)) Q := by
  intro x
  induction x with
  | zero =>
    intro fuel hx hf e
    obtain ⟨k', rfl⟩ : ∃ k, fuel = k + 1 := ⟨fuel - 1, by omega⟩
    simp -implicitDefEqProofs (disch := omega) only [lp_s, f_X10_counts_B46, gP_p, gP_t, bnd_s, bnd2_s, ltt_s, jn_s, n32_nat, n32_le, n32_lt, n32_eq, n32_add, n32_sub, n32_dec, n32_mul, n32_div, n32_irm, n32_lit, n32_oN, n32_ix, n32_m1, n32_m2, neg_le0, neg_lt0, neg_lt1, neg_le1, n32_min, n32_max, if_true, if_false, Nat.one_ne_zero, gd_some, true_or, or_true, false_or, or_false, Nat.le_refl]
    exact K 0 hx e
  | succ x ih =>
    intro fuel hx hf e
    obtain ⟨k', rfl⟩ : ∃ k, fuel = k + 1 := ⟨fuel - 1, by omega⟩
    have n1 : ¬ x + 1 ≤ 0 := by omega
    have p1 : x + 1 - 1 = x := by omega
    have cb := cnt_b (v := x) (w := w) (by omega) hw
    have e' := e
    unfold cntL at e
    simp -implicitDefEqProofs (disch := omega) only [lp_s, f_X10_counts_B46, gP_p, gP_t, bnd_s, bnd2_s, ltt_s, jn_s, n32_nat, n32_le, n32_lt, n32_eq, n32_add, n32_sub, n32_dec, n32_mul, n32_div, n32_irm, n32_lit, n32_oN, n32_ix, n32_m1, n32_m2, neg_le0, neg_lt0, neg_lt1, neg_le1, n32_min, n32_max, if_true, if_false, Nat.one_ne_zero, gd_some, true_or, or_true, false_or, or_false, n1, p1]
    by_cases q : x < (x + 99) / 100 * w
    · rw [if_pos q] at e ⊢
      exact K (x + 1) hx e
    · rw [if_neg q] at e ⊢
      exact ih k' (by omega) (by omega) (by rw [e]; rfl)

theorem op_counts {k : Nat} (hk : k < 512) : ∀ (h : HP) (a1 a2 : Int32), Inv k h → ∃ (v : Int32) (h1 h2 : HP), f_X9_counts 10100 h 0 a1 a2 = some (v, h1) ∧ f_X10_counts 10100 h1 188 a1 a2 = some (v, h2) ∧ Inv (k + 1) h2 := fun h a1 a2 I => q_op hk (fX := fun h => f_X9_counts 10100 h 0 a1 a2) (fM := fun h => f_X10_counts 10100 h 188 a1 a2) (fun w l ok => by
  have hB := ok.2.2.2.2.2.2
  have hz := ok.1
  by_cases c1 : 0 ≤ a1.toInt ∧ a1.toInt ≤ 9999
  · obtain ⟨v, lv, hv, rfl⟩ := n32_of2 (lo := 0) (hi := 9999) c1.1 c1.2
    have xv : f_X9_within (n32 v) (n32 0) (n32 9999) = some (n32 1) := within_y c1
    have mv := in_y (x := n32 v) (lo := 0) (hi := 9999) (a := 0) (b := 9999) rfl rfl c1
    by_cases c2 : 1 ≤ a2.toInt ∧ a2.toInt ≤ 99
    · obtain ⟨q, lq, hq, rfl⟩ := n32_of2 (lo := 1) (hi := 99) c2.1 c2.2
      have xq : f_X9_within (n32 q) (n32 1) (n32 99) = some (n32 1) := within_y c2
      have mq := in_y (x := n32 q) (lo := 1) (hi := 99) (a := 1) (b := 99) rfl rfl c2
      have cb := cnt_b (v := v) (w := q) (by omega) hq
      refine ⟨n32 ((v + 99) / 100 * q), [(n32 (if (v + 99) / 100 * q ≤ v then 0 else 1)).toInt64, (n32 (cntL q 10000)).toInt64], fun h x rx => ?_, fun h x rm => ?_⟩
      · unfold f_X9_counts
        simp -implicitDefEqProofs (disch := omega) only [x.1.root, gP_p, gP_t, bnd_s, bnd2_s, ltt_s, jn_s, n32_nat, n32_le, n32_lt, n32_eq, n32_add, n32_sub, n32_dec, n32_mul, n32_div, n32_irm, n32_lit, n32_oN, n32_ix, n32_m1, n32_m2, neg_le0, neg_lt0, neg_lt1, neg_le1, n32_min, n32_max, if_true, if_false, Nat.one_ne_zero, gd_some, true_or, or_true, false_or, or_false, xv, xq]
        refine counts_x hq (fun c hc ec => ?_) 10000 10100 (by omega) (by omega) rfl
        subst ec
        simp -implicitDefEqProofs (disch := omega) only [gP_p, gP_t, bnd_s, bnd2_s, ltt_s, jn_s, n32_nat, n32_le, n32_lt, n32_eq, n32_add, n32_sub, n32_dec, n32_mul, n32_div, n32_irm, n32_lit, n32_oN, n32_ix, n32_m1, n32_m2, neg_le0, neg_lt0, neg_lt1, neg_le1, n32_min, n32_max, if_true, if_false, Nat.one_ne_zero, gd_some, true_or, or_true, false_or, or_false, counted_x, x.1.root, gd_bnd]
        by_cases g : (v + 99) / 100 * q ≤ v
        · rw [if_pos g, if_pos g, gd_bnd]
          refine gd_mono (xq_tell2 ⟨x, rx, fr.rf _ _⟩) ?_
          intro h2 t2
          exact gd_some.mpr ⟨rfl, t2.2.1, t2.2.2⟩
        · rw [if_neg g, if_neg g, gd_bnd]
          refine gd_mono (xq_tell2 ⟨x, rx, fr.rf _ _⟩) ?_
          intro h2 t2
          exact gd_some.mpr ⟨rfl, t2.2.1, t2.2.2⟩
      · obtain ⟨v1, rm1, f1⟩ := thr0 x rm
        have key : ∀ c, c ≤ 10000 → c = cntL q 10000 → gd (lt_ (setI (setI h 188 0 (n32 0)) 188 1 0) (fun h19 => jn (fun (y23 : Int32) => bnd (f_X10_flag y23) (fun v24 => bnd (f_X10_enters h19 188 (v24.toInt64)) (fun h27 => bnd (f_X10_enters h27 188 ((n32 c).toInt64)) (fun h31 => some (n32 ((v + 99) / 100 * q), h31))))) (fun k22 => (if n32 ((v + 99) / 100 * q) ≤ n32 v then k22 0 else k22 1)))) (MA [(n32 (if (v + 99) / 100 * q ≤ v then 0 else 1)).toInt64, (n32 (cntL q 10000)).toInt64] (n32 ((v + 99) / 100 * q)) h) := fun c hc ec => by
          subst ec
          by_cases g : (v + 99) / 100 * q ≤ v
          · rw [if_pos g]
            simp -implicitDefEqProofs (disch := omega) only [gP_p, gP_t, bnd_s, bnd2_s, ltt_s, jn_s, n32_nat, n32_le, n32_lt, n32_eq, n32_add, n32_sub, n32_dec, n32_mul, n32_div, n32_irm, n32_lit, n32_oN, n32_ix, n32_m1, n32_m2, neg_le0, neg_lt0, neg_lt1, neg_le1, n32_min, n32_max, if_true, if_false, Nat.one_ne_zero, gd_some, true_or, or_true, false_or, or_false, g, f_X10_flag, gd_bnd]
            refine gd_mono (mq_ent (mq_told0 ⟨v1, rm1, f1⟩) (by show 0 < 6; omega)) ?_
            intro h2 t2
            refine gd_mono (mq_ent t2 (by show 1 < 6; omega)) ?_
            intro h3 t3
            exact ⟨rfl, t3.2.1, t3.2.2⟩
          · rw [if_neg g]
            simp -implicitDefEqProofs (disch := omega) only [gP_p, gP_t, bnd_s, bnd2_s, ltt_s, jn_s, n32_nat, n32_le, n32_lt, n32_eq, n32_add, n32_sub, n32_dec, n32_mul, n32_div, n32_irm, n32_lit, n32_oN, n32_ix, n32_m1, n32_m2, neg_le0, neg_lt0, neg_lt1, neg_le1, n32_min, n32_max, if_true, if_false, Nat.one_ne_zero, gd_some, true_or, or_true, false_or, or_false, g, f_X10_flag, gd_bnd]
            refine gd_mono (mq_ent (mq_told0 ⟨v1, rm1, f1⟩) (by show 0 < 6; omega)) ?_
            intro h2 t2
            refine gd_mono (mq_ent t2 (by show 1 < 6; omega)) ?_
            intro h3 t3
            exact ⟨rfl, t3.2.1, t3.2.2⟩
        have goal := counts_m (k := fun (x18 : Int32) => lt_ (setI (setI h 188 0 (n32 0)) 188 1 0) (fun h19 => jn (fun (y23 : Int32) => bnd (f_X10_flag y23) (fun v24 => bnd (f_X10_enters h19 188 (v24.toInt64)) (fun h27 => bnd (f_X10_enters h27 188 (x18.toInt64)) (fun h31 => some (n32 ((v + 99) / 100 * q), h31))))) (fun k22 => (if n32 ((v + 99) / 100 * q) ≤ n32 v then k22 0 else k22 1)))) (x1 := n32 v) (x3 := n32 ((v + 99) / 100 * q)) (h := setI h 188 0 (n32 0)) hq (fun c hc ec => by
          have := key c hc ec
          exact this) 10000 10100 (by omega) (by omega) rfl
        unfold f_X10_counts
        simp -implicitDefEqProofs (disch := omega) only [x.1.mod, gP_p, gP_t, bnd_s, bnd2_s, ltt_s, jn_s, n32_nat, n32_le, n32_lt, n32_eq, n32_add, n32_sub, n32_dec, n32_mul, n32_div, n32_irm, n32_lit, n32_oN, n32_ix, n32_m1, n32_m2, neg_le0, neg_lt0, neg_lt1, neg_le1, n32_min, n32_max, if_true, if_false, Nat.one_ne_zero, gd_some, true_or, or_true, false_or, or_false]
        simp -implicitDefEqProofs (disch := omega) only [v1.1.mod, gP_p, gP_t, bnd_s, bnd2_s, ltt_s, jn_s, n32_nat, n32_le, n32_lt, n32_eq, n32_add, n32_sub, n32_dec, n32_mul, n32_div, n32_irm, n32_lit, n32_oN, n32_ix, n32_m1, n32_m2, neg_le0, neg_lt0, neg_lt1, neg_le1, n32_min, n32_max, if_true, if_false, Nat.one_ne_zero, gd_some, true_or, or_true, false_or, or_false, mv, mq]
        simp -implicitDefEqProofs (disch := omega) only [gP_p, gP_t, bnd_s, bnd2_s, ltt_s, jn_s, n32_nat, n32_le, n32_lt, n32_eq, n32_add, n32_sub, n32_dec, n32_mul, n32_div, n32_irm, n32_lit, n32_oN, n32_ix, n32_m1, n32_m2, neg_le0, neg_lt0, neg_lt1, neg_le1, n32_min, n32_max, if_true, if_false, Nat.one_ne_zero, gd_some, true_or, or_true, false_or, or_false] at goal
        exact goal
    · have xq : f_X9_within a2 (n32 1) (n32 99) = some (n32 0) := within_n c2
      have mq := in_n (x := a2) (lo := 1) (hi := 99) (a := 1) (b := 99) rfl rfl c2
      refine ⟨-n32 1, l, fun h x rx => ?_, fun h x rm => ?_⟩
      · unfold f_X9_counts
        simp -implicitDefEqProofs (disch := omega) only [x.1.root, gP_p, gP_t, bnd_s, bnd2_s, ltt_s, jn_s, n32_nat, n32_le, n32_lt, n32_eq, n32_add, n32_sub, n32_dec, n32_mul, n32_div, n32_irm, n32_lit, n32_oN, n32_ix, n32_m1, n32_m2, neg_le0, neg_lt0, neg_lt1, neg_le1, n32_min, n32_max, if_true, if_false, Nat.one_ne_zero, gd_some, true_or, or_true, false_or, or_false, xv, xq]
        exact fin_x rx (fr.rf _ _)
      · obtain ⟨v1, rm1, f1⟩ := thr0 x rm
        unfold f_X10_counts
        simp -implicitDefEqProofs (disch := omega) only [x.1.mod, gP_p, gP_t, bnd_s, bnd2_s, ltt_s, jn_s, n32_nat, n32_le, n32_lt, n32_eq, n32_add, n32_sub, n32_dec, n32_mul, n32_div, n32_irm, n32_lit, n32_oN, n32_ix, n32_m1, n32_m2, neg_le0, neg_lt0, neg_lt1, neg_le1, n32_min, n32_max, if_true, if_false, Nat.one_ne_zero, gd_some, true_or, or_true, false_or, or_false]
        simp -implicitDefEqProofs (disch := omega) only [gP_p, gP_t, bnd_s, bnd2_s, ltt_s, jn_s, n32_nat, n32_le, n32_lt, n32_eq, n32_add, n32_sub, n32_dec, n32_mul, n32_div, n32_irm, n32_lit, n32_oN, n32_ix, n32_m1, n32_m2, neg_le0, neg_lt0, neg_lt1, neg_le1, n32_min, n32_max, if_true, if_false, Nat.one_ne_zero, gd_some, true_or, or_true, false_or, or_false, mv, mq]
        exact fin_m rm1 f1
  · have xv : f_X9_within a1 (n32 0) (n32 9999) = some (n32 0) := within_n c1
    have mv := in_n (x := a1) (lo := 0) (hi := 9999) (a := 0) (b := 9999) rfl rfl c1
    refine ⟨-n32 1, l, fun h x rx => ?_, fun h x rm => ?_⟩
    · unfold f_X9_counts
      simp -implicitDefEqProofs (disch := omega) only [x.1.root, gP_p, gP_t, bnd_s, bnd2_s, ltt_s, jn_s, n32_nat, n32_le, n32_lt, n32_eq, n32_add, n32_sub, n32_dec, n32_mul, n32_div, n32_irm, n32_lit, n32_oN, n32_ix, n32_m1, n32_m2, neg_le0, neg_lt0, neg_lt1, neg_le1, n32_min, n32_max, if_true, if_false, Nat.one_ne_zero, gd_some, true_or, or_true, false_or, or_false, xv]
      exact fin_x rx (fr.rf _ _)
    · obtain ⟨v1, rm1, f1⟩ := thr0 x rm
      unfold f_X10_counts
      simp -implicitDefEqProofs (disch := omega) only [x.1.mod, gP_p, gP_t, bnd_s, bnd2_s, ltt_s, jn_s, n32_nat, n32_le, n32_lt, n32_eq, n32_add, n32_sub, n32_dec, n32_mul, n32_div, n32_irm, n32_lit, n32_oN, n32_ix, n32_m1, n32_m2, neg_le0, neg_lt0, neg_lt1, neg_le1, n32_min, n32_max, if_true, if_false, Nat.one_ne_zero, gd_some, true_or, or_true, false_or, or_false]
      simp -implicitDefEqProofs (disch := omega) only [gP_p, gP_t, bnd_s, bnd2_s, ltt_s, jn_s, n32_nat, n32_le, n32_lt, n32_eq, n32_add, n32_sub, n32_dec, n32_mul, n32_div, n32_irm, n32_lit, n32_oN, n32_ix, n32_m1, n32_m2, neg_le0, neg_lt0, neg_lt1, neg_le1, n32_min, n32_max, if_true, if_false, Nat.one_ne_zero, gd_some, true_or, or_true, false_or, or_false, mv]
      exact fin_m rm1 f1) h I

theorem max0 {a b : Nat} (ha : a < 1000000) (hb : b < 1000000) : f_J9_max_7cf53 (n32 0) (n32 a - n32 b) = some (n32 (a - b)) := by
  rw [z32_d, show n32 0 = z32 0 from rfl, z32_max (by omega) (by omega) (by omega) (by omega)]
  by_cases q : (a : Int) - (b : Int) ≤ 0
  · rw [if_pos q, show a - b = 0 by omega]; rfl
  · rw [if_neg q, show (a : Int) - (b : Int) = ((a - b : Nat) : Int) by omega, z32_n]

theorem op_bearers {k : Nat} (hk : k < 512) : ∀ (h : HP) (a1 a2 : Int32), Inv k h → ∃ (v : Int32) (h1 h2 : HP), f_X9_bearers h 0 a1 a2 = some (v, h1) ∧ f_X10_bearers h1 188 a1 a2 = some (v, h2) ∧ Inv (k + 1) h2 := fun h a1 a2 I => q_op hk (fX := fun h => f_X9_bearers h 0 a1 a2) (fM := fun h => f_X10_bearers h 188 a1 a2) (fun w l ok => by
  have hB := ok.2.2.2.2.2.2
  have hz := ok.1
  by_cases c1 : 0 ≤ a1.toInt ∧ a1.toInt ≤ 99999
  · obtain ⟨v, lv, hv, rfl⟩ := n32_of2 (lo := 0) (hi := 99999) c1.1 c1.2
    have xv : f_X9_within (n32 v) (n32 0) (n32 99999) = some (n32 1) := within_y c1
    have mv := in_y (x := n32 v) (lo := 0) (hi := 99999) (a := 0) (b := 99999) rfl rfl c1
    by_cases c2 : 0 ≤ a2.toInt ∧ a2.toInt < (wsz w : Int)
    · obtain ⟨m, hm, rfl⟩ := n32_of c2.1 c2.2
      have b1 : (v + 399) / 400 * (10 * m) ≤ 251 * (10 * 6) := Nat.mul_le_mul (by omega) (by omega)
      have e0 : (v + 399) / 400 * 10 * m = (v + 399) / 400 * (10 * m) := Nat.mul_assoc _ _ _
      have e00 : 10 * m * ((v + 399) / 400) = (v + 399) / 400 * (10 * m) := Nat.mul_comm _ _
      refine ⟨n32 ((v + 399) / 400), [(n32 (v - (v + 399) / 400 * (10 * m))).toInt64], fun h x rx => ?_, fun h x rm => ?_⟩
      · have e1 : 0 < 400 := by omega
        have e2 : ¬ 400 = 0 := by omega
        have e3 : v + 400 - 1 = v + 399 := by omega
        have e4 := max0 (a := v) (b := (v + 399) / 400 * (10 * m)) (by omega) (by omega)
        unfold f_X9_bearers
        simp -implicitDefEqProofs (disch := omega) only [x.1.root, gP_p, gP_t, bnd_s, bnd2_s, ltt_s, jn_s, n32_nat, n32_le, n32_lt, n32_eq, n32_add, n32_sub, n32_dec, n32_mul, n32_div, n32_irm, n32_lit, n32_oN, n32_ix, n32_m1, n32_m2, neg_le0, neg_lt0, neg_lt1, neg_le1, n32_min, n32_max, if_true, if_false, Nat.one_ne_zero, gd_some, true_or, or_true, false_or, or_false, xv, hasX_y ok x hm, f_X9_roundedUp, e1, e2, e3, e0, e4, not_false_eq_true, gd_bnd]
        refine gd_mono (xq_tell1 ⟨x, rx, fr.rf _ _⟩) ?_
        intro h2 t2
        exact ⟨rfl, t2.2.1, t2.2.2⟩
      · obtain ⟨v1, rm1, f1⟩ := thr0 x rm
        have e4 := max0 (a := v) (b := (v + 399) / 400 * (10 * m)) (by omega) (by omega)
        unfold f_X10_bearers
        simp -implicitDefEqProofs (disch := omega) only [x.1.mod, gP_p, gP_t, bnd_s, bnd2_s, ltt_s, jn_s, n32_nat, n32_le, n32_lt, n32_eq, n32_add, n32_sub, n32_dec, n32_mul, n32_div, n32_irm, n32_lit, n32_oN, n32_ix, n32_m1, n32_m2, neg_le0, neg_lt0, neg_lt1, neg_le1, n32_min, n32_max, if_true, if_false, Nat.one_ne_zero, gd_some, true_or, or_true, false_or, or_false]
        simp -implicitDefEqProofs (disch := omega) only [v1.1.mod, gP_p, gP_t, bnd_s, bnd2_s, ltt_s, jn_s, n32_nat, n32_le, n32_lt, n32_eq, n32_add, n32_sub, n32_dec, n32_mul, n32_div, n32_irm, n32_lit, n32_oN, n32_ix, n32_m1, n32_m2, neg_le0, neg_lt0, neg_lt1, neg_le1, n32_min, n32_max, if_true, if_false, Nat.one_ne_zero, gd_some, true_or, or_true, false_or, or_false, mv, isM_y ok v1.1 v1.2.1 hm, e00, e4, gd_bnd]
        refine gd_mono (mq_ent (mq_told0 ⟨v1, rm1, f1⟩) (by show 0 < 6; omega)) ?_
        intro h2 t2
        exact ⟨rfl, t2.2.1, t2.2.2⟩
    · skip
      refine ⟨-n32 1, l, fun h x rx => ?_, fun h x rm => ?_⟩
      · unfold f_X9_bearers
        simp -implicitDefEqProofs (disch := omega) only [x.1.root, gP_p, gP_t, bnd_s, bnd2_s, ltt_s, jn_s, n32_nat, n32_le, n32_lt, n32_eq, n32_add, n32_sub, n32_dec, n32_mul, n32_div, n32_irm, n32_lit, n32_oN, n32_ix, n32_m1, n32_m2, neg_le0, neg_lt0, neg_lt1, neg_le1, n32_min, n32_max, if_true, if_false, Nat.one_ne_zero, gd_some, true_or, or_true, false_or, or_false, xv, hasX_n ok x c2]
        exact fin_x rx (fr.rf _ _)
      · obtain ⟨v1, rm1, f1⟩ := thr0 x rm
        unfold f_X10_bearers
        simp -implicitDefEqProofs (disch := omega) only [x.1.mod, gP_p, gP_t, bnd_s, bnd2_s, ltt_s, jn_s, n32_nat, n32_le, n32_lt, n32_eq, n32_add, n32_sub, n32_dec, n32_mul, n32_div, n32_irm, n32_lit, n32_oN, n32_ix, n32_m1, n32_m2, neg_le0, neg_lt0, neg_lt1, neg_le1, n32_min, n32_max, if_true, if_false, Nat.one_ne_zero, gd_some, true_or, or_true, false_or, or_false]
        simp -implicitDefEqProofs (disch := omega) only [gP_p, gP_t, bnd_s, bnd2_s, ltt_s, jn_s, n32_nat, n32_le, n32_lt, n32_eq, n32_add, n32_sub, n32_dec, n32_mul, n32_div, n32_irm, n32_lit, n32_oN, n32_ix, n32_m1, n32_m2, neg_le0, neg_lt0, neg_lt1, neg_le1, n32_min, n32_max, if_true, if_false, Nat.one_ne_zero, gd_some, true_or, or_true, false_or, or_false, mv, isM_n ok v1.1 v1.2.1 c2]
        exact fin_m rm1 f1
  · have xv : f_X9_within a1 (n32 0) (n32 99999) = some (n32 0) := within_n c1
    have mv := in_n (x := a1) (lo := 0) (hi := 99999) (a := 0) (b := 99999) rfl rfl c1
    refine ⟨-n32 1, l, fun h x rx => ?_, fun h x rm => ?_⟩
    · unfold f_X9_bearers
      simp -implicitDefEqProofs (disch := omega) only [x.1.root, gP_p, gP_t, bnd_s, bnd2_s, ltt_s, jn_s, n32_nat, n32_le, n32_lt, n32_eq, n32_add, n32_sub, n32_dec, n32_mul, n32_div, n32_irm, n32_lit, n32_oN, n32_ix, n32_m1, n32_m2, neg_le0, neg_lt0, neg_lt1, neg_le1, n32_min, n32_max, if_true, if_false, Nat.one_ne_zero, gd_some, true_or, or_true, false_or, or_false, xv]
      exact fin_x rx (fr.rf _ _)
    · obtain ⟨v1, rm1, f1⟩ := thr0 x rm
      unfold f_X10_bearers
      simp -implicitDefEqProofs (disch := omega) only [x.1.mod, gP_p, gP_t, bnd_s, bnd2_s, ltt_s, jn_s, n32_nat, n32_le, n32_lt, n32_eq, n32_add, n32_sub, n32_dec, n32_mul, n32_div, n32_irm, n32_lit, n32_oN, n32_ix, n32_m1, n32_m2, neg_le0, neg_lt0, neg_lt1, neg_le1, n32_min, n32_max, if_true, if_false, Nat.one_ne_zero, gd_some, true_or, or_true, false_or, or_false]
      simp -implicitDefEqProofs (disch := omega) only [gP_p, gP_t, bnd_s, bnd2_s, ltt_s, jn_s, n32_nat, n32_le, n32_lt, n32_eq, n32_add, n32_sub, n32_dec, n32_mul, n32_div, n32_irm, n32_lit, n32_oN, n32_ix, n32_m1, n32_m2, neg_le0, neg_lt0, neg_lt1, neg_le1, n32_min, n32_max, if_true, if_false, Nat.one_ne_zero, gd_some, true_or, or_true, false_or, or_false, mv]
      exact fin_m rm1 f1) h I
