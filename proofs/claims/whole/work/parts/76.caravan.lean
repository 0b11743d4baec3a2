/-! ===== caravan ===== -/
def p3 (j : Nat) : Nat := 3 ^ j
theorem p3_s (j : Nat) : p3 (j + 1) = 3 * p3 j := by unfold p3; rw [Nat.pow_succ, Nat.mul_comm]
theorem p3_pos (j : Nat) : 0 < p3 j := Nat.pow_pos (by omega)
theorem p3_b {j : Nat} (h : j ≤ 6) : p3 j ≤ 729 := by
  rcases (show j = 0 ∨ j = 1 ∨ j = 2 ∨ j = 3 ∨ j = 4 ∨ j = 5 ∨ j = 6 by omega) with rfl | rfl | rfl | rfl | rfl | rfl | rfl <;> decide
theorem tab_p {j : Nat} (h : j ≤ 6) : tabv 1 j = n32 (p3 j) := by
  rcases (show j = 0 ∨ j = 1 ∨ j = 2 ∨ j = 3 ∨ j = 4 ∨ j = 5 ∨ j = 6 by omega) with rfl | rfl | rfl | rfl | rfl | rfl | rfl <;> decide
def mn9 (x : Int64) : Int64 := if 0 < lg_cmp 999999999 x then x else 999999999
theorem mn9_e (x : Int64) : f_J9_min_f86c9 999999999 x = some (mn9 x) := by
  unfold f_J9_min_f86c9 mn9
  split <;> rfl
def cst (p d : Nat) (s : Int64 × Int64) : Int64 × Int64 := if d = 1 then (mn9 (s.1 + s.2 * (n32 p).toInt64), 0) else if d = 2 then (if p = 0 then s else (lrm s.1 (n32 p).toInt64, s.2 + s.1 / (n32 p).toInt64)) else s
noncomputable def stp (w : Wd) (v : Nat) : Nat → Nat → Int64 × Int64
  | 0, _ => ((n32 v).toInt64, 0)
  | m + 1, b => cst (fo w m m) (b % 3) (stp w v m (b / 3))
theorem n64_ne {p : Nat} (h : p ≠ 0) (hp : p < 2147483648) : ¬ (n32 p).toInt64 = 0 := by
  intro q
  have h1 : (n32 p).toInt64.toInt = (0 : Int64).toInt := by rw [q]
  rw [Int32.toInt_toInt64, n32_int hp] at h1
  have e : (0 : Int64).toInt = 0 := rfl
  omega
noncomputable def pk (w : Wd) (v s : Nat) (B : Int64 × Nat) : Int64 × Nat := if lg_cmp (stp w v (wsz w) s).1 B.1 ≤ 0 then B else ((stp w v (wsz w) s).1, s)
noncomputable def cF (w : Wd) (v : Nat) : Nat → Nat → Int64 × Nat → Int64 × Nat
  | 0, _, B => B
  | n + 1, s, B => cF w v n (s + 1) (pk w v s B)
noncomputable def ctr (w : Wd) (v : Nat) : Nat → Nat → Int64 × Nat → Int64 × Nat
  | 0, b, B => pk w v b B
  | k + 1, b, B => ctr w v k (3 * b + 2) (ctr w v k (3 * b + 1) (ctr w v k (3 * b) B))
theorem cF_add {w : Wd} {v : Nat} (a : Nat) : ∀ (b s : Nat) (B : Int64 × Nat), cF w v (a + b) s B = cF w v b (s + a) (cF w v a s B) := by
  induction a with
  | zero => intro b s B; rw [Nat.zero_add]; rfl
  | succ a ih =>
    intro b s B
    rw [show a + 1 + b = (a + b) + 1 by omega]
    show cF w v (a + b) (s + 1) (pk w v s B) = _
    rw [ih, show s + 1 + a = s + (a + 1) by omega]
    rfl
theorem cT_F {w : Wd} {v : Nat} (k : Nat) : ∀ (b : Nat) (B : Int64 × Nat), ctr w v k b B = cF w v (p3 k) (b * p3 k) B := by
  induction k with
  | zero => intro b B; rw [show b * p3 0 = b from Nat.mul_one b]; rfl
  | succ k ih =>
    intro b B
    show ctr w v k (3 * b + 2) (ctr w v k (3 * b + 1) (ctr w v k (3 * b) B)) = _
    rw [ih, ih, ih, p3_s, show 3 * p3 k = p3 k + (p3 k + p3 k) by omega, cF_add, cF_add]
    have e : b * (p3 k + (p3 k + p3 k)) = 3 * b * p3 k := by
      rw [Nat.mul_add, Nat.mul_add, Nat.mul_assoc 3 b]
      omega
    rw [e]
    have e1 : (3 * b + 1) * p3 k = 3 * b * p3 k + p3 k := by rw [Nat.add_mul, Nat.one_mul]
    have e2 : (3 * b + 2) * p3 k = 3 * b * p3 k + p3 k + p3 k := by rw [Nat.add_mul]; omega
    rw [e1, e2]
def dig (m b i : Nat) : Nat := b / p3 (m - 1 - i) % 3
theorem dig_s {m b d i : Nat} (hd : d < 3) (hi : i < m) : dig (m + 1) (3 * b + d) i = dig m b i := by
  unfold dig
  rw [show m + 1 - 1 - i = (m - 1 - i) + 1 by omega, p3_s, ← Nat.div_div_eq_div_mul, show (3 * b + d) / 3 = b by omega]
theorem dig_l {m b d : Nat} (hd : d < 3) : dig (m + 1) (3 * b + d) m = d := by
  unfold dig
  rw [show m + 1 - 1 - m = 0 by omega]
  show (3 * b + d) / 1 % 3 = d
  rw [Nat.div_one]
  omega
/-! the program -/
theorem deed_x {w : Wd} {h0 h : HP} {l : List Int64} {plan i : Nat} (ok : wOK w) (e : XEq w l h0 h) (hp : plan < 1000) (hi : i < wsz w) : f_X9_deedOf h 0 (n32 plan) (n32 i) = some (n32 (dig (wsz w) plan i)) := by
  have hz := ok.1
  have z := e.1.2.1
  have tb := tab_p (j := wsz w - 1 - i) (by omega)
  have pb := p3_b (j := wsz w - 1 - i) (by omega)
  have pp := p3_pos (wsz w - 1 - i)
  have pn : ¬ p3 (wsz w - 1 - i) = 0 := by omega
  have dl : plan / p3 (wsz w - 1 - i) ≤ plan := Nat.div_le_self _ _
  unfold f_X9_deedOf
  simp -implicitDefEqProofs (disch := omega) only [e.1.1.root, gP_p, gP_t, bnd_s, bnd2_s, ltt_s, jn_s, n32_nat, n32_le, n32_lt, n32_eq, n32_add, n32_sub, n32_dec, n32_mul, n32_div, n32_irm, n32_lit, n32_oN, n32_ix, n32_m1, n32_m2, neg_le0, neg_lt0, neg_lt1, neg_le1, n32_min, n32_max, if_true, if_false, Nat.one_ne_zero, gd_some, true_or, or_true, false_or, or_false, z, tb, pn, not_false_eq_true]
  rfl
theorem plan_x {w : Wd} {h0 h : HP} {l : List Int64} {v plan : Nat} (ok : wOK w) (e : XEq w l h0 h) (ff : FF w h) (hp : plan < 1000) : ∀ (d i fuel : Nat), i + d = wsz w → d < fuel →
    lp (fun _ _ _ => none) (f_X9_shellsByPlan_B9 1000 0 (n32 plan) h) fuel (stp w v i (plan / p3 d)).1 (stp w v i (plan / p3 d)).2 (n32 i) = some (stp w v (wsz w) plan).1 := by
  have hz := ok.1
  have z := e.1.2.1
  have gl : lenH h 156 = 6 := e.1.1.ln (k := 106) (by decide +kernel)
  intro d
  induction d with
  | zero =>
    intro i fuel hi hf
    obtain ⟨k, rfl⟩ : ∃ k, fuel = k + 1 := ⟨fuel - 1, by omega⟩
    have e1 : wsz w ≤ i := by omega
    have ei : i = wsz w := by omega
    simp -implicitDefEqProofs (disch := omega) only [lp_s, f_X9_shellsByPlan_B9, gP_p, gP_t, bnd_s, bnd2_s, ltt_s, jn_s, n32_nat, n32_le, n32_lt, n32_eq, n32_add, n32_sub, n32_dec, n32_mul, n32_div, n32_irm, n32_lit, n32_oN, n32_ix, n32_m1, n32_m2, neg_le0, neg_lt0, neg_lt1, neg_le1, n32_min, n32_max, if_true, if_false, Nat.one_ne_zero, gd_some, true_or, or_true, false_or, or_false, z, e1, e.1.1.root]
    rw [ei, show plan / p3 0 = plan from Nat.div_one plan]
  | succ d ih =>
    intro i fuel hi hf
    obtain ⟨k, rfl⟩ : ∃ k, fuel = k + 1 := ⟨fuel - 1, by omega⟩
    have e1 : ¬ wsz w ≤ i := by omega
    obtain ⟨g1, g2⟩ := e.1.1.fore (i := i) (by omega)
    have dx := deed_x ok e hp (show i < wsz w by omega)
    have vx := ff i i (by omega) (by omega)
    have pb := fo_le (w := w) (n := i) (i := i)
    have nx := ih (i + 1) k (by omega) (by omega)
    have es : stp w v (i + 1) (plan / p3 d) = cst (fo w i i) (plan / p3 d % 3) (stp w v i (plan / p3 (d + 1))) := by
      show cst (fo w i i) (plan / p3 d % 3) (stp w v i (plan / p3 d / 3)) = _
      rw [Nat.div_div_eq_div_mul, Nat.mul_comm, ← p3_s]
    have ed : dig (wsz w) plan i = plan / p3 d % 3 := by
      unfold dig
      rw [show wsz w - 1 - i = d by omega]
    rw [ed] at dx
    rw [es] at nx
    have h3 : plan / p3 d % 3 < 3 := Nat.mod_lt _ (by omega)
    generalize plan / p3 d % 3 = dg at dx nx h3
    generalize hS : stp w v i (plan / p3 (d + 1)) = S at nx
    unfold cst at nx
    by_cases q1 : dg = 1
    · subst q1
      rw [if_pos rfl] at nx
      simp -implicitDefEqProofs (disch := omega) only [lp_s, f_X9_shellsByPlan_B9, gP_p, gP_t, bnd_s, bnd2_s, ltt_s, jn_s, n32_nat, n32_le, n32_lt, n32_eq, n32_add, n32_sub, n32_dec, n32_mul, n32_div, n32_irm, n32_lit, n32_oN, n32_ix, n32_m1, n32_m2, neg_le0, neg_lt0, neg_lt1, neg_le1, n32_min, n32_max, if_true, if_false, Nat.one_ne_zero, gd_some, true_or, or_true, false_or, or_false, z, e1, e.1.1.root, dx, g1, g2, gl, vx, mn9_e, Nat.reduceEqDiff]
      exact nx
    · rw [if_neg q1] at nx
      by_cases q2 : dg = 2
      · subst q2
        rw [if_pos rfl] at nx
        by_cases q3 : fo w i i = 0
        · rw [if_pos q3] at nx
          have q4 : fo w i i ≤ 0 := by omega
          simp -implicitDefEqProofs (disch := omega) only [lp_s, f_X9_shellsByPlan_B9, gP_p, gP_t, bnd_s, bnd2_s, ltt_s, jn_s, n32_nat, n32_le, n32_lt, n32_eq, n32_add, n32_sub, n32_dec, n32_mul, n32_div, n32_irm, n32_lit, n32_oN, n32_ix, n32_m1, n32_m2, neg_le0, neg_lt0, neg_lt1, neg_le1, n32_min, n32_max, if_true, if_false, Nat.one_ne_zero, gd_some, true_or, or_true, false_or, or_false, z, e1, e.1.1.root, dx, g1, g2, gl, vx, q4, Nat.reduceEqDiff]
          exact nx
        · rw [if_neg q3] at nx
          have q4 : ¬ fo w i i ≤ 0 := by omega
          have q5 := n64_ne q3 (by omega)
          simp -implicitDefEqProofs (disch := omega) only [lp_s, f_X9_shellsByPlan_B9, gP_p, gP_t, bnd_s, bnd2_s, ltt_s, jn_s, n32_nat, n32_le, n32_lt, n32_eq, n32_add, n32_sub, n32_dec, n32_mul, n32_div, n32_irm, n32_lit, n32_oN, n32_ix, n32_m1, n32_m2, neg_le0, neg_lt0, neg_lt1, neg_le1, n32_min, n32_max, if_true, if_false, Nat.one_ne_zero, gd_some, true_or, or_true, false_or, or_false, z, e1, e.1.1.root, dx, g1, g2, gl, vx, q4, q5, not_false_eq_true, Nat.reduceEqDiff]
          exact nx
      · rw [if_neg q2] at nx
        simp -implicitDefEqProofs (disch := omega) only [lp_s, f_X9_shellsByPlan_B9, gP_p, gP_t, bnd_s, bnd2_s, ltt_s, jn_s, n32_nat, n32_le, n32_lt, n32_eq, n32_add, n32_sub, n32_dec, n32_mul, n32_div, n32_irm, n32_lit, n32_oN, n32_ix, n32_m1, n32_m2, neg_le0, neg_lt0, neg_lt1, neg_le1, n32_min, n32_max, if_true, if_false, Nat.one_ne_zero, gd_some, true_or, or_true, false_or, or_false, z, e1, e.1.1.root, dx, g1, g2, gl, vx, q1, q2]
        exact nx
theorem div_p3 {plan k : Nat} (h : plan < p3 k) : plan / p3 k = 0 := Nat.div_eq_of_lt h
theorem plans_x {w : Wd} {h0 h : HP} {l : List Int64} {v : Nat} {k : Int64 → Int32 → Option (Int32 × HP)} {Q : Int32 × HP → Prop} (ok : wOK w) (e : XEq w l h0 h) (ff : FF w h) (E : Int64 × Nat) (K : gd (k E.1 (n32 E.2)) Q) : ∀ (d s fuel : Nat) (B : Int64 × Nat), s + d = p3 (wsz w) → d < fuel → cF w v d s B = E →
    gd (lp (fun _ _ _ => none) (f_X9_caravan_B40 1000 0 (n32 v) h k) fuel B.1 (n32 B.2) (n32 s)) Q := by
  have hz := ok.1
  have z := e.1.2.1
  have tb := tab_p (j := wsz w) (by omega)
  have pb := p3_b (j := wsz w) (by omega)
  intro d
  induction d with
  | zero =>
    intro s fuel B hs hf hE
    obtain ⟨k', rfl⟩ : ∃ k, fuel = k + 1 := ⟨fuel - 1, by omega⟩
    have e1 : p3 (wsz w) ≤ s := by omega
    simp -implicitDefEqProofs (disch := omega) only [lp_s, f_X9_caravan_B40, gP_p, gP_t, bnd_s, bnd2_s, ltt_s, jn_s, n32_nat, n32_le, n32_lt, n32_eq, n32_add, n32_sub, n32_dec, n32_mul, n32_div, n32_irm, n32_lit, n32_oN, n32_ix, n32_m1, n32_m2, neg_le0, neg_lt0, neg_lt1, neg_le1, n32_min, n32_max, if_true, if_false, Nat.one_ne_zero, gd_some, true_or, or_true, false_or, or_false, z, tb, e1, e.1.1.root]
    have hE' : B = E := hE
    subst hE'
    exact K
  | succ d ih =>
    intro s fuel B hs hf hE
    obtain ⟨k', rfl⟩ : ∃ k, fuel = k + 1 := ⟨fuel - 1, by omega⟩
    have e1 : ¬ p3 (wsz w) ≤ s := by omega
    have px := plan_x (v := v) ok e ff (show s < 1000 by omega) (wsz w) 0 1000 (by omega) (by omega)
    have hE' : cF w v d (s + 1) (pk w v s B) = E := hE
    have sp : f_X9_shellsByPlan 1000 h 0 (n32 s) (n32 v) = some (stp w v (wsz w) s).1 := by
      unfold f_X9_shellsByPlan
      rw [gP_p (by simp only [e.1.1.root])]
      exact px
    have r2 : rK h 0 2 0 = some 5 := by simp only [e.1.1.root]
    have nx := ih (s + 1) k' (pk w v s B) (by omega) (by omega) hE'
    unfold pk at nx
    by_cases q : lg_cmp (stp w v (wsz w) s).1 B.1 ≤ 0
    · rw [if_pos q] at nx
      have q' : lg_cmp (stp w v (wsz w) s).1 B.1 ≤ n32 0 := q
      simp -implicitDefEqProofs (disch := omega) only [lp_s, f_X9_caravan_B40, gP_p, gP_t, bnd_s, bnd2_s, ltt_s, jn_s, n32_nat, n32_le, n32_lt, n32_eq, n32_add, n32_sub, n32_dec, n32_mul, n32_div, n32_irm, n32_lit, n32_oN, n32_ix, n32_m1, n32_m2, neg_le0, neg_lt0, neg_lt1, neg_le1, n32_min, n32_max, if_true, if_false, Nat.one_ne_zero, gd_some, true_or, or_true, false_or, or_false, z, tb, e1, e.1.1.root, sp, q']
      exact nx
    · rw [if_neg q] at nx
      have q' : ¬ lg_cmp (stp w v (wsz w) s).1 B.1 ≤ n32 0 := q
      simp -implicitDefEqProofs (disch := omega) only [lp_s, f_X9_caravan_B40, gP_p, gP_t, bnd_s, bnd2_s, ltt_s, jn_s, n32_nat, n32_le, n32_lt, n32_eq, n32_add, n32_sub, n32_dec, n32_mul, n32_div, n32_irm, n32_lit, n32_oN, n32_ix, n32_m1, n32_m2, neg_le0, neg_lt0, neg_lt1, neg_le1, n32_min, n32_max, if_true, if_false, Nat.one_ne_zero, gd_some, true_or, or_true, false_or, or_false, z, tb, e1, e.1.1.root, sp, q']
      exact nx
def rowD (w : Wd) (ch n : Nat) : List Int64 := (List.range n).map (fun i => (n32 (dig (wsz w) ch i)).toInt64)
theorem rowD_s {w : Wd} {ch n : Nat} : rowD w ch (n + 1) = rowD w ch n ++ [(n32 (dig (wsz w) ch n)).toInt64] := by
  unfold rowD
  rw [List.range_succ, List.map_append]
  rfl
theorem rowD_l {w : Wd} {ch n : Nat} : (rowD w ch n).length = n := by unfold rowD; simp
theorem tells_x {w : Wd} {h0 : HP} {b : Int64} {ch : Nat} (ok : wOK w) (hc : ch < 1000) : ∀ (d i fuel : Nat) (h : HP), i + d = wsz w → d < fuel → XEq w (rowD w ch i) h0 h →
    gd (lp (fun _ _ => none) (f_X9_caravan_B95 1000 0 b (n32 ch)) fuel (n32 i) h) (XA (rowD w ch (wsz w)) b.toInt32 h0) := by
  have hz := ok.1
  intro d
  induction d with
  | zero =>
    intro i fuel h hi hf e
    obtain ⟨k', rfl⟩ : ∃ k, fuel = k + 1 := ⟨fuel - 1, by omega⟩
    have e1 : wsz w ≤ i := by omega
    have ei : i = wsz w := by omega
    have z := e.1.2.1
    simp -implicitDefEqProofs (disch := omega) only [lp_s, f_X9_caravan_B95, gP_p, gP_t, bnd_s, bnd2_s, ltt_s, jn_s, n32_nat, n32_le, n32_lt, n32_eq, n32_add, n32_sub, n32_dec, n32_mul, n32_div, n32_irm, n32_lit, n32_oN, n32_ix, n32_m1, n32_m2, neg_le0, neg_lt0, neg_lt1, neg_le1, n32_min, n32_max, if_true, if_false, Nat.one_ne_zero, gd_some, true_or, or_true, false_or, or_false, z, e1, e.1.1.root]
    rw [ei] at e
    exact ⟨rfl, e.2.1, e.2.2⟩
  | succ d ih =>
    intro i fuel h hi hf e
    obtain ⟨k', rfl⟩ : ∃ k, fuel = k + 1 := ⟨fuel - 1, by omega⟩
    have e1 : ¬ wsz w ≤ i := by omega
    have z := e.1.2.1
    have dx := deed_x ok e hc (show i < wsz w by omega)
    simp -implicitDefEqProofs (disch := omega) only [lp_s, f_X9_caravan_B95, gP_p, gP_t, bnd_s, bnd2_s, ltt_s, jn_s, n32_nat, n32_le, n32_lt, n32_eq, n32_add, n32_sub, n32_dec, n32_mul, n32_div, n32_irm, n32_lit, n32_oN, n32_ix, n32_m1, n32_m2, neg_le0, neg_lt0, neg_lt1, neg_le1, n32_min, n32_max, if_true, if_false, Nat.one_ne_zero, gd_some, true_or, or_true, false_or, or_false, z, e1, e.1.1.root, dx, gd_bnd]
    refine gd_mono (rowX_a e.1.1 e.2.1 (by rw [rowD_l]; omega)) ?_
    rintro h1 ⟨r1, f1⟩
    exact ih (i + 1) k' h1 (by omega) (by omega) ⟨e.1.fr f1 (by decide), by rw [rowD_s]; exact r1, e.2.2.tr (f1.mono (by decide))⟩
/-! the reference -/
def CV (w : Wd) (h : HP) : Prop := SH w.1 w.2.1 h ∧ h.2.1 188 3 = n32 (wsz w) ∧ ∀ i, i < wsz w → h.2.1 208 i = n32 (fo w i i)
def dgs (w : Wd) (h : HP) (ch : Nat) : Prop := ∀ i, i < wsz w → h.2.1 210 i = n32 (dig (wsz w) ch i)
theorem cpy_m {w : Wd} {rf : HP → Nat → Int32 → Int64 → Int64 → Option HP} {ch : Nat} (hz : wsz w ≤ 6) (h0 : HP) : ∀ (d i fuel : Nat) (h : HP), i + d = wsz w → d < fuel → CV w h → (∀ i, i < wsz w → h.2.1 209 i = n32 (dig (wsz w) ch i)) → (∀ j, j < i → h.2.1 210 j = n32 (dig (wsz w) ch j)) → h.2.2.1 188 37 = h0.2.2.1 188 37 → fr [42] h0 h →
    gd (lp (fun _ _ => none) (f_X10_travels_B25 1000 rf 188) fuel (n32 i) h) (fun h' => CV w h' ∧ (∀ i, i < wsz w → h'.2.1 209 i = n32 (dig (wsz w) ch i)) ∧ dgs w h' ch ∧ h'.2.2.1 188 37 = h0.2.2.1 188 37 ∧ fr [42] h0 h') := by
  intro d
  induction d with
  | zero =>
    intro i fuel h hi hf cv a b j f
    obtain ⟨k', rfl⟩ : ∃ k, fuel = k + 1 := ⟨fuel - 1, by omega⟩
    have e1 : wsz w ≤ i := by omega
    have z := cv.2.1
    simp -implicitDefEqProofs (disch := omega) only [lp_s, f_X10_travels_B25, gP_p, gP_t, bnd_s, bnd2_s, ltt_s, jn_s, n32_nat, n32_le, n32_lt, n32_eq, n32_add, n32_sub, n32_dec, n32_mul, n32_div, n32_irm, n32_lit, n32_oN, n32_ix, n32_m1, n32_m2, neg_le0, neg_lt0, neg_lt1, neg_le1, n32_min, n32_max, if_true, if_false, Nat.one_ne_zero, gd_some, true_or, or_true, false_or, or_false, z, e1]
    exact ⟨cv, a, fun x hx => b x (by omega), j, f⟩
  | succ d ih =>
    intro i fuel h hi hf cv a b j f
    obtain ⟨k', rfl⟩ : ∃ k, fuel = k + 1 := ⟨fuel - 1, by omega⟩
    have e1 : ¬ wsz w ≤ i := by omega
    have z := cv.2.1
    have ai := a i (by omega)
    simp -implicitDefEqProofs (disch := omega) only [lp_s, f_X10_travels_B25, gP_p, gP_t, bnd_s, bnd2_s, ltt_s, jn_s, n32_nat, n32_le, n32_lt, n32_eq, n32_add, n32_sub, n32_dec, n32_mul, n32_div, n32_irm, n32_lit, n32_oN, n32_ix, n32_m1, n32_m2, neg_le0, neg_lt0, neg_lt1, neg_le1, n32_min, n32_max, if_true, if_false, Nat.one_ne_zero, gd_some, true_or, or_true, false_or, or_false, z, e1, cv.1.mod, ai]
    refine ih (i + 1) k' _ (by omega) (by omega) ⟨cv.1.sm ⟨rfl, rfl⟩, by rw [sI_ne (by omega)]; exact z, fun x hx => by rw [sI_ne (by omega)]; exact cv.2.2 x hx⟩ (fun x hx => by rw [sI_ne (by omega)]; exact a x hx) (fun x hx => ?_) j (f.sI rfl)
    by_cases q : x = i
    · rw [q, sI_eq]
    · rw [sI_ne (by omega)]
      exact b x (by omega)
theorem z64_mul (x : Int64) : (0 : Int64) * x = 0 := Int64.zero_mul
theorem trav_m {w : Wd} {v : Nat} (hz : wsz w ≤ 6) : ∀ (k b fuel : Nat) (B : Int64 × Nat) (u : Prop) (h : HP), k ≤ wsz w → k < fuel → CV w h → (∀ i, i < wsz w - k → h.2.1 209 i = n32 (dig (wsz w - k) b i)) → h.2.2.1 188 37 = B.1 → (u → dgs w h B.2) →
    gd (lp (fun _ _ _ _ _ => none) (fun rf => f_X10_travels_S rf 1000) fuel h 188 (n32 (wsz w - k)) (stp w v (wsz w - k) b).1 (stp w v (wsz w - k) b).2) (fun h' => CV w h' ∧ (∀ i, i < wsz w - k → h'.2.1 209 i = n32 (dig (wsz w - k) b i)) ∧ h'.2.2.1 188 37 = (ctr w v k b B).1 ∧ ((u ∨ ¬ lg_cmp (stp w v (wsz w - k) b).1 B.1 ≤ 0) → dgs w h' (ctr w v k b B).2) ∧ fr [42] h h') := by
  intro k
  induction k with
  | zero =>
    intro b fuel B u h hk hf cv a j hu
    obtain ⟨k', rfl⟩ : ∃ k, fuel = k + 1 := ⟨fuel - 1, by omega⟩
    rw [Nat.sub_zero] at a ⊢
    have z := cv.2.1
    rw [lp_s]
    unfold f_X10_travels_S
    rw [gP_p (by simp only [cv.1.mod]), z, if_pos rfl, j]
    show gd _ (fun h' => CV w h' ∧ _ ∧ h'.2.2.1 188 37 = (pk w v b B).1 ∧ (_ → dgs w h' (pk w v b B).2) ∧ _)
    unfold pk
    by_cases q : lg_cmp (stp w v (wsz w) b).1 B.1 ≤ 0
    · rw [if_pos q, if_pos q, gd_some]
      exact ⟨cv, a, j, fun o => o.elim hu (fun n => absurd q n), fr.rf _ _⟩
    · rw [if_neg q, if_neg q, gd_lt]
      refine gd_mono (cpy_m (ch := b) hz (setJ h 188 37 (stp w v (wsz w) b).1) (wsz w) 0 1000 (setJ h 188 37 (stp w v (wsz w) b).1) (by omega) (by omega) ⟨cv.1.sm ⟨rfl, rfl⟩, z, cv.2.2⟩ a (fun x hx => absurd hx (by omega)) rfl (fr.rf _ _)) ?_
      rintro h' ⟨c1, c2, c3, c4, c5⟩
      refine ⟨c1, c2, ?_, fun _ => c3, ((fr.rf _ _).sJ rfl).tr c5⟩
      rw [c4, sJ_eq]
  | succ k ih =>
    intro b fuel B u h hk hf cv a j hu
    obtain ⟨k', rfl⟩ : ∃ k, fuel = k + 1 := ⟨fuel - 1, by omega⟩
    have z := cv.2.1
    obtain ⟨m, hm⟩ : ∃ m, wsz w - (k + 1) = m := ⟨_, rfl⟩
    have hm1 : wsz w - k = m + 1 := by omega
    rw [hm] at a ⊢
    have pm := cv.2.2 m (by omega)
    have fb := fo_le (w := w) (n := m) (i := m)
    have nm : ¬ n32 m = n32 (wsz w) := by rw [n32_eq (by omega) (by omega)]; omega
    -- a child
    have child : ∀ (d : Nat) (B : Int64 × Nat) (u : Prop) (h : HP), d < 3 → CV w h → (∀ i, i < m → h.2.1 209 i = n32 (dig m b i)) → h.2.2.1 188 37 = B.1 → (u → dgs w h B.2) →
        gd (lp (fun _ _ _ _ _ => none) (fun rf => f_X10_travels_S rf 1000) k' (setI h 209 m (n32 d)) 188 (n32 (m + 1)) (cst (fo w m m) d (stp w v m b)).1 (cst (fo w m m) d (stp w v m b)).2) (fun h' => CV w h' ∧ (∀ i, i < m → h'.2.1 209 i = n32 (dig m b i)) ∧ h'.2.2.1 188 37 = (ctr w v k (3 * b + d) B).1 ∧ ((u ∨ ¬ lg_cmp (cst (fo w m m) d (stp w v m b)).1 B.1 ≤ 0) → dgs w h' (ctr w v k (3 * b + d) B).2) ∧ fr [42] h h') := fun d B u h hd cv a j hu => by
      have es : stp w v (m + 1) (3 * b + d) = cst (fo w m m) d (stp w v m b) := by
        show cst (fo w m m) ((3 * b + d) % 3) (stp w v m ((3 * b + d) / 3)) = _
        rw [show (3 * b + d) % 3 = d by omega, show (3 * b + d) / 3 = b by omega]
      have := ih (3 * b + d) k' B u (setI h 209 m (n32 d)) (by omega) (by omega) ⟨cv.1.sm ⟨rfl, rfl⟩, by rw [sI_ne (by omega)]; exact cv.2.1, fun x hx => by rw [sI_ne (by omega)]; exact cv.2.2 x hx⟩ (fun i hi => by
        rw [hm1] at hi ⊢
        by_cases q : i = m
        · rw [q, sI_eq, dig_l hd]
        · rw [sI_ne (by omega), dig_s hd (by omega)]
          exact a i (by omega)) j (fun hx => fun i hi => by rw [sI_ne (by omega)]; exact hu hx i hi)
      rw [hm1, es] at this
      refine gd_mono this ?_
      rintro h' ⟨c1, c2, c3, c4, c5⟩
      refine ⟨c1, fun i hi => ?_, c3, c4, ((fr.rf _ _).sI rfl).tr c5⟩
      rw [c2 i (by omega), dig_s hd hi]
    have c0 := child 0 B u h (by omega) cv a j hu
    have e0 : cst (fo w m m) 0 (stp w v m b) = stp w v m b := rfl
    rw [e0, Nat.add_zero] at c0
    rw [lp_s]
    unfold f_X10_travels_S
    have r34 : rK h 188 34 102 = some 208 := by simp only [cv.1.mod]
    have r35 : rK h 188 35 102 = some 209 := by simp only [cv.1.mod]
    have l208 : lenH h 208 = 6 := by simp only [cv.1.mod]
    have l209 : lenH h 209 = 6 := by simp only [cv.1.mod]
    have im : ixd (n32 m) 6 = true := by rw [n32_ix (by omega)]; omega
    have nmm : (n32 m).toNatClampNeg = m := n32_nat (by omega)
    have body : ∀ y11 : Int64, y11 = (if fo w m m = 0 then 0 else (stp w v m b).1 / (n32 (fo w m m)).toInt64) →
        gd (bnd (rK h 188 35 102) (fun t12 => gP (ixd (n32 m) (lenH h t12) = true) (lt_ (setI h t12 m 0) (fun h18 => bnd (lp (fun _ _ _ _ _ => none) (fun rf => f_X10_travels_S rf 1000) k' h18 188 (n32 m + 1) (stp w v m b).1 (stp w v m b).2) (fun h21 => bnd (rK h21 188 35 102) (fun t25 => gP (ixd (n32 m) (lenH h21 t25) = true) (lt_ (setI h21 t25 m 1) (fun h31 => bnd (f_J9_min_f86c9 999999999 ((stp w v m b).1 + ((stp w v m b).2 * (n32 (fo w m m)).toInt64))) (fun v34 => bnd (lp (fun _ _ _ _ _ => none) (fun rf => f_X10_travels_S rf 1000) k' h31 188 (n32 m + 1) v34 0) (fun h37 => bnd (rK h37 188 35 102) (fun t41 => gP (ixd (n32 m) (lenH h37 t41) = true) (lt_ (setI h37 t41 m 2) (fun h47 => bnd (lp (fun _ _ _ _ _ => none) (fun rf => f_X10_travels_S rf 1000) k' h47 188 (n32 m + 1) ((stp w v m b).1 - (y11 * (n32 (fo w m m)).toInt64)) ((stp w v m b).2 + y11)) (fun h50 => some h50)))))))))))))) (fun h' => CV w h' ∧ (∀ i, i < m → h'.2.1 209 i = n32 (dig m b i)) ∧ h'.2.2.1 188 37 = (ctr w v (k + 1) b B).1 ∧ ((u ∨ ¬ lg_cmp (stp w v m b).1 B.1 ≤ 0) → dgs w h' (ctr w v (k + 1) b B).2) ∧ fr [42] h h') := fun y11 hy => by
      have nm1 : n32 m + 1 = n32 (m + 1) := n32_add m 1
      rw [r35, bnd_s, l209, gP_p im, gd_lt, nm1, gd_bnd]
      refine gd_mono c0 ?_
      rintro h1 ⟨a1, a2, a3, a4, a5⟩
      have r35' : rK h1 188 35 102 = some 209 := by simp only [a1.1.mod]
      have l209' : lenH h1 209 = 6 := by simp only [a1.1.mod]
      rw [r35', bnd_s, l209', gP_p im, gd_lt, mn9_e, bnd_s, gd_bnd]
      have c1 := child 1 _ (u ∨ ¬ lg_cmp (stp w v m b).1 B.1 ≤ 0) h1 (by omega) a1 a2 a3 a4
      refine gd_mono c1 ?_
      rintro h2 ⟨b1, b2, b3, b4, b5⟩
      have r35'' : rK h2 188 35 102 = some 209 := by simp only [b1.1.mod]
      have l209'' : lenH h2 209 = 6 := by simp only [b1.1.mod]
      rw [r35'', bnd_s, l209'', gP_p im, gd_lt, gd_bnd]
      have c2 := child 2 _ (u ∨ ¬ lg_cmp (stp w v m b).1 B.1 ≤ 0) h2 (by omega) b1 b2 b3 (fun q => b4 (Or.inl q))
      have e2 : cst (fo w m m) 2 (stp w v m b) = ((stp w v m b).1 - (y11 * (n32 (fo w m m)).toInt64), (stp w v m b).2 + y11) := by
        have e : cst (fo w m m) 2 (stp w v m b) = (if fo w m m = 0 then stp w v m b else (lrm (stp w v m b).1 (n32 (fo w m m)).toInt64, (stp w v m b).2 + (stp w v m b).1 / (n32 (fo w m m)).toInt64)) := rfl
        rw [e, hy]
        by_cases q : fo w m m = 0
        · rw [if_pos q, if_pos q, z64_mul, Int64.sub_zero, Int64.add_zero]
        · rw [if_neg q, if_neg q]
          rfl
      rw [e2] at c2
      refine gd_mono c2 ?_
      rintro h3 ⟨d1, d2, d3, d4, d5⟩
      exact gd_some.mpr ⟨d1, d2, d3, fun q => d4 (Or.inl q), (a5.tr b5).tr d5⟩
    rw [gP_p (by simp only [cv.1.mod]), z, if_neg nm, r34, bnd_s, l208, gP_p im, nmm, pm, gd_lt, gd_jn]
    by_cases q : fo w m m = 0
    · have l0 : lg_cmp (n32 (fo w m m)).toInt64 0 = 0 := by rw [q]; decide
      rw [if_pos l0]
      exact body 0 (by rw [if_pos q])
    · have q5 := n64_ne q (by omega)
      have l0 : ¬ lg_cmp (n32 (fo w m m)).toInt64 0 = 0 := by
        intro x
        unfold lg_cmp at x
        by_cases y : (n32 (fo w m m)).toInt64 > 0
        · rw [if_pos y] at x
          exact absurd x (by decide)
        · rw [if_neg y, if_neg q5] at x
          exact absurd x (by decide)
      rw [if_neg l0, gP_p q5]
      exact body _ (by rw [if_neg q])
