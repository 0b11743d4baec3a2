/-! ===== melts, when, buys, best ===== -/
def gf (v p : Nat) : Nat := if p = 0 then 9999 else v / p
theorem gf_le {v p : Nat} (hv : v ≤ 400000) : gf v p ≤ 400000 := by
  unfold gf
  split
  · omega
  · exact Nat.le_trans (Nat.div_le_self _ _) hv
theorem goods_x {v p : Nat} (hv : v ≤ 400000) (hp : p ≤ 99999) : f_X9_goodsFor (n32 v) (n32 p) = some (n32 (gf v p)) := by
  unfold f_X9_goodsFor gf
  by_cases q : p = 0
  · subst q
    rfl
  · simp -implicitDefEqProofs (disch := omega) only [gP_p, gP_t, bnd_s, bnd2_s, ltt_s, jn_s, n32_nat, n32_le, n32_lt, n32_eq, n32_add, n32_sub, n32_dec, n32_mul, n32_div, n32_irm, n32_lit, n32_oN, n32_ix, n32_m1, n32_m2, neg_le0, neg_lt0, neg_lt1, neg_le1, n32_min, n32_max, if_true, if_false, Nat.one_ne_zero, gd_some, q]
theorem goods_m {v p : Nat} (hv : v ≤ 400000) (hp : p ≤ 99999) : f_X10_buysBy (n32 v) (n32 p) = some (n32 (gf v p)) := by
  unfold f_X10_buysBy gf
  by_cases q : p = 0
  · subst q
    rfl
  · simp -implicitDefEqProofs (disch := omega) only [gP_p, gP_t, bnd_s, bnd2_s, ltt_s, jn_s, n32_nat, n32_le, n32_lt, n32_eq, n32_add, n32_sub, n32_dec, n32_mul, n32_div, n32_irm, n32_lit, n32_oN, n32_ix, n32_m1, n32_m2, neg_le0, neg_lt0, neg_lt1, neg_le1, n32_min, n32_max, if_true, if_false, Nat.one_ne_zero, gd_some, q]
noncomputable def meltM (w : Wd) (m v g : Nat) : Nat → Nat → (Nat → Nat) → Option (Nat × Nat)
  | 0, _, _ => none
  | d + 1, n, q => if g ≤ gf v (wP w q m) then meltM w m v g d (n + 1) (wM w q) else some (n, gf v (wP w q m))
theorem melt_x {m v g : Nat} {w : Wd} {h0 : HP} {l : List Int64} (ok : wOK w) (hm : m < wsz w) (hv : v ≤ 9999) (hg : g ≤ 99) : ∀ (d n fuel : Nat) (h : HP) (q : Nat → Nat) (D : Nat), n + d = 100 → d < fuel → XT w l h0 h q D → D + d ≤ 300000 →
    gd (lp (fun _ _ => none) (f_X9_melts_B42 200 0 (n32 m) (n32 v) (n32 g) (fun (x54 : Int32) (x55 : Int32) (h56 : HP) => bnd (rK h56 0 1 6) (fun t58 => bnd (f_X6_tell h56 t58 (x55.toInt64)) (fun h63 => some (x54, h63))))) fuel (n32 n) h) (XA (oL l (meltM w m v g d n q)) (oA (meltM w m v g d n q)) h0) := by
  intro d
  induction d with
  | zero =>
    intro n fuel h q D hn hf t hD
    obtain ⟨k, rfl⟩ : ∃ k, fuel = k + 1 := ⟨fuel - 1, by omega⟩
    have e : 99 < n := by omega
    simp -implicitDefEqProofs (disch := omega) only [lp_s, f_X9_melts_B42, gP_p, gP_t, bnd_s, bnd2_s, ltt_s, jn_s, n32_nat, n32_le, n32_lt, n32_eq, n32_add, n32_sub, n32_dec, n32_mul, n32_div, n32_irm, n32_lit, n32_oN, n32_ix, n32_m1, n32_m2, neg_le0, neg_lt0, neg_lt1, neg_le1, n32_min, n32_max, if_true, if_false, Nat.one_ne_zero, gd_some, e]
    exact fin_x t.2.1 t.2.2.2.2.1
  | succ d ih =>
    intro n fuel h q D hn hf t hD
    obtain ⟨k, rfl⟩ : ∃ k, fuel = k + 1 := ⟨fuel - 1, by omega⟩
    have e : ¬ 99 < n := by omega
    simp -implicitDefEqProofs (disch := omega) only [lp_s, f_X9_melts_B42, gP_p, gP_t, bnd_s, bnd2_s, ltt_s, jn_s, n32_nat, n32_le, n32_lt, n32_eq, n32_add, n32_sub, n32_dec, n32_mul, n32_div, n32_irm, n32_lit, n32_oN, n32_ix, n32_m1, n32_m2, neg_le0, neg_lt0, neg_lt1, neg_le1, n32_min, n32_max, if_true, if_false, Nat.one_ne_zero, gd_some, e, t.1.1.root, gd_bnd2]
    refine gd_mono (x_price (by omega) ok t (by omega) hm) ?_
    rintro ⟨u2, h2⟩ ⟨e2, t2⟩
    have e2' : u2 = n32 (wP w q m) := e2
    subst e2'
    have hp := wP_le (w := w) (q := q) (m := m)
    have hg2 := gf_le (v := v) (p := wP w q m) (by omega)
    unfold meltM
    by_cases q1 : g ≤ gf v (wP w q m)
    · rw [if_pos q1]
      simp -implicitDefEqProofs (disch := omega) only [gP_p, gP_t, bnd_s, bnd2_s, ltt_s, jn_s, n32_nat, n32_le, n32_lt, n32_eq, n32_add, n32_sub, n32_dec, n32_mul, n32_div, n32_irm, n32_lit, n32_oN, n32_ix, n32_m1, n32_m2, neg_le0, neg_lt0, neg_lt1, neg_le1, n32_min, n32_max, if_true, if_false, Nat.one_ne_zero, gd_some, goods_x, q1, t2.1.1.root, gd_bnd2]
      refine gd_mono (x_pass (by omega) (by omega) (by omega) ok t2 (by omega)) ?_
      rintro ⟨u, h1⟩ t1
      exact ih (n + 1) k h1 (wM w q) (D + 1) (by omega) (by omega) t1 (by omega)
    · rw [if_neg q1]
      simp -implicitDefEqProofs (disch := omega) only [gP_p, gP_t, bnd_s, bnd2_s, ltt_s, jn_s, n32_nat, n32_le, n32_lt, n32_eq, n32_add, n32_sub, n32_dec, n32_mul, n32_div, n32_irm, n32_lit, n32_oN, n32_ix, n32_m1, n32_m2, neg_le0, neg_lt0, neg_lt1, neg_le1, n32_min, n32_max, if_true, if_false, Nat.one_ne_zero, gd_some, goods_x, q1, t2.1.1.root, gd_bnd]
      refine gd_mono (x_tell1 t2) ?_
      rintro h3 ⟨r3, f3⟩
      exact ⟨rfl, r3, f3⟩
theorem melt_m {m v g : Nat} {w : Wd} {h0 : HP} {l : List Int64} (ok : wOK w) (hm : m < wsz w) (hv : v ≤ 9999) (hg : g ≤ 99) : ∀ (d n fuel : Nat) (h : HP) (q : Nat → Nat) (D : Nat), n + d = 100 → d < fuel → MT w l h0 h q D → D + d ≤ 300000 →
    gd (lp (fun _ _ => none) (f_X10_melts_B46 200 188 (n32 m) (n32 v) (n32 g) (fun (x46 : Int32) (x47 : Int32) (h48 : HP) => lt_ (setI h48 188 1 0) (fun h50 => bnd (f_X10_enters h50 188 (x47.toInt64)) (fun h53 => some (x46, h53))))) fuel (n32 n) h) (MA (oL l (meltM w m v g d n q)) (oA (meltM w m v g d n q)) h0) := by
  intro d
  induction d with
  | zero =>
    intro n fuel h q D hn hf t hD
    obtain ⟨k, rfl⟩ : ∃ k, fuel = k + 1 := ⟨fuel - 1, by omega⟩
    have e : 99 < n := by omega
    simp -implicitDefEqProofs (disch := omega) only [lp_s, f_X10_melts_B46, gP_p, gP_t, bnd_s, bnd2_s, ltt_s, jn_s, n32_nat, n32_le, n32_lt, n32_eq, n32_add, n32_sub, n32_dec, n32_mul, n32_div, n32_irm, n32_lit, n32_oN, n32_ix, n32_m1, n32_m2, neg_le0, neg_lt0, neg_lt1, neg_le1, n32_min, n32_max, if_true, if_false, Nat.one_ne_zero, gd_some, e]
    exact fin_m t.2.1 t.2.2.2.1
  | succ d ih =>
    intro n fuel h q D hn hf t hD
    obtain ⟨k, rfl⟩ : ∃ k, fuel = k + 1 := ⟨fuel - 1, by omega⟩
    have e : ¬ 99 < n := by omega
    simp -implicitDefEqProofs (disch := omega) only [lp_s, f_X10_melts_B46, gP_p, gP_t, bnd_s, bnd2_s, ltt_s, jn_s, n32_nat, n32_le, n32_lt, n32_eq, n32_add, n32_sub, n32_dec, n32_mul, n32_div, n32_irm, n32_lit, n32_oN, n32_ix, n32_m1, n32_m2, neg_le0, neg_lt0, neg_lt1, neg_le1, n32_min, n32_max, if_true, if_false, Nat.one_ne_zero, gd_some, e, t.1.1.mod, gd_bnd2]
    refine gd_mono (m_price (by omega) ok t (by omega) hm) ?_
    rintro ⟨u2, h2⟩ ⟨e2, t2⟩
    have e2' : u2 = n32 (wP w q m) := e2
    subst e2'
    have hp := wP_le (w := w) (q := q) (m := m)
    have hg2 := gf_le (v := v) (p := wP w q m) (by omega)
    unfold meltM
    by_cases q1 : g ≤ gf v (wP w q m)
    · rw [if_pos q1]
      have goal := fun h1 t1 => ih (n + 1) k h1 (wM w q) (D + 1) (by omega) (by omega) t1 (by omega)
      simp -implicitDefEqProofs (disch := omega) only [gP_p, gP_t, bnd_s, bnd2_s, ltt_s, jn_s, n32_nat, n32_le, n32_lt, n32_eq, n32_add, n32_sub, n32_dec, n32_mul, n32_div, n32_irm, n32_lit, n32_oN, n32_ix, n32_m1, n32_m2, neg_le0, neg_lt0, neg_lt1, neg_le1, n32_min, n32_max, if_true, if_false, Nat.one_ne_zero, gd_some] at goal
      simp -implicitDefEqProofs (disch := omega) only [gP_p, gP_t, bnd_s, bnd2_s, ltt_s, jn_s, n32_nat, n32_le, n32_lt, n32_eq, n32_add, n32_sub, n32_dec, n32_mul, n32_div, n32_irm, n32_lit, n32_oN, n32_ix, n32_m1, n32_m2, neg_le0, neg_lt0, neg_lt1, neg_le1, n32_min, n32_max, if_true, if_false, Nat.one_ne_zero, gd_some, goods_m, q1, t2.1.1.mod, gd_bnd]
      refine gd_mono (m_month (by omega) ok t2 (by omega)) ?_
      intro h1 t1
      exact goal h1 t1
    · rw [if_neg q1]
      simp -implicitDefEqProofs (disch := omega) only [gP_p, gP_t, bnd_s, bnd2_s, ltt_s, jn_s, n32_nat, n32_le, n32_lt, n32_eq, n32_add, n32_sub, n32_dec, n32_mul, n32_div, n32_irm, n32_lit, n32_oN, n32_ix, n32_m1, n32_m2, neg_le0, neg_lt0, neg_lt1, neg_le1, n32_min, n32_max, if_true, if_false, Nat.one_ne_zero, gd_some, goods_m, q1, t2.1.1.mod, gd_bnd]
      refine gd_mono (m_ent (m_told0 t2) (by show 0 < 6; omega)) ?_
      intro h3 t3
      exact ⟨rfl, t3.2.1, t3.2.2.2.1⟩
theorem op_melts {k : Nat} (hk : k < 512) : ∀ (h : HP) (a1 a2 a3 : Int32), Inv k h → ∃ (v : Int32) (h1 h2 : HP), f_X9_melts 200 h 0 a1 a2 a3 = some (v, h1) ∧ f_X10_melts 200 h1 188 a1 a2 a3 = some (v, h2) ∧ Inv (k + 1) h2 := fun h a1 a2 a3 I => q_op hk (fX := fun h => f_X9_melts 200 h 0 a1 a2 a3) (fM := fun h => f_X10_melts 200 h 188 a1 a2 a3) (fun w l ok => by
  have hB := ok.2.2.2.2.2.2
  by_cases h1 : 0 ≤ a1.toInt ∧ a1.toInt < (wsz w : Int)
  · obtain ⟨m, hm, rfl⟩ := n32_of h1.1 h1.2
    have hz := ok.1
    by_cases h2 : 0 ≤ a2.toInt ∧ a2.toInt ≤ 9999
    · obtain ⟨v, -, hv, rfl⟩ := n32_of2 (lo := 0) (hi := 9999) h2.1 h2.2
      have wv : f_X9_within (n32 v) (n32 0) (n32 9999) = some (n32 1) := within_y h2
      have iv := in_y (x := n32 v) (lo := 0) (hi := 9999) (a := 0) (b := 9999) rfl rfl h2
      by_cases h3 : 1 ≤ a3.toInt ∧ a3.toInt ≤ 99
      · obtain ⟨g, hg1, hg, rfl⟩ := n32_of2 (lo := 1) (hi := 99) h3.1 h3.2
        have wg' : f_X9_within (n32 g) (n32 1) (n32 99) = some (n32 1) := within_y h3
        have ig := in_y (x := n32 g) (lo := 1) (hi := 99) (a := 1) (b := 99) rfl rfl h3
        refine ⟨oA (meltM w m v g 100 0 (wr w)), oL l (meltM w m v g 100 0 (wr w)), fun h x rx => ?_, fun h x rm => ?_⟩
        · unfold f_X9_melts
          simp -implicitDefEqProofs (disch := omega) only [x.1.root, gP_p, gP_t, bnd_s, bnd2_s, ltt_s, jn_s, n32_nat, n32_le, n32_lt, n32_eq, n32_add, n32_sub, n32_dec, n32_mul, n32_div, n32_irm, n32_lit, n32_oN, n32_ix, n32_m1, n32_m2, neg_le0, neg_lt0, neg_lt1, neg_le1, n32_min, n32_max, if_true, if_false, Nat.one_ne_zero, gd_some, hasX_y ok x hm, wv, wg', gd_bnd]
          refine gd_mono (x_try (n := 0) (by omega) (by omega) (by omega) ok x rx (fr.rf _ _)) ?_
          intro h2 t2
          exact melt_x ok hm hv hg 100 0 200 h2 (wr w) _ (by omega) (by omega) t2 (by omega)
        · obtain ⟨v1, rm1, f1⟩ := thr0 x rm
          unfold f_X10_melts
          simp -implicitDefEqProofs (disch := omega) only [x.1.mod, gP_p, gP_t, bnd_s, bnd2_s, ltt_s, jn_s, n32_nat, n32_le, n32_lt, n32_eq, n32_add, n32_sub, n32_dec, n32_mul, n32_div, n32_irm, n32_lit, n32_oN, n32_ix, n32_m1, n32_m2, neg_le0, neg_lt0, neg_lt1, neg_le1, n32_min, n32_max, if_true, if_false, Nat.one_ne_zero, gd_some]
          simp -implicitDefEqProofs (disch := omega) only [gP_p, gP_t, bnd_s, bnd2_s, ltt_s, jn_s, n32_nat, n32_le, n32_lt, n32_eq, n32_add, n32_sub, n32_dec, n32_mul, n32_div, n32_irm, n32_lit, n32_oN, n32_ix, n32_m1, n32_m2, neg_le0, neg_lt0, neg_lt1, neg_le1, n32_min, n32_max, if_true, if_false, Nat.one_ne_zero, gd_some, isM_y ok v1.1 v1.2.1 hm, iv, ig, gd_bnd]
          refine gd_mono (m_copies (by omega) ok v1 rm1 f1) ?_
          intro h2 t2
          exact melt_m ok hm hv hg 100 0 200 h2 (wr w) _ (by omega) (by omega) t2 (by omega)
      · have wg' : f_X9_within a3 (n32 1) (n32 99) = some (n32 0) := within_n h3
        have ig := in_n (x := a3) (lo := 1) (hi := 99) (a := 1) (b := 99) rfl rfl h3
        refine ⟨-n32 1, l, fun h x rx => ?_, fun h x rm => ?_⟩
        · unfold f_X9_melts
          simp -implicitDefEqProofs (disch := omega) only [x.1.root, gP_p, gP_t, bnd_s, bnd2_s, ltt_s, jn_s, n32_nat, n32_le, n32_lt, n32_eq, n32_add, n32_sub, n32_dec, n32_mul, n32_div, n32_irm, n32_lit, n32_oN, n32_ix, n32_m1, n32_m2, neg_le0, neg_lt0, neg_lt1, neg_le1, n32_min, n32_max, if_true, if_false, Nat.one_ne_zero, gd_some, hasX_y ok x hm, wv, wg']
          exact fin_x rx (fr.rf _ _)
        · obtain ⟨v1, rm1, f1⟩ := thr0 x rm
          unfold f_X10_melts
          simp -implicitDefEqProofs (disch := omega) only [x.1.mod, gP_p, gP_t, bnd_s, bnd2_s, ltt_s, jn_s, n32_nat, n32_le, n32_lt, n32_eq, n32_add, n32_sub, n32_dec, n32_mul, n32_div, n32_irm, n32_lit, n32_oN, n32_ix, n32_m1, n32_m2, neg_le0, neg_lt0, neg_lt1, neg_le1, n32_min, n32_max, if_true, if_false, Nat.one_ne_zero, gd_some]
          simp -implicitDefEqProofs (disch := omega) only [gP_p, gP_t, bnd_s, bnd2_s, ltt_s, jn_s, n32_nat, n32_le, n32_lt, n32_eq, n32_add, n32_sub, n32_dec, n32_mul, n32_div, n32_irm, n32_lit, n32_oN, n32_ix, n32_m1, n32_m2, neg_le0, neg_lt0, neg_lt1, neg_le1, n32_min, n32_max, if_true, if_false, Nat.one_ne_zero, gd_some, isM_y ok v1.1 v1.2.1 hm, iv, ig]
          exact fin_m rm1 f1
    · have wv : f_X9_within a2 (n32 0) (n32 9999) = some (n32 0) := within_n h2
      have iv := in_n (x := a2) (lo := 0) (hi := 9999) (a := 0) (b := 9999) rfl rfl h2
      refine ⟨-n32 1, l, fun h x rx => ?_, fun h x rm => ?_⟩
      · unfold f_X9_melts
        simp -implicitDefEqProofs (disch := omega) only [x.1.root, gP_p, gP_t, bnd_s, bnd2_s, ltt_s, jn_s, n32_nat, n32_le, n32_lt, n32_eq, n32_add, n32_sub, n32_dec, n32_mul, n32_div, n32_irm, n32_lit, n32_oN, n32_ix, n32_m1, n32_m2, neg_le0, neg_lt0, neg_lt1, neg_le1, n32_min, n32_max, if_true, if_false, Nat.one_ne_zero, gd_some, hasX_y ok x hm, wv]
        exact fin_x rx (fr.rf _ _)
      · obtain ⟨v1, rm1, f1⟩ := thr0 x rm
        unfold f_X10_melts
        simp -implicitDefEqProofs (disch := omega) only [x.1.mod, gP_p, gP_t, bnd_s, bnd2_s, ltt_s, jn_s, n32_nat, n32_le, n32_lt, n32_eq, n32_add, n32_sub, n32_dec, n32_mul, n32_div, n32_irm, n32_lit, n32_oN, n32_ix, n32_m1, n32_m2, neg_le0, neg_lt0, neg_lt1, neg_le1, n32_min, n32_max, if_true, if_false, Nat.one_ne_zero, gd_some]
        simp -implicitDefEqProofs (disch := omega) only [gP_p, gP_t, bnd_s, bnd2_s, ltt_s, jn_s, n32_nat, n32_le, n32_lt, n32_eq, n32_add, n32_sub, n32_dec, n32_mul, n32_div, n32_irm, n32_lit, n32_oN, n32_ix, n32_m1, n32_m2, neg_le0, neg_lt0, neg_lt1, neg_le1, n32_min, n32_max, if_true, if_false, Nat.one_ne_zero, gd_some, isM_y ok v1.1 v1.2.1 hm, iv]
        exact fin_m rm1 f1
  · refine ⟨-n32 1, l, fun h x rx => ?_, fun h x rm => ?_⟩
    · unfold f_X9_melts
      simp -implicitDefEqProofs (disch := omega) only [x.1.root, gP_p, gP_t, bnd_s, bnd2_s, ltt_s, jn_s, n32_nat, n32_le, n32_lt, n32_eq, n32_add, n32_sub, n32_dec, n32_mul, n32_div, n32_irm, n32_lit, n32_oN, n32_ix, n32_m1, n32_m2, neg_le0, neg_lt0, neg_lt1, neg_le1, n32_min, n32_max, if_true, if_false, Nat.one_ne_zero, gd_some, hasX_n ok x h1]
      exact fin_x rx (fr.rf _ _)
    · obtain ⟨v1, rm1, f1⟩ := thr0 x rm
      unfold f_X10_melts
      simp -implicitDefEqProofs (disch := omega) only [x.1.mod, gP_p, gP_t, bnd_s, bnd2_s, ltt_s, jn_s, n32_nat, n32_le, n32_lt, n32_eq, n32_add, n32_sub, n32_dec, n32_mul, n32_div, n32_irm, n32_lit, n32_oN, n32_ix, n32_m1, n32_m2, neg_le0, neg_lt0, neg_lt1, neg_le1, n32_min, n32_max, if_true, if_false, Nat.one_ne_zero, gd_some]
      simp -implicitDefEqProofs (disch := omega) only [gP_p, gP_t, bnd_s, bnd2_s, ltt_s, jn_s, n32_nat, n32_le, n32_lt, n32_eq, n32_add, n32_sub, n32_dec, n32_mul, n32_div, n32_irm, n32_lit, n32_oN, n32_ix, n32_m1, n32_m2, neg_le0, neg_lt0, neg_lt1, neg_le1, n32_min, n32_max, if_true, if_false, Nat.one_ne_zero, gd_some, isM_n ok v1.1 v1.2.1 h1]
      exact fin_m rm1 f1) h I
/-! when: a number that may be one below 0 is told one higher -/
theorem xt_le {v mo : Nat} (hv : v < 2000000000) (hm : mo < 2000000000) : (n32 v ≤ xt mo) = (v + 1 ≤ mo) := by
  cases mo with
  | zero =>
    refine propext ⟨fun h => ?_, fun h => absurd h (by omega)⟩
    have e : xt 0 = -n32 1 := rfl
    rw [e, neg_le0 (by omega) (by omega)] at h
    omega
  | succ t => rw [xt_s, n32_le (by omega) (by omega)]; exact propext ⟨fun h => by omega, fun h => by omega⟩
theorem xt_max {v mo : Nat} (hv : v < 2000000000) (hm : mo < 2000000000) : f_J9_max_7cf53 (xt mo) (n32 v) = some (xt (if v + 1 ≤ mo then mo else v + 1)) := by
  unfold f_J9_max_7cf53
  have e : (xt mo < n32 v) = ¬ (v + 1 ≤ mo) := by rw [← xt_le hv hm]; exact propext Int32.not_le.symm
  simp only [e]
  by_cases q : v + 1 ≤ mo
  · rw [if_neg (fun z => z q), if_pos q]
  · rw [if_pos q, if_neg q, xt_s]
noncomputable def whM (w : Wd) (m v : Nat) : Nat → Nat → (Nat → Nat) → Nat → Nat → Nat × Nat
  | 0, _, _, mo, ch => (mo, ch)
  | d + 1, i, q, mo, ch => if gf v (wP w q m) + 1 ≤ mo then whM w m v d (i + 1) (wM w q) mo ch else whM w m v d (i + 1) (wM w q) (gf v (wP w q m) + 1) i
theorem when_x {m v n : Nat} {w : Wd} {h0 : HP} {l : List Int64} (ok : wOK w) (hm : m < wsz w) (hv : v ≤ 300000) (hn60 : n ≤ 60) : ∀ (d i fuel : Nat) (h : HP) (q : Nat → Nat) (D mo ch : Nat), i + d = n + 1 → d < fuel → XT w l h0 h q D → D + d ≤ 300000 → mo ≤ 400001 →
    gd (lp (fun _ _ _ _ => none) (f_X9_when_B63 200 0 (n32 m) (n32 n) (n32 v) (fun (x89 : Int32) (x90 : Int32) (h91 : HP) => bnd (rK h91 0 1 6) (fun t93 => bnd (f_X6_tell h91 t93 (x89.toInt64)) (fun h98 => some (x90, h98))))) fuel (xt mo) (n32 ch) (n32 i) h) (XA [(xt (whM w m v d i q mo ch).1).toInt64] (n32 (whM w m v d i q mo ch).2) h0) := by
  intro d
  induction d with
  | zero =>
    intro i fuel h q D mo ch hn hf t hD hmo
    obtain ⟨k, rfl⟩ : ∃ k, fuel = k + 1 := ⟨fuel - 1, by omega⟩
    have e : n < i := by omega
    simp -implicitDefEqProofs (disch := omega) only [lp_s, f_X9_when_B63, gP_p, gP_t, bnd_s, bnd2_s, ltt_s, jn_s, n32_nat, n32_le, n32_lt, n32_eq, n32_add, n32_sub, n32_dec, n32_mul, n32_div, n32_irm, n32_lit, n32_oN, n32_ix, n32_m1, n32_m2, neg_le0, neg_lt0, neg_lt1, neg_le1, n32_min, n32_max, if_true, if_false, Nat.one_ne_zero, gd_some, e, t.1.1.root, gd_bnd]
    refine gd_mono (x_tell1 t) ?_
    rintro h3 ⟨r3, f3⟩
    exact ⟨rfl, r3, f3⟩
  | succ d ih =>
    intro i fuel h q D mo ch hn hf t hD hmo
    obtain ⟨k, rfl⟩ : ∃ k, fuel = k + 1 := ⟨fuel - 1, by omega⟩
    have e : ¬ n < i := by omega
    simp -implicitDefEqProofs (disch := omega) only [lp_s, f_X9_when_B63, gP_p, gP_t, bnd_s, bnd2_s, ltt_s, jn_s, n32_nat, n32_le, n32_lt, n32_eq, n32_add, n32_sub, n32_dec, n32_mul, n32_div, n32_irm, n32_lit, n32_oN, n32_ix, n32_m1, n32_m2, neg_le0, neg_lt0, neg_lt1, neg_le1, n32_min, n32_max, if_true, if_false, Nat.one_ne_zero, gd_some, e, t.1.1.root, gd_bnd2]
    refine gd_mono (x_price (by omega) ok t (by omega) hm) ?_
    rintro ⟨u2, h2⟩ ⟨e2, t2⟩
    have e2' : u2 = n32 (wP w q m) := e2
    subst e2'
    have hp := wP_le (w := w) (q := q) (m := m)
    have hg2 := gf_le (v := v) (p := wP w q m) (by omega)
    unfold whM
    by_cases q1 : gf v (wP w q m) + 1 ≤ mo
    · rw [if_pos q1]
      simp -implicitDefEqProofs (disch := omega) only [gP_p, gP_t, bnd_s, bnd2_s, ltt_s, jn_s, n32_nat, n32_le, n32_lt, n32_eq, n32_add, n32_sub, n32_dec, n32_mul, n32_div, n32_irm, n32_lit, n32_oN, n32_ix, n32_m1, n32_m2, neg_le0, neg_lt0, neg_lt1, neg_le1, n32_min, n32_max, if_true, if_false, Nat.one_ne_zero, gd_some, goods_x, xt_le, q1, t2.1.1.root, gd_bnd2]
      refine gd_mono (x_pass (by omega) (by omega) (by omega) ok t2 (by omega)) ?_
      rintro ⟨u, h1⟩ t1
      exact ih (i + 1) k h1 (wM w q) (D + 1) mo ch (by omega) (by omega) t1 (by omega) hmo
    · rw [if_neg q1]
      simp -implicitDefEqProofs (disch := omega) only [gP_p, gP_t, bnd_s, bnd2_s, ltt_s, jn_s, n32_nat, n32_le, n32_lt, n32_eq, n32_add, n32_sub, n32_dec, n32_mul, n32_div, n32_irm, n32_lit, n32_oN, n32_ix, n32_m1, n32_m2, neg_le0, neg_lt0, neg_lt1, neg_le1, n32_min, n32_max, if_true, if_false, Nat.one_ne_zero, gd_some, goods_x, xt_le, q1, t2.1.1.root, gd_bnd2]
      refine gd_mono (x_pass (by omega) (by omega) (by omega) ok t2 (by omega)) ?_
      rintro ⟨u, h1⟩ t1
      have := ih (i + 1) k h1 (wM w q) (D + 1) (gf v (wP w q m) + 1) i (by omega) (by omega) t1 (by omega) (by omega)
      rw [xt_s] at this
      exact this
theorem when_m {m v n : Nat} {w : Wd} {h0 : HP} {l : List Int64} (ok : wOK w) (hm : m < wsz w) (hv : v ≤ 300000) (hn60 : n ≤ 60) : ∀ (d i fuel : Nat) (h : HP) (q : Nat → Nat) (D mo ch : Nat), i + d = n + 1 → d < fuel → MT w l h0 h q D → D + d ≤ 300000 → mo ≤ 400001 →
    gd (lp (fun _ _ _ _ => none) (f_X10_when_B70 200 188 (n32 m) (n32 n) (n32 v) (fun (x67 : Int32) (x68 : Int32) (h69 : HP) => lt_ (setI h69 188 1 0) (fun h71 => bnd (f_X10_enters h71 188 (x68.toInt64)) (fun h74 => some (x67, h74))))) fuel (n32 ch) (xt mo) (n32 i) h) (MA [(xt (whM w m v d i q mo ch).1).toInt64] (n32 (whM w m v d i q mo ch).2) h0) := by
  intro d
  induction d with
  | zero =>
    intro i fuel h q D mo ch hn hf t hD hmo
    obtain ⟨k, rfl⟩ : ∃ k, fuel = k + 1 := ⟨fuel - 1, by omega⟩
    have e : n < i := by omega
    simp -implicitDefEqProofs (disch := omega) only [lp_s, f_X10_when_B70, gP_p, gP_t, bnd_s, bnd2_s, ltt_s, jn_s, n32_nat, n32_le, n32_lt, n32_eq, n32_add, n32_sub, n32_dec, n32_mul, n32_div, n32_irm, n32_lit, n32_oN, n32_ix, n32_m1, n32_m2, neg_le0, neg_lt0, neg_lt1, neg_le1, n32_min, n32_max, if_true, if_false, Nat.one_ne_zero, gd_some, e, t.1.1.mod, gd_bnd]
    refine gd_mono (m_ent (m_told0 t) (by show 0 < 6; omega)) ?_
    intro h3 t3
    exact ⟨rfl, t3.2.1, t3.2.2.2.1⟩
  | succ d ih =>
    intro i fuel h q D mo ch hn hf t hD hmo
    obtain ⟨k, rfl⟩ : ∃ k, fuel = k + 1 := ⟨fuel - 1, by omega⟩
    have e : ¬ n < i := by omega
    simp -implicitDefEqProofs (disch := omega) only [lp_s, f_X10_when_B70, gP_p, gP_t, bnd_s, bnd2_s, ltt_s, jn_s, n32_nat, n32_le, n32_lt, n32_eq, n32_add, n32_sub, n32_dec, n32_mul, n32_div, n32_irm, n32_lit, n32_oN, n32_ix, n32_m1, n32_m2, neg_le0, neg_lt0, neg_lt1, neg_le1, n32_min, n32_max, if_true, if_false, Nat.one_ne_zero, gd_some, e, t.1.1.mod, gd_bnd2]
    refine gd_mono (m_price (by omega) ok t (by omega) hm) ?_
    rintro ⟨u2, h2⟩ ⟨e2, t2⟩
    have e2' : u2 = n32 (wP w q m) := e2
    subst e2'
    have hp := wP_le (w := w) (q := q) (m := m)
    have hg2 := gf_le (v := v) (p := wP w q m) (by omega)
    have goal := fun h1 mo ch t1 hmo => ih (i + 1) k h1 (wM w q) (D + 1) mo ch (by omega) (by omega) t1 (by omega) hmo
    simp -implicitDefEqProofs (disch := omega) only [gP_p, gP_t, bnd_s, bnd2_s, ltt_s, jn_s, n32_nat, n32_le, n32_lt, n32_eq, n32_add, n32_sub, n32_dec, n32_mul, n32_div, n32_irm, n32_lit, n32_oN, n32_ix, n32_m1, n32_m2, neg_le0, neg_lt0, neg_lt1, neg_le1, n32_min, n32_max, if_true, if_false, Nat.one_ne_zero, gd_some] at goal
    unfold whM
    by_cases q1 : gf v (wP w q m) + 1 ≤ mo
    · rw [if_pos q1]
      simp -implicitDefEqProofs (disch := omega) only [gP_p, gP_t, bnd_s, bnd2_s, ltt_s, jn_s, n32_nat, n32_le, n32_lt, n32_eq, n32_add, n32_sub, n32_dec, n32_mul, n32_div, n32_irm, n32_lit, n32_oN, n32_ix, n32_m1, n32_m2, neg_le0, neg_lt0, neg_lt1, neg_le1, n32_min, n32_max, if_true, if_false, Nat.one_ne_zero, gd_some, goods_m, xt_le, xt_max, q1, t2.1.1.mod, gd_bnd]
      refine gd_mono (m_month (by omega) ok t2 (by omega)) ?_
      intro h1 t1
      exact goal h1 mo ch t1 hmo
    · rw [if_neg q1]
      simp -implicitDefEqProofs (disch := omega) only [gP_p, gP_t, bnd_s, bnd2_s, ltt_s, jn_s, n32_nat, n32_le, n32_lt, n32_eq, n32_add, n32_sub, n32_dec, n32_mul, n32_div, n32_irm, n32_lit, n32_oN, n32_ix, n32_m1, n32_m2, neg_le0, neg_lt0, neg_lt1, neg_le1, n32_min, n32_max, if_true, if_false, Nat.one_ne_zero, gd_some, goods_m, xt_le, xt_max, q1, t2.1.1.mod, gd_bnd]
      refine gd_mono (m_month (by omega) ok t2 (by omega)) ?_
      intro h1 t1
      exact goal h1 _ i t1 (by omega)
