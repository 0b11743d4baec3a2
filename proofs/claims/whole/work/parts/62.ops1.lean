/-! ===== ahead, doubles, melts, when ===== -/
theorem fin_x {l : List Int64} {h0 h : HP} {A : Int32} (rx : RowX h l) (f : fr QX h0 h) : XA l A h0 (A, h) := ⟨rfl, rx, f⟩
theorem fin_m {l : List Int64} {h0 h : HP} {A : Int32} (rm : RowM h l) (f : fr QM h0 h) : MA l A h0 (A, h) := ⟨rfl, rm, f⟩
theorem ahead_x {m n : Nat} {w : Wd} {h : HP} {l : List Int64} (ok : wOK w) (v : XV w h) (rx : RowX h l) (hm : m < wsz w) (hn : n ≤ 99) :
    gd (f_X9_ahead 200 h 0 (n32 m) (n32 n)) (XA [(n32 (wMs w n (wr w) m)).toInt64, (n32 (wMs w n (wr w) (6 + m))).toInt64] (n32 (wP w (wMs w n (wr w)) m)) h) := by
  have hz := ok.1
  have wy : f_X9_within (n32 n) (n32 0) (n32 99) = some (n32 1) := within_y (by rw [n32_int (by omega), n32_int (by omega), n32_int (by omega)]; omega)
  unfold f_X9_ahead
  simp -implicitDefEqProofs (disch := omega) only [v.1.root, gP_p, gP_t, bnd_s, bnd2_s, ltt_s, jn_s, n32_nat, n32_le, n32_lt, n32_eq, n32_add, n32_sub, n32_dec, n32_mul, n32_div, n32_irm, n32_lit, n32_oN, n32_ix, n32_m1, n32_m2, neg_le0, neg_lt0, neg_lt1, neg_le1, n32_min, n32_max, if_true, if_false, Nat.one_ne_zero, gd_some, hasX_y ok v hm, wy, gd_bnd]
  refine gd_mono (x_try (by omega) (by omega) (by omega) ok v rx (fr.rf _ _)) ?_
  intro h1 t1
  have co := t1.1.1.co CL19
  obtain ⟨s0, -, -, -, -, -⟩ := t1.2.2.1
  have a0 : h1.2.1 21 m = n32 (wMs w n (wr w) m) := by have := s0 0 m (by omega) (by omega); rw [show 6 * 0 + m = m by omega] at this; exact this
  have a1 : h1.2.1 22 m = n32 (wMs w n (wr w) (6 + m)) := s0 1 m (by omega) (by omega)
  have c1 : rK h1 19 0 106 = some 20 := co.2.1
  have c2 : rK h1 20 0 102 = some 21 := co.2.2.2.1 0 (by omega)
  have c3 : rK h1 20 1 102 = some 22 := co.2.2.2.1 1 (by omega)
  have c4 : lenH h1 20 = 2 := co.2.2.2.2.2.1
  have c5 : lenH h1 21 = 6 := co.2.2.2.2.2.2.2.1 0 (by omega)
  have c6 : lenH h1 22 = 6 := co.2.2.2.2.2.2.2.1 1 (by omega)
  simp -implicitDefEqProofs (disch := omega) only [t1.1.1.root, gP_p, gP_t, bnd_s, bnd2_s, ltt_s, jn_s, n32_nat, n32_le, n32_lt, n32_eq, n32_add, n32_sub, n32_dec, n32_mul, n32_div, n32_irm, n32_lit, n32_oN, n32_ix, n32_m1, n32_m2, neg_le0, neg_lt0, neg_lt1, neg_le1, n32_min, n32_max, if_true, if_false, Nat.one_ne_zero, gd_some, c1, c2, c3, c4, c5, c6, a0, a1, gd_bnd, gd_bnd2]
  refine gd_mono (x_tell2 t1) ?_
  rintro h2 ⟨r2, t2⟩
  simp -implicitDefEqProofs (disch := omega) only [t2.1.1.root, gP_p, gP_t, bnd_s, bnd2_s, ltt_s, jn_s, n32_nat, n32_le, n32_lt, n32_eq, n32_add, n32_sub, n32_dec, n32_mul, n32_div, n32_irm, n32_lit, n32_oN, n32_ix, n32_m1, n32_m2, neg_le0, neg_lt0, neg_lt1, neg_le1, n32_min, n32_max, if_true, if_false, Nat.one_ne_zero, gd_some, gd_bnd2]
  refine gd_mono (x_price (by omega) ok t2 (by have := ok.2.2.2.2.2.2; omega) hm) ?_
  rintro ⟨u, h3⟩ ⟨e3, t3⟩
  exact ⟨e3, t3.2.1, t3.2.2.2.2.1⟩
theorem ahead_m {m n : Nat} {w : Wd} {h : HP} {l : List Int64} (ok : wOK w) (v : MV w h) (rm : RowM h l) (hm : m < wsz w) (hn : n ≤ 99) :
    gd (f_X10_ahead 200 h 188 (n32 m) (n32 n)) (MA [(n32 (wMs w n (wr w) m)).toInt64, (n32 (wMs w n (wr w) (6 + m))).toInt64] (n32 (wP w (wMs w n (wr w)) m)) h) := by
  have hz := ok.1
  have wy : f_X10_in (n32 n).toInt64 0 99 = some (n32 1) := in_y (a := 0) (b := 99) rfl rfl (by rw [n32_int (by omega)]; omega)
  obtain ⟨v1, rm1, f1⟩ := thr0 v rm
  unfold f_X10_ahead
  simp -implicitDefEqProofs (disch := omega) only [v.1.mod, gP_p, gP_t, bnd_s, bnd2_s, ltt_s, jn_s, n32_nat, n32_le, n32_lt, n32_eq, n32_add, n32_sub, n32_dec, n32_mul, n32_div, n32_irm, n32_lit, n32_oN, n32_ix, n32_m1, n32_m2, neg_le0, neg_lt0, neg_lt1, neg_le1, n32_min, n32_max, if_true, if_false, Nat.one_ne_zero, gd_some]
  have iy := isM_y ok v1.1 v1.2.1 hm
  simp -implicitDefEqProofs (disch := omega) only [gP_p, gP_t, bnd_s, bnd2_s, ltt_s, jn_s, n32_nat, n32_le, n32_lt, n32_eq, n32_add, n32_sub, n32_dec, n32_mul, n32_div, n32_irm, n32_lit, n32_oN, n32_ix, n32_m1, n32_m2, neg_le0, neg_lt0, neg_lt1, neg_le1, n32_min, n32_max, if_true, if_false, Nat.one_ne_zero, gd_some, iy, wy, gd_bnd]
  refine gd_mono (m_copies (by omega) ok v1 rm1 f1) ?_
  intro h2 t2
  simp -implicitDefEqProofs (disch := omega) only [t2.1.1.mod, gP_p, gP_t, bnd_s, bnd2_s, ltt_s, jn_s, n32_nat, n32_le, n32_lt, n32_eq, n32_add, n32_sub, n32_dec, n32_mul, n32_div, n32_irm, n32_lit, n32_oN, n32_ix, n32_m1, n32_m2, neg_le0, neg_lt0, neg_lt1, neg_le1, n32_min, n32_max, if_true, if_false, Nat.one_ne_zero, gd_some, gd_bnd]
  refine gd_mono (m_goes (by omega) (by omega) (by omega) ok t2 (by have := ok.2.2.2.2.2.2; omega)) ?_
  intro h3 t3
  have t4 := m_told0 t3
  have a0 := t4.2.2.1 m (by omega)
  have e0 := t4.1.1
  simp -implicitDefEqProofs (disch := omega) only [t3.1.1.mod, sI_rK, sI_len, gP_p, gP_t, bnd_s, bnd2_s, ltt_s, jn_s, n32_nat, n32_le, n32_lt, n32_eq, n32_add, n32_sub, n32_dec, n32_mul, n32_div, n32_irm, n32_lit, n32_oN, n32_ix, n32_m1, n32_m2, neg_le0, neg_lt0, neg_lt1, neg_le1, n32_min, n32_max, if_true, if_false, Nat.one_ne_zero, gd_some, f_X10_at, Nat.mul_zero, Nat.mul_one, Nat.zero_add, a0, gd_bnd]
  refine gd_mono (m_ent t4 (by show 0 < 6; omega)) ?_
  intro h5 t5
  have a1 := t5.2.2.1 (6 + m) (by omega)
  simp -implicitDefEqProofs (disch := omega) only [t5.1.1.mod, gP_p, gP_t, bnd_s, bnd2_s, ltt_s, jn_s, n32_nat, n32_le, n32_lt, n32_eq, n32_add, n32_sub, n32_dec, n32_mul, n32_div, n32_irm, n32_lit, n32_oN, n32_ix, n32_m1, n32_m2, neg_le0, neg_lt0, neg_lt1, neg_le1, n32_min, n32_max, if_true, if_false, Nat.one_ne_zero, gd_some, a1, gd_bnd]
  refine gd_mono (m_ent t5 (by show 1 < 6; omega)) ?_
  intro h6 t6
  simp -implicitDefEqProofs (disch := omega) only [t6.1.1.mod, gP_p, gP_t, bnd_s, bnd2_s, ltt_s, jn_s, n32_nat, n32_le, n32_lt, n32_eq, n32_add, n32_sub, n32_dec, n32_mul, n32_div, n32_irm, n32_lit, n32_oN, n32_ix, n32_m1, n32_m2, neg_le0, neg_lt0, neg_lt1, neg_le1, n32_min, n32_max, if_true, if_false, Nat.one_ne_zero, gd_some, gd_bnd2]
  refine gd_mono (m_price (by omega) ok t6 (by have := ok.2.2.2.2.2.2; omega) hm) ?_
  rintro ⟨u, h7⟩ ⟨e7, t7⟩
  exact ⟨e7, t7.2.1, t7.2.2.2.1⟩
theorem op_ahead {k : Nat} (hk : k < 512) : ∀ (h : HP) (a1 a2 : Int32), Inv k h → ∃ (v : Int32) (h1 h2 : HP), f_X9_ahead 200 h 0 a1 a2 = some (v, h1) ∧ f_X10_ahead 200 h1 188 a1 a2 = some (v, h2) ∧ Inv (k + 1) h2 := fun h a1 a2 I => q_op hk (fX := fun h => f_X9_ahead 200 h 0 a1 a2) (fM := fun h => f_X10_ahead 200 h 188 a1 a2) (fun w l ok => by
  by_cases h1 : 0 ≤ a1.toInt ∧ a1.toInt < (wsz w : Int)
  · obtain ⟨m, hm, rfl⟩ := n32_of h1.1 h1.2
    by_cases h2 : 0 ≤ a2.toInt ∧ a2.toInt ≤ 99
    · obtain ⟨n, -, hn, rfl⟩ := n32_of2 (lo := 0) (hi := 99) h2.1 h2.2
      exact ⟨_, _, fun h v rx => ahead_x ok v rx hm hn, fun h v rm => ahead_m ok v rm hm hn⟩
    · refine ⟨-n32 1, l, fun h v rx => ?_, fun h v rm => ?_⟩
      · have wn : f_X9_within a2 (n32 0) (n32 99) = some (n32 0) := within_n h2
        unfold f_X9_ahead
        simp -implicitDefEqProofs (disch := omega) only [v.1.root, gP_p, gP_t, bnd_s, bnd2_s, ltt_s, jn_s, n32_nat, n32_le, n32_lt, n32_eq, n32_add, n32_sub, n32_dec, n32_mul, n32_div, n32_irm, n32_lit, n32_oN, n32_ix, n32_m1, n32_m2, neg_le0, neg_lt0, neg_lt1, neg_le1, n32_min, n32_max, if_true, if_false, Nat.one_ne_zero, gd_some, hasX_y ok v hm, wn]
        exact fin_x rx (fr.rf _ _)
      · obtain ⟨v1, rm1, f1⟩ := thr0 v rm
        unfold f_X10_ahead
        simp -implicitDefEqProofs (disch := omega) only [v.1.mod, gP_p, gP_t, bnd_s, bnd2_s, ltt_s, jn_s, n32_nat, n32_le, n32_lt, n32_eq, n32_add, n32_sub, n32_dec, n32_mul, n32_div, n32_irm, n32_lit, n32_oN, n32_ix, n32_m1, n32_m2, neg_le0, neg_lt0, neg_lt1, neg_le1, n32_min, n32_max, if_true, if_false, Nat.one_ne_zero, gd_some]
        simp -implicitDefEqProofs (disch := omega) only [gP_p, gP_t, bnd_s, bnd2_s, ltt_s, jn_s, n32_nat, n32_le, n32_lt, n32_eq, n32_add, n32_sub, n32_dec, n32_mul, n32_div, n32_irm, n32_lit, n32_oN, n32_ix, n32_m1, n32_m2, neg_le0, neg_lt0, neg_lt1, neg_le1, n32_min, n32_max, if_true, if_false, Nat.one_ne_zero, gd_some, isM_y ok v1.1 v1.2.1 hm, in_n (x := a2) (lo := 0) (hi := 99) (a := 0) (b := 99) rfl rfl h2]
        exact fin_m rm1 f1
  · refine ⟨-n32 1, l, fun h v rx => ?_, fun h v rm => ?_⟩
    · unfold f_X9_ahead
      simp -implicitDefEqProofs (disch := omega) only [v.1.root, gP_p, gP_t, bnd_s, bnd2_s, ltt_s, jn_s, n32_nat, n32_le, n32_lt, n32_eq, n32_add, n32_sub, n32_dec, n32_mul, n32_div, n32_irm, n32_lit, n32_oN, n32_ix, n32_m1, n32_m2, neg_le0, neg_lt0, neg_lt1, neg_le1, n32_min, n32_max, if_true, if_false, Nat.one_ne_zero, gd_some, hasX_n ok v h1]
      exact fin_x rx (fr.rf _ _)
    · obtain ⟨v1, rm1, f1⟩ := thr0 v rm
      unfold f_X10_ahead
      simp -implicitDefEqProofs (disch := omega) only [v.1.mod, gP_p, gP_t, bnd_s, bnd2_s, ltt_s, jn_s, n32_nat, n32_le, n32_lt, n32_eq, n32_add, n32_sub, n32_dec, n32_mul, n32_div, n32_irm, n32_lit, n32_oN, n32_ix, n32_m1, n32_m2, neg_le0, neg_lt0, neg_lt1, neg_le1, n32_min, n32_max, if_true, if_false, Nat.one_ne_zero, gd_some]
      simp -implicitDefEqProofs (disch := omega) only [gP_p, gP_t, bnd_s, bnd2_s, ltt_s, jn_s, n32_nat, n32_le, n32_lt, n32_eq, n32_add, n32_sub, n32_dec, n32_mul, n32_div, n32_irm, n32_lit, n32_oN, n32_ix, n32_m1, n32_m2, neg_le0, neg_lt0, neg_lt1, neg_le1, n32_min, n32_max, if_true, if_false, Nat.one_ne_zero, gd_some, isM_n ok v1.1 v1.2.1 h1]
      exact fin_m rm1 f1) h I
/-! doubles -/
noncomputable def dblM (w : Wd) (m wt : Nat) : Nat → Nat → (Nat → Nat) → Option (Nat × Nat)
  | 0, _, _ => none
  | d + 1, n, q => if wt ≤ wP w (wM w q) m then some (n, wP w (wM w q) m) else dblM w m wt d (n + 1) (wM w q)
def oA : Option (Nat × Nat) → Int32
  | none => -n32 2
  | some p => n32 p.1
def oL (l : List Int64) : Option (Nat × Nat) → List Int64
  | none => l
  | some p => [(n32 p.2).toInt64]
theorem wP_le {w : Wd} {q : Nat → Nat} {m : Nat} : wP w q m ≤ 99999 := prc_le
theorem wMs_1 {w : Wd} {q : Nat → Nat} : wMs w 1 q = wM w q := rfl
theorem wMs_0 {w : Wd} {q : Nat → Nat} : wMs w 0 q = q := rfl
theorem dbl_x {m wt : Nat} {w : Wd} {h0 : HP} {l : List Int64} (ok : wOK w) (hm : m < wsz w) (hw : wt ≤ 200000) : ∀ (d n fuel : Nat) (h : HP) (q : Nat → Nat) (D : Nat), n + d = 100 → d < fuel → XT w l h0 h q D → D + d ≤ 300000 →
    gd (lp (fun _ _ => none) (f_X9_doubles_B43 200 0 (n32 m) (n32 wt) (fun (x55 : Int32) (x56 : Int32) (h57 : HP) => bnd (rK h57 0 1 6) (fun t59 => bnd (f_X6_tell h57 t59 (x56.toInt64)) (fun h64 => some (x55, h64))))) fuel (n32 n) h) (XA (oL l (dblM w m wt d n q)) (oA (dblM w m wt d n q)) h0) := by
  intro d
  induction d with
  | zero =>
    intro n fuel h q D hn hf t hD
    obtain ⟨k, rfl⟩ : ∃ k, fuel = k + 1 := ⟨fuel - 1, by omega⟩
    have e : 99 < n := by omega
    simp -implicitDefEqProofs (disch := omega) only [lp_s, f_X9_doubles_B43, gP_p, gP_t, bnd_s, bnd2_s, ltt_s, jn_s, n32_nat, n32_le, n32_lt, n32_eq, n32_add, n32_sub, n32_dec, n32_mul, n32_div, n32_irm, n32_lit, n32_oN, n32_ix, n32_m1, n32_m2, neg_le0, neg_lt0, neg_lt1, neg_le1, n32_min, n32_max, if_true, if_false, Nat.one_ne_zero, gd_some, e]
    exact fin_x t.2.1 t.2.2.2.2.1
  | succ d ih =>
    intro n fuel h q D hn hf t hD
    obtain ⟨k, rfl⟩ : ∃ k, fuel = k + 1 := ⟨fuel - 1, by omega⟩
    have e : ¬ 99 < n := by omega
    simp -implicitDefEqProofs (disch := omega) only [lp_s, f_X9_doubles_B43, gP_p, gP_t, bnd_s, bnd2_s, ltt_s, jn_s, n32_nat, n32_le, n32_lt, n32_eq, n32_add, n32_sub, n32_dec, n32_mul, n32_div, n32_irm, n32_lit, n32_oN, n32_ix, n32_m1, n32_m2, neg_le0, neg_lt0, neg_lt1, neg_le1, n32_min, n32_max, if_true, if_false, Nat.one_ne_zero, gd_some, e, t.1.1.root, gd_bnd2]
    refine gd_mono (x_pass (by omega) (by omega) (by omega) ok t (by omega)) ?_
    rintro ⟨u, h1⟩ t1
    have t1' : XT w l h0 h1 (wM w q) (D + 1) := t1
    simp -implicitDefEqProofs (disch := omega) only [t1'.1.1.root, gP_p, gP_t, bnd_s, bnd2_s, ltt_s, jn_s, n32_nat, n32_le, n32_lt, n32_eq, n32_add, n32_sub, n32_dec, n32_mul, n32_div, n32_irm, n32_lit, n32_oN, n32_ix, n32_m1, n32_m2, neg_le0, neg_lt0, neg_lt1, neg_le1, n32_min, n32_max, if_true, if_false, Nat.one_ne_zero, gd_some, gd_bnd2]
    refine gd_mono (x_price (by omega) ok t1' (by omega) hm) ?_
    rintro ⟨u2, h2⟩ ⟨e2, t2⟩
    have e2' : u2 = n32 (wP w (wM w q) m) := e2
    subst e2'
    have hp := wP_le (w := w) (q := wM w q) (m := m)
    unfold dblM
    by_cases q1 : wt ≤ wP w (wM w q) m
    · rw [if_pos q1]
      simp -implicitDefEqProofs (disch := omega) only [gP_p, gP_t, bnd_s, bnd2_s, ltt_s, jn_s, n32_nat, n32_le, n32_lt, n32_eq, n32_add, n32_sub, n32_dec, n32_mul, n32_div, n32_irm, n32_lit, n32_oN, n32_ix, n32_m1, n32_m2, neg_le0, neg_lt0, neg_lt1, neg_le1, n32_min, n32_max, if_true, if_false, Nat.one_ne_zero, gd_some, t2.1.1.root, gd_bnd]
      rw [if_neg (by omega), gd_bnd]
      refine gd_mono (x_tell1 t2) ?_
      rintro h3 ⟨r3, f3⟩
      exact gd_some.mpr ⟨rfl, r3, f3⟩
    · rw [if_neg q1]
      simp -implicitDefEqProofs (disch := omega) only [gP_p, gP_t, bnd_s, bnd2_s, ltt_s, jn_s, n32_nat, n32_le, n32_lt, n32_eq, n32_add, n32_sub, n32_dec, n32_mul, n32_div, n32_irm, n32_lit, n32_oN, n32_ix, n32_m1, n32_m2, neg_le0, neg_lt0, neg_lt1, neg_le1, n32_min, n32_max, if_true, if_false, Nat.one_ne_zero, gd_some]
      rw [if_pos (by omega)]
      exact ih (n + 1) k h2 (wM w q) (D + 1) (by omega) (by omega) t2 (by omega)
theorem dbl_m {m wt now : Nat} {w : Wd} {h0 : HP} {l : List Int64} (ok : wOK w) (hm : m < wsz w) (hn0 : now ≤ 99999) (hw : wt = if now = 0 then 1 else 2 * now) : ∀ (d n fuel : Nat) (h : HP) (q : Nat → Nat) (D : Nat), n + d = 100 → d < fuel → MT w l h0 h q D → D + d ≤ 300000 →
    gd (lp (fun _ _ => none) (f_X10_doubles_B31 200 188 (n32 m) (n32 now) (fun (x48 : Int32) (x49 : Int32) (h50 : HP) => lt_ (setI h50 188 1 0) (fun h52 => bnd (f_X10_enters h52 188 (x49.toInt64)) (fun h55 => some (x48, h55))))) fuel (n32 n) h) (MA (oL l (dblM w m wt d n q)) (oA (dblM w m wt d n q)) h0) := by
  intro d
  induction d with
  | zero =>
    intro n fuel h q D hn hf t hD
    obtain ⟨k, rfl⟩ : ∃ k, fuel = k + 1 := ⟨fuel - 1, by omega⟩
    have e : 99 < n := by omega
    simp -implicitDefEqProofs (disch := omega) only [lp_s, f_X10_doubles_B31, gP_p, gP_t, bnd_s, bnd2_s, ltt_s, jn_s, n32_nat, n32_le, n32_lt, n32_eq, n32_add, n32_sub, n32_dec, n32_mul, n32_div, n32_irm, n32_lit, n32_oN, n32_ix, n32_m1, n32_m2, neg_le0, neg_lt0, neg_lt1, neg_le1, n32_min, n32_max, if_true, if_false, Nat.one_ne_zero, gd_some, e]
    exact fin_m t.2.1 t.2.2.2.1
  | succ d ih =>
    intro n fuel h q D hn hf t hD
    obtain ⟨k, rfl⟩ : ∃ k, fuel = k + 1 := ⟨fuel - 1, by omega⟩
    have e : ¬ 99 < n := by omega
    simp -implicitDefEqProofs (disch := omega) only [lp_s, f_X10_doubles_B31, gP_p, gP_t, bnd_s, bnd2_s, ltt_s, jn_s, n32_nat, n32_le, n32_lt, n32_eq, n32_add, n32_sub, n32_dec, n32_mul, n32_div, n32_irm, n32_lit, n32_oN, n32_ix, n32_m1, n32_m2, neg_le0, neg_lt0, neg_lt1, neg_le1, n32_min, n32_max, if_true, if_false, Nat.one_ne_zero, gd_some, e, t.1.1.mod, gd_bnd]
    refine gd_mono (m_month (by omega) ok t (by omega)) ?_
    intro h1 t1
    simp -implicitDefEqProofs (disch := omega) only [t1.1.1.mod, gP_p, gP_t, bnd_s, bnd2_s, ltt_s, jn_s, n32_nat, n32_le, n32_lt, n32_eq, n32_add, n32_sub, n32_dec, n32_mul, n32_div, n32_irm, n32_lit, n32_oN, n32_ix, n32_m1, n32_m2, neg_le0, neg_lt0, neg_lt1, neg_le1, n32_min, n32_max, if_true, if_false, Nat.one_ne_zero, gd_some, gd_bnd2]
    refine gd_mono (m_price (by omega) ok t1 (by omega) hm) ?_
    rintro ⟨u2, h2⟩ ⟨e2, t2⟩
    have e2' : u2 = n32 (wP w (wM w q) m) := e2
    subst e2'
    have hp := wP_le (w := w) (q := wM w q) (m := m)
    unfold dblM
    by_cases q1 : wt ≤ wP w (wM w q) m
    · rw [if_pos q1]
      have q2 : 0 < wP w (wM w q) m ∧ 2 * now ≤ wP w (wM w q) m := by
        by_cases q3 : now = 0
        · rw [if_pos q3] at hw; omega
        · rw [if_neg q3] at hw; omega
      simp -implicitDefEqProofs (disch := omega) only [gP_p, gP_t, bnd_s, bnd2_s, ltt_s, jn_s, n32_nat, n32_le, n32_lt, n32_eq, n32_add, n32_sub, n32_dec, n32_mul, n32_div, n32_irm, n32_lit, n32_oN, n32_ix, n32_m1, n32_m2, neg_le0, neg_lt0, neg_lt1, neg_le1, n32_min, n32_max, if_true, if_false, Nat.one_ne_zero, gd_some]
      rw [if_neg (by omega), if_neg (by omega)]
      simp -implicitDefEqProofs (disch := omega) only [gP_p, gP_t, bnd_s, bnd2_s, ltt_s, jn_s, n32_nat, n32_le, n32_lt, n32_eq, n32_add, n32_sub, n32_dec, n32_mul, n32_div, n32_irm, n32_lit, n32_oN, n32_ix, n32_m1, n32_m2, neg_le0, neg_lt0, neg_lt1, neg_le1, n32_min, n32_max, if_true, if_false, Nat.one_ne_zero, gd_some, gd_bnd]
      refine gd_mono (m_ent (m_told0 t2) (by show 0 < 6; omega)) ?_
      intro h3 t3
      exact ⟨rfl, t3.2.1, t3.2.2.2.1⟩
    · rw [if_neg q1]
      have goal := ih (n + 1) k h2 (wM w q) (D + 1) (by omega) (by omega) t2 (by omega)
      simp -implicitDefEqProofs (disch := omega) only [gP_p, gP_t, bnd_s, bnd2_s, ltt_s, jn_s, n32_nat, n32_le, n32_lt, n32_eq, n32_add, n32_sub, n32_dec, n32_mul, n32_div, n32_irm, n32_lit, n32_oN, n32_ix, n32_m1, n32_m2, neg_le0, neg_lt0, neg_lt1, neg_le1, n32_min, n32_max, if_true, if_false, Nat.one_ne_zero, gd_some]
      by_cases q4 : wP w (wM w q) m ≤ 0
      · rw [if_pos q4]
        simp -implicitDefEqProofs (disch := omega) only [gP_p, gP_t, bnd_s, bnd2_s, ltt_s, jn_s, n32_nat, n32_le, n32_lt, n32_eq, n32_add, n32_sub, n32_dec, n32_mul, n32_div, n32_irm, n32_lit, n32_oN, n32_ix, n32_m1, n32_m2, neg_le0, neg_lt0, neg_lt1, neg_le1, n32_min, n32_max, if_true, if_false, Nat.one_ne_zero, gd_some] at goal
        exact goal
      · rw [if_neg q4, if_pos (by
          by_cases q3 : now = 0
          · rw [if_pos q3] at hw; omega
          · rw [if_neg q3] at hw; omega)]
        simp -implicitDefEqProofs (disch := omega) only [gP_p, gP_t, bnd_s, bnd2_s, ltt_s, jn_s, n32_nat, n32_le, n32_lt, n32_eq, n32_add, n32_sub, n32_dec, n32_mul, n32_div, n32_irm, n32_lit, n32_oN, n32_ix, n32_m1, n32_m2, neg_le0, neg_lt0, neg_lt1, neg_le1, n32_min, n32_max, if_true, if_false, Nat.one_ne_zero, gd_some] at goal
        exact goal
theorem op_doubles {k : Nat} (hk : k < 512) : ∀ (h : HP) (a1 : Int32), Inv k h → ∃ (v : Int32) (h1 h2 : HP), f_X9_doubles 200 h 0 a1 = some (v, h1) ∧ f_X10_doubles 200 h1 188 a1 = some (v, h2) ∧ Inv (k + 1) h2 := fun h a1 I => q_op hk (fX := fun h => f_X9_doubles 200 h 0 a1) (fM := fun h => f_X10_doubles 200 h 188 a1) (fun w l ok => by
  by_cases h1 : 0 ≤ a1.toInt ∧ a1.toInt < (wsz w : Int)
  · obtain ⟨m, hm, rfl⟩ := n32_of h1.1 h1.2
    have hz := ok.1
    have hB := ok.2.2.2.2.2.2
    have hnow := wP_le (w := w) (q := wr w) (m := m)
    refine ⟨oA (dblM w m (if wP w (wr w) m = 0 then 1 else 2 * wP w (wr w) m) 99 1 (wr w)), oL l (dblM w m (if wP w (wr w) m = 0 then 1 else 2 * wP w (wr w) m) 99 1 (wr w)), fun h v rx => ?_, fun h v rm => ?_⟩
    · unfold f_X9_doubles
      simp -implicitDefEqProofs (disch := omega) only [v.1.root, gP_p, gP_t, bnd_s, bnd2_s, ltt_s, jn_s, n32_nat, n32_le, n32_lt, n32_eq, n32_add, n32_sub, n32_dec, n32_mul, n32_div, n32_irm, n32_lit, n32_oN, n32_ix, n32_m1, n32_m2, neg_le0, neg_lt0, neg_lt1, neg_le1, n32_min, n32_max, if_true, if_false, Nat.one_ne_zero, gd_some, hasX_y ok v hm, gd_bnd2]
      refine gd_mono (x_now (by omega) ok v hm) ?_
      rintro ⟨u, h1⟩ ⟨e1, f1⟩
      have e1' : u = n32 (wP w (wr w) m) := e1
      subst e1'
      have v1 := v.fr f1 (by decide)
      have rx1 := rx.fr f1 (by decide)
      by_cases q : wP w (wr w) m = 0
      · rw [if_pos q]
        simp -implicitDefEqProofs (disch := omega) only [gP_p, gP_t, bnd_s, bnd2_s, ltt_s, jn_s, n32_nat, n32_le, n32_lt, n32_eq, n32_add, n32_sub, n32_dec, n32_mul, n32_div, n32_irm, n32_lit, n32_oN, n32_ix, n32_m1, n32_m2, neg_le0, neg_lt0, neg_lt1, neg_le1, n32_min, n32_max, if_true, if_false, Nat.one_ne_zero, gd_some, q, gd_bnd]
        refine gd_mono (x_try (n := 0) (by omega) (by omega) (by omega) ok v1 rx1 (f1.mono (by decide))) ?_
        intro h2 t2
        exact dbl_x ok hm (by omega) 99 1 200 h2 (wr w) _ (by omega) (by omega) t2 (by omega)
      · rw [if_neg q]
        simp -implicitDefEqProofs (disch := omega) only [gP_p, gP_t, bnd_s, bnd2_s, ltt_s, jn_s, n32_nat, n32_le, n32_lt, n32_eq, n32_add, n32_sub, n32_dec, n32_mul, n32_div, n32_irm, n32_lit, n32_oN, n32_ix, n32_m1, n32_m2, neg_le0, neg_lt0, neg_lt1, neg_le1, n32_min, n32_max, if_true, if_false, Nat.one_ne_zero, gd_some, q, gd_bnd]
        refine gd_mono (x_try (n := 0) (by omega) (by omega) (by omega) ok v1 rx1 (f1.mono (by decide))) ?_
        intro h2 t2
        exact dbl_x ok hm (by omega) 99 1 200 h2 (wr w) _ (by omega) (by omega) t2 (by omega)
    · obtain ⟨v1, rm1, f1⟩ := thr0 v rm
      unfold f_X10_doubles
      simp -implicitDefEqProofs (disch := omega) only [v.1.mod, gP_p, gP_t, bnd_s, bnd2_s, ltt_s, jn_s, n32_nat, n32_le, n32_lt, n32_eq, n32_add, n32_sub, n32_dec, n32_mul, n32_div, n32_irm, n32_lit, n32_oN, n32_ix, n32_m1, n32_m2, neg_le0, neg_lt0, neg_lt1, neg_le1, n32_min, n32_max, if_true, if_false, Nat.one_ne_zero, gd_some]
      simp -implicitDefEqProofs (disch := omega) only [gP_p, gP_t, bnd_s, bnd2_s, ltt_s, jn_s, n32_nat, n32_le, n32_lt, n32_eq, n32_add, n32_sub, n32_dec, n32_mul, n32_div, n32_irm, n32_lit, n32_oN, n32_ix, n32_m1, n32_m2, neg_le0, neg_lt0, neg_lt1, neg_le1, n32_min, n32_max, if_true, if_false, Nat.one_ne_zero, gd_some, isM_y ok v1.1 v1.2.1 hm, gd_bnd]
      refine gd_mono (m_copies (by omega) ok v1 rm1 f1) ?_
      intro h2 t2
      simp -implicitDefEqProofs (disch := omega) only [t2.1.1.mod, gP_p, gP_t, bnd_s, bnd2_s, ltt_s, jn_s, n32_nat, n32_le, n32_lt, n32_eq, n32_add, n32_sub, n32_dec, n32_mul, n32_div, n32_irm, n32_lit, n32_oN, n32_ix, n32_m1, n32_m2, neg_le0, neg_lt0, neg_lt1, neg_le1, n32_min, n32_max, if_true, if_false, Nat.one_ne_zero, gd_some, gd_bnd2]
      refine gd_mono (m_nowT (by omega) ok t2 hm) ?_
      rintro ⟨u, h3⟩ ⟨e3, t3⟩
      have e3' : u = n32 (wP w (wr w) m) := e3
      subst e3'
      exact dbl_m ok hm hnow rfl 99 1 200 h3 (wr w) _ (by omega) (by omega) t3 (by omega)
  · refine ⟨-n32 1, l, fun h v rx => ?_, fun h v rm => ?_⟩
    · unfold f_X9_doubles
      simp -implicitDefEqProofs (disch := omega) only [v.1.root, gP_p, gP_t, bnd_s, bnd2_s, ltt_s, jn_s, n32_nat, n32_le, n32_lt, n32_eq, n32_add, n32_sub, n32_dec, n32_mul, n32_div, n32_irm, n32_lit, n32_oN, n32_ix, n32_m1, n32_m2, neg_le0, neg_lt0, neg_lt1, neg_le1, n32_min, n32_max, if_true, if_false, Nat.one_ne_zero, gd_some, hasX_n ok v h1]
      exact fin_x rx (fr.rf _ _)
    · obtain ⟨v1, rm1, f1⟩ := thr0 v rm
      unfold f_X10_doubles
      simp -implicitDefEqProofs (disch := omega) only [v.1.mod, gP_p, gP_t, bnd_s, bnd2_s, ltt_s, jn_s, n32_nat, n32_le, n32_lt, n32_eq, n32_add, n32_sub, n32_dec, n32_mul, n32_div, n32_irm, n32_lit, n32_oN, n32_ix, n32_m1, n32_m2, neg_le0, neg_lt0, neg_lt1, neg_le1, n32_min, n32_max, if_true, if_false, Nat.one_ne_zero, gd_some]
      simp -implicitDefEqProofs (disch := omega) only [gP_p, gP_t, bnd_s, bnd2_s, ltt_s, jn_s, n32_nat, n32_le, n32_lt, n32_eq, n32_add, n32_sub, n32_dec, n32_mul, n32_div, n32_irm, n32_lit, n32_oN, n32_ix, n32_m1, n32_m2, neg_le0, neg_lt0, neg_lt1, neg_le1, n32_min, n32_max, if_true, if_false, Nat.one_ne_zero, gd_some, isM_n ok v1.1 v1.2.1 h1]
      exact fin_m rm1 f1) h I
