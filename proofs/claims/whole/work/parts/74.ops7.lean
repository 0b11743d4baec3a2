/-! ===== reign ===== -/
theorem x_tax {w : Wd} {l : List Int64} {h0 h : HP} {q : Nat → Nat} {D : Nat} {x1 x2 : Int32} (ok : wOK w) (t : XT w l h0 h q D) : gd (f_X0_tax 1000 h 19 x1 x2) (fun p => XT w l h0 p.2 (aTax (wsz w) x1 x2 q).2 D) := by
  obtain ⟨v, rx, cr, z, f, rb⟩ := t
  refine gd_mono (tax_x (N := 997) (v.1.co CL19) z ok.1 cr rb) ?_
  rintro ⟨u, h1⟩ ⟨e1, e2, e3, e4⟩
  have f1 : fr [5] h h1 := e4
  refine ⟨v.fr f1 (by decide), rx.fr f1 (by decide), e2, e3, f.tr (f1.mono (by decide)), ?_⟩
  unfold aTax
  by_cases q1 : taxP (wsz w) x1 x2
  · rw [aIf_y q1]
    obtain ⟨m, hm, e1⟩ := n32_of q1.1.1 q1.1.2
    have hz := ok.1
    rw [show x1.toNatClampNeg = m by rw [e1, n32_nat (by omega)]]
    have b0 := rb.1 m (by omega)
    have s1 : RBm D (tx1 m x2.toNatClampNeg q) := (rb.up (Or.inl ⟨by omega, by omega⟩)).up (Or.inr (Or.inr (Or.inl ⟨rfl, by omega⟩)))
    have b1 := s1.1 (6 + m) (by omega)
    exact (s1.up (Or.inl ⟨by omega, by omega⟩)).up (Or.inr (Or.inr (Or.inl ⟨rfl, by omega⟩)))
  · rw [aIf_n q1]
    exact rb
theorem m_tax {w : Wd} {l : List Int64} {h0 h : HP} {q : Nat → Nat} {D : Nat} {x1 x2 : Int32} (ok : wOK w) (t : MT w l h0 h q D) : gd (f_X10_taxesOf 1000 h 188 194 x1 x2) (fun p => MT w l h0 p.2 (aTax (wsz w) x1 x2 q).2 D) := by
  obtain ⟨v, rm, mr, f, rb⟩ := t
  refine gd_mono (tax_m (N := 997) (Or.inr rfl) v.1 v.2.1 ok.1 mr rb) ?_
  rintro ⟨u, h1⟩ ⟨e1, e2, e4⟩
  have f1 : fr [31] h h1 := e4
  refine ⟨v.fr f1 (by decide), rm.fr f1 (by decide), e2, f.tr (f1.mono (by decide)), ?_⟩
  unfold aTax
  by_cases q1 : taxP (wsz w) x1 x2
  · rw [aIf_y q1]
    obtain ⟨m, hm, e1⟩ := n32_of q1.1.1 q1.1.2
    have hz := ok.1
    rw [show x1.toNatClampNeg = m by rw [e1, n32_nat (by omega)]]
    have b0 := rb.1 m (by omega)
    have s1 : RBm D (tx1 m x2.toNatClampNeg q) := (rb.up (Or.inl ⟨by omega, by omega⟩)).up (Or.inr (Or.inr (Or.inl ⟨rfl, by omega⟩)))
    have b1 := s1.1 (6 + m) (by omega)
    exact (s1.up (Or.inl ⟨by omega, by omega⟩)).up (Or.inr (Or.inr (Or.inl ⟨rfl, by omega⟩)))
  · rw [aIf_n q1]
    exact rb
theorem xt_0 {a : Nat} (h : a < 2000000000) : (xt a = -n32 1) = (a = 0) := by
  cases a with
  | zero => exact propext ⟨fun _ => rfl, fun _ => rfl⟩
  | succ t =>
    rw [xt_s, n32_m1 (by omega) (by omega) (by omega)]
    exact propext ⟨fun z => z.elim, fun z => absurd z (by omega)⟩
theorem xt_ltv {a v : Nat} (hv : v < 2000000000) (h : a < 2000000000) : (xt a < n32 v) = ¬ (v + 1 ≤ a) := by rw [← xt_le hv h]; exact propext Int32.not_le.symm
theorem xt_eq {a v : Nat} (hv : v < 2000000000) (h : a < 2000000000) : (n32 v = xt a) = (v + 1 = a) := by
  cases a with
  | zero =>
    have e : xt 0 = -n32 1 := rfl
    rw [e, n32_m1 (by omega) (by omega) (by omega)]
    exact propext ⟨fun z => z.elim, fun z => absurd z (by omega)⟩
  | succ t => rw [xt_s, n32_eq (by omega) (by omega)]; exact propext ⟨fun z => by omega, fun z => by omega⟩
theorem xt_ge0 {a : Nat} (h : a < 2000000000) : (n32 0 ≤ xt a) = (1 ≤ a) := by
  cases a with
  | zero => exact propext ⟨fun z => absurd z (by decide), fun z => absurd z (by omega)⟩
  | succ t => rw [xt_s, n32_le (by omega) (by omega)]; exact propext ⟨fun z => by omega, fun z => by omega⟩
theorem xt_m1lt {a : Nat} (h : a < 2000000000) : (xt a < -n32 1) = False := by
  cases a with
  | zero => exact eq_false (by decide)
  | succ t => rw [xt_s]; exact neg_lt1 (by omega) (by omega)
theorem xt_m1max {a : Nat} (h : a < 2000000000) : f_J9_max_7cf53 (xt a) (-n32 1) = some (xt a) := by
  unfold f_J9_max_7cf53
  simp only [xt_m1lt h, if_false]
noncomputable def reR (w : Wd) (t s : Nat) : Nat → Nat → (Nat → Nat) → (Nat → Nat)
  | 0, _, q => q
  | d + 1, i, q => reR w t s d (i + 1) (if (shr (n32 s) (n32 i)) &&& n32 1 = n32 1 then (aTax (wsz w) (n32 0) (n32 t) (wM w q)).2 else wM w q)
theorem tt_x {n t s : Nat} {w : Wd} {h0 : HP} {l : List Int64} (ok : wOK w) (hn : n ≤ 8) : ∀ (d i fuel : Nat) (h : HP) (q : Nat → Nat) (D : Nat), i + d = n → d < fuel → XT w l h0 h q D → D + d ≤ 300000 →
    gd (lp (fun _ _ => none) (f_X9_tryTaxes_B14 1000 0 (n32 n) (n32 t) (n32 s)) fuel (n32 i) h) (fun h' => XT w l h0 h' (reR w t s d i q) (D + d)) := by
  intro d
  induction d with
  | zero =>
    intro i fuel h q D hn hf tt hD
    obtain ⟨k, rfl⟩ : ∃ k, fuel = k + 1 := ⟨fuel - 1, by omega⟩
    have e : n ≤ i := by omega
    simp -implicitDefEqProofs (disch := omega) only [lp_s, f_X9_tryTaxes_B14, gP_p, gP_t, bnd_s, bnd2_s, ltt_s, jn_s, n32_nat, n32_le, n32_lt, n32_eq, n32_add, n32_sub, n32_dec, n32_mul, n32_div, n32_irm, n32_lit, n32_oN, n32_ix, n32_m1, n32_m2, neg_le0, neg_lt0, neg_lt1, neg_le1, n32_min, n32_max, if_true, if_false, Nat.one_ne_zero, gd_some, true_or, or_true, false_or, or_false, e]
    exact tt
  | succ d ih =>
    intro i fuel h q D hi hf tt hD
    obtain ⟨k, rfl⟩ : ∃ k, fuel = k + 1 := ⟨fuel - 1, by omega⟩
    have e : ¬ n ≤ i := by omega
    simp -implicitDefEqProofs (disch := omega) only [lp_s, f_X9_tryTaxes_B14, gP_p, gP_t, bnd_s, bnd2_s, ltt_s, jn_s, n32_nat, n32_le, n32_lt, n32_eq, n32_add, n32_sub, n32_dec, n32_mul, n32_div, n32_irm, n32_lit, n32_oN, n32_ix, n32_m1, n32_m2, neg_le0, neg_lt0, neg_lt1, neg_le1, n32_min, n32_max, if_true, if_false, Nat.one_ne_zero, gd_some, true_or, or_true, false_or, or_false, e, tt.1.1.root, gd_bnd2]
    refine gd_mono (x_pass (by omega) (by omega) (by omega) ok tt (by omega)) ?_
    rintro ⟨u, h1⟩ t1
    have t1' : XT w l h0 h1 (wM w q) (D + 1) := t1
    have goal := fun h2 t2 => ih (i + 1) k h2 (if (shr (n32 s) (n32 i)) &&& n32 1 = n32 1 then (aTax (wsz w) (n32 0) (n32 t) (wM w q)).2 else wM w q) (D + 1) (by omega) (by omega) t2 (by omega)
    rw [show D + (d + 1) = D + 1 + d by omega]
    by_cases b : (shr (n32 s) (n32 i)) &&& n32 1 = n32 1
    · rw [if_pos b] at goal
      have er : reR w t s (d + 1) i q = reR w t s d (i + 1) (aTax (wsz w) (n32 0) (n32 t) (wM w q)).2 := by
        conv => lhs; unfold reR
        rw [if_pos b]
      rw [er]
      simp -implicitDefEqProofs (disch := omega) only [gP_p, gP_t, bnd_s, bnd2_s, ltt_s, jn_s, n32_nat, n32_le, n32_lt, n32_eq, n32_add, n32_sub, n32_dec, n32_mul, n32_div, n32_irm, n32_lit, n32_oN, n32_ix, n32_m1, n32_m2, neg_le0, neg_lt0, neg_lt1, neg_le1, n32_min, n32_max, if_true, if_false, Nat.one_ne_zero, gd_some, true_or, or_true, false_or, or_false, b, t1'.1.1.root, gd_bnd2]
      refine gd_mono (x_tax ok t1') ?_
      rintro ⟨u2, h2⟩ t2
      exact goal h2 t2
    · rw [if_neg b] at goal
      have er : reR w t s (d + 1) i q = reR w t s d (i + 1) (wM w q) := by
        conv => lhs; unfold reR
        rw [if_neg b]
      rw [er]
      simp -implicitDefEqProofs (disch := omega) only [gP_p, gP_t, bnd_s, bnd2_s, ltt_s, jn_s, n32_nat, n32_le, n32_lt, n32_eq, n32_add, n32_sub, n32_dec, n32_mul, n32_div, n32_irm, n32_lit, n32_oN, n32_ix, n32_m1, n32_m2, neg_le0, neg_lt0, neg_lt1, neg_le1, n32_min, n32_max, if_true, if_false, Nat.one_ne_zero, gd_some, true_or, or_true, false_or, or_false, b]
      exact goal h1 t1'
theorem tt_m {n t s : Nat} {w : Wd} {h0 : HP} {l : List Int64} {x3 x4 x5 : Int32} {k : HP → Option (Int32 × HP)} {Q : Int32 × HP → Prop} (ok : wOK w) (hn : n ≤ 8) : ∀ (d i fuel : Nat) (h : HP) (q : Nat → Nat) (D : Nat), i + d = n → d < fuel → MT w l h0 h q D → D + d ≤ 300000 → (∀ h', MT w l h0 h' (reR w t s d i q) (D + d) → gd (k h') Q) →
    gd (lp (fun _ _ => none) (f_X10_reign_B74 1000 188 (n32 n) (n32 t) x3 x4 x5 (n32 s) k) fuel (n32 i) h) Q := by
  intro d
  induction d with
  | zero =>
    intro i fuel h q D hn hf tt hD K
    obtain ⟨k', rfl⟩ : ∃ k, fuel = k + 1 := ⟨fuel - 1, by omega⟩
    have e : n ≤ i := by omega
    simp -implicitDefEqProofs (disch := omega) only [lp_s, f_X10_reign_B74, gP_p, gP_t, bnd_s, bnd2_s, ltt_s, jn_s, n32_nat, n32_le, n32_lt, n32_eq, n32_add, n32_sub, n32_dec, n32_mul, n32_div, n32_irm, n32_lit, n32_oN, n32_ix, n32_m1, n32_m2, neg_le0, neg_lt0, neg_lt1, neg_le1, n32_min, n32_max, if_true, if_false, Nat.one_ne_zero, gd_some, true_or, or_true, false_or, or_false, e]
    exact K h tt
  | succ d ih =>
    intro i fuel h q D hi hf tt hD K
    obtain ⟨k', rfl⟩ : ∃ k, fuel = k + 1 := ⟨fuel - 1, by omega⟩
    have e : ¬ n ≤ i := by omega
    simp -implicitDefEqProofs (disch := omega) only [lp_s, f_X10_reign_B74, gP_p, gP_t, bnd_s, bnd2_s, ltt_s, jn_s, n32_nat, n32_le, n32_lt, n32_eq, n32_add, n32_sub, n32_dec, n32_mul, n32_div, n32_irm, n32_lit, n32_oN, n32_ix, n32_m1, n32_m2, neg_le0, neg_lt0, neg_lt1, neg_le1, n32_min, n32_max, if_true, if_false, Nat.one_ne_zero, gd_some, true_or, or_true, false_or, or_false, e, tt.1.1.mod, gd_bnd]
    refine gd_mono (m_month (by omega) ok tt (by omega)) ?_
    intro h1 t1
    rw [show D + (d + 1) = D + 1 + d by omega] at K
    by_cases b : (shr (n32 s) (n32 i)) &&& n32 1 = n32 1
    · have er : reR w t s (d + 1) i q = reR w t s d (i + 1) (aTax (wsz w) (n32 0) (n32 t) (wM w q)).2 := by
        conv => lhs; unfold reR
        rw [if_pos b]
      rw [er] at K
      simp -implicitDefEqProofs (disch := omega) only [gP_p, gP_t, bnd_s, bnd2_s, ltt_s, jn_s, n32_nat, n32_le, n32_lt, n32_eq, n32_add, n32_sub, n32_dec, n32_mul, n32_div, n32_irm, n32_lit, n32_oN, n32_ix, n32_m1, n32_m2, neg_le0, neg_lt0, neg_lt1, neg_le1, n32_min, n32_max, if_true, if_false, Nat.one_ne_zero, gd_some, true_or, or_true, false_or, or_false, f_X10_has, b, t1.1.1.mod, gd_bnd2]
      refine gd_mono (m_tax ok t1) ?_
      rintro ⟨u2, h2⟩ t2
      exact ih (i + 1) k' h2 _ (D + 1) (by omega) (by omega) t2 (by omega) K
    · have er : reR w t s (d + 1) i q = reR w t s d (i + 1) (wM w q) := by
        conv => lhs; unfold reR
        rw [if_neg b]
      rw [er] at K
      simp -implicitDefEqProofs (disch := omega) only [gP_p, gP_t, bnd_s, bnd2_s, ltt_s, jn_s, n32_nat, n32_le, n32_lt, n32_eq, n32_add, n32_sub, n32_dec, n32_mul, n32_div, n32_irm, n32_lit, n32_oN, n32_ix, n32_m1, n32_m2, neg_le0, neg_lt0, neg_lt1, neg_le1, n32_min, n32_max, if_true, if_false, Nat.one_ne_zero, gd_some, true_or, or_true, false_or, or_false, f_X10_has, b]
      exact ih (i + 1) k' h1 _ (D + 1) (by omega) (by omega) t1 (by omega) K
noncomputable def reQ (w : Wd) (n t s : Nat) : Nat → Nat := reR w t s n 0 (wr w)
noncomputable def reM (w : Wd) (n t v : Nat) : Nat → Nat → Nat → Nat → Nat × Nat
  | 0, _, mo, ch => (mo, ch)
  | d + 1, s, mo, ch => if wP w (reQ w n t s) 0 < v then reM w n t v d (s + 1) mo ch else if reQ w n t s 26 + 1 ≤ mo then (if reQ w n t s 26 + 1 = mo then (if bcv (xt ch) ≤ bcv (n32 s) then reM w n t v d (s + 1) mo ch else reM w n t v d (s + 1) (reQ w n t s 26 + 1) (s + 1)) else reM w n t v d (s + 1) mo ch) else reM w n t v d (s + 1) (reQ w n t s 26 + 1) (s + 1)
theorem ttX {n t s : Nat} {w : Wd} {h0 h : HP} {l : List Int64} (ok : wOK w) (e : XEq w l h0 h) (hn : n ≤ 8) : gd (f_X9_tryTaxes 1000 h 0 (n32 n) (n32 t) (n32 s)) (fun h' => XT w l h0 h' (reQ w n t s) (wB w + n)) := by
  have hB := ok.2.2.2.2.2.2
  unfold f_X9_tryTaxes
  simp -implicitDefEqProofs (disch := omega) only [e.1.1.root, gP_p, gP_t, bnd_s, bnd2_s, ltt_s, jn_s, n32_nat, n32_le, n32_lt, n32_eq, n32_add, n32_sub, n32_dec, n32_mul, n32_div, n32_irm, n32_lit, n32_oN, n32_ix, n32_m1, n32_m2, neg_le0, neg_lt0, neg_lt1, neg_le1, n32_min, n32_max, if_true, if_false, Nat.one_ne_zero, gd_some, true_or, or_true, false_or, or_false, gd_bnd]
  refine gd_mono (x_become (N := 997) ok e.1 e.2.1 e.2.2) ?_
  intro h1 t1
  exact tt_x ok hn n 0 1000 h1 (wr w) _ (by omega) (by omega) t1 (by omega)
def reA (p : Nat × Nat) : Int32 := if p.2 = 0 then -n32 2 else xt p.1
def reL (l : List Int64) (p : Nat × Nat) : List Int64 := if p.2 = 0 then l else [(xt p.2).toInt64]
theorem reign_x {n t v : Nat} {w : Wd} {h0 : HP} {l : List Int64} (ok : wOK w) (h1z : 0 < wsz w) (hn : n ≤ 8) (hv : v ≤ 99999) : ∀ (d s fuel : Nat) (h : HP) (mo ch : Nat), s + d = 2 ^ n → d < fuel → XEq w l h0 h → mo ≤ 1000000 → ch ≤ 256 → (ch = 0 → mo = 0) →
    gd (lp (fun _ _ _ _ => none) (f_X9_reign_B55 1000 0 (n32 n) (n32 t) (n32 v) (fun (x58 : Int32) (x59 : Int32) (h60 : HP) => (if x59 = (-1) then some ((-2), h60) else bnd (rK h60 0 1 6) (fun t63 => bnd (f_X6_tell h60 t63 (x59.toInt64)) (fun h68 => some (x58, h68)))))) fuel (xt mo) (xt ch) (n32 s) h) (XA (reL l (reM w n t v d s mo ch)) (reA (reM w n t v d s mo ch)) h0) := by
  have hp := pow_b hn
  have hsh := shl_p hn
  have hB := ok.2.2.2.2.2.2
  intro d
  induction d with
  | zero =>
    intro s fuel h mo ch hs hf e hmo hch hc0
    obtain ⟨k, rfl⟩ : ∃ k, fuel = k + 1 := ⟨fuel - 1, by omega⟩
    have e2 : 2 ^ n ≤ s := by omega
    unfold reM reA reL
    by_cases q : ch = 0
    · simp -implicitDefEqProofs (disch := omega) only [lp_s, f_X9_reign_B55, gP_p, gP_t, bnd_s, bnd2_s, ltt_s, jn_s, n32_nat, n32_le, n32_lt, n32_eq, n32_add, n32_sub, n32_dec, n32_mul, n32_div, n32_irm, n32_lit, n32_oN, n32_ix, n32_m1, n32_m2, neg_le0, neg_lt0, neg_lt1, neg_le1, n32_min, n32_max, if_true, if_false, Nat.one_ne_zero, gd_some, true_or, or_true, false_or, or_false, hsh, e2, xt_0, q]
      exact fin_x e.2.1 e.2.2
    · simp -implicitDefEqProofs (disch := omega) only [lp_s, f_X9_reign_B55, gP_p, gP_t, bnd_s, bnd2_s, ltt_s, jn_s, n32_nat, n32_le, n32_lt, n32_eq, n32_add, n32_sub, n32_dec, n32_mul, n32_div, n32_irm, n32_lit, n32_oN, n32_ix, n32_m1, n32_m2, neg_le0, neg_lt0, neg_lt1, neg_le1, n32_min, n32_max, if_true, if_false, Nat.one_ne_zero, gd_some, true_or, or_true, false_or, or_false, hsh, e2, xt_0, q, e.1.1.root, gd_bnd]
      refine gd_mono (xq_tell1 e) ?_
      intro h3 t3
      exact ⟨rfl, t3.2.1, t3.2.2⟩
  | succ d ih =>
    intro s fuel h mo ch hs hf e hmo hch hc0
    obtain ⟨k, rfl⟩ : ∃ k, fuel = k + 1 := ⟨fuel - 1, by omega⟩
    have e2 : ¬ 2 ^ n ≤ s := by omega
    simp -implicitDefEqProofs (disch := omega) only [lp_s, f_X9_reign_B55, gP_p, gP_t, bnd_s, bnd2_s, ltt_s, jn_s, n32_nat, n32_le, n32_lt, n32_eq, n32_add, n32_sub, n32_dec, n32_mul, n32_div, n32_irm, n32_lit, n32_oN, n32_ix, n32_m1, n32_m2, neg_le0, neg_lt0, neg_lt1, neg_le1, n32_min, n32_max, if_true, if_false, Nat.one_ne_zero, gd_some, true_or, or_true, false_or, or_false, hsh, e2, gd_bnd]
    refine gd_mono (ttX (s := s) ok e hn) ?_
    intro h1 t1
    simp -implicitDefEqProofs (disch := omega) only [t1.1.1.root, gP_p, gP_t, bnd_s, bnd2_s, ltt_s, jn_s, n32_nat, n32_le, n32_lt, n32_eq, n32_add, n32_sub, n32_dec, n32_mul, n32_div, n32_irm, n32_lit, n32_oN, n32_ix, n32_m1, n32_m2, neg_le0, neg_lt0, neg_lt1, neg_le1, n32_min, n32_max, if_true, if_false, Nat.one_ne_zero, gd_some, true_or, or_true, false_or, or_false, gd_bnd2]
    refine gd_mono (x_price (by omega) ok t1 (by omega) h1z) ?_
    rintro ⟨u, h2⟩ ⟨e3, t2⟩
    have e3' : u = n32 (wP w (reQ w n t s) 0) := e3
    subst e3'
    have pb := wP_le (w := w) (q := reQ w n t s) (m := 0)
    have tb := t2.2.2.2.2.2.2.2.1
    have tr' : h2.2.1 19 5 = n32 (reQ w n t s 26) := t2.2.2.1.2.2.2.2.1
    unfold reM
    have skip' := ih (s + 1) k h2 mo ch (by omega) (by omega) t2.q hmo hch hc0
    have take := ih (s + 1) k h2 (reQ w n t s 26 + 1) (s + 1) (by omega) (by omega) t2.q (by omega) (by omega) (fun z => absurd z (by omega))
    rw [xt_s, xt_s] at take
    by_cases q1 : wP w (reQ w n t s) 0 < v
    · rw [if_pos q1]
      simp -implicitDefEqProofs (disch := omega) only [gP_p, gP_t, bnd_s, bnd2_s, ltt_s, jn_s, n32_nat, n32_le, n32_lt, n32_eq, n32_add, n32_sub, n32_dec, n32_mul, n32_div, n32_irm, n32_lit, n32_oN, n32_ix, n32_m1, n32_m2, neg_le0, neg_lt0, neg_lt1, neg_le1, n32_min, n32_max, if_true, if_false, Nat.one_ne_zero, gd_some, true_or, or_true, false_or, or_false, q1]
      simp -implicitDefEqProofs (disch := omega) only [gP_p, gP_t, bnd_s, bnd2_s, ltt_s, jn_s, n32_nat, n32_le, n32_lt, n32_eq, n32_add, n32_sub, n32_dec, n32_mul, n32_div, n32_irm, n32_lit, n32_oN, n32_ix, n32_m1, n32_m2, neg_le0, neg_lt0, neg_lt1, neg_le1, n32_min, n32_max, if_true, if_false, Nat.one_ne_zero, gd_some, true_or, or_true, false_or, or_false] at skip'
      exact skip'
    · rw [if_neg q1]
      by_cases q2 : reQ w n t s 26 + 1 ≤ mo
      · have qc : ¬ ch = 0 := fun z => by have := hc0 z; omega
        rw [if_pos q2]
        by_cases q3 : reQ w n t s 26 + 1 = mo
        · rw [if_pos q3]
          by_cases q4 : bcv (xt ch) ≤ bcv (n32 s)
          · rw [if_pos q4]
            simp -implicitDefEqProofs (disch := omega) only [gP_p, gP_t, bnd_s, bnd2_s, ltt_s, jn_s, n32_nat, n32_le, n32_lt, n32_eq, n32_add, n32_sub, n32_dec, n32_mul, n32_div, n32_irm, n32_lit, n32_oN, n32_ix, n32_m1, n32_m2, neg_le0, neg_lt0, neg_lt1, neg_le1, n32_min, n32_max, if_true, if_false, Nat.one_ne_zero, gd_some, true_or, or_true, false_or, or_false, q1, t2.1.1.root, tr', xt_0, qc, xt_ltv, q2, not_true_eq_false, xt_eq, q3, few_e, q4, Nat.le_refl]
            simp -implicitDefEqProofs (disch := omega) only [gP_p, gP_t, bnd_s, bnd2_s, ltt_s, jn_s, n32_nat, n32_le, n32_lt, n32_eq, n32_add, n32_sub, n32_dec, n32_mul, n32_div, n32_irm, n32_lit, n32_oN, n32_ix, n32_m1, n32_m2, neg_le0, neg_lt0, neg_lt1, neg_le1, n32_min, n32_max, if_true, if_false, Nat.one_ne_zero, gd_some, true_or, or_true, false_or, or_false] at skip'
            exact skip'
          · rw [if_neg q4]
            simp -implicitDefEqProofs (disch := omega) only [gP_p, gP_t, bnd_s, bnd2_s, ltt_s, jn_s, n32_nat, n32_le, n32_lt, n32_eq, n32_add, n32_sub, n32_dec, n32_mul, n32_div, n32_irm, n32_lit, n32_oN, n32_ix, n32_m1, n32_m2, neg_le0, neg_lt0, neg_lt1, neg_le1, n32_min, n32_max, if_true, if_false, Nat.one_ne_zero, gd_some, true_or, or_true, false_or, or_false, q1, t2.1.1.root, tr', xt_0, qc, xt_ltv, q2, not_true_eq_false, xt_eq, q3, few_e, q4, Nat.le_refl]
            simp -implicitDefEqProofs (disch := omega) only [gP_p, gP_t, bnd_s, bnd2_s, ltt_s, jn_s, n32_nat, n32_le, n32_lt, n32_eq, n32_add, n32_sub, n32_dec, n32_mul, n32_div, n32_irm, n32_lit, n32_oN, n32_ix, n32_m1, n32_m2, neg_le0, neg_lt0, neg_lt1, neg_le1, n32_min, n32_max, if_true, if_false, Nat.one_ne_zero, gd_some, true_or, or_true, false_or, or_false, q3] at take
            exact take
        · rw [if_neg q3]
          simp -implicitDefEqProofs (disch := omega) only [gP_p, gP_t, bnd_s, bnd2_s, ltt_s, jn_s, n32_nat, n32_le, n32_lt, n32_eq, n32_add, n32_sub, n32_dec, n32_mul, n32_div, n32_irm, n32_lit, n32_oN, n32_ix, n32_m1, n32_m2, neg_le0, neg_lt0, neg_lt1, neg_le1, n32_min, n32_max, if_true, if_false, Nat.one_ne_zero, gd_some, true_or, or_true, false_or, or_false, q1, t2.1.1.root, tr', xt_0, qc, xt_ltv, q2, not_true_eq_false, xt_eq, q3]
          simp -implicitDefEqProofs (disch := omega) only [gP_p, gP_t, bnd_s, bnd2_s, ltt_s, jn_s, n32_nat, n32_le, n32_lt, n32_eq, n32_add, n32_sub, n32_dec, n32_mul, n32_div, n32_irm, n32_lit, n32_oN, n32_ix, n32_m1, n32_m2, neg_le0, neg_lt0, neg_lt1, neg_le1, n32_min, n32_max, if_true, if_false, Nat.one_ne_zero, gd_some, true_or, or_true, false_or, or_false] at skip'
          exact skip'
      · rw [if_neg q2]
        simp -implicitDefEqProofs (disch := omega) only [gP_p, gP_t, bnd_s, bnd2_s, ltt_s, jn_s, n32_nat, n32_le, n32_lt, n32_eq, n32_add, n32_sub, n32_dec, n32_mul, n32_div, n32_irm, n32_lit, n32_oN, n32_ix, n32_m1, n32_m2, neg_le0, neg_lt0, neg_lt1, neg_le1, n32_min, n32_max, if_true, if_false, Nat.one_ne_zero, gd_some, true_or, or_true, false_or, or_false] at take
        by_cases qc : ch = 0
        · simp -implicitDefEqProofs (disch := omega) only [gP_p, gP_t, bnd_s, bnd2_s, ltt_s, jn_s, n32_nat, n32_le, n32_lt, n32_eq, n32_add, n32_sub, n32_dec, n32_mul, n32_div, n32_irm, n32_lit, n32_oN, n32_ix, n32_m1, n32_m2, neg_le0, neg_lt0, neg_lt1, neg_le1, n32_min, n32_max, if_true, if_false, Nat.one_ne_zero, gd_some, true_or, or_true, false_or, or_false, q1, t2.1.1.root, tr', xt_0, qc]
          exact take
        · simp -implicitDefEqProofs (disch := omega) only [gP_p, gP_t, bnd_s, bnd2_s, ltt_s, jn_s, n32_nat, n32_le, n32_lt, n32_eq, n32_add, n32_sub, n32_dec, n32_mul, n32_div, n32_irm, n32_lit, n32_oN, n32_ix, n32_m1, n32_m2, neg_le0, neg_lt0, neg_lt1, neg_le1, n32_min, n32_max, if_true, if_false, Nat.one_ne_zero, gd_some, true_or, or_true, false_or, or_false, q1, t2.1.1.root, tr', xt_0, qc, xt_ltv, q2, not_false_eq_true]
          exact take
theorem reign_m {n t v : Nat} {w : Wd} {h0 : HP} {l : List Int64} (ok : wOK w) (h1z : 0 < wsz w) (hn : n ≤ 8) (hv : v ≤ 99999) : ∀ (d s fuel : Nat) (h : HP) (mo ch : Nat), s + d = 2 ^ n → d < fuel → MEq w l h0 h → mo ≤ 1000000 → ch ≤ 256 → (ch = 0 → mo = 0) →
    gd (lp (fun _ _ _ _ => none) (f_X10_reign_B52 1000 188 (n32 n) (n32 t) (n32 v) (fun (x92 : Int32) (x93 : Int32) (h94 : HP) => (if 0 ≤ x92 then lt_ (setI h94 188 1 0) (fun h97 => bnd (f_X10_enters h97 188 (x92.toInt64)) (fun h100 => some (x93, h100))) else some ((-2), h94)))) fuel (xt ch) (xt mo) (n32 s) h) (MA (reL l (reM w n t v d s mo ch)) (reA (reM w n t v d s mo ch)) h0) := by
  have hp := pow_b hn
  have hsh := shl_p hn
  have hB := ok.2.2.2.2.2.2
  have hz := ok.1
  have nz : ¬ wsz w ≤ 0 := by omega
  intro d
  induction d with
  | zero =>
    intro s fuel h mo ch hs hf e hmo hch hc0
    obtain ⟨k, rfl⟩ : ∃ k, fuel = k + 1 := ⟨fuel - 1, by omega⟩
    have e2 : 2 ^ n ≤ s := by omega
    have z := e.1.2.1
    unfold reM reA reL
    have hsh' : shl (1 : Int32) (n32 n) = n32 (2 ^ n) := hsh
    rw [lp_s, f_X10_reign_B52, hsh', if_pos (by rw [n32_le (by omega) (by omega)]; exact e2)]
    by_cases q : ch = 0
    · have q' : ¬ 1 ≤ 0 := by omega
      subst q
      simp -implicitDefEqProofs (disch := omega) only [gP_p, gP_t, bnd_s, bnd2_s, ltt_s, jn_s, n32_nat, n32_le, n32_lt, n32_eq, n32_add, n32_sub, n32_dec, n32_mul, n32_div, n32_irm, n32_lit, n32_oN, n32_ix, n32_m1, n32_m2, neg_le0, neg_lt0, neg_lt1, neg_le1, n32_min, n32_max, if_true, if_false, Nat.one_ne_zero, gd_some, true_or, or_true, false_or, or_false, xt_ge0, q']
      exact fin_m e.2.1 e.2.2
    · have q' : 1 ≤ ch := by omega
      simp -implicitDefEqProofs (disch := omega) only [gP_p, gP_t, bnd_s, bnd2_s, ltt_s, jn_s, n32_nat, n32_le, n32_lt, n32_eq, n32_add, n32_sub, n32_dec, n32_mul, n32_div, n32_irm, n32_lit, n32_oN, n32_ix, n32_m1, n32_m2, neg_le0, neg_lt0, neg_lt1, neg_le1, n32_min, n32_max, if_true, if_false, Nat.one_ne_zero, gd_some, true_or, or_true, false_or, or_false, xt_ge0, q', q, e.1.1.mod, gd_bnd]
      refine gd_mono (mq_ent (mq_told0 e) (by show 0 < 6; omega)) ?_
      intro h3 t3
      exact ⟨rfl, t3.2.1, t3.2.2⟩
  | succ d ih =>
    intro s fuel h mo ch hs hf e hmo hch hc0
    obtain ⟨k, rfl⟩ : ∃ k, fuel = k + 1 := ⟨fuel - 1, by omega⟩
    have e2 : ¬ 2 ^ n ≤ s := by omega
    have z := e.1.2.1
    have skip' := fun h2 t2 => ih (s + 1) k h2 mo ch (by omega) (by omega) t2 hmo hch hc0
    have hsh' : shl (1 : Int32) (n32 n) = n32 (2 ^ n) := hsh
    rw [lp_s, f_X10_reign_B52, hsh', if_neg (by rw [n32_le (by omega) (by omega)]; exact e2), z, if_neg (show ¬ n32 (wsz w) ≤ (0 : Int32) by show ¬ n32 (wsz w) ≤ n32 0; rw [n32_le (by omega) (by omega)]; exact nz), gd_bnd]
    refine gd_mono (m_copies (by omega) ok e.1 e.2.1 e.2.2) ?_
    intro h1 t1
    refine tt_m ok hn n 0 1000 h1 (wr w) _ (by omega) (by omega) t1 (by omega) ?_
    intro h2 t2
    have t2' : MT w l h0 h2 (reQ w n t s) (wB w + n) := t2
    have rk10 : rK h2 188 10 102 = some 194 := by simp only [t2'.1.1.mod]
    rw [rk10, bnd_s, gd_bnd2]
    refine gd_mono (m_price (by omega) ok t2' (by omega) h1z) ?_
    rintro ⟨u, h3⟩ ⟨e3, t3⟩
    have e3' : u = n32 (wP w (reQ w n t s) 0) := e3
    subst e3'
    have pb := wP_le (w := w) (q := reQ w n t s) (m := 0)
    have tb := t3.2.2.2.2.2.2.1
    have tr' : h3.2.1 194 26 = n32 (reQ w n t s 26) := t3.2.2.1 26 (by omega)
    have take := ih (s + 1) k h3 (reQ w n t s 26 + 1) (s + 1) (by omega) (by omega) t3.q (by omega) (by omega) (fun z => absurd z (by omega))
    rw [xt_s, xt_s] at take
    have skip' := skip' h3 t3.q
    simp -implicitDefEqProofs (disch := omega) only [gP_p, gP_t, bnd_s, bnd2_s, ltt_s, jn_s, n32_nat, n32_le, n32_lt, n32_eq, n32_add, n32_sub, n32_dec, n32_mul, n32_div, n32_irm, n32_lit, n32_oN, n32_ix, n32_m1, n32_m2, neg_le0, neg_lt0, neg_lt1, neg_le1, n32_min, n32_max, if_true, if_false, Nat.one_ne_zero, gd_some, true_or, or_true, false_or, or_false] at skip' take
    unfold reM
    by_cases q1 : wP w (reQ w n t s) 0 < v
    · rw [if_pos q1]
      have z1 : -n32 1 < n32 0 := by decide
      simp -implicitDefEqProofs (disch := omega) only [gP_p, gP_t, bnd_s, bnd2_s, ltt_s, jn_s, n32_nat, n32_le, n32_lt, n32_eq, n32_add, n32_sub, n32_dec, n32_mul, n32_div, n32_irm, n32_lit, n32_oN, n32_ix, n32_m1, n32_m2, neg_le0, neg_lt0, neg_lt1, neg_le1, n32_min, n32_max, if_true, if_false, Nat.one_ne_zero, gd_some, true_or, or_true, false_or, or_false, q1, xt_m1lt, z1, xt_m1max]
      exact skip'
    · rw [if_neg q1]
      have z2 : ¬ n32 (reQ w n t s 26) < n32 0 := by rw [n32_lt (by omega) (by omega)]; omega
      by_cases q2 : reQ w n t s 26 + 1 ≤ mo
      · rw [if_pos q2]
        by_cases q3 : reQ w n t s 26 + 1 = mo
        · rw [if_pos q3]
          by_cases q4 : bcv (xt ch) ≤ bcv (n32 s)
          · rw [if_pos q4]
            simp -implicitDefEqProofs (disch := omega) only [gP_p, gP_t, bnd_s, bnd2_s, ltt_s, jn_s, n32_nat, n32_le, n32_lt, n32_eq, n32_add, n32_sub, n32_dec, n32_mul, n32_div, n32_irm, n32_lit, n32_oN, n32_ix, n32_m1, n32_m2, neg_le0, neg_lt0, neg_lt1, neg_le1, n32_min, n32_max, if_true, if_false, Nat.one_ne_zero, gd_some, true_or, or_true, false_or, or_false, q1, t3.1.1.mod, tr', xt_ltv, q2, not_true_eq_false, z2, Nat.not_lt_zero, xt_eq, q3, bit_e, q4, xt_max, Nat.le_refl]
            exact skip'
          · rw [if_neg q4]
            have ex : xt mo = n32 (reQ w n t s 26) := by rw [← q3, xt_s]
            simp -implicitDefEqProofs (disch := omega) only [gP_p, gP_t, bnd_s, bnd2_s, ltt_s, jn_s, n32_nat, n32_le, n32_lt, n32_eq, n32_add, n32_sub, n32_dec, n32_mul, n32_div, n32_irm, n32_lit, n32_oN, n32_ix, n32_m1, n32_m2, neg_le0, neg_lt0, neg_lt1, neg_le1, n32_min, n32_max, if_true, if_false, Nat.one_ne_zero, gd_some, true_or, or_true, false_or, or_false, q1, t3.1.1.mod, tr', xt_ltv, q2, not_true_eq_false, z2, Nat.not_lt_zero, xt_eq, q3, bit_e, q4, xt_max, ex, Nat.le_refl, Nat.lt_irrefl, Nat.max_self]
            simp -implicitDefEqProofs (disch := omega) only [gP_p, gP_t, bnd_s, bnd2_s, ltt_s, jn_s, n32_nat, n32_le, n32_lt, n32_eq, n32_add, n32_sub, n32_dec, n32_mul, n32_div, n32_irm, n32_lit, n32_oN, n32_ix, n32_m1, n32_m2, neg_le0, neg_lt0, neg_lt1, neg_le1, n32_min, n32_max, if_true, if_false, Nat.one_ne_zero, gd_some, true_or, or_true, false_or, or_false, q3] at take
            exact take
        · rw [if_neg q3]
          simp -implicitDefEqProofs (disch := omega) only [gP_p, gP_t, bnd_s, bnd2_s, ltt_s, jn_s, n32_nat, n32_le, n32_lt, n32_eq, n32_add, n32_sub, n32_dec, n32_mul, n32_div, n32_irm, n32_lit, n32_oN, n32_ix, n32_m1, n32_m2, neg_le0, neg_lt0, neg_lt1, neg_le1, n32_min, n32_max, if_true, if_false, Nat.one_ne_zero, gd_some, true_or, or_true, false_or, or_false, q1, t3.1.1.mod, tr', xt_ltv, q2, not_true_eq_false, z2, Nat.not_lt_zero, xt_eq, q3, xt_max]
          exact skip'
      · rw [if_neg q2]
        simp -implicitDefEqProofs (disch := omega) only [gP_p, gP_t, bnd_s, bnd2_s, ltt_s, jn_s, n32_nat, n32_le, n32_lt, n32_eq, n32_add, n32_sub, n32_dec, n32_mul, n32_div, n32_irm, n32_lit, n32_oN, n32_ix, n32_m1, n32_m2, neg_le0, neg_lt0, neg_lt1, neg_le1, n32_min, n32_max, if_true, if_false, Nat.one_ne_zero, gd_some, true_or, or_true, false_or, or_false, q1, t3.1.1.mod, tr', xt_ltv, q2, not_false_eq_true, xt_max, xt_s]
        exact take

theorem op_reign {k : Nat} (hk : k < 512) : ∀ (h : HP) (a1 a2 a3 : Int32), Inv k h → ∃ (v : Int32) (h1 h2 : HP), f_X9_reign 1000 h 0 a1 a2 a3 = some (v, h1) ∧ f_X10_reign 1000 h1 188 a1 a2 a3 = some (v, h2) ∧ Inv (k + 1) h2 := fun h a1 a2 a3 I => q_op hk (fX := fun h => f_X9_reign 1000 h 0 a1 a2 a3) (fM := fun h => f_X10_reign 1000 h 188 a1 a2 a3) (fun w l ok => by
  have hB := ok.2.2.2.2.2.2
  have hz := ok.1
  by_cases c1 : 1 ≤ a1.toInt ∧ a1.toInt ≤ 8
  · obtain ⟨n, ln, hn, rfl⟩ := n32_of2 (lo := 1) (hi := 8) c1.1 c1.2
    have xn : f_X9_within (n32 n) (n32 1) (n32 8) = some (n32 1) := within_y c1
    have mn := in_y (x := n32 n) (lo := 1) (hi := 8) (a := 1) (b := 8) rfl rfl c1
    by_cases c2 : 1 ≤ a2.toInt ∧ a2.toInt ≤ 9
    · obtain ⟨t, lt, ht, rfl⟩ := n32_of2 (lo := 1) (hi := 9) c2.1 c2.2
      have xt : f_X9_within (n32 t) (n32 1) (n32 9) = some (n32 1) := within_y c2
      have mt := in_y (x := n32 t) (lo := 1) (hi := 9) (a := 1) (b := 9) rfl rfl c2
      by_cases c3 : 0 ≤ a3.toInt ∧ a3.toInt ≤ 99999
      · obtain ⟨v, lv, hv, rfl⟩ := n32_of2 (lo := 0) (hi := 99999) c3.1 c3.2
        have xv : f_X9_within (n32 v) (n32 0) (n32 99999) = some (n32 1) := within_y c3
        have mv := in_y (x := n32 v) (lo := 0) (hi := 99999) (a := 0) (b := 99999) rfl rfl c3
        have hp := pow_b hn
        have hsh := shl_p hn
        by_cases c9 : wsz w = 0
        · have e : ¬ 2 ^ n ≤ 0 := by omega
          refine ⟨-n32 2, l, fun h x rx => ?_, fun h x rm => ?_⟩
          · have z := x.2.1
            unfold f_X9_reign
            simp -implicitDefEqProofs (disch := omega) only [x.1.root, gP_p, gP_t, bnd_s, bnd2_s, ltt_s, jn_s, n32_nat, n32_le, n32_lt, n32_eq, n32_add, n32_sub, n32_dec, n32_mul, n32_div, n32_irm, n32_lit, n32_oN, n32_ix, n32_m1, n32_m2, neg_le0, neg_lt0, neg_lt1, neg_le1, n32_min, n32_max, if_true, if_false, Nat.one_ne_zero, gd_some, true_or, or_true, false_or, or_false, xn, xt, xv, z, c9]
            exact fin_x rx (fr.rf _ _)
          · obtain ⟨v1, rm1, f1⟩ := thr0 x rm
            have z := v1.2.1
            have zn : ¬ n32 0 ≤ -n32 1 := by decide
            unfold f_X10_reign
            simp -implicitDefEqProofs (disch := omega) only [x.1.mod, gP_p, gP_t, bnd_s, bnd2_s, ltt_s, jn_s, n32_nat, n32_le, n32_lt, n32_eq, n32_add, n32_sub, n32_dec, n32_mul, n32_div, n32_irm, n32_lit, n32_oN, n32_ix, n32_m1, n32_m2, neg_le0, neg_lt0, neg_lt1, neg_le1, n32_min, n32_max, if_true, if_false, Nat.one_ne_zero, gd_some, true_or, or_true, false_or, or_false]
            simp -implicitDefEqProofs (disch := omega) only [gP_p, gP_t, bnd_s, bnd2_s, ltt_s, jn_s, n32_nat, n32_le, n32_lt, n32_eq, n32_add, n32_sub, n32_dec, n32_mul, n32_div, n32_irm, n32_lit, n32_oN, n32_ix, n32_m1, n32_m2, neg_le0, neg_lt0, neg_lt1, neg_le1, n32_min, n32_max, if_true, if_false, Nat.one_ne_zero, gd_some, true_or, or_true, false_or, or_false, mn, mt, mv, lp_1000]
            have hsh' : shl (1 : Int32) (n32 n) = n32 (2 ^ n) := hsh
            rw [f_X10_reign_B52, hsh', if_neg (by rw [n32_le (by omega) (by omega)]; exact e), z, c9, if_pos (by decide)]
            simp -implicitDefEqProofs (disch := omega) only [gP_p, gP_t, bnd_s, bnd2_s, ltt_s, jn_s, n32_nat, n32_le, n32_lt, n32_eq, n32_add, n32_sub, n32_dec, n32_mul, n32_div, n32_irm, n32_lit, n32_oN, n32_ix, n32_m1, n32_m2, neg_le0, neg_lt0, neg_lt1, neg_le1, n32_min, n32_max, if_true, if_false, Nat.one_ne_zero, gd_some, true_or, or_true, false_or, or_false, zn]
            exact fin_m rm1 f1
        · refine ⟨reA (reM w n t v (2 ^ n) 0 0 0), reL l (reM w n t v (2 ^ n) 0 0 0), fun h x rx => ?_, fun h x rm => ?_⟩
          · have z := x.2.1
            have goal := reign_x (t := t) ok (by omega) hn hv (2 ^ n) 0 1000 h 0 0 (by omega) (by omega) ⟨x, rx, fr.rf _ _⟩ (by omega) (by omega) (fun _ => rfl)
            unfold f_X9_reign
            simp -implicitDefEqProofs (disch := omega) only [x.1.root, gP_p, gP_t, bnd_s, bnd2_s, ltt_s, jn_s, n32_nat, n32_le, n32_lt, n32_eq, n32_add, n32_sub, n32_dec, n32_mul, n32_div, n32_irm, n32_lit, n32_oN, n32_ix, n32_m1, n32_m2, neg_le0, neg_lt0, neg_lt1, neg_le1, n32_min, n32_max, if_true, if_false, Nat.one_ne_zero, gd_some, true_or, or_true, false_or, or_false, xn, xt, xv, z, c9]
            simp -implicitDefEqProofs (disch := omega) only [gP_p, gP_t, bnd_s, bnd2_s, ltt_s, jn_s, n32_nat, n32_le, n32_lt, n32_eq, n32_add, n32_sub, n32_dec, n32_mul, n32_div, n32_irm, n32_lit, n32_oN, n32_ix, n32_m1, n32_m2, neg_le0, neg_lt0, neg_lt1, neg_le1, n32_min, n32_max, if_true, if_false, Nat.one_ne_zero, gd_some, true_or, or_true, false_or, or_false] at goal
            exact goal
          · obtain ⟨v1, rm1, f1⟩ := thr0 x rm
            have goal := reign_m (t := t) ok (by omega) hn hv (2 ^ n) 0 1000 _ 0 0 (by omega) (by omega) ⟨v1, rm1, f1⟩ (by omega) (by omega) (fun _ => rfl)
            unfold f_X10_reign
            simp -implicitDefEqProofs (disch := omega) only [x.1.mod, gP_p, gP_t, bnd_s, bnd2_s, ltt_s, jn_s, n32_nat, n32_le, n32_lt, n32_eq, n32_add, n32_sub, n32_dec, n32_mul, n32_div, n32_irm, n32_lit, n32_oN, n32_ix, n32_m1, n32_m2, neg_le0, neg_lt0, neg_lt1, neg_le1, n32_min, n32_max, if_true, if_false, Nat.one_ne_zero, gd_some, true_or, or_true, false_or, or_false]
            simp -implicitDefEqProofs (disch := omega) only [v1.1.mod, gP_p, gP_t, bnd_s, bnd2_s, ltt_s, jn_s, n32_nat, n32_le, n32_lt, n32_eq, n32_add, n32_sub, n32_dec, n32_mul, n32_div, n32_irm, n32_lit, n32_oN, n32_ix, n32_m1, n32_m2, neg_le0, neg_lt0, neg_lt1, neg_le1, n32_min, n32_max, if_true, if_false, Nat.one_ne_zero, gd_some, true_or, or_true, false_or, or_false, mn, mt, mv]
            simp -implicitDefEqProofs (disch := omega) only [gP_p, gP_t, bnd_s, bnd2_s, ltt_s, jn_s, n32_nat, n32_le, n32_lt, n32_eq, n32_add, n32_sub, n32_dec, n32_mul, n32_div, n32_irm, n32_lit, n32_oN, n32_ix, n32_m1, n32_m2, neg_le0, neg_lt0, neg_lt1, neg_le1, n32_min, n32_max, if_true, if_false, Nat.one_ne_zero, gd_some, true_or, or_true, false_or, or_false] at goal
            exact goal
      · have xv : f_X9_within a3 (n32 0) (n32 99999) = some (n32 0) := within_n c3
        have mv := in_n (x := a3) (lo := 0) (hi := 99999) (a := 0) (b := 99999) rfl rfl c3
        refine ⟨-n32 1, l, fun h x rx => ?_, fun h x rm => ?_⟩
        · unfold f_X9_reign
          simp -implicitDefEqProofs (disch := omega) only [x.1.root, gP_p, gP_t, bnd_s, bnd2_s, ltt_s, jn_s, n32_nat, n32_le, n32_lt, n32_eq, n32_add, n32_sub, n32_dec, n32_mul, n32_div, n32_irm, n32_lit, n32_oN, n32_ix, n32_m1, n32_m2, neg_le0, neg_lt0, neg_lt1, neg_le1, n32_min, n32_max, if_true, if_false, Nat.one_ne_zero, gd_some, true_or, or_true, false_or, or_false, xn, xt, xv]
          exact fin_x rx (fr.rf _ _)
        · obtain ⟨v1, rm1, f1⟩ := thr0 x rm
          unfold f_X10_reign
          simp -implicitDefEqProofs (disch := omega) only [x.1.mod, gP_p, gP_t, bnd_s, bnd2_s, ltt_s, jn_s, n32_nat, n32_le, n32_lt, n32_eq, n32_add, n32_sub, n32_dec, n32_mul, n32_div, n32_irm, n32_lit, n32_oN, n32_ix, n32_m1, n32_m2, neg_le0, neg_lt0, neg_lt1, neg_le1, n32_min, n32_max, if_true, if_false, Nat.one_ne_zero, gd_some, true_or, or_true, false_or, or_false]
          simp -implicitDefEqProofs (disch := omega) only [gP_p, gP_t, bnd_s, bnd2_s, ltt_s, jn_s, n32_nat, n32_le, n32_lt, n32_eq, n32_add, n32_sub, n32_dec, n32_mul, n32_div, n32_irm, n32_lit, n32_oN, n32_ix, n32_m1, n32_m2, neg_le0, neg_lt0, neg_lt1, neg_le1, n32_min, n32_max, if_true, if_false, Nat.one_ne_zero, gd_some, true_or, or_true, false_or, or_false, mn, mt, mv]
          exact fin_m rm1 f1
    · have xt : f_X9_within a2 (n32 1) (n32 9) = some (n32 0) := within_n c2
      have mt := in_n (x := a2) (lo := 1) (hi := 9) (a := 1) (b := 9) rfl rfl c2
      refine ⟨-n32 1, l, fun h x rx => ?_, fun h x rm => ?_⟩
      · unfold f_X9_reign
        simp -implicitDefEqProofs (disch := omega) only [x.1.root, gP_p, gP_t, bnd_s, bnd2_s, ltt_s, jn_s, n32_nat, n32_le, n32_lt, n32_eq, n32_add, n32_sub, n32_dec, n32_mul, n32_div, n32_irm, n32_lit, n32_oN, n32_ix, n32_m1, n32_m2, neg_le0, neg_lt0, neg_lt1, neg_le1, n32_min, n32_max, if_true, if_false, Nat.one_ne_zero, gd_some, true_or, or_true, false_or, or_false, xn, xt]
        exact fin_x rx (fr.rf _ _)
      · obtain ⟨v1, rm1, f1⟩ := thr0 x rm
        unfold f_X10_reign
        simp -implicitDefEqProofs (disch := omega) only [x.1.mod, gP_p, gP_t, bnd_s, bnd2_s, ltt_s, jn_s, n32_nat, n32_le, n32_lt, n32_eq, n32_add, n32_sub, n32_dec, n32_mul, n32_div, n32_irm, n32_lit, n32_oN, n32_ix, n32_m1, n32_m2, neg_le0, neg_lt0, neg_lt1, neg_le1, n32_min, n32_max, if_true, if_false, Nat.one_ne_zero, gd_some, true_or, or_true, false_or, or_false]
        simp -implicitDefEqProofs (disch := omega) only [gP_p, gP_t, bnd_s, bnd2_s, ltt_s, jn_s, n32_nat, n32_le, n32_lt, n32_eq, n32_add, n32_sub, n32_dec, n32_mul, n32_div, n32_irm, n32_lit, n32_oN, n32_ix, n32_m1, n32_m2, neg_le0, neg_lt0, neg_lt1, neg_le1, n32_min, n32_max, if_true, if_false, Nat.one_ne_zero, gd_some, true_or, or_true, false_or, or_false, mn, mt]
        exact fin_m rm1 f1
  · have xn : f_X9_within a1 (n32 1) (n32 8) = some (n32 0) := within_n c1
    have mn := in_n (x := a1) (lo := 1) (hi := 8) (a := 1) (b := 8) rfl rfl c1
    refine ⟨-n32 1, l, fun h x rx => ?_, fun h x rm => ?_⟩
    · unfold f_X9_reign
      simp -implicitDefEqProofs (disch := omega) only [x.1.root, gP_p, gP_t, bnd_s, bnd2_s, ltt_s, jn_s, n32_nat, n32_le, n32_lt, n32_eq, n32_add, n32_sub, n32_dec, n32_mul, n32_div, n32_irm, n32_lit, n32_oN, n32_ix, n32_m1, n32_m2, neg_le0, neg_lt0, neg_lt1, neg_le1, n32_min, n32_max, if_true, if_false, Nat.one_ne_zero, gd_some, true_or, or_true, false_or, or_false, xn]
      exact fin_x rx (fr.rf _ _)
    · obtain ⟨v1, rm1, f1⟩ := thr0 x rm
      unfold f_X10_reign
      simp -implicitDefEqProofs (disch := omega) only [x.1.mod, gP_p, gP_t, bnd_s, bnd2_s, ltt_s, jn_s, n32_nat, n32_le, n32_lt, n32_eq, n32_add, n32_sub, n32_dec, n32_mul, n32_div, n32_irm, n32_lit, n32_oN, n32_ix, n32_m1, n32_m2, neg_le0, neg_lt0, neg_lt1, neg_le1, n32_min, n32_max, if_true, if_false, Nat.one_ne_zero, gd_some, true_or, or_true, false_or, or_false]
      simp -implicitDefEqProofs (disch := omega) only [gP_p, gP_t, bnd_s, bnd2_s, ltt_s, jn_s, n32_nat, n32_le, n32_lt, n32_eq, n32_add, n32_sub, n32_dec, n32_mul, n32_div, n32_irm, n32_lit, n32_oN, n32_ix, n32_m1, n32_m2, neg_le0, neg_lt0, neg_lt1, neg_le1, n32_min, n32_max, if_true, if_false, Nat.one_ne_zero, gd_some, true_or, or_true, false_or, or_false, mn]
      exact fin_m rm1 f1) h I
