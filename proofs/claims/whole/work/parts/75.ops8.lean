/-! ===== what is foreseen; trade ===== -/
theorem rc19 : ∀ i, i < 7 → rc (19 + i) = rc 19 := fun i hi => by
  match i, hi with
  | 0, _ => rfl
  | 1, _ => rfl
  | 2, _ => rfl
  | 3, _ => rfl
  | 4, _ => rfl
  | 5, _ => rfl
  | 6, _ => rfl
theorem XT.mv {w : Wd} {l : List Int64} {h0 h h' : HP} {q : Nat → Nat} {D : Nat} {R : List Nat} (t : XT w l h0 h q D) (f : fr R h h') (d1 : R.all (fun x => (QX ++ QM).contains x) = true) (d2 : [2].all (fun x => !R.contains x) = true) (d3 : [5].all (fun x => !R.contains x) = true) (d4 : R.all (fun x => QX.contains x) = true) : XT w l h0 h' q D := by
  obtain ⟨v, rx, cr, z, f0, rb⟩ := t
  exact ⟨v.fr f d1, rx.fr f d2, cr_frc cr (q := 5) rfl (by omega) rc19 f d3, by rw [f.ai [5] d3 19 2 rfl]; exact z, f0.tr (f.mono d4), rb⟩
theorem x_price2 {N m : Nat} {w : Wd} {h0 h : HP} {l : List Int64} {q : Nat → Nat} {D : Nat} (hN : 41 < N) (ok : wOK w) (t : XT w l h0 h q D) (hD : D ≤ 400000) (hm : m < wsz w) : gd (f_X9_priceOf N h 0 19 (n32 m)) (fun p => p.1 = n32 (wP w q m) ∧ XT w l h0 p.2 q D ∧ fr [17, 19] h p.2) := by
  refine gd_mono (priceOf_x hN ok.2.2.2.2.2.1 t.1.1 CL19 t.2.2.2.1 ok.1 hm t.2.2.1 t.2.2.2.2.2 (by omega) t.1.2.2.2.1 t.1.2.2.2.2.2) ?_
  rintro ⟨u, h'⟩ ⟨e1, e2⟩
  exact ⟨e1, t.mv e2 (by decide) (by decide) (by decide) (by decide), e2⟩
theorem x_pass2 {N n : Nat} {w : Wd} {h0 h : HP} {l : List Int64} {q : Nat → Nat} {D : Nat} (hN : 6 < N) (hn : n < N) (hn2 : n < 1000) (ok : wOK w) (t : XT w l h0 h q D) (hD : D ≤ 300000) : gd (f_X0_pass N h 19 (flr w.1) (n32 n)) (fun p => XT w l h0 p.2 (wMs w n q) (D + n) ∧ fr [5] h p.2) := by
  obtain ⟨v, rx, cr, z, f, rb⟩ := t
  obtain ⟨a1, a2, a3, a4, -, -, -⟩ := fl_rc w.1
  refine gd_mono (pass_y hN hn ok.1 ok.2.2.2.2.1 hn2 a1 a2 a3 a4 (v.1.co CL19) (v.1.flc w.1) z cr v.2.2.2.2.1 rb (by omega)) ?_
  rintro ⟨u, h'⟩ ⟨e1, e2, e3, e4⟩
  have e3' : fr [5] h h' := e3
  exact ⟨⟨v.fr e3' (by decide), rx.fr e3' (by decide), e2, e4, f.tr (e3'.mono (by decide)), rb.mons n⟩, e3'⟩
noncomputable def fo (w : Wd) (n i : Nat) : Nat := wP w (wMs w n (wr w)) i
theorem fo_le {w : Wd} {n i : Nat} : fo w n i ≤ 99999 := wP_le
def FT (w : Wd) (h : HP) (n i : Nat) : Prop := ∀ a b, a < 6 → ((a < n ∧ b < wsz w) ∨ (a = n ∧ b < i)) → h.2.1 (157 + a) b = n32 (fo w a b)
theorem rc9 {a : Nat} (h : a < 6) : rc (157 + a) = 9 := by
  unfold rc
  rw [if_neg (by omega), if_neg (by omega), if_neg (by omega), if_neg (by omega), if_neg (by omega), if_neg (by omega), if_neg (by omega), if_neg (by omega), if_neg (by omega), if_pos (by omega)]
theorem FT.fr {w : Wd} {h h' : HP} {n i : Nat} {R : List Nat} (t : FT w h n i) (f : fr R h h') (d : [9].all (fun x => !R.contains x) = true) : FT w h' n i := fun a b ha hb => by
  rw [f.ai [9] d (157 + a) b (by rw [reg_c (by omega), rc9 ha]; rfl)]
  exact t a b ha hb
theorem fore_i {N : Nat} {w : Wd} {h0 : HP} {l : List Int64} {n : Nat} {k : HP → Option HP} {Q : HP → Prop} (hN : 41 < N) (ok : wOK w) (hn : n < wsz w) (K : ∀ h', XT w l h0 h' (wMs w n (wr w)) (wB w + n) → FT w h' (n + 1) 0 → gd (k h') Q) : ∀ (d i fuel : Nat) (h : HP), i + d = wsz w → d < fuel → XT w l h0 h (wMs w n (wr w)) (wB w + n) → FT w h n i → gd (lp (fun _ _ => none) (f_X9_foresee_B26 N 0 (n32 n) k) fuel (n32 i) h) Q := by
  have hz := ok.1
  have hB := ok.2.2.2.2.2.2
  intro d
  induction d with
  | zero =>
    intro i fuel h hi hf t ft
    obtain ⟨k', rfl⟩ : ∃ k, fuel = k + 1 := ⟨fuel - 1, by omega⟩
    have e : wsz w ≤ i := by omega
    have z := t.1.2.1
    simp -implicitDefEqProofs (disch := omega) only [lp_s, f_X9_foresee_B26, gP_p, gP_t, bnd_s, bnd2_s, ltt_s, jn_s, n32_nat, n32_le, n32_lt, n32_eq, n32_add, n32_sub, n32_dec, n32_mul, n32_div, n32_irm, n32_lit, n32_oN, n32_ix, n32_m1, n32_m2, neg_le0, neg_lt0, neg_lt1, neg_le1, n32_min, n32_max, if_true, if_false, Nat.one_ne_zero, gd_some, true_or, or_true, false_or, or_false, z, e, t.1.1.root]
    exact K h t (fun a b ha hb => ft a b ha (by omega))
  | succ d ih =>
    intro i fuel h hi hf t ft
    obtain ⟨k', rfl⟩ : ∃ k, fuel = k + 1 := ⟨fuel - 1, by omega⟩
    have e : ¬ wsz w ≤ i := by omega
    have z := t.1.2.1
    obtain ⟨g1, g2⟩ := t.1.1.fore (i := n) (by omega)
    have gl : lenH h 156 = 6 := t.1.1.ln (k := 106) (by decide +kernel)
    simp -implicitDefEqProofs (disch := omega) only [lp_s, f_X9_foresee_B26, gP_p, gP_t, bnd_s, bnd2_s, ltt_s, jn_s, n32_nat, n32_le, n32_lt, n32_eq, n32_add, n32_sub, n32_dec, n32_mul, n32_div, n32_irm, n32_lit, n32_oN, n32_ix, n32_m1, n32_m2, neg_le0, neg_lt0, neg_lt1, neg_le1, n32_min, n32_max, if_true, if_false, Nat.one_ne_zero, gd_some, true_or, or_true, false_or, or_false, z, e, t.1.1.root, g1, gl, gd_bnd2]
    refine gd_mono (x_price2 hN ok t (by omega) (by omega)) ?_
    rintro ⟨u, h1⟩ ⟨e1, t1, f1⟩
    have e1' : u = n32 (fo w n i) := e1
    subst e1'
    obtain ⟨-, g3⟩ := t1.1.1.fore (i := n) (by omega)
    simp -implicitDefEqProofs (disch := omega) only [gP_p, gP_t, bnd_s, bnd2_s, ltt_s, jn_s, n32_nat, n32_le, n32_lt, n32_eq, n32_add, n32_sub, n32_dec, n32_mul, n32_div, n32_irm, n32_lit, n32_oN, n32_ix, n32_m1, n32_m2, neg_le0, neg_lt0, neg_lt1, neg_le1, n32_min, n32_max, if_true, if_false, Nat.one_ne_zero, gd_some, true_or, or_true, false_or, or_false, g3]
    have f2 : fr [9] h1 (setI h1 (157 + n) i (n32 (fo w n i))) := (fr.rf _ _).sI (by rw [reg_c (by omega), rc9 (by omega)]; rfl)
    refine ih (i + 1) k' _ (by omega) (by omega) (t1.mv f2 (by decide) (by decide) (by decide) (by decide)) (fun a b ha hb => ?_)
    by_cases q : a = n ∧ b = i
    · rw [q.1, q.2, sI_eq]
    · rw [sI_ne (by omega)]
      exact ft.fr f1 (by decide) a b ha (by omega)
theorem fore_o {N : Nat} {w : Wd} {h0 : HP} {l : List Int64} (hN : 41 < N) (ok : wOK w) : ∀ (d n fuel : Nat) (h : HP), n + d = wsz w → d < fuel → XT w l h0 h (wMs w n (wr w)) (wB w + n) → FT w h n 0 → gd (lp (fun _ _ => none) (f_X9_foresee_B13 N 0) fuel (n32 n) h) (fun h' => XEq w l h0 h' ∧ FT w h' (wsz w) 0) := by
  have hz := ok.1
  have hB := ok.2.2.2.2.2.2
  intro d
  induction d with
  | zero =>
    intro n fuel h hi hf t ft
    obtain ⟨k', rfl⟩ : ∃ k, fuel = k + 1 := ⟨fuel - 1, by omega⟩
    have z := t.1.2.1
    have r2 : rK h 0 2 0 = some 5 := by simp only [t.1.1.root]
    rw [lp_s, f_X9_foresee_B13, r2, bnd_s, z, if_pos (by rw [n32_le (by omega) (by omega)]; omega), gd_some]
    exact ⟨t.q, fun a b ha hb => ft a b ha (by omega)⟩
  | succ d ih =>
    intro n fuel h hi hf t ft
    obtain ⟨k', rfl⟩ : ∃ k, fuel = k + 1 := ⟨fuel - 1, by omega⟩
    have z := t.1.2.1
    have r2 : rK h 0 2 0 = some 5 := by simp only [t.1.1.root]
    rw [lp_s, f_X9_foresee_B13, r2, bnd_s, z, if_neg (by rw [n32_le (by omega) (by omega)]; omega)]
    refine fore_i hN ok (by omega) (fun h1 t1 ft1 => ?_) (wsz w) 0 N h (by omega) (by omega) t ft
    simp -implicitDefEqProofs (disch := omega) only [t1.1.1.root, gP_p, gP_t, bnd_s, bnd2_s, ltt_s, jn_s, n32_nat, n32_le, n32_lt, n32_eq, n32_add, n32_sub, n32_dec, n32_mul, n32_div, n32_irm, n32_lit, n32_oN, n32_ix, n32_m1, n32_m2, neg_le0, neg_lt0, neg_lt1, neg_le1, n32_min, n32_max, if_true, if_false, Nat.one_ne_zero, gd_some, true_or, or_true, false_or, or_false, gd_bnd2]
    refine gd_mono (x_pass2 (by omega) (by omega) (by omega) ok t1 (by omega)) ?_
    rintro ⟨u, h2⟩ ⟨t2, f2⟩
    have em : wMs w 1 (wMs w n (wr w)) = wMs w (n + 1) (wr w) := (mMons_s n).symm
    rw [em] at t2
    exact ih (n + 1) k' h2 (by omega) (by omega) t2 (ft1.fr f2 (by decide))
theorem foresee_x {N : Nat} {w : Wd} {h0 h : HP} {l : List Int64} (hN : 41 < N) (ok : wOK w) (e : XEq w l h0 h) : gd (f_X9_foresee (N + 3) h 0) (fun h' => XEq w l h0 h' ∧ ∀ a b, a < wsz w → b < wsz w → h'.2.1 (157 + a) b = n32 (fo w a b)) := by
  have hz := ok.1
  unfold f_X9_foresee
  simp -implicitDefEqProofs (disch := omega) only [e.1.1.root, gP_p, gP_t, bnd_s, bnd2_s, ltt_s, jn_s, n32_nat, n32_le, n32_lt, n32_eq, n32_add, n32_sub, n32_dec, n32_mul, n32_div, n32_irm, n32_lit, n32_oN, n32_ix, n32_m1, n32_m2, neg_le0, neg_lt0, neg_lt1, neg_le1, n32_min, n32_max, if_true, if_false, Nat.one_ne_zero, gd_some, true_or, or_true, false_or, or_false, gd_bnd]
  refine gd_mono (x_become (N := N) ok e.1 e.2.1 e.2.2) ?_
  intro h1 t1
  refine gd_mono (fore_o (N := N + 3) (by omega) ok (wsz w) 0 (N + 3) h1 (by omega) (by omega) t1 (fun a b ha hb => absurd hb (by omega))) ?_
  rintro h2 ⟨g1, g2⟩
  exact ⟨g1, fun a b ha hb => g2 a b (by omega) (Or.inl ⟨ha, hb⟩)⟩
def dst (a b : Nat) : Nat := if b ≤ a then a - b else b - a
noncomputable def tbo (w : Wd) (v a : Nat) : Nat := if fo w 0 a = 0 then 0 else v / fo w 0 a
noncomputable def trv (w : Wd) (v a b : Nat) : Nat := v - tbo w v a * fo w 0 a + tbo w v a * fo w (dst a b) b
theorem tbo_b {w : Wd} {v a : Nat} (hv : v ≤ 9999) : tbo w v a * fo w 0 a ≤ v ∧ tbo w v a ≤ 9999 := by
  unfold tbo
  split
  · omega
  · exact ⟨Nat.div_mul_le_self _ _, Nat.le_trans (Nat.div_le_self _ _) hv⟩
theorem tbo_m {w : Wd} {v a p : Nat} (hv : v ≤ 9999) (hp : p ≤ 99999) : tbo w v a * p ≤ 9999 * 99999 := Nat.mul_le_mul (tbo_b hv).2 hp
theorem trv_b {w : Wd} {v a b : Nat} (hv : v ≤ 9999) : trv w v a b ≤ 999999999 := by
  have h1 := tbo_m (w := w) (a := a) hv (fo_le (w := w) (n := dst a b) (i := b))
  unfold trv
  omega
noncomputable def trI (w : Wd) (v a : Nat) : Nat → Nat → Nat → Nat → Nat → Nat × Nat × Nat
  | 0, _, mo, x, y => (mo, x, y)
  | d + 1, b, mo, x, y => if a = b then trI w v a d (b + 1) mo x y else if trv w v a b + 1 ≤ mo then trI w v a d (b + 1) mo x y else trI w v a d (b + 1) (trv w v a b + 1) (a + 1) (b + 1)
noncomputable def trO (w : Wd) (v : Nat) : Nat → Nat → Nat × Nat × Nat → Nat × Nat × Nat
  | 0, _, p => p
  | d + 1, a, p => trO w v d (a + 1) (trI w v a (wsz w) 0 p.1 p.2.1 p.2.2)
def trOK (p : Nat × Nat × Nat) : Prop := p.1 ≤ 1000000000 ∧ p.2.1 ≤ 6 ∧ p.2.2 ≤ 6 ∧ (p.1 = 0 ↔ p.2.1 = 0)
theorem trI_ok {w : Wd} {v a : Nat} (hz : wsz w ≤ 6) (hv : v ≤ 9999) (ha : a < wsz w) : ∀ (d b mo x y : Nat), b + d = wsz w → trOK (mo, x, y) → trOK (trI w v a d b mo x y) ∧ mo ≤ (trI w v a d b mo x y).1 := by
  intro d
  induction d with
  | zero => exact fun b mo x y hb h => ⟨h, Nat.le_refl _⟩
  | succ d ih =>
    intro b mo x y hb h
    have tb := trv_b (w := w) (a := a) (b := b) hv
    unfold trI
    split
    · exact ih (b + 1) mo x y (by omega) h
    · split
      · exact ih (b + 1) mo x y (by omega) h
      · obtain ⟨i1, i2⟩ := ih (b + 1) (trv w v a b + 1) (a + 1) (b + 1) (by omega) ⟨by show trv w v a b + 1 ≤ 1000000000; omega, by show a + 1 ≤ 6; omega, by show b + 1 ≤ 6; omega, by show trv w v a b + 1 = 0 ↔ a + 1 = 0; omega⟩
        exact ⟨i1, by omega⟩
theorem trO_ok {w : Wd} {v : Nat} (hz : wsz w ≤ 6) (hv : v ≤ 9999) : ∀ (d a : Nat) (p : Nat × Nat × Nat), a + d = wsz w → trOK p → trOK (trO w v d a p) ∧ p.1 ≤ (trO w v d a p).1 := by
  intro d
  induction d with
  | zero => exact fun a p ha h => ⟨h, Nat.le_refl _⟩
  | succ d ih =>
    intro a p ha h
    obtain ⟨i1, i2⟩ := trI_ok (v := v) hz hv (show a < wsz w by omega) (wsz w) 0 p.1 p.2.1 p.2.2 (by omega) h
    obtain ⟨j1, j2⟩ := ih (a + 1) _ (by omega) i1
    exact ⟨j1, Nat.le_trans i2 j2⟩
theorem trO_pos {w : Wd} {v : Nat} (hz : wsz w ≤ 6) (h2 : 2 ≤ wsz w) (hv : v ≤ 9999) : 1 ≤ (trO w v (wsz w) 0 (0, 0, 0)).1 := by
  obtain ⟨t, ht⟩ : ∃ t, wsz w = t + 2 := ⟨wsz w - 2, by omega⟩
  have o0 : trOK (0, 0, 0) := ⟨by show 0 ≤ 1000000000; omega, by show 0 ≤ 6; omega, by show 0 ≤ 6; omega, by show (0 = 0 ↔ 0 = 0); omega⟩
  have i1 := trI_ok (v := v) hz hv (show 0 < wsz w by omega) (wsz w) 0 0 0 0 (by omega) o0
  have i3 : 1 ≤ (trI w v 0 (wsz w) 0 0 0 0).1 := by
    have e : trI w v 0 (wsz w) 0 0 0 0 = trI w v 0 t 2 (trv w v 0 1 + 1) 1 2 := by
      rw [ht]
      rfl
    have tb := trv_b (w := w) (a := 0) (b := 1) hv
    have := (trI_ok (v := v) hz hv (show 0 < wsz w by omega) t 2 (trv w v 0 1 + 1) 1 2 (by omega) ⟨by show trv w v 0 1 + 1 ≤ 1000000000; omega, by show 1 ≤ 6; omega, by show 2 ≤ 6; omega, by show trv w v 0 1 + 1 = 0 ↔ 1 = 0; omega⟩).2
    rw [e]
    omega
  have e : trO w v (wsz w) 0 (0, 0, 0) = trO w v (t + 1) 1 (trI w v 0 (wsz w) 0 0 0 0) := by
    conv => lhs; rw [ht]
    rw [trO]
  rw [e]
  have := (trO_ok (v := v) hz hv (t + 1) 1 (trI w v 0 (wsz w) 0 0 0 0) (by omega) i1.1).2
  omega
def trLL (p : Nat × Nat × Nat) : List Int64 := if p.1 = 0 then [] else [(xt p.2.1).toInt64, (xt p.2.2).toInt64]
theorem trLL_s {t a b : Nat} : trLL (t + 1, a + 1, b + 1) = [(n32 a).toInt64, (n32 b).toInt64] := by
  show (if t + 1 = 0 then [] else [(xt (a + 1)).toInt64, (xt (b + 1)).toInt64]) = _
  rw [if_neg (by omega), xt_s, xt_s]
def FF (w : Wd) (h : HP) : Prop := ∀ a b, a < wsz w → b < wsz w → h.2.1 (157 + a) b = n32 (fo w a b)
theorem traded_x {w : Wd} {h0 h : HP} {l : List Int64} {v a b : Nat} (ok : wOK w) (e : XEq w l h0 h) (ff : FF w h) (hv : v ≤ 9999) (ha : a < wsz w) (hb : b < wsz w) : f_X9_traded h 0 (n32 v) (n32 a) (n32 b) = some (n32 (trv w v a b)) := by
  have hz := ok.1
  have hd : dst a b < wsz w := by unfold dst; split <;> omega
  obtain ⟨g1, g2⟩ := e.1.1.fore (i := 0) (by omega)
  obtain ⟨g3, g4⟩ := e.1.1.fore (i := dst a b) (by omega)
  have gl : lenH h 156 = 6 := e.1.1.ln (k := 106) (by decide +kernel)
  have v1 := ff 0 a (by omega) ha
  have v2 := ff (dst a b) b hd hb
  have g2' : lenH h 157 = 6 := g2
  have v1' : h.2.1 157 a = n32 (fo w 0 a) := v1
  have g1' : rK h 156 0 102 = some 157 := g1
  have p1 := fo_le (w := w) (n := 0) (i := a)
  have p2 := fo_le (w := w) (n := dst a b) (i := b)
  have tb := tbo_b (w := w) (a := a) hv
  have tm := tbo_m (w := w) (a := a) hv p2
  unfold f_X9_traded trv
  by_cases q2 : b ≤ a
  · have ed : dst a b = a - b := if_pos q2
    rw [ed] at g3 g4 v2 hd p2 tm ⊢
    by_cases q1 : fo w 0 a = 0
    · have eb : tbo w v a = 0 := if_pos q1
      rw [eb]
      simp -implicitDefEqProofs (disch := omega) only [e.1.1.root, gP_p, gP_t, bnd_s, bnd2_s, ltt_s, jn_s, n32_nat, n32_le, n32_lt, n32_eq, n32_add, n32_sub, n32_dec, n32_mul, n32_div, n32_irm, n32_lit, n32_oN, n32_ix, n32_m1, n32_m2, neg_le0, neg_lt0, neg_lt1, neg_le1, n32_min, n32_max, if_true, if_false, Nat.one_ne_zero, gd_some, true_or, or_true, false_or, or_false, g1', g2', gl, v1', q1, q2, g3, g4, v2, Nat.zero_mul, Nat.sub_zero, Nat.add_zero]
    · have eb : tbo w v a = v / fo w 0 a := if_neg q1
      rw [eb] at tb tm ⊢
      simp -implicitDefEqProofs (disch := omega) only [e.1.1.root, gP_p, gP_t, bnd_s, bnd2_s, ltt_s, jn_s, n32_nat, n32_le, n32_lt, n32_eq, n32_add, n32_sub, n32_dec, n32_mul, n32_div, n32_irm, n32_lit, n32_oN, n32_ix, n32_m1, n32_m2, neg_le0, neg_lt0, neg_lt1, neg_le1, n32_min, n32_max, if_true, if_false, Nat.one_ne_zero, gd_some, true_or, or_true, false_or, or_false, g1', g2', gl, v1', q1, q2, g3, g4, v2, not_false_eq_true]
  · have ed : dst a b = b - a := if_neg q2
    rw [ed] at g3 g4 v2 hd p2 tm ⊢
    by_cases q1 : fo w 0 a = 0
    · have eb : tbo w v a = 0 := if_pos q1
      rw [eb]
      simp -implicitDefEqProofs (disch := omega) only [e.1.1.root, gP_p, gP_t, bnd_s, bnd2_s, ltt_s, jn_s, n32_nat, n32_le, n32_lt, n32_eq, n32_add, n32_sub, n32_dec, n32_mul, n32_div, n32_irm, n32_lit, n32_oN, n32_ix, n32_m1, n32_m2, neg_le0, neg_lt0, neg_lt1, neg_le1, n32_min, n32_max, if_true, if_false, Nat.one_ne_zero, gd_some, true_or, or_true, false_or, or_false, g1', g2', gl, v1', q1, q2, g3, g4, v2, Nat.zero_mul, Nat.sub_zero, Nat.add_zero]
    · have eb : tbo w v a = v / fo w 0 a := if_neg q1
      rw [eb] at tb tm ⊢
      simp -implicitDefEqProofs (disch := omega) only [e.1.1.root, gP_p, gP_t, bnd_s, bnd2_s, ltt_s, jn_s, n32_nat, n32_le, n32_lt, n32_eq, n32_add, n32_sub, n32_dec, n32_mul, n32_div, n32_irm, n32_lit, n32_oN, n32_ix, n32_m1, n32_m2, neg_le0, neg_lt0, neg_lt1, neg_le1, n32_min, n32_max, if_true, if_false, Nat.one_ne_zero, gd_some, true_or, or_true, false_or, or_false, g1', g2', gl, v1', q1, q2, g3, g4, v2, not_false_eq_true]
theorem trade_i {w : Wd} {h0 : HP} {v a : Nat} {k : Int32 → HP → Option (Int32 × HP)} {Q : Int32 × HP → Prop} (ok : wOK w) (hv : v ≤ 9999) (ha : a < wsz w) (E : Nat × Nat × Nat) (K : ∀ h', XEq w (trLL E) h0 h' → FF w h' → gd (k (xt E.1) h') Q) : ∀ (d b fuel : Nat) (h : HP) (mo x y : Nat), b + d = wsz w → d < fuel → trOK (mo, x, y) → XEq w (trLL (mo, x, y)) h0 h → FF w h → trI w v a d b mo x y = E →
    gd (lp (fun _ _ _ => none) (f_X9_trade_B55 200 0 (n32 v) (n32 a) k) fuel (xt mo) (n32 b) h) Q := by
  have hz := ok.1
  intro d
  induction d with
  | zero =>
    intro b fuel h mo x y hb hf o e ff hE
    obtain ⟨k', rfl⟩ : ∃ k, fuel = k + 1 := ⟨fuel - 1, by omega⟩
    have e1 : wsz w ≤ b := by omega
    have z := e.1.2.1
    simp -implicitDefEqProofs (disch := omega) only [lp_s, f_X9_trade_B55, gP_p, gP_t, bnd_s, bnd2_s, ltt_s, jn_s, n32_nat, n32_le, n32_lt, n32_eq, n32_add, n32_sub, n32_dec, n32_mul, n32_div, n32_irm, n32_lit, n32_oN, n32_ix, n32_m1, n32_m2, neg_le0, neg_lt0, neg_lt1, neg_le1, n32_min, n32_max, if_true, if_false, Nat.one_ne_zero, gd_some, true_or, or_true, false_or, or_false, z, e1, e.1.1.root]
    have hE' : (mo, x, y) = E := hE
    subst hE'
    exact K h e ff
  | succ d ih =>
    intro b fuel h mo x y hb hf o e ff hE
    obtain ⟨k', rfl⟩ : ∃ k, fuel = k + 1 := ⟨fuel - 1, by omega⟩
    have e1 : ¬ wsz w ≤ b := by omega
    have z := e.1.2.1
    have tb := trv_b (w := w) (a := a) (b := b) hv
    have tx := traded_x (b := b) ok e ff hv ha (by omega)
    obtain ⟨o1, o2, o3, o4⟩ := id o
    have o1' : mo ≤ 1000000000 := o1
    unfold trI at hE
    by_cases q1 : a = b
    · subst q1
      rw [if_pos rfl] at hE
      simp -implicitDefEqProofs (disch := omega) only [lp_s, f_X9_trade_B55, gP_p, gP_t, bnd_s, bnd2_s, ltt_s, jn_s, n32_nat, n32_le, n32_lt, n32_eq, n32_add, n32_sub, n32_dec, n32_mul, n32_div, n32_irm, n32_lit, n32_oN, n32_ix, n32_m1, n32_m2, neg_le0, neg_lt0, neg_lt1, neg_le1, n32_min, n32_max, if_true, if_false, Nat.one_ne_zero, gd_some, true_or, or_true, false_or, or_false, z, e1, e.1.1.root, tx]
      exact ih (a + 1) k' h mo x y (by omega) (by omega) o e ff hE
    · rw [if_neg q1] at hE
      have q1' : ¬ (n32 a = n32 b) := by rw [n32_eq (by omega) (by omega)]; exact q1
      by_cases q2 : trv w v a b + 1 ≤ mo
      · rw [if_pos q2] at hE
        simp -implicitDefEqProofs (disch := omega) only [lp_s, f_X9_trade_B55, gP_p, gP_t, bnd_s, bnd2_s, ltt_s, jn_s, n32_nat, n32_le, n32_lt, n32_eq, n32_add, n32_sub, n32_dec, n32_mul, n32_div, n32_irm, n32_lit, n32_oN, n32_ix, n32_m1, n32_m2, neg_le0, neg_lt0, neg_lt1, neg_le1, n32_min, n32_max, if_true, if_false, Nat.one_ne_zero, gd_some, true_or, or_true, false_or, or_false, z, e1, e.1.1.root, tx, q1, xt_le, q2]
        exact ih (b + 1) k' h mo x y (by omega) (by omega) o e ff hE
      · rw [if_neg q2] at hE
        simp -implicitDefEqProofs (disch := omega) only [lp_s, f_X9_trade_B55, gP_p, gP_t, bnd_s, bnd2_s, ltt_s, jn_s, n32_nat, n32_le, n32_lt, n32_eq, n32_add, n32_sub, n32_dec, n32_mul, n32_div, n32_irm, n32_lit, n32_oN, n32_ix, n32_m1, n32_m2, neg_le0, neg_lt0, neg_lt1, neg_le1, n32_min, n32_max, if_true, if_false, Nat.one_ne_zero, gd_some, true_or, or_true, false_or, or_false, z, e1, e.1.1.root, tx, q1, xt_le, q2, gd_bnd]
        refine gd_mono (tell2_x e.1.1) ?_
        rintro h1 ⟨r1, f1⟩
        have := ih (b + 1) k' h1 (trv w v a b + 1) (a + 1) (b + 1) (by omega) (by omega) ⟨by show trv w v a b + 1 ≤ 1000000000; omega, by show a + 1 ≤ 6; omega, by show b + 1 ≤ 6; omega, by show trv w v a b + 1 = 0 ↔ a + 1 = 0; omega⟩ ⟨e.1.fr f1 (by decide), by rw [trLL_s]; exact r1, e.2.2.tr (f1.mono (by decide))⟩ (fun a' b' h1' h2' => by rw [f1.ai [9] (by decide) (157 + a') b' (by rw [reg_c (by omega), rc9 (by omega)]; rfl)]; exact ff a' b' h1' h2') hE
        rw [xt_s] at this
        exact this
theorem trade_o {w : Wd} {h0 : HP} {v : Nat} (ok : wOK w) (hv : v ≤ 9999) : ∀ (d a fuel : Nat) (h : HP) (p : Nat × Nat × Nat), a + d = wsz w → d < fuel → trOK p → XEq w (trLL p) h0 h → FF w h →
    gd (lp (fun _ _ _ => none) (f_X9_trade_B41 200 0 (n32 v)) fuel (xt p.1) (n32 a) h) (XA (trLL (trO w v d a p)) (xt (trO w v d a p).1) h0) := by
  have hz := ok.1
  intro d
  induction d with
  | zero =>
    intro a fuel h p ha hf o e ff
    obtain ⟨k', rfl⟩ : ∃ k, fuel = k + 1 := ⟨fuel - 1, by omega⟩
    have z := e.1.2.1
    have r2 : rK h 0 2 0 = some 5 := by simp only [e.1.1.root]
    rw [lp_s, f_X9_trade_B41, r2, bnd_s, z, if_pos (by rw [n32_le (by omega) (by omega)]; omega), gd_some]
    exact ⟨rfl, e.2.1, e.2.2⟩
  | succ d ih =>
    intro a fuel h p ha hf o e ff
    obtain ⟨k', rfl⟩ : ∃ k, fuel = k + 1 := ⟨fuel - 1, by omega⟩
    have z := e.1.2.1
    have r2 : rK h 0 2 0 = some 5 := by simp only [e.1.1.root]
    rw [lp_s, f_X9_trade_B41, r2, bnd_s, z, if_neg (by rw [n32_le (by omega) (by omega)]; omega)]
    have o2 := (trI_ok (v := v) hz hv (show a < wsz w by omega) (wsz w) 0 p.1 p.2.1 p.2.2 (by omega) o).1
    refine trade_i ok hv (by omega) (trI w v a (wsz w) 0 p.1 p.2.1 p.2.2) (fun h1 e1 ff1 => ?_) (wsz w) 0 200 h p.1 p.2.1 p.2.2 (by omega) (by omega) o e ff rfl
    simp -implicitDefEqProofs (disch := omega) only [gP_p, gP_t, bnd_s, bnd2_s, ltt_s, jn_s, n32_nat, n32_le, n32_lt, n32_eq, n32_add, n32_sub, n32_dec, n32_mul, n32_div, n32_irm, n32_lit, n32_oN, n32_ix, n32_m1, n32_m2, neg_le0, neg_lt0, neg_lt1, neg_le1, n32_min, n32_max, if_true, if_false, Nat.one_ne_zero, gd_some, true_or, or_true, false_or, or_false]
    exact ih (a + 1) k' h1 _ (by omega) (by omega) o2 e1 ff1
theorem abs_e {a b : Nat} (ha : a < 100) (hb : b < 100) : f_J9_abs_0f7a4 (n32 a - n32 b) = some (n32 (dst a b)) := by
  unfold f_J9_abs_0f7a4 dst
  by_cases q : b ≤ a
  · rw [if_pos q, n32_sub q, if_pos]
    show n32 0 ≤ n32 (a - b)
    rw [n32_le (by omega) (by omega)]
    omega
  · rw [if_neg q, if_neg, Int32.neg_sub, n32_sub (by omega)]
    rw [z32_d, show (0 : Int32) = z32 0 from rfl, z32_le (by omega) (by omega) (by omega) (by omega)]
    omega
theorem tradem_i {w : Wd} {h0 : HP} {l : List Int64} {v a : Nat} {k : Int32 → Int32 → Int32 → HP → Option (Int32 × HP)} {Q : Int32 × HP → Prop} (ok : wOK w) (hv : v ≤ 9999) (ha : a < wsz w) (E : Nat × Nat × Nat) (K : ∀ h', MEq w l h0 h' → gd (k (xt E.1) (xt E.2.1) (xt E.2.2) h') Q) : ∀ (d b fuel : Nat) (h : HP) (mo x y : Nat), b + d = wsz w → d < fuel → trOK (mo, x, y) → MEq w l h0 h → trI w v a d b mo x y = E →
    gd (lp (fun _ _ _ _ _ => none) (f_X10_trade_B68 200 188 (n32 v) (n32 a) (n32 (fo w 0 a)) (n32 (tbo w v a)) k) fuel (xt mo) (xt x) (xt y) (n32 b) h) Q := by
  have hz := ok.1
  have hB := ok.2.2.2.2.2.2
  intro d
  induction d with
  | zero =>
    intro b fuel h mo x y hb hf o e hE
    obtain ⟨k', rfl⟩ : ∃ k, fuel = k + 1 := ⟨fuel - 1, by omega⟩
    have e1 : wsz w ≤ b := by omega
    have z := e.1.2.1
    simp -implicitDefEqProofs (disch := omega) only [lp_s, f_X10_trade_B68, gP_p, gP_t, bnd_s, bnd2_s, ltt_s, jn_s, n32_nat, n32_le, n32_lt, n32_eq, n32_add, n32_sub, n32_dec, n32_mul, n32_div, n32_irm, n32_lit, n32_oN, n32_ix, n32_m1, n32_m2, neg_le0, neg_lt0, neg_lt1, neg_le1, n32_min, n32_max, if_true, if_false, Nat.one_ne_zero, gd_some, true_or, or_true, false_or, or_false, z, e1]
    have hE' : (mo, x, y) = E := hE
    subst hE'
    exact K h e
  | succ d ih =>
    intro b fuel h mo x y hb hf o e hE
    obtain ⟨k', rfl⟩ : ∃ k, fuel = k + 1 := ⟨fuel - 1, by omega⟩
    have e1 : ¬ wsz w ≤ b := by omega
    have z := e.1.2.1
    have tb := trv_b (w := w) (a := a) (b := b) hv
    obtain ⟨o1, o2, o3, o4⟩ := id o
    have o1' : mo ≤ 1000000000 := o1
    have hd : dst a b < wsz w := by unfold dst; split <;> omega
    have ab := abs_e (a := a) (b := b) (by omega) (by omega)
    have p1 := fo_le (w := w) (n := 0) (i := a)
    have p2 := fo_le (w := w) (n := dst a b) (i := b)
    have tb2 := tbo_b (w := w) (a := a) hv
    have tm := tbo_m (w := w) (a := a) hv p2
    rw [lp_s, f_X10_trade_B68, z, if_neg (by rw [n32_le (by omega) (by omega)]; omega), gd_bnd]
    refine gd_mono (m_copies (by omega) ok e.1 e.2.1 e.2.2) ?_
    intro h1 t1
    have r10 : rK h1 188 10 102 = some 194 := by simp only [t1.1.1.mod]
    rw [r10, bnd_s, ab, bnd_s, gd_bnd]
    refine gd_mono (m_goes (by omega) (by omega) (by omega) ok t1 (by omega)) ?_
    intro h2 t2
    have r10 : rK h2 188 10 102 = some 194 := by simp only [t2.1.1.mod]
    rw [r10, bnd_s, gd_bnd2]
    refine gd_mono (m_price (by omega) ok t2 (by omega) (by omega)) ?_
    rintro ⟨u, h3⟩ ⟨e3, t3⟩
    have e3' : u = n32 (fo w (dst a b) b) := e3
    subst e3'
    have eq1 : n32 v - n32 (tbo w v a) * n32 (fo w 0 a) + n32 (tbo w v a) * n32 (fo w (dst a b) b) = n32 (trv w v a b) := by
      rw [n32_mul, n32_mul, n32_sub tb2.1, n32_add]
      rfl
    have skip' := fun hE' => ih (b + 1) k' h3 mo x y (by omega) (by omega) o t3.q hE'
    have take := fun hE' => ih (b + 1) k' h3 (trv w v a b + 1) (a + 1) (b + 1) (by omega) (by omega) ⟨by show trv w v a b + 1 ≤ 1000000000; omega, by show a + 1 ≤ 6; omega, by show b + 1 ≤ 6; omega, by show trv w v a b + 1 = 0 ↔ a + 1 = 0; omega⟩ t3.q hE'
    rw [xt_s, xt_s, xt_s] at take
    unfold trI at hE
    show gd (lt_ (n32 v - n32 (tbo w v a) * n32 (fo w 0 a) + n32 (tbo w v a) * n32 (fo w (dst a b) b)) _) Q
    rw [eq1]
    by_cases q1 : a = b
    · rw [if_pos q1] at hE
      have := skip' hE
      rw [q1] at this ⊢
      simp -implicitDefEqProofs (disch := omega) only [gP_p, gP_t, bnd_s, bnd2_s, ltt_s, jn_s, n32_nat, n32_le, n32_lt, n32_eq, n32_add, n32_sub, n32_dec, n32_mul, n32_div, n32_irm, n32_lit, n32_oN, n32_ix, n32_m1, n32_m2, neg_le0, neg_lt0, neg_lt1, neg_le1, n32_min, n32_max, if_true, if_false, Nat.one_ne_zero, gd_some, true_or, or_true, false_or, or_false]
      exact this
    · rw [if_neg q1] at hE
      by_cases q2 : trv w v a b + 1 ≤ mo
      · rw [if_pos q2] at hE
        simp -implicitDefEqProofs (disch := omega) only [gP_p, gP_t, bnd_s, bnd2_s, ltt_s, jn_s, n32_nat, n32_le, n32_lt, n32_eq, n32_add, n32_sub, n32_dec, n32_mul, n32_div, n32_irm, n32_lit, n32_oN, n32_ix, n32_m1, n32_m2, neg_le0, neg_lt0, neg_lt1, neg_le1, n32_min, n32_max, if_true, if_false, Nat.one_ne_zero, gd_some, true_or, or_true, false_or, or_false, q1, xt_le, q2]
        exact skip' hE
      · rw [if_neg q2] at hE
        simp -implicitDefEqProofs (disch := omega) only [gP_p, gP_t, bnd_s, bnd2_s, ltt_s, jn_s, n32_nat, n32_le, n32_lt, n32_eq, n32_add, n32_sub, n32_dec, n32_mul, n32_div, n32_irm, n32_lit, n32_oN, n32_ix, n32_m1, n32_m2, neg_le0, neg_lt0, neg_lt1, neg_le1, n32_min, n32_max, if_true, if_false, Nat.one_ne_zero, gd_some, true_or, or_true, false_or, or_false, q1, xt_le, q2]
        exact take hE
theorem tradem_o {w : Wd} {h0 : HP} {l : List Int64} {v : Nat} {k : Int32 → Int32 → Int32 → HP → Option (Int32 × HP)} {Q : Int32 × HP → Prop} (ok : wOK w) (hv : v ≤ 9999) (E : Nat × Nat × Nat) (K : ∀ h', MEq w l h0 h' → gd (k (xt E.1) (xt E.2.1) (xt E.2.2) h') Q) : ∀ (d a fuel : Nat) (h : HP) (p : Nat × Nat × Nat), a + d = wsz w → d < fuel → trOK p → MEq w l h0 h → trO w v d a p = E →
    gd (lp (fun _ _ _ _ _ => none) (f_X10_trade_B29 200 188 (n32 v) k) fuel (xt p.1) (xt p.2.1) (xt p.2.2) (n32 a) h) Q := by
  have hz := ok.1
  intro d
  induction d with
  | zero =>
    intro a fuel h p ha hf o e hE
    obtain ⟨k', rfl⟩ : ∃ k, fuel = k + 1 := ⟨fuel - 1, by omega⟩
    have z := e.1.2.1
    rw [lp_s, f_X10_trade_B29, z, if_pos (by rw [n32_le (by omega) (by omega)]; omega)]
    have hE' : p = E := hE
    subst hE'
    exact K h e
  | succ d ih =>
    intro a fuel h p ha hf o e hE
    obtain ⟨k', rfl⟩ : ∃ k, fuel = k + 1 := ⟨fuel - 1, by omega⟩
    have z := e.1.2.1
    have r9 : rK h 188 9 102 = some 193 := by simp only [e.1.1.mod]
    rw [lp_s, f_X10_trade_B29, z, if_neg (by rw [n32_le (by omega) (by omega)]; omega), r9, bnd_s, gd_bnd2]
    refine gd_mono (m_nowQ (by omega) ok e (by omega)) ?_
    rintro ⟨u, h1⟩ ⟨e1, t1⟩
    have e1' : u = n32 (fo w 0 a) := e1
    subst e1'
    have o2 := (trI_ok (v := v) hz hv (show a < wsz w by omega) (wsz w) 0 p.1 p.2.1 p.2.2 (by omega) o).1
    have p1 := fo_le (w := w) (n := 0) (i := a)
    have inner := tradem_i (k := fun (x61 : Int32) (x62 : Int32) (x63 : Int32) (h64 : HP) => lt_ (n32 a + 1) (fun v66 => lp (fun _ _ _ _ _ => none) (f_X10_trade_B29 200 188 (n32 v) k) k' x61 x62 x63 v66 h64)) ok hv (show a < wsz w by omega) (trI w v a (wsz w) 0 p.1 p.2.1 p.2.2) (fun h2 e2 => by
      have := ih (a + 1) k' h2 _ (by omega) (by omega) o2 e2 hE
      simp -implicitDefEqProofs (disch := omega) only [gP_p, gP_t, bnd_s, bnd2_s, ltt_s, jn_s, n32_nat, n32_le, n32_lt, n32_eq, n32_add, n32_sub, n32_dec, n32_mul, n32_div, n32_irm, n32_lit, n32_oN, n32_ix, n32_m1, n32_m2, neg_le0, neg_lt0, neg_lt1, neg_le1, n32_min, n32_max, if_true, if_false, Nat.one_ne_zero, gd_some, true_or, or_true, false_or, or_false]
      exact this) (wsz w) 0 200 h1 p.1 p.2.1 p.2.2 (by omega) (by omega) o t1 rfl
    show gd (jn _ _) Q
    rw [gd_jn]
    by_cases q : fo w 0 a = 0
    · have eb : tbo w v a = 0 := if_pos q
      rw [eb] at inner
      rw [if_pos (show n32 (fo w 0 a) = 0 by rw [q]; rfl)]
      exact inner
    · have eb : tbo w v a = v / fo w 0 a := if_neg q
      rw [eb] at inner
      have nz : ¬ n32 (fo w 0 a) = 0 := by
        show ¬ n32 (fo w 0 a) = n32 0
        rw [n32_eq (by omega) (by omega)]
        exact q
      rw [if_neg nz, gP_p nz, n32_div (by omega) (by omega)]
      exact inner

theorem op_trade {k : Nat} (hk : k < 512) : ∀ (h : HP) (a1 : Int32), Inv k h → ∃ (v : Int32) (h1 h2 : HP), f_X9_trade 200 h 0 a1 = some (v, h1) ∧ f_X10_trade 200 h1 188 a1 = some (v, h2) ∧ Inv (k + 1) h2 := fun h a1 I => q_op hk (fX := fun h => f_X9_trade 200 h 0 a1) (fM := fun h => f_X10_trade 200 h 188 a1) (fun w l ok => by
  have hB := ok.2.2.2.2.2.2
  have hz := ok.1
  by_cases c1 : 1 ≤ a1.toInt ∧ a1.toInt ≤ 9999
  · obtain ⟨v, lv, hv, rfl⟩ := n32_of2 (lo := 1) (hi := 9999) c1.1 c1.2
    have xv : f_X9_within (n32 v) (n32 1) (n32 9999) = some (n32 1) := within_y c1
    have mv := in_y (x := n32 v) (lo := 1) (hi := 9999) (a := 1) (b := 9999) rfl rfl c1
    have hv' : v ≤ 9999 := hv
    have o0 : trOK (0, 0, 0) := ⟨by show 0 ≤ 1000000000; omega, by show 0 ≤ 6; omega, by show 0 ≤ 6; omega, by show (0 = 0 ↔ 0 = 0); omega⟩
    have pk := trO_ok (v := v) hz hv (wsz w) 0 (0, 0, 0) (by omega) o0
    have xm : xt 0 = -n32 1 := rfl
    by_cases c9 : 2 ≤ wsz w
    · have pp := trO_pos (w := w) (v := v) hz c9 hv
      refine ⟨xt (trO w v (wsz w) 0 (0, 0, 0)).1, trLL (trO w v (wsz w) 0 (0, 0, 0)), fun h x rx => ?_, fun h x rm => ?_⟩
      · obtain ⟨e1, e2, e3⟩ := rowX_0 x.1
        have x2 : XEq w [] h (setI h 3 1 (n32 0)) := ⟨x.fr e3 (by decide), e2, (fr.rf _ _).tr (e3.mono (by decide))⟩
        have z := x2.1.2.1
        unfold f_X9_trade
        simp -implicitDefEqProofs (disch := omega) only [x.1.root, gP_p, gP_t, bnd_s, bnd2_s, ltt_s, jn_s, n32_nat, n32_le, n32_lt, n32_eq, n32_add, n32_sub, n32_dec, n32_mul, n32_div, n32_irm, n32_lit, n32_oN, n32_ix, n32_m1, n32_m2, neg_le0, neg_lt0, neg_lt1, neg_le1, n32_min, n32_max, if_true, if_false, Nat.one_ne_zero, gd_some, true_or, or_true, false_or, or_false, xv, e1, x2.1.1.root, z, c9, gd_bnd]
        refine gd_mono (foresee_x (N := 197) (by omega) ok x2) ?_
        rintro h2 ⟨e4, ff⟩
        have := trade_o ok hv (wsz w) 0 200 h2 (0, 0, 0) (by omega) (by omega) o0 e4 ff
        exact this
      · obtain ⟨v1, rm1, f1⟩ := thr0 x rm
        have is1 := someM_y (x := n32 v) c1
        have e0 := mq_told0 (⟨v1, rm1, f1⟩ : MEq w l h (setI h 188 0 (n32 0)))
        have pb := pk.1
        have key := tradem_o (v := v) (k := fun (x70 : Int32) (x71 : Int32) (x72 : Int32) (h73 : HP) => (if 0 ≤ x71 then bnd (f_X10_enters h73 188 (x71.toInt64)) (fun h76 => bnd (f_X10_enters h76 188 (x72.toInt64)) (fun h80 => some (x70, h80))) else some (n32 v, h73))) (Q := MA (trLL (trO w v (wsz w) 0 (0, 0, 0))) (xt (trO w v (wsz w) 0 (0, 0, 0)).1) h) ok hv (trO w v (wsz w) 0 (0, 0, 0)) (fun h2 e2 => by
          have nx : ¬ (trO w v (wsz w) 0 (0, 0, 0)).2.1 = 0 := fun z => by have := pb.2.2.2.mpr z; omega
          have ny : (trO w v (wsz w) 0 (0, 0, 0)).2.1 ≤ 6 := pb.2.1
          have n1 : 1 ≤ (trO w v (wsz w) 0 (0, 0, 0)).2.1 := by omega
          have nm : ¬ (trO w v (wsz w) 0 (0, 0, 0)).1 = 0 := by omega
          simp -implicitDefEqProofs (disch := omega) only [gP_p, gP_t, bnd_s, bnd2_s, ltt_s, jn_s, n32_nat, n32_le, n32_lt, n32_eq, n32_add, n32_sub, n32_dec, n32_mul, n32_div, n32_irm, n32_lit, n32_oN, n32_ix, n32_m1, n32_m2, neg_le0, neg_lt0, neg_lt1, neg_le1, n32_min, n32_max, if_true, if_false, Nat.one_ne_zero, gd_some, true_or, or_true, false_or, or_false, xt_ge0, n1, gd_bnd]
          refine gd_mono (mq_ent e2 (by show 0 < 6; omega)) ?_
          intro h3 e3
          refine gd_mono (mq_ent e3 (by show 1 < 6; omega)) ?_
          intro h4 e4
          have el : trLL (trO w v (wsz w) 0 (0, 0, 0)) = [] ++ [(xt (trO w v (wsz w) 0 (0, 0, 0)).2.1).toInt64] ++ [(xt (trO w v (wsz w) 0 (0, 0, 0)).2.2).toInt64] := if_neg nm
          rw [el]
          exact ⟨rfl, e4.2.1, e4.2.2⟩) (wsz w) 0 200 _ (0, 0, 0) (by omega) (by omega) o0 e0 rfl
        unfold f_X10_trade
        simp -implicitDefEqProofs (disch := omega) only [x.1.mod, gP_p, gP_t, bnd_s, bnd2_s, ltt_s, jn_s, n32_nat, n32_le, n32_lt, n32_eq, n32_add, n32_sub, n32_dec, n32_mul, n32_div, n32_irm, n32_lit, n32_oN, n32_ix, n32_m1, n32_m2, neg_le0, neg_lt0, neg_lt1, neg_le1, n32_min, n32_max, if_true, if_false, Nat.one_ne_zero, gd_some, true_or, or_true, false_or, or_false]
        simp -implicitDefEqProofs (disch := omega) only [gP_p, gP_t, bnd_s, bnd2_s, ltt_s, jn_s, n32_nat, n32_le, n32_lt, n32_eq, n32_add, n32_sub, n32_dec, n32_mul, n32_div, n32_irm, n32_lit, n32_oN, n32_ix, n32_m1, n32_m2, neg_le0, neg_lt0, neg_lt1, neg_le1, n32_min, n32_max, if_true, if_false, Nat.one_ne_zero, gd_some, true_or, or_true, false_or, or_false, f_X10_isSome, mv, is1]
        simp -implicitDefEqProofs (disch := omega) only [gP_p, gP_t, bnd_s, bnd2_s, ltt_s, jn_s, n32_nat, n32_le, n32_lt, n32_eq, n32_add, n32_sub, n32_dec, n32_mul, n32_div, n32_irm, n32_lit, n32_oN, n32_ix, n32_m1, n32_m2, neg_le0, neg_lt0, neg_lt1, neg_le1, n32_min, n32_max, if_true, if_false, Nat.one_ne_zero, gd_some, true_or, or_true, false_or, or_false, xm] at key
        exact key
    · refine ⟨n32 v, [], fun h x rx => ?_, fun h x rm => ?_⟩
      · obtain ⟨e1, e2, e3⟩ := rowX_0 x.1
        have x2 : XEq w [] h (setI h 3 1 (n32 0)) := ⟨x.fr e3 (by decide), e2, (fr.rf _ _).tr (e3.mono (by decide))⟩
        have z := x2.1.2.1
        unfold f_X9_trade
        simp -implicitDefEqProofs (disch := omega) only [x.1.root, gP_p, gP_t, bnd_s, bnd2_s, ltt_s, jn_s, n32_nat, n32_le, n32_lt, n32_eq, n32_add, n32_sub, n32_dec, n32_mul, n32_div, n32_irm, n32_lit, n32_oN, n32_ix, n32_m1, n32_m2, neg_le0, neg_lt0, neg_lt1, neg_le1, n32_min, n32_max, if_true, if_false, Nat.one_ne_zero, gd_some, true_or, or_true, false_or, or_false, xv, e1, x2.1.1.root, z, c9]
        exact ⟨rfl, x2.2.1, x2.2.2⟩
      · obtain ⟨v1, rm1, f1⟩ := thr0 x rm
        have is1 := someM_y (x := n32 v) c1
        have e0 := mq_told0 (⟨v1, rm1, f1⟩ : MEq w l h (setI h 188 0 (n32 0)))
        have zz : ¬ n32 0 ≤ -n32 1 := by decide
        have et : trO w v (wsz w) 0 (0, 0, 0) = (0, 0, 0) := by
          rcases (show wsz w = 0 ∨ wsz w = 1 by omega) with q | q
          · rw [q]
            rfl
          · rw [q]
            show trI w v 0 (wsz w) 0 0 0 0 = (0, 0, 0)
            rw [q]
            rfl
        have key := tradem_o (v := v) (k := fun (x70 : Int32) (x71 : Int32) (x72 : Int32) (h73 : HP) => (if 0 ≤ x71 then bnd (f_X10_enters h73 188 (x71.toInt64)) (fun h76 => bnd (f_X10_enters h76 188 (x72.toInt64)) (fun h80 => some (x70, h80))) else some (n32 v, h73))) (Q := MA [] (n32 v) h) ok hv (0, 0, 0) (fun h2 e2 => by
          show gd (if n32 0 ≤ -n32 1 then _ else some (n32 v, h2)) _
          rw [if_neg zz, gd_some]
          exact ⟨rfl, e2.2.1, e2.2.2⟩) (wsz w) 0 200 _ (0, 0, 0) (by omega) (by omega) o0 e0 et
        unfold f_X10_trade
        simp -implicitDefEqProofs (disch := omega) only [x.1.mod, gP_p, gP_t, bnd_s, bnd2_s, ltt_s, jn_s, n32_nat, n32_le, n32_lt, n32_eq, n32_add, n32_sub, n32_dec, n32_mul, n32_div, n32_irm, n32_lit, n32_oN, n32_ix, n32_m1, n32_m2, neg_le0, neg_lt0, neg_lt1, neg_le1, n32_min, n32_max, if_true, if_false, Nat.one_ne_zero, gd_some, true_or, or_true, false_or, or_false]
        simp -implicitDefEqProofs (disch := omega) only [gP_p, gP_t, bnd_s, bnd2_s, ltt_s, jn_s, n32_nat, n32_le, n32_lt, n32_eq, n32_add, n32_sub, n32_dec, n32_mul, n32_div, n32_irm, n32_lit, n32_oN, n32_ix, n32_m1, n32_m2, neg_le0, neg_lt0, neg_lt1, neg_le1, n32_min, n32_max, if_true, if_false, Nat.one_ne_zero, gd_some, true_or, or_true, false_or, or_false, f_X10_isSome, mv, is1]
        simp -implicitDefEqProofs (disch := omega) only [gP_p, gP_t, bnd_s, bnd2_s, ltt_s, jn_s, n32_nat, n32_le, n32_lt, n32_eq, n32_add, n32_sub, n32_dec, n32_mul, n32_div, n32_irm, n32_lit, n32_oN, n32_ix, n32_m1, n32_m2, neg_le0, neg_lt0, neg_lt1, neg_le1, n32_min, n32_max, if_true, if_false, Nat.one_ne_zero, gd_some, true_or, or_true, false_or, or_false, xm] at key
        exact key
  · have xv : f_X9_within a1 (n32 1) (n32 9999) = some (n32 0) := within_n c1
    have mv := in_n (x := a1) (lo := 1) (hi := 9999) (a := 1) (b := 9999) rfl rfl c1
    refine ⟨-n32 1, l, fun h x rx => ?_, fun h x rm => ?_⟩
    · unfold f_X9_trade
      simp -implicitDefEqProofs (disch := omega) only [x.1.root, gP_p, gP_t, bnd_s, bnd2_s, ltt_s, jn_s, n32_nat, n32_le, n32_lt, n32_eq, n32_add, n32_sub, n32_dec, n32_mul, n32_div, n32_irm, n32_lit, n32_oN, n32_ix, n32_m1, n32_m2, neg_le0, neg_lt0, neg_lt1, neg_le1, n32_min, n32_max, if_true, if_false, Nat.one_ne_zero, gd_some, true_or, or_true, false_or, or_false, xv]
      exact fin_x rx (fr.rf _ _)
    · obtain ⟨v1, rm1, f1⟩ := thr0 x rm
      unfold f_X10_trade
      simp -implicitDefEqProofs (disch := omega) only [x.1.mod, gP_p, gP_t, bnd_s, bnd2_s, ltt_s, jn_s, n32_nat, n32_le, n32_lt, n32_eq, n32_add, n32_sub, n32_dec, n32_mul, n32_div, n32_irm, n32_lit, n32_oN, n32_ix, n32_m1, n32_m2, neg_le0, neg_lt0, neg_lt1, neg_le1, n32_min, n32_max, if_true, if_false, Nat.one_ne_zero, gd_some, true_or, or_true, false_or, or_false]
      simp -implicitDefEqProofs (disch := omega) only [gP_p, gP_t, bnd_s, bnd2_s, ltt_s, jn_s, n32_nat, n32_le, n32_lt, n32_eq, n32_add, n32_sub, n32_dec, n32_mul, n32_div, n32_irm, n32_lit, n32_oN, n32_ix, n32_m1, n32_m2, neg_le0, neg_lt0, neg_lt1, neg_le1, n32_min, n32_max, if_true, if_false, Nat.one_ne_zero, gd_some, true_or, or_true, false_or, or_false, f_X10_isSome, v1.1.mod, mv]
      exact fin_m rm1 f1) h I
