/-! ===== years ===== -/
theorem us16 (x : Int32) : ∃ t, t < 65536 ∧ ushr x (n32 16) = n32 t := by
  have e : ushr x (n32 16) = (x.toUInt32 >>> (16 : UInt32)).toInt32 := rfl
  have h : (x.toUInt32 >>> (16 : UInt32)).toNat < 65536 := by
    rw [UInt32.toNat_shiftRight]
    have : x.toUInt32.toNat < 4294967296 := x.toUInt32.toNat_lt
    rw [show (16 : UInt32).toNat % 32 = 16 from rfl, Nat.shiftRight_eq_div_pow]
    omega
  generalize x.toUInt32 >>> (16 : UInt32) = u at h e
  have e2 : u.toInt32.toInt = u.toBitVec.toInt := rfl
  have e3 : u.toBitVec.toNat = u.toNat := rfl
  have e4 : (ushr x (n32 16)).toInt = (u.toNat : Int) := by rw [e, e2, BitVec.toInt_eq_toNat_of_lt (by rw [e3]; omega), e3]
  obtain ⟨i, h1, h2⟩ := n32_of (x := ushr x (n32 16)) (n := 65536) (by omega) (by omega)
  exact ⟨i, h1, h2⟩
noncomputable def dh (x : Int32) : Nat := (us16 x).choose
theorem dh_b (x : Int32) : dh x < 65536 := (us16 x).choose_spec.1
theorem dh_e (x : Int32) : ushr x (n32 16) = n32 (dh x) := (us16 x).choose_spec.2
def dn (r : Int32) : Int32 := r * n32 1103515245 + n32 12345
theorem dn_e (r : Int32) : r * n32 1103515245 + n32 12345 = dn r := rfl
theorem draw_x {n : Nat} {r : Int32} {b c : Bool} {h : HP} (s : SH b c h) (hr : h.2.1 169 0 = r) (hn : 0 < n) (hn2 : n < 1000) : f_X4_draw h 169 (n32 n) = some (n32 (dh (dn r) % n), setI h 169 0 (dn r)) := by
  have hb := dh_b (dn r)
  have nz : ¬ n = 0 := by omega
  unfold f_X4_draw
  simp -implicitDefEqProofs (disch := omega) only [s.root, gP_p, gP_t, bnd_s, bnd2_s, ltt_s, jn_s, n32_nat, n32_le, n32_lt, n32_eq, n32_add, n32_sub, n32_dec, n32_mul, n32_div, n32_irm, n32_lit, n32_oN, n32_ix, n32_m1, n32_m2, neg_le0, neg_lt0, neg_lt1, neg_le1, n32_min, n32_max, if_true, if_false, Nat.one_ne_zero, gd_some, true_or, or_true, false_or, or_false, hr, dn_e, sI_eq, dh_e, hn, nz, not_false_eq_true]
theorem draw_m {n : Nat} {r : Int32} {b c : Bool} {h : HP} (s : SH b c h) (hr : h.2.1 188 44 = r) (hn : 0 < n) (hn2 : n < 1000) : f_X10_draws h 188 (n32 n) = some (n32 (dh (dn r) % n), setI h 188 44 (dn r)) := by
  have hb := dh_b (dn r)
  have nz : ¬ n = 0 := by omega
  unfold f_X10_draws
  simp -implicitDefEqProofs (disch := omega) only [s.mod, gP_p, gP_t, bnd_s, bnd2_s, ltt_s, jn_s, n32_nat, n32_le, n32_lt, n32_eq, n32_add, n32_sub, n32_dec, n32_mul, n32_div, n32_irm, n32_lit, n32_oN, n32_ix, n32_m1, n32_m2, neg_le0, neg_lt0, neg_lt1, neg_le1, n32_min, n32_max, if_true, if_false, Nat.one_ne_zero, gd_some, true_or, or_true, false_or, or_false, hr, dn_e, sI_eq, dh_e, nz, not_false_eq_true]
abbrev YP : Type := Int32 × (Nat → Nat)
noncomputable def yS (w : Wd) (p : YP) : YP :=
  if dh (dn p.1) % 5 < 2 then (dn p.1, wM w p.2) else if dh (dn p.1) % 5 = 4 then (dn p.1, (mPort p.2).2) else if wsz w = 0 then (dn p.1, p.2) else
  if dh (dn p.1) % 5 = 2 then (dn (dn p.1), (aTax (wsz w) (n32 (dh (dn (dn p.1)) % wsz w)) (n32 1) p.2).2) else
  (dn (dn (dn p.1)), up p.2 (6 + dh (dn (dn p.1)) % wsz w) (min 99999 (p.2 (6 + dh (dn (dn p.1)) % wsz w) + dh (dn (dn (dn p.1))) % 100)))
noncomputable def yF (w : Wd) : Nat → YP → YP
  | 0, p => p
  | d + 1, p => yF w d (yS w p)
def YX (w : Wd) (l : List Int64) (h0 : HP) (p : YP) (D : Nat) (h : HP) : Prop := XT w l h0 h p.2 D ∧ h.2.1 169 0 = p.1
def YM (w : Wd) (l : List Int64) (h0 : HP) (p : YP) (D : Nat) (h : HP) : Prop := MT w l h0 h p.2 D ∧ h.2.1 188 44 = p.1
theorem XT.mo {w : Wd} {l : List Int64} {h0 h : HP} {q : Nat → Nat} {D D' : Nat} (t : XT w l h0 h q D) (e : D ≤ D') : XT w l h0 h q D' := ⟨t.1, t.2.1, t.2.2.1, t.2.2.2.1, t.2.2.2.2.1, t.2.2.2.2.2.mo e⟩
theorem MT.mo {w : Wd} {l : List Int64} {h0 h : HP} {q : Nat → Nat} {D D' : Nat} (t : MT w l h0 h q D) (e : D ≤ D') : MT w l h0 h q D' := ⟨t.1, t.2.1, t.2.2.1, t.2.2.2.1, t.2.2.2.2.mo e⟩
theorem YX.dr {w : Wd} {l : List Int64} {h0 h : HP} {p : YP} {D : Nat} (t : YX w l h0 p D h) : YX w l h0 (dn p.1, p.2) D (setI h 169 0 (dn p.1)) := by
  have f : fr [13] h (setI h 169 0 (dn p.1)) := (fr.rf _ _).sI rfl
  exact ⟨t.1.mv f (by decide) (by decide) (by decide) (by decide), sI_eq⟩
theorem YM.dr {w : Wd} {l : List Int64} {h0 h : HP} {p : YP} {D : Nat} (t : YM w l h0 p D h) : YM w l h0 (dn p.1, p.2) D (setI h 188 44 (dn p.1)) := by
  have f : fr [43] h (setI h 188 44 (dn p.1)) := (fr.rf _ _).sI rfl
  exact ⟨t.1.mv f (by decide) (by decide) (by decide) (by decide), sI_eq⟩
theorem aTax_b {sz D : Nat} {x1 x2 : Int32} {q : Nat → Nat} (hz : sz ≤ 6) (rb : RBm D q) : RBm D (aTax sz x1 x2 q).2 := by
  unfold aTax
  by_cases q1 : taxP sz x1 x2
  · rw [aIf_y q1]
    obtain ⟨m, hm, e1⟩ := n32_of q1.1.1 q1.1.2
    rw [show x1.toNatClampNeg = m by rw [e1, n32_nat (by omega)]]
    have b0 := rb.1 m (by omega)
    have s1 : RBm D (tx1 m x2.toNatClampNeg q) := (rb.up (Or.inl ⟨by omega, by omega⟩)).up (Or.inr (Or.inr (Or.inl ⟨rfl, by omega⟩)))
    have b1 := s1.1 (6 + m) (by omega)
    exact (s1.up (Or.inl ⟨by omega, by omega⟩)).up (Or.inr (Or.inr (Or.inl ⟨rfl, by omega⟩)))
  · rw [aIf_n q1]
    exact rb
theorem act_x {w : Wd} {l : List Int64} {h0 h : HP} {p : YP} {D : Nat} (ok : wOK w) (t : YX w l h0 p D h) (hD : D ≤ 300000) : gd (f_X9_drawAct 200 h 0) (fun h' => YX w l h0 (yS w p) (D + 1) h') := by
  have hz := ok.1
  have s := t.1.1.1
  have r1 := draw_x (n := 5) s t.2 (by omega) (by omega)
  have t1 := t.dr
  have s1 := t1.1.1.1
  have v5 : dh (dn p.1) % 5 < 5 := Nat.mod_lt _ (by omega)
  have z1 : (setI h 169 0 (dn p.1)).2.1 19 2 = n32 (wsz w) := t1.1.2.2.2.1
  unfold f_X9_drawAct yS
  by_cases q1 : dh (dn p.1) % 5 < 2
  · have q1' : ¬ 1 < dh (dn p.1) % 5 := by omega
    rw [if_pos q1]
    simp -implicitDefEqProofs (disch := omega) only [s.root, gP_p, gP_t, bnd_s, bnd2_s, ltt_s, jn_s, n32_nat, n32_le, n32_lt, n32_eq, n32_add, n32_sub, n32_dec, n32_mul, n32_div, n32_irm, n32_lit, n32_oN, n32_ix, n32_m1, n32_m2, neg_le0, neg_lt0, neg_lt1, neg_le1, n32_min, n32_max, if_true, if_false, Nat.one_ne_zero, gd_some, true_or, or_true, false_or, or_false, r1, s1.root, q1', gd_bnd2]
    refine gd_mono (x_pass2 (by omega) (by omega) (by omega) ok t1.1 hD) ?_
    rintro ⟨u, h2⟩ ⟨e1, e2⟩
    exact ⟨e1, by rw [e2.ai [13] (by decide) 169 0 rfl]; exact t1.2⟩
  · have q1' : 1 < dh (dn p.1) % 5 := by omega
    rw [if_neg q1]
    by_cases q2 : dh (dn p.1) % 5 = 4
    · rw [if_pos q2]
      have e4 : 1 < 4 := by omega
      obtain ⟨v, rx, cr, z, f, rb⟩ := t1.1
      simp -implicitDefEqProofs (disch := omega) only [s.root, gP_p, gP_t, bnd_s, bnd2_s, ltt_s, jn_s, n32_nat, n32_le, n32_lt, n32_eq, n32_add, n32_sub, n32_dec, n32_mul, n32_div, n32_irm, n32_lit, n32_oN, n32_ix, n32_m1, n32_m2, neg_le0, neg_lt0, neg_lt1, neg_le1, n32_min, n32_max, if_true, if_false, Nat.one_ne_zero, gd_some, true_or, or_true, false_or, or_false, r1, s1.root, q2, e4, gd_bnd2]
      refine gd_mono (port_x (v.1.co CL19) z cr rb) ?_
      rintro ⟨u, h2⟩ ⟨e1, e2, e3, e5⟩
      have f1 : fr [5] (setI h 169 0 (dn p.1)) h2 := e5
      refine ⟨⟨v.fr f1 (by decide), rx.fr f1 (by decide), e2, e3, f.tr (f1.mono (by decide)), ?_⟩, by rw [f1.ai [13] (by decide) 169 0 rfl]; exact t1.2⟩
      exact (rb.up (Or.inr (Or.inr (Or.inr ⟨rfl, by omega⟩)))).mo (by omega)
    · rw [if_neg q2]
      by_cases q3 : wsz w = 0
      · rw [if_pos q3]
        rw [q3] at z1
        simp -implicitDefEqProofs (disch := omega) only [s.root, gP_p, gP_t, bnd_s, bnd2_s, ltt_s, jn_s, n32_nat, n32_le, n32_lt, n32_eq, n32_add, n32_sub, n32_dec, n32_mul, n32_div, n32_irm, n32_lit, n32_oN, n32_ix, n32_m1, n32_m2, neg_le0, neg_lt0, neg_lt1, neg_le1, n32_min, n32_max, if_true, if_false, Nat.one_ne_zero, gd_some, true_or, or_true, false_or, or_false, r1, s1.root, q1', q2, z1, Nat.le_refl]
        exact ⟨t1.1.mo (by omega), t1.2⟩
      · rw [if_neg q3]
        have q3' : ¬ wsz w ≤ 0 := by omega
        have r2 := draw_x (n := wsz w) s1 t1.2 (by omega) (by omega)
        have t2 := t1.dr
        have s2 := t2.1.1.1
        have mm : dh (dn (dn p.1)) % wsz w < wsz w := Nat.mod_lt _ (by omega)
        by_cases q4 : dh (dn p.1) % 5 = 2
        · rw [if_pos q4]
          have e5 : 1 < 2 := by omega
          have e6 : ¬ 2 = 4 := by omega
          obtain ⟨v, rx, cr, z, f, rb⟩ := t2.1
          have rb' : RBm D p.2 := rb
          have rt := aTax_b (x1 := n32 (dh (dn (dn p.1)) % wsz w)) (x2 := n32 1) hz rb'
          rw [q4] at r1
          simp -implicitDefEqProofs (disch := omega) only [s.root, gP_p, gP_t, bnd_s, bnd2_s, ltt_s, jn_s, n32_nat, n32_le, n32_lt, n32_eq, n32_add, n32_sub, n32_dec, n32_mul, n32_div, n32_irm, n32_lit, n32_oN, n32_ix, n32_m1, n32_m2, neg_le0, neg_lt0, neg_lt1, neg_le1, n32_min, n32_max, if_true, if_false, Nat.one_ne_zero, gd_some, true_or, or_true, false_or, or_false, r1, s1.root, e5, e6, z1, q3', r2, s2.root, gd_bnd2]
          refine gd_mono (tax_x (N := 197) (v.1.co CL19) z hz cr rb) ?_
          rintro ⟨u, h2⟩ ⟨e1, e2, e3, e4⟩
          have f1 : fr [5] _ h2 := e4
          exact ⟨⟨v.fr f1 (by decide), rx.fr f1 (by decide), e2, e3, f.tr (f1.mono (by decide)), rt.mo (by omega)⟩, by rw [f1.ai [13] (by decide) 169 0 rfl]; exact t2.2⟩
        · rw [if_neg q4]
          have r3 := draw_x (n := 100) s2 t2.2 (by omega) (by omega)
          have t3 := t2.dr
          have s3 := t3.1.1.1
          have m3 : dh (dn (dn (dn p.1))) % 100 < 100 := Nat.mod_lt _ (by omega)
          obtain ⟨v, rx, cr, z, f, rb⟩ := t3.1
          have rb' : RBm D p.2 := rb
          have cr' : CR (setI (setI (setI h 169 0 (dn p.1)) 169 0 (dn (dn p.1))) 169 0 (dn (dn (dn p.1)))) 19 p.2 := cr
          have b6 : p.2 (6 + dh (dn (dn p.1)) % wsz w) ≤ 99999 := rb'.1 (6 + dh (dn (dn p.1)) % wsz w) (by omega)
          have ad := add_y (k := 1) (n := dh (dn (dn (dn p.1))) % 100) (v.1.co CL19) z hz mm (by omega) (cr'.1 1 _ (by omega) (by omega)) (by show _ + _ < 2147483648; have e : 6 * 1 = 6 := rfl; rw [e]; omega)
          have f1 : fr [5] (setI (setI (setI h 169 0 (dn p.1)) 169 0 (dn (dn p.1))) 169 0 (dn (dn (dn p.1)))) (setI (setI (setI (setI h 169 0 (dn p.1)) 169 0 (dn (dn p.1))) 169 0 (dn (dn (dn p.1)))) 22 (dh (dn (dn p.1)) % wsz w) (n32 (min 99999 (p.2 (6 + dh (dn (dn p.1)) % wsz w) + dh (dn (dn (dn p.1))) % 100)))) := (fr.rf _ _).sI rfl
          have cs := cr'.set (k := 1) (m := dh (dn (dn p.1)) % wsz w) (v := min 99999 (p.2 (6 + dh (dn (dn p.1)) % wsz w) + dh (dn (dn (dn p.1))) % 100)) (by omega) (by omega)
          have rt := (rb'.up (j := 6 + dh (dn (dn p.1)) % wsz w) (v := min 99999 (p.2 (6 + dh (dn (dn p.1)) % wsz w) + dh (dn (dn (dn p.1))) % 100)) (Or.inl ⟨by omega, by omega⟩)).mo (show D ≤ D + 1 by omega)
          simp -implicitDefEqProofs (disch := omega) only [s.root, gP_p, gP_t, bnd_s, bnd2_s, ltt_s, jn_s, n32_nat, n32_le, n32_lt, n32_eq, n32_add, n32_sub, n32_dec, n32_mul, n32_div, n32_irm, n32_lit, n32_oN, n32_ix, n32_m1, n32_m2, neg_le0, neg_lt0, neg_lt1, neg_le1, n32_min, n32_max, if_true, if_false, Nat.one_ne_zero, gd_some, true_or, or_true, false_or, or_false, r1, s1.root, q1', q2, q4, z1, q3', r2, s2.root, r3, ad]
          exact ⟨⟨v.fr f1 (by decide), rx.fr f1 (by decide), cs, by rw [sI_ne (by omega)]; exact z, f.tr (f1.mono (by decide)), rt⟩, by rw [f1.ai [13] (by decide) 169 0 rfl]; exact t3.2⟩
theorem yrs_x {n : Nat} {w : Wd} {l : List Int64} {h0 : HP} {k : HP → Option (Int32 × HP)} {Q : Int32 × HP → Prop} (ok : wOK w) (hn : n ≤ 60) (E : YP) (K : ∀ h', YX w l h0 E (wB w + n) h' → gd (k h') Q) : ∀ (d i fuel : Nat) (h : HP) (p : YP), i + d = n → d < fuel → YX w l h0 p (wB w + i) h → yF w d p = E → gd (lp (fun _ _ => none) (f_X9_years_B33 200 0 (n32 n) k) fuel (n32 i) h) Q := by
  have hB := ok.2.2.2.2.2.2
  intro d
  induction d with
  | zero =>
    intro i fuel h p hi hf t hE
    obtain ⟨k', rfl⟩ : ∃ k, fuel = k + 1 := ⟨fuel - 1, by omega⟩
    have e : i = n := by omega
    subst e
    have hE' : p = E := hE
    subst hE'
    rw [lp_s, f_X9_years_B33]
    simp -implicitDefEqProofs (disch := omega) only [gP_p, gP_t, bnd_s, bnd2_s, ltt_s, jn_s, n32_nat, n32_le, n32_lt, n32_eq, n32_add, n32_sub, n32_dec, n32_mul, n32_div, n32_irm, n32_lit, n32_oN, n32_ix, n32_m1, n32_m2, neg_le0, neg_lt0, neg_lt1, neg_le1, n32_min, n32_max, if_true, if_false, Nat.one_ne_zero, gd_some, true_or, or_true, false_or, or_false, Nat.le_refl]
    exact K h t
  | succ d ih =>
    intro i fuel h p hi hf t hE
    obtain ⟨k', rfl⟩ : ∃ k, fuel = k + 1 := ⟨fuel - 1, by omega⟩
    have e : ¬ n ≤ i := by omega
    have hE' : yF w d (yS w p) = E := hE
    rw [lp_s, f_X9_years_B33]
    simp -implicitDefEqProofs (disch := omega) only [gP_p, gP_t, bnd_s, bnd2_s, ltt_s, jn_s, n32_nat, n32_le, n32_lt, n32_eq, n32_add, n32_sub, n32_dec, n32_mul, n32_div, n32_irm, n32_lit, n32_oN, n32_ix, n32_m1, n32_m2, neg_le0, neg_lt0, neg_lt1, neg_le1, n32_min, n32_max, if_true, if_false, Nat.one_ne_zero, gd_some, true_or, or_true, false_or, or_false, e, gd_bnd]
    refine gd_mono (act_x ok t (by omega)) ?_
    intro h1 t1
    exact ih (i + 1) k' h1 _ (by omega) (by omega) t1 hE'
theorem yrs_m {n : Nat} {w : Wd} {l : List Int64} {h0 : HP} {k : HP → Option (Int32 × HP)} {Q : Int32 × HP → Prop} (ok : wOK w) (hn : n ≤ 60) (E : YP) (K : ∀ h', YM w l h0 E (wB w + n) h' → gd (k h') Q) : ∀ (d i fuel : Nat) (h : HP) (p : YP), i + d = n → d < fuel → YM w l h0 p (wB w + i) h → yF w d p = E → gd (lp (fun _ _ => none) (f_X10_years_B30 200 188 (n32 n) k) fuel (n32 i) h) Q := by
  have hB := ok.2.2.2.2.2.2
  have hz := ok.1
  intro d
  induction d with
  | zero =>
    intro i fuel h p hi hf t hE
    obtain ⟨k', rfl⟩ : ∃ k, fuel = k + 1 := ⟨fuel - 1, by omega⟩
    have e : i = n := by omega
    subst e
    have hE' : p = E := hE
    subst hE'
    rw [lp_s, f_X10_years_B30]
    simp -implicitDefEqProofs (disch := omega) only [gP_p, gP_t, bnd_s, bnd2_s, ltt_s, jn_s, n32_nat, n32_le, n32_lt, n32_eq, n32_add, n32_sub, n32_dec, n32_mul, n32_div, n32_irm, n32_lit, n32_oN, n32_ix, n32_m1, n32_m2, neg_le0, neg_lt0, neg_lt1, neg_le1, n32_min, n32_max, if_true, if_false, Nat.one_ne_zero, gd_some, true_or, or_true, false_or, or_false, Nat.le_refl]
    exact K h t
  | succ d ih =>
    intro i fuel h p hi hf t hE
    obtain ⟨k', rfl⟩ : ∃ k, fuel = k + 1 := ⟨fuel - 1, by omega⟩
    have e : ¬ n ≤ i := by omega
    have hE' : yF w d (yS w p) = E := hE
    have nx := fun h1 t1 => ih (i + 1) k' h1 (yS w p) (by omega) (by omega) t1 hE'
    have s := t.1.1.1
    have r1 := draw_m (n := 5) s t.2 (by omega) (by omega)
    have t1 := t.dr
    have s1 := t1.1.1.1
    have v5 : dh (dn p.1) % 5 < 5 := Nat.mod_lt _ (by omega)
    have z1 : (setI h 188 44 (dn p.1)).2.1 188 3 = n32 (wsz w) := t1.1.1.2.1
    have D1 : wB w + i + 1 = wB w + (i + 1) := by omega
    rw [lp_s, f_X10_years_B30]
    unfold yS at nx
    by_cases q1 : dh (dn p.1) % 5 < 2
    · have q1' : ¬ 2 ≤ dh (dn p.1) % 5 := by omega
      rw [if_pos q1] at nx
      simp -implicitDefEqProofs (disch := omega) only [gP_p, gP_t, bnd_s, bnd2_s, ltt_s, jn_s, n32_nat, n32_le, n32_lt, n32_eq, n32_add, n32_sub, n32_dec, n32_mul, n32_div, n32_irm, n32_lit, n32_oN, n32_ix, n32_m1, n32_m2, neg_le0, neg_lt0, neg_lt1, neg_le1, n32_min, n32_max, if_true, if_false, Nat.one_ne_zero, gd_some, true_or, or_true, false_or, or_false, e, r1, s1.mod, q1', gd_bnd]
      refine gd_mono (m_month2 (by omega) ok t1.1 (by omega)) ?_
      rintro h2 ⟨e1, e2⟩
      exact nx h2 ⟨e1, by rw [e2.ai [43] (by decide) 188 44 rfl]; exact t1.2⟩
    · have q1' : 2 ≤ dh (dn p.1) % 5 := by omega
      rw [if_neg q1] at nx
      by_cases q2 : dh (dn p.1) % 5 = 4
      · rw [if_pos q2] at nx
        rw [q2] at r1
        have e4 : 2 ≤ 4 := by omega
        obtain ⟨v, rm, mr, f, rb⟩ := t1.1
        have b27 := rb.2.2.2.1
        have m27 := mr 27 (by omega)
        have f1 : fr [31] (setI h 188 44 (dn p.1)) (setI (setI h 188 44 (dn p.1)) 194 27 (n32 (1 - p.2 27))) := (fr.rf _ _).sI rfl
        simp -implicitDefEqProofs (disch := omega) only [gP_p, gP_t, bnd_s, bnd2_s, ltt_s, jn_s, n32_nat, n32_le, n32_lt, n32_eq, n32_add, n32_sub, n32_dec, n32_mul, n32_div, n32_irm, n32_lit, n32_oN, n32_ix, n32_m1, n32_m2, neg_le0, neg_lt0, neg_lt1, neg_le1, n32_min, n32_max, if_true, if_false, Nat.one_ne_zero, gd_some, true_or, or_true, false_or, or_false, e, r1, s1.mod, e4, m27]
        exact nx _ ⟨⟨v.fr f1 (by decide), rm.fr f1 (by decide), mR_set mr, f.tr (f1.mono (by decide)), (rb.up (Or.inr (Or.inr (Or.inr ⟨rfl, by omega⟩)))).mo (by omega)⟩, by rw [f1.ai [43] (by decide) 188 44 rfl]; exact t1.2⟩
      · rw [if_neg q2] at nx
        by_cases q3 : wsz w = 0
        · rw [if_pos q3] at nx
          rw [q3] at z1
          simp -implicitDefEqProofs (disch := omega) only [gP_p, gP_t, bnd_s, bnd2_s, ltt_s, jn_s, n32_nat, n32_le, n32_lt, n32_eq, n32_add, n32_sub, n32_dec, n32_mul, n32_div, n32_irm, n32_lit, n32_oN, n32_ix, n32_m1, n32_m2, neg_le0, neg_lt0, neg_lt1, neg_le1, n32_min, n32_max, if_true, if_false, Nat.one_ne_zero, gd_some, true_or, or_true, false_or, or_false, e, r1, s1.mod, q1', q2, z1, Nat.le_refl]
          exact nx _ ⟨t1.1.mo (by omega), t1.2⟩
        · rw [if_neg q3] at nx
          have q3' : ¬ wsz w ≤ 0 := by omega
          have r2 := draw_m (n := wsz w) s1 t1.2 (by omega) (by omega)
          have t2 := t1.dr
          have s2 := t2.1.1.1
          have mm : dh (dn (dn p.1)) % wsz w < wsz w := Nat.mod_lt _ (by omega)
          by_cases q4 : dh (dn p.1) % 5 = 2
          · rw [if_pos q4] at nx
            have e5 : 2 ≤ 2 := by omega
            have e6 : ¬ 2 = 4 := by omega
            obtain ⟨v, rm, mr, f, rb⟩ := t2.1
            have rb' : RBm (wB w + i) p.2 := rb
            have rt := aTax_b (x1 := n32 (dh (dn (dn p.1)) % wsz w)) (x2 := n32 1) hz rb'
            rw [q4] at r1
            simp -implicitDefEqProofs (disch := omega) only [gP_p, gP_t, bnd_s, bnd2_s, ltt_s, jn_s, n32_nat, n32_le, n32_lt, n32_eq, n32_add, n32_sub, n32_dec, n32_mul, n32_div, n32_irm, n32_lit, n32_oN, n32_ix, n32_m1, n32_m2, neg_le0, neg_lt0, neg_lt1, neg_le1, n32_min, n32_max, if_true, if_false, Nat.one_ne_zero, gd_some, true_or, or_true, false_or, or_false, e, r1, s1.mod, e5, e6, z1, q3', r2, s2.mod, gd_bnd2]
            refine gd_mono (tax_m (N := 197) (Or.inr rfl) v.1 v.2.1 hz mr rb) ?_
            rintro ⟨u, h2⟩ ⟨e1, e2, e4⟩
            have f1 : fr [31] _ h2 := e4
            exact nx h2 ⟨⟨v.fr f1 (by decide), rm.fr f1 (by decide), e2, f.tr (f1.mono (by decide)), rt.mo (by omega)⟩, by rw [f1.ai [43] (by decide) 188 44 rfl]; exact t2.2⟩
          · rw [if_neg q4] at nx
            have r3 := draw_m (n := 100) s2 t2.2 (by omega) (by omega)
            have t3 := t2.dr
            have s3 := t3.1.1.1
            have m3 : dh (dn (dn (dn p.1))) % 100 < 100 := Nat.mod_lt _ (by omega)
            obtain ⟨v, rm, mr, f, rb⟩ := t3.1
            have rb' : RBm (wB w + i) p.2 := rb
            have mr' : MR (setI (setI (setI h 188 44 (dn p.1)) 188 44 (dn (dn p.1))) 188 44 (dn (dn (dn p.1)))) 194 p.2 := mr
            have b6 : p.2 (6 + dh (dn (dn p.1)) % wsz w) ≤ 99999 := rb'.1 (6 + dh (dn (dn p.1)) % wsz w) (by omega)
            have g6 : (setI (setI h 188 44 (dn p.1)) 188 44 (dn (dn p.1))).2.1 194 (6 + dh (dn (dn p.1)) % wsz w) = n32 (p.2 (6 + dh (dn (dn p.1)) % wsz w)) := t2.1.2.2.1 _ (by omega)
            have f1 : fr [31] (setI (setI (setI h 188 44 (dn p.1)) 188 44 (dn (dn p.1))) 188 44 (dn (dn (dn p.1)))) (setI (setI (setI (setI h 188 44 (dn p.1)) 188 44 (dn (dn p.1))) 188 44 (dn (dn (dn p.1)))) 194 (6 + dh (dn (dn p.1)) % wsz w) (n32 (min 99999 (p.2 (6 + dh (dn (dn p.1)) % wsz w) + dh (dn (dn (dn p.1))) % 100)))) := (fr.rf _ _).sI rfl
            have ms := mR_set (j := 6 + dh (dn (dn p.1)) % wsz w) (v := min 99999 (p.2 (6 + dh (dn (dn p.1)) % wsz w) + dh (dn (dn (dn p.1))) % 100)) mr'
            have rt := (rb'.up (j := 6 + dh (dn (dn p.1)) % wsz w) (v := min 99999 (p.2 (6 + dh (dn (dn p.1)) % wsz w) + dh (dn (dn (dn p.1))) % 100)) (Or.inl ⟨by omega, by omega⟩)).mo (show wB w + i ≤ wB w + (i + 1) by omega)
            simp -implicitDefEqProofs (disch := omega) only [gP_p, gP_t, bnd_s, bnd2_s, ltt_s, jn_s, n32_nat, n32_le, n32_lt, n32_eq, n32_add, n32_sub, n32_dec, n32_mul, n32_div, n32_irm, n32_lit, n32_oN, n32_ix, n32_m1, n32_m2, neg_le0, neg_lt0, neg_lt1, neg_le1, n32_min, n32_max, if_true, if_false, Nat.one_ne_zero, gd_some, true_or, or_true, false_or, or_false, e, r1, s1.mod, q1', q2, q4, z1, q3', r2, f_X10_at, s2.mod, r3, s3.mod, g6, Nat.mul_one]
            exact nx _ ⟨⟨v.fr f1 (by decide), rm.fr f1 (by decide), ms, f.tr (f1.mono (by decide)), rt⟩, by rw [f1.ai [43] (by decide) 188 44 rfl]; exact t3.2⟩

theorem op_years {k : Nat} (hk : k < 512) : ∀ (h : HP) (a1 a2 : Int32), Inv k h → ∃ (v : Int32) (h1 h2 : HP), f_X9_years 200 h 0 a1 a2 = some (v, h1) ∧ f_X10_years 200 h1 188 a1 a2 = some (v, h2) ∧ Inv (k + 1) h2 := fun h a1 a2 I => q_op hk (fX := fun h => f_X9_years 200 h 0 a1 a2) (fM := fun h => f_X10_years 200 h 188 a1 a2) (fun w l ok => by
  have hB := ok.2.2.2.2.2.2
  have hz := ok.1
  by_cases c1 : 1 ≤ a2.toInt ∧ a2.toInt ≤ 60
  · obtain ⟨n, ln, hn, rfl⟩ := n32_of2 (lo := 1) (hi := 60) c1.1 c1.2
    have xn : f_X9_within (n32 n) (n32 1) (n32 60) = some (n32 1) := within_y c1
    have mn := in_y (x := n32 n) (lo := 1) (hi := 60) (a := 1) (b := 60) rfl rfl c1
    refine ⟨n32 ((yF w n (a1, wr w)).2 26), [(n32 (sumN (fun m => (yF w n (a1, wr w)).2 (0 + m)) (wsz w))).toInt64, (n32 (sumN (fun m => (yF w n (a1, wr w)).2 (6 + m)) (wsz w))).toInt64], fun h x rx => ?_, fun h x rm => ?_⟩
    · have f1 : fr [13] h (setI h 169 0 a1) := (fr.rf _ _).sI rfl
      have x1 := x.fr f1 (by decide)
      unfold f_X9_years f_X4_begin
      simp -implicitDefEqProofs (disch := omega) only [x.1.root, x1.1.root, gP_p, gP_t, bnd_s, bnd2_s, ltt_s, jn_s, n32_nat, n32_le, n32_lt, n32_eq, n32_add, n32_sub, n32_dec, n32_mul, n32_div, n32_irm, n32_lit, n32_oN, n32_ix, n32_m1, n32_m2, neg_le0, neg_lt0, neg_lt1, neg_le1, n32_min, n32_max, if_true, if_false, Nat.one_ne_zero, gd_some, true_or, or_true, false_or, or_false, xn, gd_bnd]
      refine gd_mono (become_y (N := 197) (x1.1.co CL19) (x1.1.co CL5) (by omega) x1.2.2.1 ok.2.1.2.2.2.1) ?_
      rintro h1 ⟨e1, e2, e3, -⟩
      have e3' : fr [5] (setI h 169 0 a1) h1 := e3
      have t1 : YX w l h (a1, wr w) (wB w + 0) h1 := ⟨⟨x1.fr e3' (by decide), (rx.fr f1 (by decide)).fr e3' (by decide), e1, e2.trans x1.2.1, (f1.mono (by decide)).tr (e3'.mono (by decide)), ok.2.1⟩, by rw [e3'.ai [13] (by decide) 169 0 rfl, sI_eq]⟩
      refine yrs_x ok hn (yF w n (a1, wr w)) (fun h2 t2 => ?_) n 0 200 h1 (a1, wr w) (by omega) (by omega) t1 rfl
      have s2 := t2.1.1.1
      have sx0 := sumT_x (N := 200) (k := 0) (by omega) (s2.co CL19) t2.1.2.2.2.1 hz t2.1.2.2.1 (by omega)
      have sx1 := sumT_x (N := 200) (k := 1) (by omega) (s2.co CL19) t2.1.2.2.2.1 hz t2.1.2.2.1 (by omega)
      simp -implicitDefEqProofs (disch := omega) only [gP_p, gP_t, bnd_s, bnd2_s, ltt_s, jn_s, n32_nat, n32_le, n32_lt, n32_eq, n32_add, n32_sub, n32_dec, n32_mul, n32_div, n32_irm, n32_lit, n32_oN, n32_ix, n32_m1, n32_m2, neg_le0, neg_lt0, neg_lt1, neg_le1, n32_min, n32_max, if_true, if_false, Nat.one_ne_zero, gd_some, true_or, or_true, false_or, or_false, s2.root, sx0, sx1, gd_bnd]
      refine gd_mono (x_tell2 t2.1) ?_
      rintro h3 ⟨e4, t3⟩
      have v26 := t3.2.2.1.2.2.2.2.1
      simp -implicitDefEqProofs (disch := omega) only [t3.1.1.root, gP_p, gP_t, bnd_s, bnd2_s, ltt_s, jn_s, n32_nat, n32_le, n32_lt, n32_eq, n32_add, n32_sub, n32_dec, n32_mul, n32_div, n32_irm, n32_lit, n32_oN, n32_ix, n32_m1, n32_m2, neg_le0, neg_lt0, neg_lt1, neg_le1, n32_min, n32_max, if_true, if_false, Nat.one_ne_zero, gd_some, true_or, or_true, false_or, or_false, v26]
      exact ⟨rfl, e4, t3.2.2.2.2.1⟩
    · obtain ⟨v1, rm1, f1⟩ := thr0 x rm
      have f2 : fr [43] (setI h 188 0 (n32 0)) (setI (setI h 188 0 (n32 0)) 188 44 a1) := (fr.rf _ _).sI rfl
      unfold f_X10_years
      simp -implicitDefEqProofs (disch := omega) only [x.1.mod, gP_p, gP_t, bnd_s, bnd2_s, ltt_s, jn_s, n32_nat, n32_le, n32_lt, n32_eq, n32_add, n32_sub, n32_dec, n32_mul, n32_div, n32_irm, n32_lit, n32_oN, n32_ix, n32_m1, n32_m2, neg_le0, neg_lt0, neg_lt1, neg_le1, n32_min, n32_max, if_true, if_false, Nat.one_ne_zero, gd_some, true_or, or_true, false_or, or_false, mn, gd_bnd]
      refine gd_mono (copies_y (N := 200) (by omega) (v1.fr f2 (by decide)).1 (v1.fr f2 (by decide)).2.2.1) ?_
      rintro h1 ⟨e1, e2⟩
      have vv := (v1.fr f2 (by decide)).fr e2 (by decide)
      have t1 : YM w l h (a1, wr w) (wB w + 0) h1 := ⟨⟨vv, (rm1.fr f2 (by decide)).fr e2 (by decide), e1, (f1.tr (f2.mono (by decide))).tr (e2.mono (by decide)), ok.2.1⟩, by rw [e2.ai [43] (by decide) 188 44 rfl, sI_eq]⟩
      refine yrs_m ok hn (yF w n (a1, wr w)) (fun h2 t2 => ?_) n 0 200 h1 (a1, wr w) (by omega) (by omega) t1 rfl
      have t3 := m_told0 t2.1
      have sm0 := sumO_m (N := 200) (from_ := 0) (by omega) (Or.inr rfl) t3.1.1 t3.1.2.1 hz t3.2.2.1 (by omega)
      simp -implicitDefEqProofs (disch := omega) only [gP_p, gP_t, bnd_s, bnd2_s, ltt_s, jn_s, n32_nat, n32_le, n32_lt, n32_eq, n32_add, n32_sub, n32_dec, n32_mul, n32_div, n32_irm, n32_lit, n32_oN, n32_ix, n32_m1, n32_m2, neg_le0, neg_lt0, neg_lt1, neg_le1, n32_min, n32_max, if_true, if_false, Nat.one_ne_zero, gd_some, true_or, or_true, false_or, or_false, t3.1.1.mod, sm0, gd_bnd]
      refine gd_mono (m_ent t3 (by show 0 < 6; omega)) ?_
      intro h4 t4
      have sm1 := sumO_m (N := 200) (from_ := 6) (by omega) (Or.inr rfl) t4.1.1 t4.1.2.1 hz t4.2.2.1 (by omega)
      simp -implicitDefEqProofs (disch := omega) only [gP_p, gP_t, bnd_s, bnd2_s, ltt_s, jn_s, n32_nat, n32_le, n32_lt, n32_eq, n32_add, n32_sub, n32_dec, n32_mul, n32_div, n32_irm, n32_lit, n32_oN, n32_ix, n32_m1, n32_m2, neg_le0, neg_lt0, neg_lt1, neg_le1, n32_min, n32_max, if_true, if_false, Nat.one_ne_zero, gd_some, true_or, or_true, false_or, or_false, t4.1.1.mod, sm1, gd_bnd]
      refine gd_mono (m_ent t4 (by show 1 < 6; omega)) ?_
      intro h5 t5
      have v26 := t5.2.2.1 26 (by omega)
      simp -implicitDefEqProofs (disch := omega) only [gP_p, gP_t, bnd_s, bnd2_s, ltt_s, jn_s, n32_nat, n32_le, n32_lt, n32_eq, n32_add, n32_sub, n32_dec, n32_mul, n32_div, n32_irm, n32_lit, n32_oN, n32_ix, n32_m1, n32_m2, neg_le0, neg_lt0, neg_lt1, neg_le1, n32_min, n32_max, if_true, if_false, Nat.one_ne_zero, gd_some, true_or, or_true, false_or, or_false, t5.1.1.mod, v26]
      exact ⟨rfl, t5.2.1, t5.2.2.2.1⟩
  · have xn : f_X9_within a2 (n32 1) (n32 60) = some (n32 0) := within_n c1
    have mn := in_n (x := a2) (lo := 1) (hi := 60) (a := 1) (b := 60) rfl rfl c1
    refine ⟨-n32 1, l, fun h x rx => ?_, fun h x rm => ?_⟩
    · unfold f_X9_years
      simp -implicitDefEqProofs (disch := omega) only [x.1.root, gP_p, gP_t, bnd_s, bnd2_s, ltt_s, jn_s, n32_nat, n32_le, n32_lt, n32_eq, n32_add, n32_sub, n32_dec, n32_mul, n32_div, n32_irm, n32_lit, n32_oN, n32_ix, n32_m1, n32_m2, neg_le0, neg_lt0, neg_lt1, neg_le1, n32_min, n32_max, if_true, if_false, Nat.one_ne_zero, gd_some, true_or, or_true, false_or, or_false, xn]
      exact fin_x rx (fr.rf _ _)
    · obtain ⟨v1, rm1, f1⟩ := thr0 x rm
      unfold f_X10_years
      simp -implicitDefEqProofs (disch := omega) only [x.1.mod, gP_p, gP_t, bnd_s, bnd2_s, ltt_s, jn_s, n32_nat, n32_le, n32_lt, n32_eq, n32_add, n32_sub, n32_dec, n32_mul, n32_div, n32_irm, n32_lit, n32_oN, n32_ix, n32_m1, n32_m2, neg_le0, neg_lt0, neg_lt1, neg_le1, n32_min, n32_max, if_true, if_false, Nat.one_ne_zero, gd_some, true_or, or_true, false_or, or_false]
      simp -implicitDefEqProofs (disch := omega) only [gP_p, gP_t, bnd_s, bnd2_s, ltt_s, jn_s, n32_nat, n32_le, n32_lt, n32_eq, n32_add, n32_sub, n32_dec, n32_mul, n32_div, n32_irm, n32_lit, n32_oN, n32_ix, n32_m1, n32_m2, neg_le0, neg_lt0, neg_lt1, neg_le1, n32_min, n32_max, if_true, if_false, Nat.one_ne_zero, gd_some, true_or, or_true, false_or, or_false, mn]
      exact fin_m rm1 f1) h I
