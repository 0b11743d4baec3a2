/-! ===== year: both sides ===== -/
theorem yr_m {t : Nat → Nat} {N E : Nat} {b c : Bool} {k : Int32 → HP → Option (Int32 × HP)} {x1 : Int32} {Q : Int32 × HP → Prop} (hN : 10 < N) (hE : E ≤ 60) (tb : ∀ i, i < E → t i < 256) (h0 : HP) (R : YR) (K : ∀ h' g, g ≤ 1 → SH b c h' → RM h' t E R.2.1 → (R.1 = true → YV t h' R.2.2) → fr [40, 33] h0 h' → (R.1 = true ↔ g = 1 ∧ R.2.1 = E) → gd (k (n32 g) h') Q) : ∀ (d i fuel : Nat) (h : HP), i + d = 61 → d + 1 < fuel → i ≤ AP t i → AP t i ≤ E → SH b c h → RM h t E (AP t i) → YV t h i → fr [40, 33] h0 h → yR t E d i = R → gd (lp (fun _ _ => none) (f_X10_year_B19 N 188 x1 k) fuel (n32 1) h) Q := by
  intro d
  induction d with
  | zero => intro i fuel h hi hf h1 h2; omega
  | succ d ih =>
    intro i fuel h hi hf h1 h2 s rm y f hr
    obtain ⟨k', rfl⟩ : ∃ k, fuel = k + 1 + 1 := ⟨fuel - 2, by omega⟩
    obtain ⟨r1, r2, r3⟩ := id rm
    rw [yR_f] at hr
    have stop : ∀ (h' : HP), SH b c h' → RM h' t E R.2.1 → R.1 = false → fr [40, 33] h0 h' → gd (lp (fun _ _ => none) (f_X10_year_B19 N 188 x1 k) (k' + 1) (n32 0) h') Q := by
      intro h' s' r' m' f'
      rw [lp_s, f_X10_year_B19]
      simp -implicitDefEqProofs (disch := omega) only [gP_p, gP_t, bnd_s, bnd2_s, ltt_s, jn_s, n32_nat, n32_le, n32_lt, n32_eq, n32_add, n32_sub, n32_dec, n32_mul, n32_div, n32_irm, n32_lit, n32_oN, n32_ix, n32_m1, n32_m2, neg_le0, neg_lt0, neg_lt1, neg_le1, n32_min, n32_max, if_true, if_false, Nat.one_ne_zero, gd_some, true_or, or_true, false_or, or_false]
      exact K h' 0 (by omega) s' r' (fun z => by rw [m'] at z; exact absurd z Bool.false_ne_true) f' ⟨fun z => by rw [m'] at z; exact absurd z Bool.false_ne_true, fun z => absurd z.1 (by decide)⟩
    rw [lp_s, f_X10_year_B19]
    by_cases q1 : E ≤ AP t i
    · rw [if_pos q1] at hr
      subst hr
      simp -implicitDefEqProofs (disch := omega) only [gP_p, gP_t, bnd_s, bnd2_s, ltt_s, jn_s, n32_nat, n32_le, n32_lt, n32_eq, n32_add, n32_sub, n32_dec, n32_mul, n32_div, n32_irm, n32_lit, n32_oN, n32_ix, n32_m1, n32_m2, neg_le0, neg_lt0, neg_lt1, neg_le1, n32_min, n32_max, if_true, if_false, Nat.one_ne_zero, gd_some, true_or, or_true, false_or, or_false, r1, r2, q1]
      exact K h 1 (by omega) s rm (fun _ => y) f ⟨fun _ => ⟨rfl, by show AP t i = E; omega⟩, fun _ => rfl⟩
    · rw [if_neg q1] at hr
      simp -implicitDefEqProofs (disch := omega) only [gP_p, gP_t, bnd_s, bnd2_s, ltt_s, jn_s, n32_nat, n32_le, n32_lt, n32_eq, n32_add, n32_sub, n32_dec, n32_mul, n32_div, n32_irm, n32_lit, n32_oN, n32_ix, n32_m1, n32_m2, neg_le0, neg_lt0, neg_lt1, neg_le1, n32_min, n32_max, if_true, if_false, Nat.one_ne_zero, gd_some, true_or, or_true, false_or, or_false, r1, r2, q1, gd_bnd2]
      refine gd_mono (ract (N := N) hN (by omega) tb (by omega) (by omega) s rm y) ?_
      rintro ⟨w, h3⟩ ⟨w1, w2, w3⟩
      have w1' : fr [40, 33] h h3 := w1
      by_cases q2 : ka t i = 7
      · rw [if_pos q2] at hr
        subst hr
        obtain ⟨v1, v2⟩ := w3 (fun z => by omega)
        have v1' : w = n32 0 := v1
        subst v1'
        have g : gs t E (ka t i) (AP t i) = 0 := by rw [q2]; rfl
        rw [g] at v2
        exact stop h3 (s.fr w1') v2 rfl (f.tr w1')
      · rw [if_neg q2] at hr
        have k8 : ka t i < 8 := kd_lt
        by_cases q3 : gs t E (ka t i) (AP t i) = al (ka t i)
        · rw [if_pos q3] at hr
          obtain ⟨v1, v2, v3⟩ := w2 ⟨by omega, q3⟩
          have v1' : w = n32 1 := v1
          subst v1'
          obtain ⟨-, b1, b2⟩ := yR_s h1 q1 q2 q3
          exact ih (i + 1) (k' + 1) h3 (by omega) (by omega) b1 b2 (s.fr w1') v2 v3 (f.tr w1') hr
        · rw [if_neg q3] at hr
          subst hr
          obtain ⟨v1, v2⟩ := w3 (fun z => q3 z.2)
          have v1' : w = n32 0 := v1
          subst v1'
          exact stop h3 (s.fr w1') v2 rfl (f.tr w1')
abbrev YZ : Type := Nat × Nat × (Nat → Nat)
noncomputable def yE (sz : Nat) (F : Fle) (t : Nat → Nat) : Nat → Nat → (Nat → Nat) → YZ
  | 0, i, r => (i, 0, r)
  | d + 1, i, r => if n32 0 ≤ (yA sz F t i r).1 then yE sz F t d (i + 1) (yA sz F t i r).2 else (i, 1, (yA sz F t i r).2)
theorem yE_f {sz : Nat} {F : Fle} {t : Nat → Nat} {d i : Nat} {r : Nat → Nat} : yE sz F t (d + 1) i r = if n32 0 ≤ (yA sz F t i r).1 then yE sz F t d (i + 1) (yA sz F t i r).2 else (i, 1, (yA sz F t i r).2) := rfl
theorem yE_ok {sz E B : Nat} {F : Fle} {t : Nat → Nat} (hz : sz ≤ 6) : ∀ d i r, (∀ j, j < i + d → VA t E j) → RBm (B + 5 * AP t i) r → ZB sz r → AP t (i + d) ≤ E → i ≤ (yE sz F t d i r).1 ∧ (((yE sz F t d i r).2.1 = 0 ∧ (yE sz F t d i r).1 = i + d) ∨ ((yE sz F t d i r).2.1 = 1 ∧ (yE sz F t d i r).1 < i + d)) ∧ RBm (B + 5 * E) (yE sz F t d i r).2.2 ∧ ZB sz (yE sz F t d i r).2.2 := by
  intro d
  induction d with
  | zero =>
    intro i r hv rb zb he
    exact ⟨Nat.le_refl _, Or.inl ⟨rfl, rfl⟩, rb.mo (by rw [Nat.add_zero] at he; omega), zb⟩
  | succ d ih =>
    intro i r hv rb zb he
    have v := hv i (by omega)
    obtain ⟨o1, o2⟩ := yA_ok (F := F) hz v rb zb
    have o1' : RBm (B + 5 * AP t (i + 1)) (yA sz F t i r).2 := o1.mo (by rw [AP_s]; omega)
    have w1 := (VA_d v).1
    rw [yE_f]
    by_cases q : n32 0 ≤ (yA sz F t i r).1
    · rw [if_pos q]
      obtain ⟨e0, e1, e2⟩ := ih (i + 1) _ (fun j hj => hv j (by omega)) o1' o2 (by rw [show i + 1 + d = i + (d + 1) by omega]; exact he)
      rw [show i + 1 + d = i + (d + 1) by omega] at e1
      exact ⟨by omega, e1, e2⟩
    · rw [if_neg q]
      exact ⟨Nat.le_refl _, Or.inr ⟨rfl, by show i < i + (d + 1); omega⟩, o1'.mo (by omega), o2⟩
theorem ye_x {sz n cnt B : Nat} {F : Fle} {t : Nat → Nat} {b c : Bool} {k : Int32 → Int32 → HP → Option (Int32 × HP)} {Q : Int32 × HP → Prop} (hz : sz ≤ 6) (fb : FB F) (hn : n ≤ 60) (tb : ∀ i, i < n → t i < 256) (hv : ∀ j, j < cnt → VA t n j) (hc : AP t cnt = n) (hcn : cnt ≤ 60) (hB : B ≤ 900000) (h0 : HP) (Z : YZ) (K : ∀ h', SH b c h' → CR h' 5 Z.2.2 → h'.2.1 5 2 = n32 sz → fr [3] h0 h' → gd (k (n32 Z.1) (n32 Z.2.1) h') Q) : ∀ (d i fuel : Nat) (h : HP) (r : Nat → Nat), i + d = cnt → d + 1 < fuel → SH b c h → TxX h t n → h.2.1 5 2 = n32 sz → CR h 5 r → FR h (flr b) F → RBm (B + 5 * AP t i) r → ZB sz r → fr [3] h0 h → yE sz F t d i r = Z → gd (lp (fun _ _ _ _ => none) (f_X9_year_B39 1000 0 k) fuel (n32 i) (n32 0) (n32 (AP t i)) h) Q := by
  intro d
  induction d with
  | zero =>
    intro i fuel h r hi hf s tx z cr fR rb zb f hZ
    obtain ⟨k', rfl⟩ : ∃ k, fuel = k + 1 := ⟨fuel - 1, by omega⟩
    have e : i = cnt := by omega
    subst e
    have t1 := tx.1
    have hZ' : (i, 0, r) = Z := hZ
    subst hZ'
    rw [lp_s, f_X9_year_B39]
    simp -implicitDefEqProofs (disch := omega) only [gP_p, gP_t, bnd_s, bnd2_s, ltt_s, jn_s, n32_nat, n32_le, n32_lt, n32_eq, n32_add, n32_sub, n32_dec, n32_mul, n32_div, n32_irm, n32_lit, n32_oN, n32_ix, n32_m1, n32_m2, neg_le0, neg_lt0, neg_lt1, neg_le1, n32_min, n32_max, if_true, if_false, Nat.one_ne_zero, gd_some, true_or, or_true, false_or, or_false, s.root, t1, hc, Nat.le_refl]
    exact K h s cr z f
  | succ d ih =>
    intro i fuel h r hi hf s tx z cr fR rb zb f hZ
    obtain ⟨k', rfl⟩ : ∃ k, fuel = k + 1 + 1 := ⟨fuel - 2, by omega⟩
    have v := hv i (by omega)
    have p0 := v.1
    have t1 := tx.1
    have e : ¬ n ≤ AP t i := by omega
    obtain ⟨o1, o2⟩ := yA_ok (F := F) hz v rb zb
    rw [yE_f] at hZ
    rw [lp_s, f_X9_year_B39]
    simp -implicitDefEqProofs (disch := omega) only [gP_p, gP_t, bnd_s, bnd2_s, n32_nat, n32_le, n32_lt, n32_eq, n32_add, n32_sub, n32_dec, n32_mul, n32_div, n32_irm, n32_lit, n32_oN, n32_ix, n32_m1, n32_m2, neg_le0, neg_lt0, neg_lt1, neg_le1, n32_min, n32_max, if_true, if_false, Nat.one_ne_zero, true_or, or_true, false_or, or_false, s.root, t1, e, gd_bnd2]
    refine gd_mono (yact_x (F := F) hz fb v hn tb s tx z cr fR rb (by omega)) ?_
    rintro ⟨w, h1⟩ ⟨w1, w2, w3, w4⟩
    have w1' : w = (yA sz F t i r).1 := w1
    subst w1'
    have w4' : fr [3] h h1 := w4
    have s1 := s.fr w4'
    have tx1 := tx.fr w4' (by decide)
    have t1' := tx1.1
    by_cases q : n32 0 ≤ (yA sz F t i r).1
    · rw [if_pos q] at hZ
      have a0 := at60_x (p := AP t i) s1 tx1 hn (by omega)
      rw [if_pos p0] at a0
      have so := sho_v (tb (AP t i) p0)
      have k7 : kd (t (AP t i)) < 7 := v.2.1
      have len : f_J0_length_8abf5 (shs (kd (t (AP t i)))) = some (n32 (al (kd (t (AP t i))))) := (str_sh k7).2.1
      have l1 := al_1 k7
      have l8 : al (kd (t (AP t i))) ≤ 8 := (str_sh k7).1
      have mx : f_J9_max_7cf53 (n32 1) (n32 (al (kd (t (AP t i))))) = some (n32 (al (kd (t (AP t i))))) := by
        unfold f_J9_max_7cf53
        by_cases q2 : 1 < al (kd (t (AP t i)))
        · rw [if_pos (by rw [n32_lt (by omega) (by omega)]; exact q2)]
        · rw [if_neg (by rw [n32_lt (by omega) (by omega)]; exact q2), show al (kd (t (AP t i))) = 1 by omega]
      have nx := ih (i + 1) (k' + 1) h1 _ (by omega) (by omega) s1 tx1 w3 w2 (fR.fr w4' (by cases b <;> decide)) (o1.mo (by rw [AP_s]; omega)) o2 (f.tr w4') hZ
      rw [AP_s] at nx
      simp -implicitDefEqProofs (disch := omega) only [gP_p, gP_t, bnd_s, bnd2_s, ltt_s, jn_s, n32_nat, n32_le, n32_lt, n32_eq, n32_add, n32_sub, n32_dec, n32_mul, n32_div, n32_irm, n32_lit, n32_oN, n32_ix, n32_m1, n32_m2, neg_le0, neg_lt0, neg_lt1, neg_le1, n32_min, n32_max, if_true, if_false, Nat.one_ne_zero, gd_some, true_or, or_true, false_or, or_false, q, s1.root, a0, so, len, mx]
      exact nx
    · rw [if_neg q] at hZ
      subst hZ
      simp -implicitDefEqProofs (disch := omega) only [gP_p, gP_t, bnd_s, bnd2_s, ltt_s, jn_s, n32_nat, n32_le, n32_lt, n32_eq, n32_add, n32_sub, n32_dec, n32_mul, n32_div, n32_irm, n32_lit, n32_oN, n32_ix, n32_m1, n32_m2, neg_le0, neg_lt0, neg_lt1, neg_le1, n32_min, n32_max, if_true, if_false, Nat.one_ne_zero, gd_some, true_or, or_true, false_or, or_false, q]
      rw [lp_s, f_X9_year_B39]
      simp -implicitDefEqProofs (disch := omega) only [gP_p, gP_t, bnd_s, bnd2_s, ltt_s, jn_s, n32_nat, n32_le, n32_lt, n32_eq, n32_add, n32_sub, n32_dec, n32_mul, n32_div, n32_irm, n32_lit, n32_oN, n32_ix, n32_m1, n32_m2, neg_le0, neg_lt0, neg_lt1, neg_le1, n32_min, n32_max, if_true, if_false, Nat.one_ne_zero, gd_some, true_or, or_true, false_or, or_false, s1.root, t1', e]
      exact K h1 s1 w2 w3 (f.tr w4')
theorem ye_m {sz E cnt B : Nat} {F : Fle} {t : Nat → Nat} {b c : Bool} {k : Int32 → HP → Option (Int32 × HP)} {Q : Int32 × HP → Prop} (hz : sz ≤ 6) (fb : FB F) (hv : ∀ j, j < cnt → VA t E j) (hcn : cnt ≤ 60) (hE : E ≤ 60) (hB : B ≤ 900000) (h0 : HP) (Z : YZ) (K : ∀ h', SH b c h' → MR h' 193 Z.2.2 → h'.2.1 188 33 = n32 cnt → fr [41, 47, 30] h0 h' → gd (k (n32 Z.1) h') Q) : ∀ (d i fuel : Nat) (h : HP) (r : Nat → Nat), i + d = cnt → d < fuel → SH b c h → h.2.1 188 3 = n32 sz → MR h 193 r → MF h F → YV t h cnt → RBm (B + 5 * AP t i) r → ZB sz r → fr [41, 47, 30] h0 h → yE sz F t d i r = Z → gd (lp (fun _ _ => none) (f_X10_year_B64 1000 188 k) fuel (n32 i) h) Q := by
  intro d
  induction d with
  | zero =>
    intro i fuel h r hi hf s z mr mf y rb zb f hZ
    obtain ⟨k', rfl⟩ : ∃ k, fuel = k + 1 := ⟨fuel - 1, by omega⟩
    have e : i = cnt := by omega
    subst e
    have y1 := y.1
    have hZ' : (i, 0, r) = Z := hZ
    subst hZ'
    rw [lp_s, f_X10_year_B64]
    simp -implicitDefEqProofs (disch := omega) only [gP_p, gP_t, bnd_s, bnd2_s, ltt_s, jn_s, n32_nat, n32_le, n32_lt, n32_eq, n32_add, n32_sub, n32_dec, n32_mul, n32_div, n32_irm, n32_lit, n32_oN, n32_ix, n32_m1, n32_m2, neg_le0, neg_lt0, neg_lt1, neg_le1, n32_min, n32_max, if_true, if_false, Nat.one_ne_zero, gd_some, true_or, or_true, false_or, or_false, y1, Nat.le_refl]
    exact K h s mr y1 f
  | succ d ih =>
    intro i fuel h r hi hf s z mr mf y rb zb f hZ
    obtain ⟨k', rfl⟩ : ∃ k, fuel = k + 1 := ⟨fuel - 1, by omega⟩
    have v := hv i (by omega)
    have p0 := v.1
    have y1 := y.1
    have e : ¬ cnt ≤ i := by omega
    obtain ⟨o1, o2⟩ := yA_ok (F := F) hz v rb zb
    rw [yE_f] at hZ
    rw [lp_s, f_X10_year_B64]
    simp -implicitDefEqProofs (disch := omega) only [gP_p, gP_t, bnd_s, bnd2_s, n32_nat, n32_le, n32_lt, n32_eq, n32_add, n32_sub, n32_dec, n32_mul, n32_div, n32_irm, n32_lit, n32_oN, n32_ix, n32_m1, n32_m2, neg_le0, neg_lt0, neg_lt1, neg_le1, n32_min, n32_max, if_true, if_false, Nat.one_ne_zero, true_or, or_true, false_or, or_false, y1, e, gd_bnd2]
    refine gd_mono (does_m (F := F) hz fb v (by omega) s z mr mf (y.2 i (by omega)) rb (by omega)) ?_
    rintro ⟨w, h1⟩ ⟨w1, w2, w4⟩
    have w1' : w = (if n32 0 ≤ (yA sz F t i r).1 then n32 1 else n32 0) := w1
    have w4' : fr [41, 47, 30] h h1 := w4
    have s1 := s.fr w4'
    have y' : YV t h1 cnt := ⟨by rw [w4'.ai [40] (by decide) 188 33 rfl]; exact y1, fun j hj => by
      obtain ⟨c1, c2, c3, c4⟩ := y.2 j hj
      refine ⟨by rw [w4'.ai [33] (by decide) 204 j rfl]; exact c1, fun z => by rw [w4'.ai [33] (by decide) 205 j rfl]; exact c2 z, fun z => by rw [w4'.ai [33] (by decide) 206 j rfl]; exact c3 z, fun z => ⟨by rw [w4'.ai [33] (by decide) 206 j rfl]; exact (c4 z).1, by rw [w4'.ai [33] (by decide) 207 j rfl]; exact (c4 z).2⟩⟩⟩
    by_cases q : n32 0 ≤ (yA sz F t i r).1
    · rw [if_pos q] at hZ w1'
      subst w1'
      have nx := ih (i + 1) k' h1 _ (by omega) (by omega) s1 (by rw [w4'.ai [23] (by decide) 188 3 rfl]; exact z) w2 (mf.fr w4' (by decide)) y' (o1.mo (by rw [AP_s]; omega)) o2 (f.tr w4') hZ
      simp -implicitDefEqProofs (disch := omega) only [gP_p, gP_t, bnd_s, bnd2_s, ltt_s, jn_s, n32_nat, n32_le, n32_lt, n32_eq, n32_add, n32_sub, n32_dec, n32_mul, n32_div, n32_irm, n32_lit, n32_oN, n32_ix, n32_m1, n32_m2, neg_le0, neg_lt0, neg_lt1, neg_le1, n32_min, n32_max, if_true, if_false, Nat.one_ne_zero, gd_some, true_or, or_true, false_or, or_false]
      exact nx
    · rw [if_neg q] at hZ w1'
      subst w1'
      subst hZ
      simp -implicitDefEqProofs (disch := omega) only [gP_p, gP_t, bnd_s, bnd2_s, ltt_s, jn_s, n32_nat, n32_le, n32_lt, n32_eq, n32_add, n32_sub, n32_dec, n32_mul, n32_div, n32_irm, n32_lit, n32_oN, n32_ix, n32_m1, n32_m2, neg_le0, neg_lt0, neg_lt1, neg_le1, n32_min, n32_max, if_true, if_false, Nat.one_ne_zero, gd_some, true_or, or_true, false_or, or_false]
      exact K h1 s1 w2 y'.1 (f.tr w4')
theorem cr4 : ∀ i, i < 7 → rc (12 + i) = rc 12 := fun i hi => by
  match i, hi with
  | 0, _ => rfl
  | 1, _ => rfl
  | 2, _ => rfl
  | 3, _ => rfl
  | 4, _ => rfl
  | 5, _ => rfl
  | 6, _ => rfl
def yl (Z : YZ) : List Int64 := [(n32 Z.2.1).toInt64, (n32 (Z.2.2 26)).toInt64]
theorem yearX {h : HP} {t r : Nat → Nat} {n sz nx u B : Nat} {F : Fle} {b c : Bool} (s : SH b c h) (hz : sz ≤ 6) (fb : FB F) (tx : TxX h t n) (tb : ∀ i, i < n → t i < 256) (hn : n ≤ 80) (z : h.2.1 5 2 = n32 sz) (cr : CR h 5 r) (fR : FR h (flr b) F) (rb : RBm B r) (zb : ZB sz r) (hB : B ≤ 900000) (hnx : nx < 15) (hu : u ≤ 15) (e1 : h.2.1 26 1 = n32 nx) (e2 : h.2.1 26 2 = n32 u) (R : YR) (hR : yR t (min n 60) 61 0 = R) (Z : YZ) (hZ : yE sz F t R.2.2 0 r = Z) :
    (¬ (R.1 = true ∧ n ≤ min n 60) → gd (f_X9_year 1000 h 0) (fun p => p.1 = -n32 1 - n32 (lnQ (yL R) (min n 60)) ∧ TxX p.2 t 0 ∧ fr [1] h p.2)) ∧
    (R.1 = true ∧ n ≤ min n 60 → gd (f_X9_year 1000 h 0) (fun p => p.1 = n32 Z.1 ∧ TxX p.2 t 0 ∧ CR p.2 5 Z.2.2 ∧ p.2.2.1 5 2 = n32 sz ∧ RowX p.2 (yl Z) ∧ fr [1, 2, 3, 4, 6] h p.2 ∧ (0 < Z.1 → PuX h p.2 nx u sz r) ∧ (Z.1 = 0 → fr [1, 2, 3, 4] h p.2))) := by
  obtain ⟨k1, k2, k3⟩ := yR_ok (t := t) (E := min n 60) (by omega) 61 0 R (by omega) (Nat.zero_le _) (by show 0 ≤ _; omega) (fun j hj => absurd hj (Nat.not_lt_zero j)) hR
  have bd := bad_x (N := 1000) (by omega) s tx tb hn R hR
  refine ⟨fun bad => ?_, fun ok => ?_⟩
  · rw [lnC_q bad] at bd
    have lq : lnQ (yL R) (min n 60) ≤ 60 := by unfold lnQ; split; omega; show R.2.1 ≤ 60; omega
    have f1 : fr [1] h (setI h 1 1 (n32 0)) := (fr.rf _ _).sI rfl
    unfold f_X9_year
    simp -implicitDefEqProofs (disch := omega) only [s.root, gP_p, gP_t, bnd_s, bnd2_s, ltt_s, jn_s, n32_nat, n32_le, n32_lt, n32_eq, n32_add, n32_sub, n32_dec, n32_mul, n32_div, n32_irm, n32_lit, n32_oN, n32_ix, n32_m1, n32_m2, neg_le0, neg_lt0, neg_lt1, neg_le1, n32_min, n32_max, if_true, if_false, Nat.one_ne_zero, gd_some, true_or, or_true, false_or, or_false, bd, clr_x s]
    exact ⟨trivial, ⟨sI_eq, fun i hi => absurd hi (Nat.not_lt_zero i)⟩, f1⟩
  · rw [lnC_f ok] at bd
    obtain ⟨o1, o2, -⟩ := k3 ok.1
    have mn : min n 60 = n := by omega
    rw [mn] at o1 o2
    have zk := yE_ok (E := n) (B := B) (F := F) hz R.2.2 0 r (fun j hj => o1 j (by omega)) (rb.mo (by omega)) zb (by rw [Nat.zero_add, o2]; omega)
    rw [hZ] at zk
    obtain ⟨-, zk1, zk2, zk3⟩ := zk
    have b26 := zk2.2.2.1
    have z60 : Z.1 ≤ 60 := by omega
    unfold f_X9_year
    simp -implicitDefEqProofs (disch := omega) only [s.root, gP_p, gP_t, bnd_s, bnd2_s, n32_nat, n32_le, n32_lt, n32_eq, n32_add, n32_sub, n32_dec, n32_mul, n32_div, n32_irm, n32_lit, n32_oN, n32_ix, n32_m1, n32_m2, neg_le0, neg_lt0, neg_lt1, neg_le1, n32_min, n32_max, if_true, if_false, Nat.one_ne_zero, true_or, or_true, false_or, or_false, bd, gd_bnd]
    refine gd_mono (become_y (N := 997) (s.co (show CL.contains 12 = true by decide)) (s.co CL5) (by omega) cr rb.2.2.2.1) ?_
    rintro h1 ⟨c1, c2, c3, -⟩
    have c3' : fr [4] h h1 := c3
    have s1 := s.fr c3'
    refine ye_x (k := _) (b := b) (c := c) (sz := sz) (n := n) (cnt := R.2.2) (B := B) (F := F) (t := t) hz fb (by omega) tb o1 o2 k2 hB h1 Z (fun h2 s2 cr2 z2 f2 => ?_) R.2.2 0 1000 h1 r (by omega) (by omega) s1 (tx.fr c3' (by decide)) (by rw [c3'.ai [3] (by decide) 5 2 rfl]; exact z) (cr_frc cr rfl (by omega) rc5 c3' (by decide)) (fR.fr c3' (by cases b <;> decide)) (rb.mo (by omega)) zb (fr.rf _ _) hZ
    have f12 : fr [3, 4] h h2 := (c3'.mono (by decide)).tr (f2.mono (by decide))
    have f3 : fr [1] h2 (setI h2 1 1 (n32 0)) := (fr.rf _ _).sI rfl
    have s3 := s2.fr f3
    have f13 : fr [1, 3, 4] h (setI h2 1 1 (n32 0)) := (f12.mono (by decide)).tr (f3.mono (by decide))
    have cr3 : CR (setI h2 1 1 (n32 0)) 5 Z.2.2 := cr_frc cr2 rfl (by omega) rc5 f3 (by decide)
    have z3 : (setI h2 1 1 (n32 0)).2.1 5 2 = n32 sz := by rw [sI_ne (by omega)]; exact z2
    have t3 : TxX (setI h2 1 1 (n32 0)) t 0 := ⟨sI_eq, fun i hi => absurd hi (Nat.not_lt_zero i)⟩
    have tr3 := cr3.2.2.2.2.1
    by_cases q : Z.1 ≤ 0
    · simp -implicitDefEqProofs (disch := omega) only [gP_p, gP_t, bnd_s, bnd2_s, ltt_s, jn_s, n32_nat, n32_le, n32_lt, n32_eq, n32_add, n32_sub, n32_dec, n32_mul, n32_div, n32_irm, n32_lit, n32_oN, n32_ix, n32_m1, n32_m2, neg_le0, neg_lt0, neg_lt1, neg_le1, n32_min, n32_max, if_true, if_false, Nat.one_ne_zero, gd_some, true_or, or_true, false_or, or_false, s2.root, clr_x s2, q, s3.root, tr3, gd_bnd]
      refine gd_mono (tell2_x s3) ?_
      rintro h4 ⟨t1, t2⟩
      exact ⟨trivial, t3.fr t2 (by decide), cr_frc cr3 rfl (by omega) rc5 t2 (by decide), by rw [t2.ai [3] (by decide) 5 2 rfl]; exact z3, t1, (f13.mono (by decide)).tr (t2.mono (by decide)), fun g => absurd g (by omega), fun _ => (f13.mono (by decide)).tr (t2.mono (by decide))⟩
    · have cr12 : CR (setI h2 1 1 (n32 0)) 12 r := cr_frc (cr_frc c1 rfl (by omega) cr4 f2 (by decide)) rfl (by omega) cr4 f3 (by decide)
      have z12 : (setI h2 1 1 (n32 0)).2.1 12 2 = n32 sz := by rw [f3.ai [4] (by decide) 12 2 rfl, f2.ai [4] (by decide) 12 2 rfl, c2]; exact z
      simp -implicitDefEqProofs (disch := omega) only [gP_p, gP_t, bnd_s, bnd2_s, ltt_s, jn_s, n32_nat, n32_le, n32_lt, n32_eq, n32_add, n32_sub, n32_dec, n32_mul, n32_div, n32_irm, n32_lit, n32_oN, n32_ix, n32_m1, n32_m2, neg_le0, neg_lt0, neg_lt1, neg_le1, n32_min, n32_max, if_true, if_false, Nat.one_ne_zero, gd_some, true_or, or_true, false_or, or_false, s2.root, clr_x s2, q, s3.root, gd_bnd]
      refine gd_mono (put_x (N := 997) s3 hnx hu (by rw [f13.ai [6] (by decide) 26 1 rfl]; exact e1) (by rw [f13.ai [6] (by decide) 26 2 rfl]; exact e2) cr12 z12 rb.2.2.2.1) ?_
      rintro h4 ⟨⟨x1, x2, x3, x4, x5⟩, f4⟩
      have s4 := s3.fr f4
      have cr4' : CR h4 5 Z.2.2 := cr_frc cr3 rfl (by omega) rc5 f4 (by decide)
      have tr4 := cr4'.2.2.2.2.1
      simp -implicitDefEqProofs (disch := omega) only [gP_p, gP_t, bnd_s, bnd2_s, ltt_s, jn_s, n32_nat, n32_le, n32_lt, n32_eq, n32_add, n32_sub, n32_dec, n32_mul, n32_div, n32_irm, n32_lit, n32_oN, n32_ix, n32_m1, n32_m2, neg_le0, neg_lt0, neg_lt1, neg_le1, n32_min, n32_max, if_true, if_false, Nat.one_ne_zero, gd_some, true_or, or_true, false_or, or_false, s4.root, tr4, gd_bnd]
      refine gd_mono (tell2_x s4) ?_
      rintro h5 ⟨t1, t2⟩
      have e6 : ∀ a j, reg a j = 6 → h5.2.1 a j = h4.2.1 a j := fun a j e => t2.ai [6] (by decide) a j (by rw [e]; rfl)
      have px : PuX h h5 nx u sz r := ⟨(e6 26 1 rfl).trans x1, (e6 26 2 rfl).trans x2, x3.same fun i hi => funext fun j => e6 _ j (by rw [reg_c (by omega), rcp hnx hi]), (e6 _ 2 (by rw [reg_c (by omega)]; exact rcp (i := 0) hnx (by omega))).trans x4, fun p hp hne i j hi => by
        rw [e6 _ j (by rw [reg_c (by omega), rcp hp hi]), x5 p hp hne i j hi]
        exact f13.ai [6] (by decide) _ j (by rw [reg_c (by omega), rcp hp hi]; rfl)⟩
      have f14 : fr [1, 2, 3, 4, 6] h h5 := ((f13.mono (by decide)).tr (f4.mono (by decide))).tr (t2.mono (by decide))
      exact ⟨trivial, (t3.fr f4 (by decide)).fr t2 (by decide), cr_frc cr4' rfl (by omega) rc5 t2 (by decide), by rw [t2.ai [3] (by decide) 5 2 rfl, f4.ai [3] (by decide) 5 2 rfl]; exact z3, t1, f14, fun _ => px, fun g => absurd g (by omega)⟩
theorem yearM {h : HP} {t r : Nat → Nat} {n sz u B : Nat} {F : Fle} {b c : Bool} (s : SH b c h) (hz : sz ≤ 6) (fb : FB F) (tm : TxM h t n) (tb : ∀ i, i < n → t i < 256) (hn : n ≤ 80) (z : h.2.1 188 3 = n32 sz) (mr : MR h 193 r) (mf : MF h F) (rb : RBm B r) (zb : ZB sz r) (hB : B ≤ 900000) (hu : u ≤ 15) (e : h.2.1 188 25 = n32 u) (R : YR) (hR : yR t (min n 60) 61 0 = R) (Z : YZ) (hZ : yE sz F t R.2.2 0 r = Z) :
    (¬ (R.1 = true ∧ n ≤ min n 60) → gd (f_X10_year 1000 h 188) (fun p => p.1 = -n32 1 - n32 (lnQ (yL R) (min n 60)) ∧ TxM p.2 t 0 ∧ fr [50, 21, 40, 33] h p.2)) ∧
    (R.1 = true ∧ n ≤ min n 60 → gd (f_X10_year 1000 h 188) (fun p => p.1 = n32 Z.1 ∧ TxM p.2 t 0 ∧ MR p.2 193 Z.2.2 ∧ RowM p.2 (yl Z) ∧ fr [50, 21, 40, 33, 26, 30, 41, 47, 22] h p.2 ∧ (0 < Z.1 → PuM h p.2 u r) ∧ (Z.1 = 0 → p.2.2.1 188 25 = n32 u ∧ ∀ x, x < 28 * u → p.2.2.1 202 x = h.2.1 202 x))) := by
  obtain ⟨k1, k2, k3⟩ := yR_ok (t := t) (E := min n 60) (by omega) 61 0 R (by omega) (Nat.zero_le _) (by show 0 ≤ _; omega) (fun j hj => absurd hj (Nat.not_lt_zero j)) hR
  have f0 : fr [50] h (setI h 188 0 (n32 0)) := (fr.rf _ _).sI rfl
  have fE : ∀ gg, (R.1 = true ↔ gg = 1 ∧ R.2.1 = min n 60) → (if gg = 1 ∧ R.2.1 = min n 60 ∧ n ≤ 60 then n32 0 else -n32 1 - n32 (if gg = 1 ∧ R.2.1 = min n 60 then 60 else R.2.1)) = if R.1 = true ∧ n ≤ min n 60 then n32 0 else -n32 1 - n32 (lnQ (yL R) (min n 60)) := by
    intro gg e
    unfold lnQ yL
    by_cases q : R.1 = true
    · obtain ⟨g1, g2⟩ := e.mp q
      rw [if_pos q]
      by_cases q2 : n ≤ 60
      · rw [if_pos ⟨g1, g2, q2⟩, if_pos ⟨q, by omega⟩]
      · rw [if_neg (fun z => q2 z.2.2), if_pos ⟨g1, g2⟩, if_neg (fun z => q2 (by have := z.2; omega)), show min n 60 = 60 by omega]
    · rw [if_neg q, if_neg (fun z => q (e.mpr ⟨z.1, z.2.1⟩)), if_neg (fun z => q (e.mpr z)), if_neg (fun z => q z.1)]
  have begin' : ∀ Q, (∀ h', SH b c h' → RM h' t (min n 60) 0 → TxM h' t 0 → YV t h' 0 → fr [50, 21, 40, 33] h h' → gd (lp (fun _ _ => none) (f_X10_year_B19 1000 188 (n32 n) (fun (x19 : Int32) (h20 : HP) => bnd (f_X10_faultOf h20 188 (n32 n) (n32 60) x19) (fun v22 => (if n32 0 ≤ v22 then bnd (f_X10_putsBy 1000 h20 188) (fun h26 => lp (fun _ _ => none) (f_X10_year_B64 1000 188 (fun (x39 : Int32) (h40 : HP) => lt_ (setI h40 188 1 (n32 0)) (fun h42 => jn (fun (y46 : Int32) => bnd (f_X10_flag y46) (fun v47 => bnd (f_X10_enters h42 188 (v47.toInt64)) (fun h50 => bnd (rK h50 188 9 102) (fun t54 => gP (ixd (n32 26) (lenH h50 t54) = true) (bnd (f_X10_enters h50 188 ((h50.2.1 t54 (n32 26).toNatClampNeg).toInt64)) (fun h60 => (if x39 ≤ n32 0 then some (n32 0, h60) else bnd2 (f_X10_adds 1000 h60 188 x39) (fun v65 h67 => some (v65, h67))))))))) (fun k45 => (if (h42.2.1 188 33) ≤ x39 then k45 (n32 0) else k45 (n32 1)))))) 1000 (n32 0) h26) else some (v22, h20))))) 1000 (n32 1) h') Q) → gd (f_X10_year 1000 h 188) Q := by
    intro Q K
    unfold f_X10_year
    rw [gP_p (by simp only [s.mod]), ltt_s, gd_bnd2]
    refine gd_mono (begins_m (s.fr f0) (tm.fr f0 (by decide)) hn (show 60 ≤ 80 by omega)) ?_
    rintro ⟨v, h1⟩ ⟨a1, a2, a3, a4, -⟩
    have a1' : v = n32 n := a1
    subst a1'
    have a2' : RM h1 t (min n 60) 0 := a2
    have a3' : TxM h1 t 0 := a3
    have s1 := (s.fr f0).fr a4
    have f1 : fr [40] h1 (setI h1 188 33 (n32 0)) := (fr.rf _ _).sI rfl
    exact K (setI h1 188 33 (n32 0)) (s1.fr f1) (a2'.ne (by omega) (by omega) (by omega)) (a3'.fr f1 (by decide)) ⟨sI_eq, fun j hj => absurd hj (Nat.not_lt_zero j)⟩ (((f0.mono (by decide)).tr (a4.mono (by decide))).tr (f1.mono (by decide)))
  refine ⟨fun bad => begin' _ (fun h1 s1 r1 t1 y1 f1 => ?_), fun ok => begin' _ (fun h1 s1 r1 t1 y1 f1 => ?_)⟩
  · have lq : lnQ (yL R) (min n 60) ≤ 60 := by unfold lnQ; split; omega; show R.2.1 ≤ 60; omega
    refine yr_m (N := 1000) (b := b) (c := c) (by omega) (show min n 60 ≤ 60 by omega) (fun i hi => tb i (by omega)) h1 R (fun h' gg hg s' r' m' f' e' => ?_) 61 0 1000 h1 (by omega) (by omega) (Nat.zero_le _) (by show 0 ≤ _; omega) s1 r1 y1 (fr.rf _ _) hR
    have fo := fault_m s' r' hn (show 60 ≤ 80 by omega) rfl k1 hg
    rw [fE gg e', if_neg bad] at fo
    rw [fo, bnd_s, if_neg (flt_neg (by omega))]
    exact gd_some.mpr ⟨rfl, t1.fr f' (by decide), f1.tr (f'.mono (by decide))⟩
  · obtain ⟨o1, o2, -⟩ := k3 ok.1
    have mn : min n 60 = n := by omega
    have zk := yE_ok (E := min n 60) (B := B) (F := F) hz R.2.2 0 r (fun j hj => o1 j (by omega)) (rb.mo (by omega)) zb (by rw [Nat.zero_add, o2]; omega)
    rw [hZ] at zk
    obtain ⟨-, zk1, zk2, zk3⟩ := zk
    have b26 := zk2.2.2.1
    have z60 : Z.1 ≤ 60 := by omega
    refine yr_m (N := 1000) (b := b) (c := c) (by omega) (show min n 60 ≤ 60 by omega) (fun i hi => tb i (by omega)) h1 R (fun h' gg hg s' r' m' f' e' => ?_) 61 0 1000 h1 (by omega) (by omega) (Nat.zero_le _) (by show 0 ≤ _; omega) s1 r1 y1 (fr.rf _ _) hR
    have fo := fault_m s' r' hn (show 60 ≤ 80 by omega) rfl k1 hg
    rw [fE gg e', if_pos ok] at fo
    rw [fo, bnd_s, if_pos (by decide), gd_bnd]
    have f2 : fr [50, 21, 40, 33] h h' := f1.tr (f'.mono (by decide))
    refine gd_mono (puts_m (by omega) hu s' (fun j hj => by rw [f2.ai [30] (by decide) 193 j rfl]; exact mr j hj) (by rw [f2.ai [26] (by decide) 188 25 rfl]; exact e)) ?_
    rintro h3 ⟨p1, p2, p3, f3⟩
    have f13 : fr [50, 21, 40, 33, 26] h h3 := (f2.mono (by decide)).tr (f3.mono (by decide))
    have s3 := s'.fr f3
    have yv := m' ok.1
    have y3 : YV t h3 R.2.2 := ⟨by rw [f3.ai [40] (by decide) 188 33 rfl]; exact yv.1, fun j hj => by
      obtain ⟨c1, c2, c3, c4⟩ := yv.2 j hj
      refine ⟨by rw [f3.ai [33] (by decide) 204 j rfl]; exact c1, fun z => by rw [f3.ai [33] (by decide) 205 j rfl]; exact c2 z, fun z => by rw [f3.ai [33] (by decide) 206 j rfl]; exact c3 z, fun z => ⟨by rw [f3.ai [33] (by decide) 206 j rfl]; exact (c4 z).1, by rw [f3.ai [33] (by decide) 207 j rfl]; exact (c4 z).2⟩⟩⟩
    refine ye_m (sz := sz) (E := min n 60) (cnt := R.2.2) (B := B) (F := F) (t := t) (b := b) (c := c) hz fb o1 k2 (by omega) hB h3 Z (fun h4 s4 m4 y4 f4 => ?_) R.2.2 0 1000 h3 r (by omega) (by omega) s3 (by rw [f13.ai [23] (by decide) 188 3 rfl]; exact z) (fun j hj => by rw [f13.ai [30] (by decide) 193 j rfl]; exact mr j hj) (mf.fr f13 (by decide)) y3 (rb.mo (by omega)) zb (fr.rf _ _) hZ
    have f14 : fr [50, 21, 40, 33, 26, 41, 47, 30] h h4 := (f13.mono (by decide)).tr (f4.mono (by decide))
    obtain ⟨m0, f5⟩ := rowM_0 (h := h4)
    have s5 := s4.fr f5
    have y5 : (setI h4 188 1 (n32 0)).2.1 188 33 = n32 R.2.2 := by rw [sI_ne (by omega)]; exact y4
    have fl : f_X10_flag (n32 Z.2.1) = some (n32 Z.2.1) := by
      rcases zk1 with ⟨w, -⟩ | ⟨w, -⟩ <;> rw [w] <;> decide
    have fy : (if n32 R.2.2 ≤ n32 Z.1 then n32 0 else n32 1) = n32 Z.2.1 := by
      rcases zk1 with ⟨w, w2⟩ | ⟨w, w2⟩
      · rw [w, if_pos (by rw [n32_le (by omega) (by omega)]; omega)]
      · rw [w, if_neg (by rw [n32_le (by omega) (by omega)]; omega)]
    have last : gd (bnd (f_X10_flag (n32 Z.2.1)) (fun v47 => bnd (f_X10_enters (setI h4 188 1 (n32 0)) 188 (v47.toInt64)) (fun h50 => bnd (rK h50 188 9 102) (fun t54 => gP (ixd (n32 26) (lenH h50 t54) = true) (bnd (f_X10_enters h50 188 ((h50.2.1 t54 (n32 26).toNatClampNeg).toInt64)) (fun h60 => (if n32 Z.1 ≤ n32 0 then some (n32 0, h60) else bnd2 (f_X10_adds 1000 h60 188 (n32 Z.1)) (fun v65 h67 => some (v65, h67))))))))) (fun p => p.1 = n32 Z.1 ∧ TxM p.2 t 0 ∧ MR p.2 193 Z.2.2 ∧ RowM p.2 (yl Z) ∧ fr [50, 21, 40, 33, 26, 30, 41, 47, 22] h p.2 ∧ (0 < Z.1 → PuM h p.2 u r) ∧ (Z.1 = 0 → p.2.2.1 188 25 = n32 u ∧ ∀ x, x < 28 * u → p.2.2.1 202 x = h.2.1 202 x)) := by
      rw [fl, bnd_s, gd_bnd]
      refine gd_mono (ent_m s5 m0 (by decide)) ?_
      rintro h6 ⟨r6, f6⟩
      have f46 : fr [22] h4 h6 := f5.tr f6
      have s6 := s4.fr f46
      have m26 : h6.2.1 193 26 = n32 (Z.2.2 26) := by rw [f46.ai [30] (by decide) 193 26 rfl]; exact m4 26 (by omega)
      rw [show rK h6 188 9 102 = some 193 from by simp only [s6.mod], bnd_s]
      simp -implicitDefEqProofs (disch := omega) only [gP_p, gP_t, n32_nat, n32_ix, s6.mod, m26]
      rw [gd_bnd]
      refine gd_mono (ent_m s6 r6 (by show 1 < 24; omega)) ?_
      rintro h7 ⟨r7, f7⟩
      have f47 : fr [22] h4 h7 := f46.tr f7
      have s7 := s4.fr f47
      have f37 : fr [41, 47, 30, 22] h3 h7 := (f4.mono (by decide)).tr (f47.mono (by decide))
      have f17 : fr [50, 21, 40, 33, 26, 30, 41, 47, 22] h h7 := (f14.mono (by decide)).tr (f47.mono (by decide))
      have u7 : h7.2.1 188 25 = n32 u := by rw [f37.ai [26] (by decide) 188 25 rfl]; exact p1
      have x7 : ∀ x, x < 28 * u → h7.2.1 202 x = h.2.1 202 x := fun x hx => by rw [f37.ai [26] (by decide) 202 x rfl, p2 x hx, f2.ai [26] (by decide) 202 x rfl]
      have n7 : ∀ j, j < 28 → h7.2.1 202 (28 * u + j) = n32 (r j) := fun j hj => by rw [f37.ai [26] (by decide) 202 _ rfl]; exact p3 j hj
      have t7 : TxM h7 t 0 := ((t1.fr f' (by decide)).fr f3 (by decide)).fr f37 (by decide)
      have m7 : MR h7 193 Z.2.2 := fun j hj => by rw [f47.ai [30] (by decide) 193 j rfl]; exact m4 j hj
      by_cases q : Z.1 ≤ 0
      · have q0 : Z.1 = 0 := by omega
        rw [if_pos (by rw [n32_le (by omega) (by omega)]; exact q)]
        exact gd_some.mpr ⟨by rw [q0], t7, m7, r7, f17, fun g => absurd g (by omega), fun _ => ⟨u7, x7⟩⟩
      · rw [if_neg (by rw [n32_le (by omega) (by omega)]; exact q), gd_bnd2]
        refine gd_mono (adds_m h hu s7 u7 x7 n7) ?_
        rintro ⟨v8, h8⟩ ⟨g1, g2, g3⟩
        have g3' : fr [26] h7 h8 := g3
        exact gd_some.mpr ⟨g1, t7.fr g3' (by decide), fun j hj => by rw [g3'.ai [30] (by decide) 193 j rfl]; exact m7 j hj, r7.fr g3' (by decide), f17.tr (g3'.mono (by decide)), fun _ => g2, fun g => absurd g (by omega)⟩
    rw [← fy] at last
    rw [ltt_s, jn_s, y5]
    by_cases q : n32 R.2.2 ≤ n32 Z.1
    · rw [if_pos q] at last ⊢
      exact last
    · rw [if_neg q] at last ⊢
      exact last
theorem op_year {k : Nat} (hk : k < 512) : ∀ (h : HP), Inv k h → ∃ (v : Int32) (h1 h2 : HP), f_X9_year 1000 h 0 = some (v, h1) ∧ f_X10_year 1000 h1 188 = some (v, h2) ∧ Inv (k + 1) h2 := by
  intro h I
  obtain ⟨b, c, sz, iv⟩ := I
  obtain ⟨a0, a1, a2, a3, a4, a5, a6, a7, a8, a9, a10⟩ := id iv
  obtain ⟨z1, z2, z3⟩ := id a1
  obtain ⟨t, n, hn, tb, tx, tm⟩ := a2
  obtain ⟨r, r1, r2, r3, r4⟩ := a4
  obtain ⟨F, f1, f2, f3⟩ := id a6
  obtain ⟨nx, u, pn, pe⟩ := id a8
  obtain ⟨p1, p2, p3, p4, p5⟩ := id pn
  obtain ⟨R, hR⟩ : ∃ R, yR t (min n 60) 61 0 = R := ⟨_, rfl⟩
  obtain ⟨Z, hZ⟩ : ∃ Z, yE sz F t R.2.2 0 r = Z := ⟨_, rfl⟩
  obtain ⟨X1, X2⟩ := yearX (B := 300 * k) a0 z1 f3 tx tb hn z2 r1 f1 r3 r4 (by omega) p2 p1 p3 p4 R hR Z hZ
  obtain ⟨k1, k2, k3⟩ := yR_ok (t := t) (E := min n 60) (by omega) 61 0 R (by omega) (Nat.zero_le _) (by show 0 ≤ _; omega) (fun j hj => absurd hj (Nat.not_lt_zero j)) hR
  by_cases q : R.1 = true ∧ n ≤ min n 60
  · obtain ⟨o1, o2, -⟩ := k3 q.1
    have zk := yE_ok (E := min n 60) (B := 300 * k) (F := F) z1 R.2.2 0 r (fun j hj => o1 j (by omega)) (r3.mo (by omega)) r4 (by rw [Nat.zero_add, o2]; omega)
    rw [hZ] at zk
    obtain ⟨-, zk1, zk2, zk3⟩ := zk
    obtain ⟨⟨v, h1⟩, x1, x2, x3, x4, x5, x6, x7, x8, x9⟩ := X2 q
    have x7' : fr [1, 2, 3, 4, 6] h h1 := x7
    obtain ⟨-, M2⟩ := yearM (B := 300 * k) (u := u) (F := F) (sz := sz) (r := r) (a0.fr x7') z1 f3 (tm.fr x7' (by decide)) tb hn (by rw [x7'.ai [23] (by decide) 188 3 rfl]; exact z3) (fun j hj => by rw [x7'.ai [30] (by decide) 193 j rfl]; exact r2 j hj) (f2.fr x7' (by decide)) r3 r4 (by omega) p1 (by rw [x7'.ai [26] (by decide) 188 25 rfl]; exact p5) R hR Z hZ
    obtain ⟨⟨v2, h2⟩, y1, y2, y3, y4, y5, y6, y7, y8⟩ := M2 q
    have y6' : fr [50, 21, 40, 33, 26, 30, 41, 47, 22] h1 h2 := y6
    have ev : v = v2 := x2.trans y2.symm
    subst ev
    have fA : fr [1, 2, 3, 4, 6, 50, 21, 40, 33, 26, 30, 41, 47, 22] h h2 := (x7'.mono (by decide)).tr (y6'.mono (by decide))
    have hB : 300 * k ≤ 300 * (k + 1) := by omega
    have x5' : h1.2.1 5 2 = n32 sz := x5
    have x4' : CR h1 5 Z.2.2 := x4
    have x6' : RowX h1 (yl Z) := x6
    have ex : ∀ a j, reg a j = 6 → h2.2.1 a j = h1.2.1 a j := fun a j e => y6'.ai [6] (by decide) a j (by rw [e]; rfl)
    have em : ∀ j, h1.2.1 202 j = h.2.1 202 j := fun j => x7'.ai [26] (by decide) 202 j rfl
    refine ⟨v, h1, h2, x1, y1, b, c, sz, a0.fr fA, ⟨z1, by rw [y6'.ai [3] (by decide) 5 2 rfl]; exact x5', by rw [fA.ai [23] (by decide) 188 3 rfl]; exact z3⟩, ⟨t, 0, by omega, fun i hi => absurd hi (Nat.not_lt_zero i), TxX.fr x3 y6' (by decide), y3⟩, ⟨yl Z, x6'.fr y6' (by decide), y5⟩, ⟨Z.2.2, cr_frc x4' rfl (by omega) rc5 y6' (by decide), y4, zk2.mo (by omega), zk3⟩, a5.fr fA (by decide), a6.fr fA (by cases b <;> decide), a7.fr fA (by cases c <;> decide), ?_, (a9.fr fA (by decide)).mo hB, a10.fr fA (by decide)⟩
    by_cases g : Z.1 = 0
    · have x9' : fr [1, 2, 3, 4] h h1 := x9 g
      refine pas_keep hB pn pe (fun a j e => ?_) (y8 g).1 (fun x hx => by rw [(y8 g).2 x hx, em])
      rw [ex a j e]
      exact x9'.ai [6] (by decide) a j (by rw [e]; rfl)
    · exact pas_push hB pn pe (r3.mo hB) r4 (x8 (by omega)) ex em (y7 (by omega))
  · obtain ⟨⟨v, h1⟩, x1, x2, x3, x4⟩ := X1 q
    have x4' : fr [1] h h1 := x4
    obtain ⟨M1, -⟩ := yearM (B := 300 * k) (u := u) (F := F) (sz := sz) (r := r) (a0.fr x4') z1 f3 (tm.fr x4' (by decide)) tb hn (by rw [x4'.ai [23] (by decide) 188 3 rfl]; exact z3) (fun j hj => by rw [x4'.ai [30] (by decide) 193 j rfl]; exact r2 j hj) (f2.fr x4' (by decide)) r3 r4 (by omega) p1 (by rw [x4'.ai [26] (by decide) 188 25 rfl]; exact p5) R hR Z hZ
    obtain ⟨⟨v2, h2⟩, y1, y2, y3, y4⟩ := M1 q
    have ev : v = v2 := x2.trans y2.symm
    subst ev
    have fA : fr [1, 50, 21, 40, 33] h h2 := (x4'.mono (by decide)).tr (y4.mono (by decide))
    exact ⟨v, h1, h2, x1, y1, Iv.up (iv.tx (fA.mono (by decide)) (a3.fr fA (by decide)) ⟨t, 0, by omega, fun i hi => absurd hi (Nat.not_lt_zero i), TxX.fr x3 y4 (by decide), y3⟩)⟩
