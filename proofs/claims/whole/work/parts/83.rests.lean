/-! ===== rests ===== -/
def isB (v x y : Nat) : Bool := decide (f_X9_isBestAgainst 200 (n32 x) (n32 y) (n32 v) = some 1)
def rsk (v x y : Nat) : Bool := decide (f_X9_isBestAgainst 200 (n32 x) (n32 y) (n32 v) = some 1 ∨ f_X9_isBestAgainst 200 (n32 x) (n32 y) (n32 v) = some 0) && decide (f_X10_isRest 200 (n32 x) (n32 y) (n32 v) = f_X9_isBestAgainst 200 (n32 x) (n32 y) (n32 v))
theorem rsk_a : ∀ v, v < 10 → ∀ x, x < 10 → ∀ y, y < 10 → rsk v x y = true := by decide +kernel
theorem isB_x {v x y : Nat} (hv : v ≤ 9) (hx : x ≤ 9) (hy : y ≤ 9) : f_X9_isBestAgainst 200 (n32 x) (n32 y) (n32 v) = some (n32 (if isB v x y = true then 1 else 0)) ∧ f_X10_isRest 200 (n32 x) (n32 y) (n32 v) = some (n32 (if isB v x y = true then 1 else 0)) := by
  have e := rsk_a v (by omega) x (by omega) y (by omega)
  simp only [rsk, Bool.and_eq_true, decide_eq_true_eq] at e
  obtain ⟨e1, e2⟩ := e
  rw [e2]
  unfold isB
  rcases e1 with e | e
  · rw [e]
    exact ⟨rfl, rfl⟩
  · rw [e]
    exact ⟨rfl, rfl⟩
abbrev RP : Type := Nat × List Int64
def rsI (v x : Nat) : Nat → Nat → RP → RP
  | 0, _, p => p
  | d + 1, y, p => rsI v x d (y + 1) (if isB v x y = true ∧ isB v y x = true then (p.1 + 1, if p.1 = 0 then [(n32 x).toInt64, (n32 y).toInt64] else p.2) else p)
def rsO (v : Nat) : Nat → Nat → RP → RP
  | 0, _, p => p
  | d + 1, x, p => rsO v d (x + 1) (rsI v x 10 0 p)
def rsP (p : RP) (m : Nat) : Prop := p.1 ≤ m ∧ (p.1 = 0 → p.2 = [])
theorem rsI_P {v x : Nat} : ∀ d y p m, rsP p m → rsP (rsI v x d y p) (m + d) := by
  intro d
  induction d with
  | zero => intro y p m h; exact h
  | succ d ih =>
    intro y p m h
    obtain ⟨h1, h2⟩ := id h
    show rsP (rsI v x d (y + 1) (if isB v x y = true ∧ isB v y x = true then (p.1 + 1, if p.1 = 0 then [(n32 x).toInt64, (n32 y).toInt64] else p.2) else p)) (m + (d + 1))
    rw [show m + (d + 1) = (m + 1) + d by omega]
    refine ih _ _ _ ?_
    split
    · exact ⟨by show p.1 + 1 ≤ m + 1; omega, fun z => by have z' : p.1 + 1 = 0 := z; omega⟩
    · exact ⟨by omega, h2⟩
theorem rsI_x {v x : Nat} {b c : Bool} {k : Int32 → HP → Option (Int32 × HP)} {Q : Int32 × HP → Prop} (hv : v ≤ 9) (hx : x ≤ 9) (h0 : HP) (E : RP) (K : ∀ h', SH b c h' → RowX h' E.2 → fr [2] h0 h' → gd (k (n32 E.1) h') Q) : ∀ (d y fuel : Nat) (h : HP) (p : RP), y + d = 10 → d < fuel → SH b c h → RowX h p.2 → fr [2] h0 h → p.1 ≤ 1000 + y → rsI v x d y p = E → gd (lp (fun _ _ _ => none) (f_X9_rests_B32 200 0 (n32 v) (n32 x) k) fuel (n32 p.1) (n32 y) h) Q := by
  intro d
  induction d with
  | zero =>
    intro y fuel h p hy hf s rx f hp hE
    obtain ⟨k', rfl⟩ : ∃ k, fuel = k + 1 := ⟨fuel - 1, by omega⟩
    have e : 9 < y := by omega
    have hE' : p = E := hE
    subst hE'
    rw [lp_s, f_X9_rests_B32]
    simp -implicitDefEqProofs (disch := omega) only [gP_p, gP_t, bnd_s, bnd2_s, ltt_s, jn_s, n32_nat, n32_le, n32_lt, n32_eq, n32_add, n32_sub, n32_dec, n32_mul, n32_div, n32_irm, n32_lit, n32_oN, n32_ix, n32_m1, n32_m2, neg_le0, neg_lt0, neg_lt1, neg_le1, n32_min, n32_max, if_true, if_false, Nat.one_ne_zero, gd_some, true_or, or_true, false_or, or_false, e]
    exact K h s rx f
  | succ d ih =>
    intro y fuel h p hy hf s rx f hp hE
    obtain ⟨k', rfl⟩ : ∃ k, fuel = k + 1 := ⟨fuel - 1, by omega⟩
    have e : ¬ 9 < y := by omega
    have i1 := (isB_x hv hx (show y ≤ 9 by omega)).1
    have i2 := (isB_x hv (show y ≤ 9 by omega) hx).1
    have hE' : rsI v x d (y + 1) (if isB v x y = true ∧ isB v y x = true then (p.1 + 1, if p.1 = 0 then [(n32 x).toInt64, (n32 y).toInt64] else p.2) else p) = E := hE
    rw [lp_s, f_X9_rests_B32]
    by_cases q1 : isB v x y = true
    · by_cases q2 : isB v y x = true
      · rw [if_pos ⟨q1, q2⟩] at hE'
        rw [if_pos q1] at i1
        rw [if_pos q2] at i2
        by_cases q3 : p.1 = 0
        · rw [if_pos q3] at hE'
          simp -implicitDefEqProofs (disch := omega) only [gP_p, gP_t, bnd_s, bnd2_s, ltt_s, jn_s, n32_nat, n32_le, n32_lt, n32_eq, n32_add, n32_sub, n32_dec, n32_mul, n32_div, n32_irm, n32_lit, n32_oN, n32_ix, n32_m1, n32_m2, neg_le0, neg_lt0, neg_lt1, neg_le1, n32_min, n32_max, if_true, if_false, Nat.one_ne_zero, gd_some, true_or, or_true, false_or, or_false, e, i1, i2, q3, s.root, gd_bnd]
          refine gd_mono (tell2_x s) ?_
          rintro g ⟨t1, t2⟩
          have nx := ih (y + 1) k' g (p.1 + 1, [(n32 x).toInt64, (n32 y).toInt64]) (by omega) (by omega) (s.fr t2) t1 (f.tr t2) (by show p.1 + 1 ≤ 1000 + (y + 1); omega) hE'
          simp -implicitDefEqProofs (disch := omega) only [q3] at nx
          exact nx
        · rw [if_neg q3] at hE'
          simp -implicitDefEqProofs (disch := omega) only [gP_p, gP_t, bnd_s, bnd2_s, ltt_s, jn_s, n32_nat, n32_le, n32_lt, n32_eq, n32_add, n32_sub, n32_dec, n32_mul, n32_div, n32_irm, n32_lit, n32_oN, n32_ix, n32_m1, n32_m2, neg_le0, neg_lt0, neg_lt1, neg_le1, n32_min, n32_max, if_true, if_false, Nat.one_ne_zero, gd_some, true_or, or_true, false_or, or_false, e, i1, i2, q3]
          exact ih (y + 1) k' h (p.1 + 1, p.2) (by omega) (by omega) s rx f (by show p.1 + 1 ≤ 1000 + (y + 1); omega) hE'
      · rw [if_neg (fun z => q2 z.2)] at hE'
        rw [if_pos q1] at i1
        rw [if_neg q2] at i2
        simp -implicitDefEqProofs (disch := omega) only [gP_p, gP_t, bnd_s, bnd2_s, ltt_s, jn_s, n32_nat, n32_le, n32_lt, n32_eq, n32_add, n32_sub, n32_dec, n32_mul, n32_div, n32_irm, n32_lit, n32_oN, n32_ix, n32_m1, n32_m2, neg_le0, neg_lt0, neg_lt1, neg_le1, n32_min, n32_max, if_true, if_false, Nat.one_ne_zero, gd_some, true_or, or_true, false_or, or_false, e, i1, i2]
        exact ih (y + 1) k' h p (by omega) (by omega) s rx f (by omega) hE'
    · rw [if_neg (fun z => q1 z.1)] at hE'
      rw [if_neg q1] at i1
      simp -implicitDefEqProofs (disch := omega) only [gP_p, gP_t, bnd_s, bnd2_s, ltt_s, jn_s, n32_nat, n32_le, n32_lt, n32_eq, n32_add, n32_sub, n32_dec, n32_mul, n32_div, n32_irm, n32_lit, n32_oN, n32_ix, n32_m1, n32_m2, neg_le0, neg_lt0, neg_lt1, neg_le1, n32_min, n32_max, if_true, if_false, Nat.one_ne_zero, gd_some, true_or, or_true, false_or, or_false, e, i1]
      exact ih (y + 1) k' h p (by omega) (by omega) s rx f (by omega) hE'
theorem rsO_x {v : Nat} {b c : Bool} (hv : v ≤ 9) (h0 : HP) (E : RP) : ∀ (d x fuel : Nat) (h : HP) (p : RP), x + d = 10 → d < fuel → SH b c h → RowX h p.2 → fr [2] h0 h → rsP p (10 * x) → rsO v d x p = E → gd (lp (fun _ _ _ => none) (f_X9_rests_B23 200 0 (n32 v)) fuel (n32 p.1) (n32 x) h) (fun q => q.1 = n32 E.1 ∧ RowX q.2 E.2 ∧ fr [2] h0 q.2) := by
  intro d
  induction d with
  | zero =>
    intro x fuel h p hy hf s rx f hp hE
    obtain ⟨k', rfl⟩ : ∃ k, fuel = k + 1 := ⟨fuel - 1, by omega⟩
    have e : 9 < x := by omega
    have hE' : p = E := hE
    subst hE'
    rw [lp_s, f_X9_rests_B23]
    simp -implicitDefEqProofs (disch := omega) only [gP_p, gP_t, bnd_s, bnd2_s, ltt_s, jn_s, n32_nat, n32_le, n32_lt, n32_eq, n32_add, n32_sub, n32_dec, n32_mul, n32_div, n32_irm, n32_lit, n32_oN, n32_ix, n32_m1, n32_m2, neg_le0, neg_lt0, neg_lt1, neg_le1, n32_min, n32_max, if_true, if_false, Nat.one_ne_zero, gd_some, true_or, or_true, false_or, or_false, e]
    exact ⟨trivial, rx, f⟩
  | succ d ih =>
    intro x fuel h p hy hf s rx f hp hE
    obtain ⟨k', rfl⟩ : ∃ k, fuel = k + 1 := ⟨fuel - 1, by omega⟩
    have e : ¬ 9 < x := by omega
    have hE' : rsO v d (x + 1) (rsI v x 10 0 p) = E := hE
    rw [lp_s, f_X9_rests_B23]
    simp -implicitDefEqProofs (disch := omega) only [gP_p, gP_t, bnd_s, bnd2_s, ltt_s, jn_s, n32_nat, n32_le, n32_lt, n32_eq, n32_add, n32_sub, n32_dec, n32_mul, n32_div, n32_irm, n32_lit, n32_oN, n32_ix, n32_m1, n32_m2, neg_le0, neg_lt0, neg_lt1, neg_le1, n32_min, n32_max, if_true, if_false, Nat.one_ne_zero, gd_some, true_or, or_true, false_or, or_false, e]
    refine rsI_x hv (show x ≤ 9 by omega) h0 (rsI v x 10 0 p) (fun g s1 r1 f1 => ?_) 10 0 200 h p (by omega) (by omega) s rx f (by have := hp.1; omega) rfl
    exact ih (x + 1) k' g _ (by omega) (by omega) s1 r1 f1 (by have := rsI_P (v := v) (x := x) 10 0 p _ hp; rw [show 10 * (x + 1) = 10 * x + 10 by omega]; exact this) hE'
theorem rsI_m {v x : Nat} {b c : Bool} {k : Int32 → HP → Option (Int32 × HP)} {Q : Int32 × HP → Prop} (hv : v ≤ 9) (hx : x ≤ 9) (h0 : HP) (E : RP) (K : ∀ h', SH b c h' → RowM h' E.2 → fr [22] h0 h' → gd (k (n32 E.1) h') Q) : ∀ (d y fuel : Nat) (h : HP) (p : RP), y + d = 10 → d < fuel → SH b c h → RowM h p.2 → fr [22] h0 h → rsP p (1000 + y) → rsI v x d y p = E → gd (lp (fun _ _ _ => none) (f_X10_rests_B37 200 188 (n32 v) (n32 x) k) fuel (n32 p.1) (n32 y) h) Q := by
  intro d
  induction d with
  | zero =>
    intro y fuel h p hy hf s rx f hp hE
    obtain ⟨k', rfl⟩ : ∃ k, fuel = k + 1 := ⟨fuel - 1, by omega⟩
    have e : 9 < y := by omega
    have hE' : p = E := hE
    subst hE'
    rw [lp_s, f_X10_rests_B37]
    simp -implicitDefEqProofs (disch := omega) only [gP_p, gP_t, bnd_s, bnd2_s, ltt_s, jn_s, n32_nat, n32_le, n32_lt, n32_eq, n32_add, n32_sub, n32_dec, n32_mul, n32_div, n32_irm, n32_lit, n32_oN, n32_ix, n32_m1, n32_m2, neg_le0, neg_lt0, neg_lt1, neg_le1, n32_min, n32_max, if_true, if_false, Nat.one_ne_zero, gd_some, true_or, or_true, false_or, or_false, e]
    exact K h s rx f
  | succ d ih =>
    intro y fuel h p hy hf s rx f hp hE
    obtain ⟨k', rfl⟩ : ∃ k, fuel = k + 1 := ⟨fuel - 1, by omega⟩
    have e : ¬ 9 < y := by omega
    obtain ⟨hp1, hp2⟩ := id hp
    have i1 := (isB_x hv hx (show y ≤ 9 by omega)).2
    have i2 := (isB_x hv (show y ≤ 9 by omega) hx).2
    have hE' : rsI v x d (y + 1) (if isB v x y = true ∧ isB v y x = true then (p.1 + 1, if p.1 = 0 then [(n32 x).toInt64, (n32 y).toInt64] else p.2) else p) = E := hE
    rw [lp_s, f_X10_rests_B37]
    by_cases q1 : isB v x y = true
    · by_cases q2 : isB v y x = true
      · rw [if_pos ⟨q1, q2⟩] at hE'
        rw [if_pos q1] at i1
        rw [if_pos q2] at i2
        by_cases q3 : p.1 = 0
        · rw [if_pos q3] at hE'
          rw [hp2 q3] at rx
          simp -implicitDefEqProofs (disch := omega) only [gP_p, gP_t, bnd_s, bnd2_s, ltt_s, jn_s, n32_nat, n32_le, n32_lt, n32_eq, n32_add, n32_sub, n32_dec, n32_mul, n32_div, n32_irm, n32_lit, n32_oN, n32_ix, n32_m1, n32_m2, neg_le0, neg_lt0, neg_lt1, neg_le1, n32_min, n32_max, if_true, if_false, Nat.one_ne_zero, gd_some, true_or, or_true, false_or, or_false, e, i1, i2, q3, gd_bnd]
          refine gd_mono (ent_m s rx (by show 0 < 24; omega)) ?_
          rintro g1 ⟨t1, t2⟩
          refine gd_mono (ent_m (s.fr t2) t1 (by show 1 < 24; omega)) ?_
          rintro g ⟨t3, t4⟩
          have nx := ih (y + 1) k' g (p.1 + 1, [(n32 x).toInt64, (n32 y).toInt64]) (by omega) (by omega) ((s.fr t2).fr t4) t3 ((f.tr t2).tr t4) ⟨by show p.1 + 1 ≤ 1000 + (y + 1); omega, fun z => by have z' : p.1 + 1 = 0 := z; omega⟩ hE'
          simp -implicitDefEqProofs (disch := omega) only [q3] at nx
          exact nx
        · rw [if_neg q3] at hE'
          simp -implicitDefEqProofs (disch := omega) only [gP_p, gP_t, bnd_s, bnd2_s, ltt_s, jn_s, n32_nat, n32_le, n32_lt, n32_eq, n32_add, n32_sub, n32_dec, n32_mul, n32_div, n32_irm, n32_lit, n32_oN, n32_ix, n32_m1, n32_m2, neg_le0, neg_lt0, neg_lt1, neg_le1, n32_min, n32_max, if_true, if_false, Nat.one_ne_zero, gd_some, true_or, or_true, false_or, or_false, e, i1, i2, q3]
          exact ih (y + 1) k' h (p.1 + 1, p.2) (by omega) (by omega) s rx f ⟨by show p.1 + 1 ≤ 1000 + (y + 1); omega, fun z => by have z' : p.1 + 1 = 0 := z; omega⟩ hE'
      · rw [if_neg (fun z => q2 z.2)] at hE'
        rw [if_pos q1] at i1
        rw [if_neg q2] at i2
        simp -implicitDefEqProofs (disch := omega) only [gP_p, gP_t, bnd_s, bnd2_s, ltt_s, jn_s, n32_nat, n32_le, n32_lt, n32_eq, n32_add, n32_sub, n32_dec, n32_mul, n32_div, n32_irm, n32_lit, n32_oN, n32_ix, n32_m1, n32_m2, neg_le0, neg_lt0, neg_lt1, neg_le1, n32_min, n32_max, if_true, if_false, Nat.one_ne_zero, gd_some, true_or, or_true, false_or, or_false, e, i1, i2]
        exact ih (y + 1) k' h p (by omega) (by omega) s rx f ⟨by omega, hp2⟩ hE'
    · rw [if_neg (fun z => q1 z.1)] at hE'
      rw [if_neg q1] at i1
      simp -implicitDefEqProofs (disch := omega) only [gP_p, gP_t, bnd_s, bnd2_s, ltt_s, jn_s, n32_nat, n32_le, n32_lt, n32_eq, n32_add, n32_sub, n32_dec, n32_mul, n32_div, n32_irm, n32_lit, n32_oN, n32_ix, n32_m1, n32_m2, neg_le0, neg_lt0, neg_lt1, neg_le1, n32_min, n32_max, if_true, if_false, Nat.one_ne_zero, gd_some, true_or, or_true, false_or, or_false, e, i1]
      exact ih (y + 1) k' h p (by omega) (by omega) s rx f ⟨by omega, hp2⟩ hE'
theorem rsO_m {v : Nat} {b c : Bool} (hv : v ≤ 9) (h0 : HP) (E : RP) : ∀ (d x fuel : Nat) (h : HP) (p : RP), x + d = 10 → d < fuel → SH b c h → RowM h p.2 → fr [22] h0 h → rsP p (10 * x) → rsO v d x p = E → gd (lp (fun _ _ _ => none) (f_X10_rests_B28 200 188 (n32 v)) fuel (n32 p.1) (n32 x) h) (fun q => q.1 = n32 E.1 ∧ RowM q.2 E.2 ∧ fr [22] h0 q.2) := by
  intro d
  induction d with
  | zero =>
    intro x fuel h p hy hf s rx f hp hE
    obtain ⟨k', rfl⟩ : ∃ k, fuel = k + 1 := ⟨fuel - 1, by omega⟩
    have e : 9 < x := by omega
    have hE' : p = E := hE
    subst hE'
    rw [lp_s, f_X10_rests_B28]
    simp -implicitDefEqProofs (disch := omega) only [gP_p, gP_t, bnd_s, bnd2_s, ltt_s, jn_s, n32_nat, n32_le, n32_lt, n32_eq, n32_add, n32_sub, n32_dec, n32_mul, n32_div, n32_irm, n32_lit, n32_oN, n32_ix, n32_m1, n32_m2, neg_le0, neg_lt0, neg_lt1, neg_le1, n32_min, n32_max, if_true, if_false, Nat.one_ne_zero, gd_some, true_or, or_true, false_or, or_false, e]
    exact ⟨trivial, rx, f⟩
  | succ d ih =>
    intro x fuel h p hy hf s rx f hp hE
    obtain ⟨k', rfl⟩ : ∃ k, fuel = k + 1 := ⟨fuel - 1, by omega⟩
    have e : ¬ 9 < x := by omega
    have hE' : rsO v d (x + 1) (rsI v x 10 0 p) = E := hE
    rw [lp_s, f_X10_rests_B28]
    simp -implicitDefEqProofs (disch := omega) only [gP_p, gP_t, bnd_s, bnd2_s, ltt_s, jn_s, n32_nat, n32_le, n32_lt, n32_eq, n32_add, n32_sub, n32_dec, n32_mul, n32_div, n32_irm, n32_lit, n32_oN, n32_ix, n32_m1, n32_m2, neg_le0, neg_lt0, neg_lt1, neg_le1, n32_min, n32_max, if_true, if_false, Nat.one_ne_zero, gd_some, true_or, or_true, false_or, or_false, e]
    refine rsI_m hv (show x ≤ 9 by omega) h0 (rsI v x 10 0 p) (fun g s1 r1 f1 => ?_) 10 0 200 h p (by omega) (by omega) s rx f ⟨by have := hp.1; omega, hp.2⟩ rfl
    exact ih (x + 1) k' g _ (by omega) (by omega) s1 r1 f1 (by have := rsI_P (v := v) (x := x) 10 0 p _ hp; rw [show 10 * (x + 1) = 10 * x + 10 by omega]; exact this) hE'
theorem op_rests {k : Nat} (hk : k < 512) : ∀ (h : HP) (a1 : Int32), Inv k h → ∃ (v : Int32) (h1 h2 : HP), f_X9_rests 200 h 0 a1 = some (v, h1) ∧ f_X10_rests 200 h1 188 a1 = some (v, h2) ∧ Inv (k + 1) h2 := by
  intro h x1 I
  by_cases q1 : 0 ≤ x1.toInt ∧ x1.toInt ≤ 9
  · obtain ⟨v, -, hv, rfl⟩ := n32_of2 (lo := 0) (hi := 9) q1.1 q1.2
    have w1 : f_X9_within (n32 v) (n32 0) (n32 9) = some (n32 1) := within_y q1
    have m1 : f_X10_in (n32 v).toInt64 0 9 = some (n32 1) := in_y rfl rfl q1
    have P0 : rsP (0, []) (10 * 0) := ⟨Nat.le_refl _, fun _ => rfl⟩
    refine t_op (v := n32 (rsO v 10 0 (0, [])).1) (l := (rsO v 10 0 (0, [])).2) (fX := fun h => f_X9_rests 200 h 0 (n32 v)) (fM := fun h => f_X10_rests 200 h 188 (n32 v)) I (fun b c s => ?_) (fun b c g s => ?_)
    · obtain ⟨y1, y2, y3⟩ := rowX_0 s
      have key := rsO_x hv h _ 10 0 200 (setI h 3 1 (n32 0)) (0, []) (by omega) (by omega) (s.fr y3) y2 y3 P0 rfl
      show gd (f_X9_rests 200 h 0 (n32 v)) _
      unfold f_X9_rests
      rw [gP_p (by simp only [s.root])]
      simp -implicitDefEqProofs (disch := omega) only [gP_p, gP_t, bnd_s, bnd2_s, ltt_s, jn_s, n32_nat, n32_le, n32_lt, n32_eq, n32_add, n32_sub, n32_dec, n32_mul, n32_div, n32_irm, n32_lit, n32_oN, n32_ix, n32_m1, n32_m2, neg_le0, neg_lt0, neg_lt1, neg_le1, n32_min, n32_max, if_true, if_false, Nat.one_ne_zero, gd_some, true_or, or_true, false_or, or_false, w1, s.root, y1]
      exact key
    · have f0 : fr [50] g (setI g 188 0 (n32 0)) := (fr.rf _ _).sI rfl
      obtain ⟨y1, y2⟩ := rowM_0 (h := setI g 188 0 (n32 0))
      have key := rsO_m hv (setI g 188 0 (n32 0)) _ 10 0 200 _ (0, []) (by omega) (by omega) ((s.fr f0).fr y2) y1 y2 P0 rfl
      show gd (f_X10_rests 200 g 188 (n32 v)) _
      unfold f_X10_rests
      rw [gP_p (by simp only [s.mod])]
      simp -implicitDefEqProofs (disch := omega) only [gP_p, gP_t, bnd_s, bnd2_s, ltt_s, jn_s, n32_nat, n32_le, n32_lt, n32_eq, n32_add, n32_sub, n32_dec, n32_mul, n32_div, n32_irm, n32_lit, n32_oN, n32_ix, n32_m1, n32_m2, neg_le0, neg_lt0, neg_lt1, neg_le1, n32_min, n32_max, if_true, if_false, Nat.one_ne_zero, gd_some, true_or, or_true, false_or, or_false, m1]
      refine gd_mono key ?_
      rintro p ⟨e1, e2, e3⟩
      exact ⟨e1, e2, (f0.mono (by decide)).tr (e3.mono (by decide))⟩
  · have w1 : f_X9_within x1 (n32 0) (n32 9) = some (n32 0) := within_n q1
    have m1 : f_X10_in x1.toInt64 0 9 = some (n32 0) := in_n rfl rfl q1
    refine n_op (v := -n32 1) (fX := fun h => f_X9_rests 200 h 0 x1) (fM := fun h => f_X10_rests 200 h 188 x1) I (fun b c s => ?_) (fun b c s => ?_)
    · show f_X9_rests 200 h 0 x1 = _
      unfold f_X9_rests
      rw [gP_p (by simp only [s.root])]
      simp -implicitDefEqProofs (disch := omega) only [gP_p, gP_t, bnd_s, bnd2_s, ltt_s, jn_s, n32_nat, n32_le, n32_lt, n32_eq, n32_add, n32_sub, n32_dec, n32_mul, n32_div, n32_irm, n32_lit, n32_oN, n32_ix, n32_m1, n32_m2, neg_le0, neg_lt0, neg_lt1, neg_le1, n32_min, n32_max, if_true, if_false, Nat.one_ne_zero, gd_some, true_or, or_true, false_or, or_false, w1]
    · show f_X10_rests 200 h 188 x1 = _
      unfold f_X10_rests
      rw [gP_p (by simp only [s.mod])]
      simp -implicitDefEqProofs (disch := omega) only [gP_p, gP_t, bnd_s, bnd2_s, ltt_s, jn_s, n32_nat, n32_le, n32_lt, n32_eq, n32_add, n32_sub, n32_dec, n32_mul, n32_div, n32_irm, n32_lit, n32_oN, n32_ix, n32_m1, n32_m2, neg_le0, neg_lt0, neg_lt1, neg_le1, n32_min, n32_max, if_true, if_false, Nat.one_ne_zero, gd_some, true_or, or_true, false_or, or_false, m1]
