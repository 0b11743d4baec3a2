/-! ===== one sign of several; ships ===== -/
def fiL (bs : List Nat) (s : Nat) : Nat → Nat → Nat
  | 0, i => i
  | d + 1, i => if bs.getD i 0 = s then i else fiL bs s d (i + 1)
def fi (bs : List Nat) (s : Nat) : Nat := fiL bs s bs.length 0
def STR (x : Nat) (bs : List Nat) : Prop := bs.length ≤ 8 ∧ f_J0_length_8abf5 x = some (n32 bs.length) ∧ ∀ i, i < bs.length → f_J0_charAt_5068e x (n32 i) = some (n32 (bs.getD i 0)) ∧ bs.getD i 0 < 256
theorem str_on : STR (SB + 10) [111, 110] := ⟨by decide, by decide +kernel, by decide +kernel⟩
theorem fiL_le {bs : List Nat} {s : Nat} : ∀ d i, i ≤ fiL bs s d i ∧ fiL bs s d i ≤ i + d := by
  intro d
  induction d with
  | zero => intro i; exact ⟨Nat.le_refl _, Nat.le_refl _⟩
  | succ d ih =>
    intro i
    have := ih (i + 1)
    show i ≤ (if bs.getD i 0 = s then i else fiL bs s d (i + 1)) ∧ (if bs.getD i 0 = s then i else fiL bs s d (i + 1)) ≤ i + (d + 1)
    split <;> omega
def foV (bs : List Nat) (s : Nat) : Int32 := if fi bs s = bs.length then -n32 1 else n32 (fi bs s)
theorem tko_l {t : Nat → Nat} {N E p x : Nat} {bs : List Nat} {b c : Bool} {h : HP} {k : Int32 → Option (Int32 × HP)} {Q : Int32 × HP → Prop} (st : STR x bs) (s : SH b c h) (r : RM h t E p) (hE : E ≤ 80) (hq : p < E) (tb : ∀ i, i < E → t i < 256) (K1 : fi bs (t p) = bs.length → Q (-n32 1, h)) (K2 : fi bs (t p) < bs.length → gd (k (n32 (fi bs (t p)))) Q) : ∀ (d i fuel : Nat), i + d = bs.length → d < fuel → fiL bs (t p) d i = fi bs (t p) → gd (lp (fun _ => none) (f_X10_takesOf_B2 N 188 x h k) fuel (n32 i)) Q := by
  obtain ⟨st0, st1, st2⟩ := st
  obtain ⟨r1, r2, r3⟩ := r
  intro d
  induction d with
  | zero =>
    intro i fuel hi hf he
    obtain ⟨k', rfl⟩ : ∃ k, fuel = k + 1 := ⟨fuel - 1, by omega⟩
    have e : i = bs.length := by omega
    subst e
    rw [lp_s, f_X10_takesOf_B2]
    simp -implicitDefEqProofs (disch := omega) only [gP_p, gP_t, bnd_s, bnd2_s, ltt_s, jn_s, n32_nat, n32_le, n32_lt, n32_eq, n32_add, n32_sub, n32_dec, n32_mul, n32_div, n32_irm, n32_lit, n32_oN, n32_ix, n32_m1, n32_m2, neg_le0, neg_lt0, neg_lt1, neg_le1, n32_min, n32_max, if_true, if_false, Nat.one_ne_zero, gd_some, true_or, or_true, false_or, or_false, st1, Nat.le_refl]
    exact K1 he.symm
  | succ d ih =>
    intro i fuel hi hf he
    obtain ⟨k', rfl⟩ : ∃ k, fuel = k + 1 := ⟨fuel - 1, by omega⟩
    have e : ¬ bs.length ≤ i := by omega
    have e2 : ¬ E ≤ p := by omega
    obtain ⟨c1, c2⟩ := st2 i (by omega)
    have w := r3 p hq
    have wb := tb p hq
    have he' : (if bs.getD i 0 = t p then i else fiL bs (t p) d (i + 1)) = fi bs (t p) := he
    rw [lp_s, f_X10_takesOf_B2]
    by_cases q : bs.getD i 0 = t p
    · rw [if_pos q] at he'
      simp -implicitDefEqProofs (disch := omega) only [gP_p, gP_t, bnd_s, bnd2_s, ltt_s, jn_s, n32_nat, n32_le, n32_lt, n32_eq, n32_add, n32_sub, n32_dec, n32_mul, n32_div, n32_irm, n32_lit, n32_oN, n32_ix, n32_m1, n32_m2, neg_le0, neg_lt0, neg_lt1, neg_le1, n32_min, n32_max, if_true, if_false, Nat.one_ne_zero, gd_some, true_or, or_true, false_or, or_false, st1, e, r1, r2, e2, c1, s.mod, w, q]
      have := K2 (by omega)
      rw [← he'] at this
      exact this
    · rw [if_neg q] at he'
      simp -implicitDefEqProofs (disch := omega) only [gP_p, gP_t, bnd_s, bnd2_s, ltt_s, jn_s, n32_nat, n32_le, n32_lt, n32_eq, n32_add, n32_sub, n32_dec, n32_mul, n32_div, n32_irm, n32_lit, n32_oN, n32_ix, n32_m1, n32_m2, neg_le0, neg_lt0, neg_lt1, neg_le1, n32_min, n32_max, if_true, if_false, Nat.one_ne_zero, gd_some, true_or, or_true, false_or, or_false, st1, e, r1, r2, e2, c1, s.mod, w, q]
      exact ih (i + 1) k' (by omega) (by omega) he'
theorem tko_m {t : Nat → Nat} {N E p x : Nat} {bs : List Nat} {b c : Bool} {h : HP} (hN : 10 < N) (st : STR x bs) (s : SH b c h) (r : RM h t E p) (hE : E ≤ 80) (hp : p ≤ E) (tb : ∀ i, i < E → t i < 256) : gd (f_X10_takesOf N h 188 x) (fun q => (p < E → fi bs (t p) < bs.length → q.1 = n32 (fi bs (t p)) ∧ q.2 = setI h 188 13 (n32 (p + 1))) ∧ (¬ (p < E ∧ fi bs (t p) < bs.length) → q.1 = -n32 1 ∧ q.2 = h)) := by
  have fl := (fiL_le (bs := bs) (s := t p) bs.length 0).2
  have r1 := r.1
  unfold f_X10_takesOf
  rw [gP_p (by simp only [s.mod])]
  by_cases q : p < E
  · refine tko_l (bs := bs) st s r hE q tb (fun e => ?_) (fun e => ?_) bs.length 0 N (by omega) (by have := st.1; omega) rfl
    · exact ⟨fun _ z => absurd z (by omega), fun _ => ⟨rfl, rfl⟩⟩
    · simp -implicitDefEqProofs (disch := omega) only [gP_p, gP_t, bnd_s, bnd2_s, ltt_s, jn_s, n32_nat, n32_le, n32_lt, n32_eq, n32_add, n32_sub, n32_dec, n32_mul, n32_div, n32_irm, n32_lit, n32_oN, n32_ix, n32_m1, n32_m2, neg_le0, neg_lt0, neg_lt1, neg_le1, n32_min, n32_max, if_true, if_false, Nat.one_ne_zero, gd_some, true_or, or_true, false_or, or_false, r1]
      exact ⟨fun _ _ => ⟨trivial, trivial⟩, fun z => absurd ⟨q, e⟩ z⟩
  · obtain ⟨k', rfl⟩ : ∃ k, N = k + 1 := ⟨N - 1, by omega⟩
    have e2 : E ≤ p := by omega
    obtain ⟨st0, st1, st2⟩ := st
    have r2 := r.2.1
    rw [lp_s, f_X10_takesOf_B2]
    by_cases e : bs.length ≤ 0
    · simp -implicitDefEqProofs (disch := omega) only [gP_p, gP_t, bnd_s, bnd2_s, ltt_s, jn_s, n32_nat, n32_le, n32_lt, n32_eq, n32_add, n32_sub, n32_dec, n32_mul, n32_div, n32_irm, n32_lit, n32_oN, n32_ix, n32_m1, n32_m2, neg_le0, neg_lt0, neg_lt1, neg_le1, n32_min, n32_max, if_true, if_false, Nat.one_ne_zero, gd_some, true_or, or_true, false_or, or_false, st1, e]
      exact ⟨fun z => absurd z q, fun _ => ⟨trivial, trivial⟩⟩
    · simp -implicitDefEqProofs (disch := omega) only [gP_p, gP_t, bnd_s, bnd2_s, ltt_s, jn_s, n32_nat, n32_le, n32_lt, n32_eq, n32_add, n32_sub, n32_dec, n32_mul, n32_div, n32_irm, n32_lit, n32_oN, n32_ix, n32_m1, n32_m2, neg_le0, neg_lt0, neg_lt1, neg_le1, n32_min, n32_max, if_true, if_false, Nat.one_ne_zero, gd_some, true_or, or_true, false_or, or_false, st1, e, r1, r2, e2]
      exact ⟨fun z => absurd z q, fun _ => ⟨trivial, trivial⟩⟩
abbrev SR : Type := Bool × Nat × Nat × (Nat → Nat) × (Nat → Nat)
def shR (t : Nat → Nat) (E : Nat) : Nat → Nat → Nat → (Nat → Nat) → (Nat → Nat) → SR
  | 0, i, p, K, S => (false, p, i, K, S)
  | d + 1, i, p, K, S => if E ≤ p then (if i = 0 then (false, p, i, K, S) else (true, p, i, K, S)) else if i = 8 then (false, p, i, K, S) else
    if t p = 46 then shR t E d (i + 1) (p + 1) (up K i 2) (up S i 0) else
    if t p = 111 ∨ t p = 110 then (if dgN t E 3 (p + 1) = 0 then (false, p + 1, i, K, S) else shR t E d (i + 1) (p + 1 + dgN t E 3 (p + 1)) (up K i (if t p = 111 then 0 else 1)) (up S i (nm t (dgN t E 3 (p + 1)) (p + 1) 0))) else (false, p, i, K, S)
theorem shR_f {t : Nat → Nat} {E d i p : Nat} {K S : Nat → Nat} : shR t E (d + 1) i p K S = if E ≤ p then (if i = 0 then (false, p, i, K, S) else (true, p, i, K, S)) else if i = 8 then (false, p, i, K, S) else
    if t p = 46 then shR t E d (i + 1) (p + 1) (up K i 2) (up S i 0) else
    if t p = 111 ∨ t p = 110 then (if dgN t E 3 (p + 1) = 0 then (false, p + 1, i, K, S) else shR t E d (i + 1) (p + 1 + dgN t E 3 (p + 1)) (up K i (if t p = 111 then 0 else 1)) (up S i (nm t (dgN t E 3 (p + 1)) (p + 1) 0))) else (false, p, i, K, S) := rfl
def kOK (K S : Nat → Nat) (i : Nat) : Prop := ∀ j, j < i → K j ≤ 2 ∧ S j ≤ 999
theorem kup {K S : Nat → Nat} {i a x : Nat} (h : kOK K S i) (ha : a ≤ 2) (hx : x ≤ 999) : kOK (up K i a) (up S i x) (i + 1) := fun j hj => by
  by_cases q : j = i
  · subst q; rw [up_eq, up_eq]; exact ⟨ha, hx⟩
  · rw [up_ne q, up_ne q]; exact h j (by omega)
def shF (r : SR) : Fle := (r.2.2.1, r.2.2.2.1, fun j => 10 * r.2.2.2.2 j)
def shL (r : SR) : LR := (r.1, r.2.1, r.2.2.1, r.2.2.2.1)
theorem shR_ok {t : Nat → Nat} {E : Nat} : ∀ d i p K S, kOK K S i → p ≤ E → i ≤ 8 → kOK (shR t E d i p K S).2.2.2.1 (shR t E d i p K S).2.2.2.2 (shR t E d i p K S).2.2.1 ∧ (shR t E d i p K S).2.1 ≤ E ∧ (shR t E d i p K S).2.2.1 ≤ 8 ∧ ((shR t E d i p K S).1 = true → 1 ≤ (shR t E d i p K S).2.2.1 ∧ (shR t E d i p K S).2.1 = E) := by
  intro d
  induction d with
  | zero => intro i p K S hk hp hi; exact ⟨hk, hp, hi, fun z => absurd z Bool.false_ne_true⟩
  | succ d ih =>
    intro i p K S hk hp hi
    rw [shR_f]
    by_cases q1 : E ≤ p
    · rw [if_pos q1]
      by_cases q2 : i = 0
      · rw [if_pos q2]; exact ⟨hk, hp, hi, fun z => absurd z Bool.false_ne_true⟩
      · rw [if_neg q2]; exact ⟨hk, hp, hi, fun _ => ⟨by show 1 ≤ i; omega, by show p = E; omega⟩⟩
    · rw [if_neg q1]
      by_cases q2 : i = 8
      · rw [if_pos q2]; exact ⟨hk, hp, hi, fun z => absurd z Bool.false_ne_true⟩
      · rw [if_neg q2]
        by_cases q3 : t p = 46
        · rw [if_pos q3]; exact ih _ _ _ _ (kup hk (by omega) (by omega)) (by omega) (by omega)
        · rw [if_neg q3]
          by_cases q4 : t p = 111 ∨ t p = 110
          · rw [if_pos q4]
            by_cases q5 : dgN t E 3 (p + 1) = 0
            · rw [if_pos q5]; exact ⟨hk, by show p + 1 ≤ E; omega, hi, fun z => absurd z Bool.false_ne_true⟩
            · rw [if_neg q5]
              have b1 := dgN_E (t := t) (E := E) 3 (p + 1) (by omega)
              have b2 := nm_m (t := t) (E := E) (m := 3) (p := p + 1)
              have b3 : 10 ^ 3 = 1000 := rfl
              exact ih _ _ _ _ (kup hk (by split <;> omega) (by omega)) (by omega) (by omega)
          · rw [if_neg q4]; exact ⟨hk, hp, hi, fun z => absurd z Bool.false_ne_true⟩
theorem fl_reg (q : Bool) (j : Nat) : ∀ i, i < 3 → [flq q].contains (reg (flr q + i) j) = true := fun i hi => by
  match i, hi with
  | 0, _ => cases q <;> rfl
  | 1, _ => cases q <;> rfl
  | 2, _ => cases q <;> rfl
theorem fl_ne (q : Bool) : flr q + 2 < 188 ∧ 169 < flr q := by cases q <;> decide
theorem shR_x {t : Nat → Nat} {N n E : Nat} {b c w : Bool} {k : HP → Option (Int32 × HP)} (hN : 10 < N) (tb : ∀ i, i < n → t i < 256) (hn : n ≤ 80) (hE : E ≤ n) (h0 : HP) (r : SR) (K1 : ∀ h' i, i ≤ 8 → SH b c h' → TxX h' t n → h'.2.1 (flr w) 2 = n32 i → k h' = some (if i = 0 then n32 E else (if n ≤ E then -n32 1 else n32 E), h')) : ∀ (d i p fuel : Nat) (K S : Nat → Nat) (h : HP), i + d = 9 → d < fuel → i ≤ 8 → p ≤ E → SH b c h → TxX h t n → FR h (flr w) (i, K, fun j => 10 * S j) → fr [flq w] h0 h → shR t E d i p K S = r → gd (lp (fun _ _ => none) (f_X1_read_B17 N (flr w) 1 (n32 E) k) fuel (n32 p) h) (fun q => q.1 = lnC (shL r) n E ∧ (r.1 = true → FR q.2 (flr w) (shF r)) ∧ fr [flq w] h0 q.2) := by
  intro d
  obtain ⟨fn1, fn2⟩ := fl_ne w
  induction d with
  | zero => intro i p fuel K S h hi hf hic; omega
  | succ d ih =>
    intro i p fuel K S h hi hf hic hp s tx fR f hr
    obtain ⟨k', rfl⟩ : ∃ k, fuel = k + 1 := ⟨fuel - 1, by omega⟩
    have z2 : h.2.1 (flr w) 2 = n32 i := fR.1
    obtain ⟨fc0, fc1, fc2, fc3, fc4⟩ := s.flc w
    rw [shR_f] at hr
    rw [lp_s, f_X1_read_B17]
    by_cases q1 : E ≤ p
    · rw [if_pos q1] at hr
      have pe : p = E := by omega
      simp -implicitDefEqProofs (disch := omega) only [gP_p, gP_t, bnd_s, bnd2_s, n32_nat, n32_le, n32_lt, n32_eq, n32_add, n32_sub, n32_dec, n32_mul, n32_div, n32_irm, n32_lit, n32_oN, n32_ix, n32_m1, n32_m2, neg_le0, neg_lt0, neg_lt1, neg_le1, n32_min, n32_max, if_true, if_false, Nat.one_ne_zero, true_or, or_true, false_or, or_false, q1, gd_some]
      rw [K1 h i hic s tx z2]
      by_cases q2 : i = 0
      · rw [if_pos q2] at hr
        subst hr
        rw [if_pos q2]
        exact gd_some.mpr ⟨by rw [pe]; rfl, fun z => absurd z Bool.false_ne_true, f⟩
      · rw [if_neg q2] at hr
        subst hr
        rw [if_neg q2]
        exact gd_some.mpr ⟨rfl, fun _ => fR, f⟩
    · rw [if_neg q1] at hr
      have a1 := at_x (p := p) s tx hn (by omega) hE
      rw [if_pos (by omega)] at a1
      have tp := tb p (by omega)
      by_cases q2 : i = 8
      · rw [if_pos q2] at hr
        subst hr
        subst q2
        simp -implicitDefEqProofs (disch := omega) only [gP_p, gP_t, bnd_s, bnd2_s, n32_nat, n32_le, n32_lt, n32_eq, n32_add, n32_sub, n32_dec, n32_mul, n32_div, n32_irm, n32_lit, n32_oN, n32_ix, n32_m1, n32_m2, neg_le0, neg_lt0, neg_lt1, neg_le1, n32_min, n32_max, if_true, if_false, Nat.one_ne_zero, true_or, or_true, false_or, or_false, q1, a1, z2, gd_some]
        exact ⟨rfl, fun z => absurd z Bool.false_ne_true, f⟩
      · rw [if_neg q2] at hr
        have fin : ∀ (a x : Nat), a ≤ 2 → x ≤ 999 → fr [flq w] h (setI (setI (setI h (flr w + 1) i (if a = 2 then -n32 1 else n32 a)) (flr w + 2) i (n32 (10 * x))) (flr w) 2 (n32 (i + 1))) ∧ FR (setI (setI (setI h (flr w + 1) i (if a = 2 then -n32 1 else n32 a)) (flr w + 2) i (n32 (10 * x))) (flr w) 2 (n32 (i + 1))) (flr w) (i + 1, up K i a, fun j => 10 * up S i x j) := by
          intro a x ha hx
          refine ⟨(((fr.rf _ _).sI (fl_reg w i 1 (by omega))).sI (fl_reg w i 2 (by omega))).sI (fl_reg w 2 0 (by omega)), sI_eq, fun j hj => ?_⟩
          have hj' : j < i + 1 := hj
          by_cases e : j = i
          · subst e
            rw [sI_ne (by omega), sI_ne (by omega), sI_eq, sI_ne (by omega), sI_eq]
            show (_ = if up K j a j = 2 then _ else n32 (up K j a j)) ∧ _ = n32 (10 * up S j x j)
            rw [up_eq, up_eq]
            exact ⟨rfl, rfl⟩
          · rw [sI_ne (by omega), sI_ne (by omega), sI_ne (by omega), sI_ne (by omega), sI_ne (by omega), sI_ne (by omega)]
            show (_ = if up K i a j = 2 then _ else n32 (up K i a j)) ∧ _ = n32 (10 * up S i x j)
            rw [up_ne e, up_ne e]
            exact fR.2 j (by show j < i; omega)
        by_cases q3 : t p = 46
        · rw [if_pos q3] at hr
          rw [q3] at a1
          obtain ⟨f1, f2⟩ := fin 2 0 (by omega) (by omega)
          rw [if_pos rfl] at f1 f2
          have fk : fr [flq w] h (setI h (flr w + 1) i (-n32 1)) := (fr.rf _ _).sI (fl_reg w i 1 (by omega))
          have s1 := s.fr fk
          have t1 : TxX (setI h (flr w + 1) i (-n32 1)) t n := tx.fr fk (by cases w <;> decide)
          have nx := num_x (N := N) (t := t) (p := p + 1) (k := 0) hN s1 t1 hn (by omega) (fun i hi => absurd hi (Nat.not_lt_zero i)) (by omega)
          have nz : nm t 0 (p + 1) 0 = 0 := rfl
          rw [nz] at nx
          have fc1' := (s1.flc w)
          obtain ⟨gc0, gc1, gc2, gc3, gc4⟩ := s1.flc w
          have key := ih (i + 1) (p + 1) k' _ _ _ (by omega) (by omega) (by omega) (by omega) (s.fr f1) (tx.fr f1 (by cases w <;> decide)) f2 (f.tr f1) hr
          have z2' : (setI h (flr w + 1) i (-n32 1)).2.1 (flr w) 2 = n32 i := by rw [sI_ne (by omega)]; exact z2
          simp -implicitDefEqProofs (disch := omega) only [gP_p, gP_t, bnd_s, bnd2_s, n32_nat, n32_le, n32_lt, n32_eq, n32_add, n32_sub, n32_dec, n32_mul, n32_div, n32_irm, n32_lit, n32_oN, n32_ix, n32_m1, n32_m2, neg_le0, neg_lt0, neg_lt1, neg_le1, n32_min, n32_max, if_true, if_false, Nat.one_ne_zero, true_or, or_true, false_or, or_false, q1, a1, z2, q2]
          simp -implicitDefEqProofs (disch := omega) only [gP_p, gP_t, bnd_s, bnd2_s, ltt_s, jn_s, n32_nat, n32_le, n32_lt, n32_eq, n32_add, n32_sub, n32_dec, n32_mul, n32_div, n32_irm, n32_lit, n32_oN, n32_ix, n32_m1, n32_m2, neg_le0, neg_lt0, neg_lt1, neg_le1, n32_min, n32_max, if_true, if_false, Nat.one_ne_zero, gd_some, true_or, or_true, false_or, or_false, q1, a1, z2, q2, fc1, fc3, gc2, gc4, nx, z2', sI_ne, sI_eq, Nat.mul_zero, Nat.add_zero]
          exact key
        · rw [if_neg q3] at hr
          by_cases q4 : t p = 111 ∨ t p = 110
          · rw [if_pos q4] at hr
            have b1 := dgN_E (t := t) (E := E) 3 (p + 1) (by omega)
            have b2 := nm_m (t := t) (E := E) (m := 3) (p := p + 1)
            have b4 := dgN_le (t := t) (E := E) 3 (p + 1)
            have b3 : 10 ^ 3 = 1000 := rfl
            have dx := dig_x (N := N) (t := t) (p := p + 1) (m := 3) hN s tx tb hn (by omega) (by omega) hE
            by_cases q5 : dgN t E 3 (p + 1) = 0
            · rw [if_pos q5] at hr
              subst hr
              rw [q5] at dx
              rcases q4 with q4 | q4
              · rw [q4] at a1
                simp -implicitDefEqProofs (disch := omega) only [gP_p, gP_t, bnd_s, bnd2_s, n32_nat, n32_le, n32_lt, n32_eq, n32_add, n32_sub, n32_dec, n32_mul, n32_div, n32_irm, n32_lit, n32_oN, n32_ix, n32_m1, n32_m2, neg_le0, neg_lt0, neg_lt1, neg_le1, n32_min, n32_max, if_true, if_false, Nat.one_ne_zero, true_or, or_true, false_or, or_false, q1, a1, z2, q2]
                simp -implicitDefEqProofs (disch := omega) only [gP_p, gP_t, bnd_s, bnd2_s, ltt_s, jn_s, n32_nat, n32_le, n32_lt, n32_eq, n32_add, n32_sub, n32_dec, n32_mul, n32_div, n32_irm, n32_lit, n32_oN, n32_ix, n32_m1, n32_m2, neg_le0, neg_lt0, neg_lt1, neg_le1, n32_min, n32_max, if_true, if_false, Nat.one_ne_zero, gd_some, true_or, or_true, false_or, or_false, q1, a1, z2, q2, dx]
                exact gd_some.mpr ⟨rfl, fun z => absurd z Bool.false_ne_true, f⟩
              · rw [q4] at a1
                simp -implicitDefEqProofs (disch := omega) only [gP_p, gP_t, bnd_s, bnd2_s, n32_nat, n32_le, n32_lt, n32_eq, n32_add, n32_sub, n32_dec, n32_mul, n32_div, n32_irm, n32_lit, n32_oN, n32_ix, n32_m1, n32_m2, neg_le0, neg_lt0, neg_lt1, neg_le1, n32_min, n32_max, if_true, if_false, Nat.one_ne_zero, true_or, or_true, false_or, or_false, q1, a1, z2, q2]
                simp -implicitDefEqProofs (disch := omega) only [gP_p, gP_t, bnd_s, bnd2_s, ltt_s, jn_s, n32_nat, n32_le, n32_lt, n32_eq, n32_add, n32_sub, n32_dec, n32_mul, n32_div, n32_irm, n32_lit, n32_oN, n32_ix, n32_m1, n32_m2, neg_le0, neg_lt0, neg_lt1, neg_le1, n32_min, n32_max, if_true, if_false, Nat.one_ne_zero, gd_some, true_or, or_true, false_or, or_false, q1, a1, z2, q2, dx]
                exact gd_some.mpr ⟨rfl, fun z => absurd z Bool.false_ne_true, f⟩
            · rw [if_neg q5] at hr
              have nz := nm_b (t := t) (dgN t E 3 (p + 1)) (p + 1) 0 1 (fun i hi => (dgN_d 3 (p + 1) i hi).2) (by omega)
              have go : ∀ a : Nat, a ≤ 1 → fr [flq w] h (setI h (flr w + 1) i (n32 a)) ∧ f_X8_number N (setI h (flr w + 1) i (n32 a)) 1 (n32 (p + 1)) (n32 (dgN t E 3 (p + 1))) = some (n32 (nm t (dgN t E 3 (p + 1)) (p + 1) 0)) ∧ (setI h (flr w + 1) i (n32 a)).2.1 (flr w) 2 = n32 i := fun a ha => by
                have fk : fr [flq w] h (setI h (flr w + 1) i (n32 a)) := (fr.rf _ _).sI (fl_reg w i 1 (by omega))
                exact ⟨fk, num_x (N := N) (t := t) (p := p + 1) (k := dgN t E 3 (p + 1)) hN (s.fr fk) (tx.fr fk (by cases w <;> decide)) hn (by omega) (fun i hi => (dgN_d 3 (p + 1) i hi).2) (by omega), by rw [sI_ne (by omega)]; exact z2⟩
              rcases q4 with q4 | q4
              · rw [if_pos q4] at hr
                rw [q4] at a1
                obtain ⟨g1, g2, g3⟩ := go 0 (by omega)
                obtain ⟨f1, f2⟩ := fin 0 (nm t (dgN t E 3 (p + 1)) (p + 1) 0) (by omega) (by omega)
                rw [if_neg (by decide)] at f1 f2
                obtain ⟨gc0, gc1, gc2, gc3, gc4⟩ := (s.fr g1).flc w
                have key := ih (i + 1) _ k' _ _ _ (by omega) (by omega) (by omega) (by omega) (s.fr f1) (tx.fr f1 (by cases w <;> decide)) f2 (f.tr f1) hr
                rw [Nat.add_assoc] at key
                simp -implicitDefEqProofs (disch := omega) only [gP_p, gP_t, bnd_s, bnd2_s, n32_nat, n32_le, n32_lt, n32_eq, n32_add, n32_sub, n32_dec, n32_mul, n32_div, n32_irm, n32_lit, n32_oN, n32_ix, n32_m1, n32_m2, neg_le0, neg_lt0, neg_lt1, neg_le1, n32_min, n32_max, if_true, if_false, Nat.one_ne_zero, true_or, or_true, false_or, or_false, q1, a1, z2, q2]
                simp -implicitDefEqProofs (disch := omega) only [gP_p, gP_t, bnd_s, bnd2_s, ltt_s, jn_s, n32_nat, n32_le, n32_lt, n32_eq, n32_add, n32_sub, n32_dec, n32_mul, n32_div, n32_irm, n32_lit, n32_oN, n32_ix, n32_m1, n32_m2, neg_le0, neg_lt0, neg_lt1, neg_le1, n32_min, n32_max, if_true, if_false, Nat.one_ne_zero, gd_some, true_or, or_true, false_or, or_false, q1, a1, z2, q2, dx, q5, fc1, fc3, gc2, gc4, g2, g3, sI_ne, sI_eq]
                exact key
              · rw [if_neg (by omega)] at hr
                rw [q4] at a1
                obtain ⟨g1, g2, g3⟩ := go 1 (by omega)
                obtain ⟨f1, f2⟩ := fin 1 (nm t (dgN t E 3 (p + 1)) (p + 1) 0) (by omega) (by omega)
                rw [if_neg (by decide)] at f1 f2
                obtain ⟨gc0, gc1, gc2, gc3, gc4⟩ := (s.fr g1).flc w
                have key := ih (i + 1) _ k' _ _ _ (by omega) (by omega) (by omega) (by omega) (s.fr f1) (tx.fr f1 (by cases w <;> decide)) f2 (f.tr f1) hr
                rw [Nat.add_assoc] at key
                simp -implicitDefEqProofs (disch := omega) only [gP_p, gP_t, bnd_s, bnd2_s, n32_nat, n32_le, n32_lt, n32_eq, n32_add, n32_sub, n32_dec, n32_mul, n32_div, n32_irm, n32_lit, n32_oN, n32_ix, n32_m1, n32_m2, neg_le0, neg_lt0, neg_lt1, neg_le1, n32_min, n32_max, if_true, if_false, Nat.one_ne_zero, true_or, or_true, false_or, or_false, q1, a1, z2, q2]
                simp -implicitDefEqProofs (disch := omega) only [gP_p, gP_t, bnd_s, bnd2_s, ltt_s, jn_s, n32_nat, n32_le, n32_lt, n32_eq, n32_add, n32_sub, n32_dec, n32_mul, n32_div, n32_irm, n32_lit, n32_oN, n32_ix, n32_m1, n32_m2, neg_le0, neg_lt0, neg_lt1, neg_le1, n32_min, n32_max, if_true, if_false, Nat.one_ne_zero, gd_some, true_or, or_true, false_or, or_false, q1, a1, z2, q2, dx, q5, fc1, fc3, gc2, gc4, g2, g3, sI_ne, sI_eq]
                exact key
          · rw [if_neg q4] at hr
            subst hr
            have q6 : ¬ t p = 111 := fun z => q4 (Or.inl z)
            have q7 : ¬ t p = 110 := fun z => q4 (Or.inr z)
            simp -implicitDefEqProofs (disch := omega) only [gP_p, gP_t, bnd_s, bnd2_s, n32_nat, n32_le, n32_lt, n32_eq, n32_add, n32_sub, n32_dec, n32_mul, n32_div, n32_irm, n32_lit, n32_oN, n32_ix, n32_m1, n32_m2, neg_le0, neg_lt0, neg_lt1, neg_le1, n32_min, n32_max, if_true, if_false, Nat.one_ne_zero, true_or, or_true, false_or, or_false, q1, a1, z2, q2, q3, q6, q7, gd_some]
            exact gd_some.mpr ⟨rfl, fun z => absurd z Bool.false_ne_true, f⟩
