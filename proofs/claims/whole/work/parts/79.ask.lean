/-! ===== what to ask ===== -/
def mxN (f : Nat → Nat) : Nat → Nat
  | 0 => 0
  | n + 1 => max (mxN f n) (f n)
theorem sumN_0 {g : Nat → Nat} : ∀ n, (∀ y, y < n → g y = 0) → sumN g n = 0 := by
  intro n
  induction n with
  | zero => intro _; rfl
  | succ n ih =>
    intro h
    show sumN g n + g n = 0
    rw [ih (fun y hy => h y (by omega)), h n (by omega)]
theorem sumN_z {g : Nat → Nat} {n : Nat} : ∀ k, (∀ y, n ≤ y → y < n + k → g y = 0) → sumN g (n + k) = sumN g n := by
  intro k
  induction k with
  | zero => intro _; rfl
  | succ k ih =>
    intro h
    show sumN g (n + k) + g (n + k) = sumN g n
    rw [ih (fun y h1 h2 => h y h1 (by omega)), h (n + k) (by omega) (by omega), Nat.add_zero]
theorem sumN_ge {g : Nat → Nat} : ∀ n y, y < n → g y ≤ sumN g n := by
  intro n
  induction n with
  | zero => intro y h; omega
  | succ n ih =>
    intro y h
    show g y ≤ sumN g n + g n
    by_cases e : y = n
    · subst e; omega
    · have := ih y (by omega); omega
theorem sumN_le {g : Nat → Nat} (h0 : g 0 = 0) (h1 : ∀ y, g y ≤ 1) : ∀ n, sumN g (n + 1) ≤ n := by
  intro n
  induction n with
  | zero => show 0 + g 0 ≤ 0; omega
  | succ n ih => show sumN g (n + 1) + g (n + 1) ≤ n + 1; have := h1 (n + 1); omega
theorem mxN_0 {g : Nat → Nat} : ∀ n, (∀ y, y < n → g y = 0) → mxN g n = 0 := by
  intro n
  induction n with
  | zero => intro _; rfl
  | succ n ih =>
    intro h
    show max (mxN g n) (g n) = 0
    rw [ih (fun y hy => h y (by omega)), h n (by omega)]
    rfl
theorem mxN_ge {g : Nat → Nat} : ∀ n y, y < n → g y ≤ mxN g n := by
  intro n
  induction n with
  | zero => intro y h; omega
  | succ n ih =>
    intro y h
    show g y ≤ max (mxN g n) (g n)
    by_cases e : y = n
    · subst e; omega
    · have := ih y (by omega); omega
theorem mxN_le {g : Nat → Nat} {m : Nat} (h : ∀ y, g y ≤ m) : ∀ n, mxN g n ≤ m := by
  intro n
  induction n with
  | zero => exact Nat.zero_le _
  | succ n ih => show max (mxN g n) (g n) ≤ m; have := h n; omega
theorem mxN_c {g g' : Nat → Nat} : ∀ n, (∀ b, b < n → g' b = g b) → mxN g' n = mxN g n := by
  intro n
  induction n with
  | zero => intro _; rfl
  | succ n ih =>
    intro h
    show max (mxN g' n) (g' n) = max (mxN g n) (g n)
    rw [ih (fun b hb => h b (by omega)), h n (by omega)]
theorem mxN_u {g g' : Nat → Nat} {r : Nat} (h1 : ∀ b, b ≠ r → g' b = g b) (h2 : g r ≤ g' r) : ∀ n, r < n → mxN g' n = max (mxN g n) (g' r) := by
  intro n
  induction n with
  | zero => intro h; omega
  | succ n ih =>
    intro h
    show max (mxN g' n) (g' n) = max (max (mxN g n) (g n)) (g' r)
    by_cases e : r = n
    · subst e
      rw [mxN_c r (fun b hb => h1 b (by omega))]
      omega
    · rw [ih (by omega), h1 n (fun z => e z.symm)]
      omega
/-- who fits, at most 999 -/
def ff (A O : Nat → Nat) (n x : Nat) : Nat := if x = 0 ∨ 999 < x then 0 else fz A O n x
theorem ff_1 {A O : Nat → Nat} {n x : Nat} : ff A O n x ≤ 1 := by unfold ff; split; exact Nat.zero_le _; exact fz_le
theorem ff_0 {A O : Nat → Nat} {n : Nat} : ff A O n 0 = 0 := by unfold ff; exact if_pos (Or.inl rfl)
theorem ff_f {A O : Nat → Nat} {n x : Nat} (h1 : 1 ≤ x) (h2 : x ≤ 999) : ff A O n x = fz A O n x := by unfold ff; exact if_neg (by omega)
theorem sf_f {A O : Nat → Nat} {n x : Nat} {h : HP} (s : SF h n A O 1000) (h2 : x ≤ 999) : h.2.1 168 x = n32 (ff A O n x) := by
  by_cases e : x = 0
  · subst e; rw [ff_0]; exact s.1
  · rw [ff_f (by omega) h2]; exact s.2 x (by omega) (by omega)
/-- those of one rest -/
def cg (f : Nat → Nat) (a b y : Nat) : Nat := if y % a = b then f y else 0
def cp (f : Nat → Nat) (a b v : Nat) : Nat := sumN (cg f a b) v
def mst (f : Nat → Nat) (a : Nat) : Nat := mxN (fun b => cp f a b 1000) a
theorem cg_1 {f : Nat → Nat} {a b y : Nat} (h : ∀ y, f y ≤ 1) : cg f a b y ≤ 1 := by unfold cg; split; exact h y; omega
theorem cp_le {f : Nat → Nat} {a b v : Nat} (h : ∀ y, f y ≤ 1) : cp f a b v ≤ v := by
  unfold cp
  induction v with
  | zero => exact Nat.le_refl 0
  | succ v ih => show sumN (cg f a b) v + cg f a b v ≤ v + 1; have := cg_1 (a := a) (b := b) (y := v) h; omega
theorem mod_gap {a x i b : Nat} (ha : 0 < a) (hx : x % a = b) (hi : i + 1 < a) : (x + 1 + i) % a ≠ b := by
  intro e
  have e1 := Nat.div_add_mod x a
  have e2 := Nat.div_add_mod (x + 1 + i) a
  rw [hx] at e1
  rw [e] at e2
  rcases Nat.lt_or_ge (x / a) ((x + 1 + i) / a) with l | l
  · obtain ⟨t, ht⟩ : ∃ t, (x + 1 + i) / a = x / a + t + 1 := ⟨(x + 1 + i) / a - x / a - 1, by omega⟩
    rw [ht, Nat.mul_add, Nat.mul_add] at e2
    omega
  · have := Nat.mul_le_mul_left a l
    omega
theorem cp_st {f : Nat → Nat} {a b x : Nat} (ha : 0 < a) (hx : x % a = b) : cp f a b (x + a) = cp f a b x + f x := by
  have e1 : cp f a b (x + 1) = cp f a b x + f x := by
    show sumN (cg f a b) x + cg f a b x = _
    unfold cp
    rw [show cg f a b x = f x from if_pos hx]
  have e2 : cp f a b (x + 1 + (a - 1)) = cp f a b (x + 1) := sumN_z (a - 1) (fun y h1 h2 => by
    obtain ⟨i, rfl⟩ : ∃ i, y = x + 1 + i := ⟨y - (x + 1), by omega⟩
    exact if_neg (mod_gap ha hx (by omega)))
  rw [show x + 1 + (a - 1) = x + a by omega, e1] at e2
  exact e2
theorem left_l {N n a b : Nat} {A O : Nat → Nat} {bb c : Bool} {h : HP} {k : Int32 → Option Int32} {x2 : Int32} {x3 : Int32} {R : Option Int32} (s : SH bb c h) (sf : SF h n A O 1000) (ha : 2 ≤ a) (ha2 : a ≤ 40) (hb : b < a) (K : k (n32 (cp (ff A O n) a b 1000)) = R) : ∀ (d x fuel : Nat), 1000 + a ≤ x + d * 1 + a → d < fuel → x % a = b → x ≤ 1040 → lp (fun _ _ => none) (f_X2_mostLeft_B15 N 165 (n32 a) x2 x3 h k) fuel (n32 (cp (ff A O n) a b x)) (n32 x) = R := by
  have f1 : ∀ y, ff A O n y ≤ 1 := fun y => ff_1
  intro d
  induction d with
  | zero =>
    intro x fuel hx hf hm hx2
    obtain ⟨k', rfl⟩ : ∃ k, fuel = k + 1 := ⟨fuel - 1, by omega⟩
    have e : 999 < x := by omega
    have e2 : cp (ff A O n) a b x = cp (ff A O n) a b 1000 := by
      obtain ⟨t, rfl⟩ : ∃ t, x = 1000 + t := ⟨x - 1000, by omega⟩
      exact sumN_z t (fun y h1 h2 => by unfold cg; split; exact if_pos (Or.inr (by omega)); rfl)
    simp -implicitDefEqProofs (disch := omega) only [lp_s, f_X2_mostLeft_B15, gP_p, gP_t, bnd_s, bnd2_s, ltt_s, jn_s, n32_nat, n32_le, n32_lt, n32_eq, n32_add, n32_sub, n32_dec, n32_mul, n32_div, n32_irm, n32_lit, n32_oN, n32_ix, n32_m1, n32_m2, neg_le0, neg_lt0, neg_lt1, neg_le1, n32_min, n32_max, if_true, if_false, Nat.one_ne_zero, gd_some, true_or, or_true, false_or, or_false, e]
    rw [e2]
    exact K
  | succ d ih =>
    intro x fuel hx hf hm hx2
    obtain ⟨k', rfl⟩ : ∃ k, fuel = k + 1 := ⟨fuel - 1, by omega⟩
    by_cases e : 999 < x
    · have e2 : cp (ff A O n) a b x = cp (ff A O n) a b 1000 := by
        obtain ⟨t, rfl⟩ : ∃ t, x = 1000 + t := ⟨x - 1000, by omega⟩
        exact sumN_z t (fun y h1 h2 => by unfold cg; split; exact if_pos (Or.inr (by omega)); rfl)
      simp -implicitDefEqProofs (disch := omega) only [lp_s, f_X2_mostLeft_B15, gP_p, gP_t, bnd_s, bnd2_s, ltt_s, jn_s, n32_nat, n32_le, n32_lt, n32_eq, n32_add, n32_sub, n32_dec, n32_mul, n32_div, n32_irm, n32_lit, n32_oN, n32_ix, n32_m1, n32_m2, neg_le0, neg_lt0, neg_lt1, neg_le1, n32_min, n32_max, if_true, if_false, Nat.one_ne_zero, gd_some, true_or, or_true, false_or, or_false, e]
      rw [e2]
      exact K
    · have na : ¬ a ≤ 0 := by omega
      have v := sf_f (x := x) sf (by omega)
      have nx := ih (x + a) k' (by omega) (by omega) (by rw [Nat.add_mod_right]; exact hm) (by omega)
      rw [cp_st (by omega) hm] at nx
      have bd := cp_le (a := a) (b := b) (v := x) f1
      rcases (show ff A O n x = 0 ∨ ff A O n x = 1 by have := f1 x; omega) with q | q
      · rw [q] at v nx
        simp -implicitDefEqProofs (disch := omega) only [lp_s, f_X2_mostLeft_B15, gP_p, gP_t, bnd_s, bnd2_s, ltt_s, jn_s, n32_nat, n32_le, n32_lt, n32_eq, n32_add, n32_sub, n32_dec, n32_mul, n32_div, n32_irm, n32_lit, n32_oN, n32_ix, n32_m1, n32_m2, neg_le0, neg_lt0, neg_lt1, neg_le1, n32_min, n32_max, if_true, if_false, Nat.one_ne_zero, gd_some, true_or, or_true, false_or, or_false, e, na, s.root, v]
        exact nx
      · rw [q] at v nx
        simp -implicitDefEqProofs (disch := omega) only [lp_s, f_X2_mostLeft_B15, gP_p, gP_t, bnd_s, bnd2_s, ltt_s, jn_s, n32_nat, n32_le, n32_lt, n32_eq, n32_add, n32_sub, n32_dec, n32_mul, n32_div, n32_irm, n32_lit, n32_oN, n32_ix, n32_m1, n32_m2, neg_le0, neg_lt0, neg_lt1, neg_le1, n32_min, n32_max, if_true, if_false, Nat.one_ne_zero, gd_some, true_or, or_true, false_or, or_false, e, na, s.root, v]
        exact nx
theorem most_l {N n a : Nat} {A O : Nat → Nat} {bb c : Bool} {h : HP} (hN : 1001 < N) (s : SH bb c h) (sf : SF h n A O 1000) (ha : 2 ≤ a) (ha2 : a ≤ 40) : ∀ (d b fuel : Nat), b + d = a → d < fuel → lp (fun _ _ => none) (f_X2_mostLeft_B4 N 165 (n32 a) h) fuel (n32 (mxN (fun b => cp (ff A O n) a b 1000) b)) (n32 b) = some (n32 (mst (ff A O n) a)) := by
  have f1 : ∀ y, ff A O n y ≤ 1 := fun y => ff_1
  intro d
  induction d with
  | zero =>
    intro b fuel hb hf
    obtain ⟨k', rfl⟩ : ∃ k, fuel = k + 1 := ⟨fuel - 1, by omega⟩
    have e : b = a := by omega
    subst e
    simp -implicitDefEqProofs (disch := omega) only [lp_s, f_X2_mostLeft_B4, gP_p, gP_t, bnd_s, bnd2_s, ltt_s, jn_s, n32_nat, n32_le, n32_lt, n32_eq, n32_add, n32_sub, n32_dec, n32_mul, n32_div, n32_irm, n32_lit, n32_oN, n32_ix, n32_m1, n32_m2, neg_le0, neg_lt0, neg_lt1, neg_le1, n32_min, n32_max, if_true, if_false, Nat.one_ne_zero, gd_some, true_or, or_true, false_or, or_false, Nat.le_refl]
    rfl
  | succ d ih =>
    intro b fuel hb hf
    obtain ⟨k', rfl⟩ : ∃ k, fuel = k + 1 := ⟨fuel - 1, by omega⟩
    have e : ¬ a ≤ b := by omega
    have nx := ih (b + 1) k' (by omega) (by omega)
    have c0 : cp (ff A O n) a b b = 0 := sumN_0 b (fun y hy => if_neg (by rw [Nat.mod_eq_of_lt (by omega)]; omega))
    have m0 : mxN (fun b => cp (ff A O n) a b 1000) b ≤ 1000 := mxN_le (fun y => cp_le f1) b
    have c1 := cp_le (a := a) (b := b) (v := 1000) f1
    have key := left_l (N := N) (h := h) (x2 := n32 (mxN (fun b => cp (ff A O n) a b 1000) b)) (x3 := n32 b) (k := fun (x19 : Int32) => bnd (f_J9_max_7cf53 (n32 (mxN (fun b => cp (ff A O n) a b 1000) b)) x19) (fun v20 => lt_ (n32 b + n32 1) (fun v23 => lp (fun _ _ => none) (f_X2_mostLeft_B4 N 165 (n32 a) h) k' v20 v23))) (R := some (n32 (mst (ff A O n) a))) s sf ha ha2 (show b < a by omega) (by
      simp -implicitDefEqProofs (disch := omega) only [gP_p, gP_t, bnd_s, bnd2_s, ltt_s, jn_s, n32_nat, n32_le, n32_lt, n32_eq, n32_add, n32_sub, n32_dec, n32_mul, n32_div, n32_irm, n32_lit, n32_oN, n32_ix, n32_m1, n32_m2, neg_le0, neg_lt0, neg_lt1, neg_le1, n32_min, n32_max, if_true, if_false, Nat.one_ne_zero, gd_some, true_or, or_true, false_or, or_false]
      exact nx) 1000 b N (by omega) (by omega) (Nat.mod_eq_of_lt (by omega)) (by omega)
    rw [c0] at key
    rw [lp_s, f_X2_mostLeft_B4]
    simp -implicitDefEqProofs (disch := omega) only [gP_p, gP_t, bnd_s, bnd2_s, ltt_s, jn_s, n32_nat, n32_le, n32_lt, n32_eq, n32_add, n32_sub, n32_dec, n32_mul, n32_div, n32_irm, n32_lit, n32_oN, n32_ix, n32_m1, n32_m2, neg_le0, neg_lt0, neg_lt1, neg_le1, n32_min, n32_max, if_true, if_false, Nat.one_ne_zero, gd_some, true_or, or_true, false_or, or_false, e] at key ⊢
    exact key
theorem most_x {N n a : Nat} {A O : Nat → Nat} {bb c : Bool} {h : HP} (hN : 1001 < N) (s : SH bb c h) (sf : SF h n A O 1000) (ha : 2 ≤ a) (ha2 : a ≤ 40) : f_X2_mostLeft N h 165 (n32 a) = some (n32 (mst (ff A O n) a)) := by
  unfold f_X2_mostLeft
  rw [gP_p (by simp only [s.root])]
  exact most_l hN s sf ha ha2 a 0 N (by omega) (by omega)
/-- the fold -/
def FA (m : Nat → Nat) : Nat → Nat → Nat × Int32 → Nat × Int32
  | 0, _, p => p
  | d + 1, a, p => FA m d (a + 1) (if p.1 ≤ m a then p else (m a, n32 a))
theorem ask_x {N n : Nat} {A O : Nat → Nat} {bb c : Bool} {h : HP} {k : Int32 → Int32 → Option (Int32 × HP)} {R : Option (Int32 × HP)} (hN : 1001 < N) (s : SH bb c h) (sf : SF h n A O 1000) (E : Nat × Int32) (K : k (n32 E.1) E.2 = R) : ∀ (d a fuel : Nat) (p : Nat × Int32), a + d = 41 → 2 ≤ a → d < fuel → p.1 ≤ 1000 → FA (mst (ff A O n)) d a p = E → lp (fun _ _ _ => none) (f_X9_ask_B15 N 0 h k) fuel (n32 p.1) p.2 (n32 a) = R := by
  have f1 : ∀ y, ff A O n y ≤ 1 := fun y => ff_1
  intro d
  induction d with
  | zero =>
    intro a fuel p ha h2 hf hp hE
    obtain ⟨k', rfl⟩ : ∃ k, fuel = k + 1 := ⟨fuel - 1, by omega⟩
    have e : 40 < a := by omega
    have hE' : p = E := hE
    subst hE'
    simp -implicitDefEqProofs (disch := omega) only [lp_s, f_X9_ask_B15, gP_p, gP_t, bnd_s, bnd2_s, ltt_s, jn_s, n32_nat, n32_le, n32_lt, n32_eq, n32_add, n32_sub, n32_dec, n32_mul, n32_div, n32_irm, n32_lit, n32_oN, n32_ix, n32_m1, n32_m2, neg_le0, neg_lt0, neg_lt1, neg_le1, n32_min, n32_max, if_true, if_false, Nat.one_ne_zero, gd_some, true_or, or_true, false_or, or_false, e]
    exact K
  | succ d ih =>
    intro a fuel p ha h2 hf hp hE
    obtain ⟨k', rfl⟩ : ∃ k, fuel = k + 1 := ⟨fuel - 1, by omega⟩
    have e : ¬ 40 < a := by omega
    have mm := most_x (a := a) hN s sf h2 (by omega)
    have mb : mst (ff A O n) a ≤ 1000 := mxN_le (fun y => cp_le f1) a
    have hE' : FA (mst (ff A O n)) d (a + 1) (if p.1 ≤ mst (ff A O n) a then p else (mst (ff A O n) a, n32 a)) = E := hE
    by_cases q : p.1 ≤ mst (ff A O n) a
    · rw [if_pos q] at hE'
      simp -implicitDefEqProofs (disch := omega) only [lp_s, f_X9_ask_B15, gP_p, gP_t, bnd_s, bnd2_s, ltt_s, jn_s, n32_nat, n32_le, n32_lt, n32_eq, n32_add, n32_sub, n32_dec, n32_mul, n32_div, n32_irm, n32_lit, n32_oN, n32_ix, n32_m1, n32_m2, neg_le0, neg_lt0, neg_lt1, neg_le1, n32_min, n32_max, if_true, if_false, Nat.one_ne_zero, gd_some, true_or, or_true, false_or, or_false, e, s.root, mm, q]
      exact ih (a + 1) k' p (by omega) (by omega) (by omega) hp hE'
    · rw [if_neg q] at hE'
      simp -implicitDefEqProofs (disch := omega) only [lp_s, f_X9_ask_B15, gP_p, gP_t, bnd_s, bnd2_s, ltt_s, jn_s, n32_nat, n32_le, n32_lt, n32_eq, n32_add, n32_sub, n32_dec, n32_mul, n32_div, n32_irm, n32_lit, n32_oN, n32_ix, n32_m1, n32_m2, neg_le0, neg_lt0, neg_lt1, neg_le1, n32_min, n32_max, if_true, if_false, Nat.one_ne_zero, gd_some, true_or, or_true, false_or, or_false, e, s.root, mm, q]
      exact ih (a + 1) k' (mst (ff A O n) a, n32 a) (by omega) (by omega) (by omega) mb hE'
