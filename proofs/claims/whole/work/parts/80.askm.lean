/-! ===== what to ask, the other ===== -/
theorem flag_1 {v : Nat} (h : v ≤ 1) : f_X10_flag (n32 v) = some (n32 v) := by
  rcases (show v = 0 ∨ v = 1 by omega) with rfl | rfl <;> decide
/-- the parts so far -/
def PT (h : HP) (f : Nat → Nat) (a v : Nat) : Prop := ∀ b, b < a → h.2.1 214 b = n32 (cp f a b v)
theorem part0_l {N a : Nat} {bb c : Bool} {x1 x2 : Int32} {k : HP → Option (Int32 × HP)} {Q : Int32 × HP → Prop} (h0 : HP) (ha2 : a ≤ 40) (K : ∀ h', SH bb c h' → (∀ b, b < a → h'.2.1 214 b = n32 0) → fr [45] h0 h' → gd (k h') Q) : ∀ (d i fuel : Nat) (h : HP), i + d = a → d < fuel → SH bb c h → (∀ b, b < i → h.2.1 214 b = n32 0) → fr [45] h0 h → gd (lp (fun _ _ => none) (f_X10_ask_B23 N 188 x1 x2 (n32 a) k) fuel (n32 i) h) Q := by
  intro d
  induction d with
  | zero =>
    intro i fuel h hi hf s z f
    obtain ⟨k', rfl⟩ : ∃ k, fuel = k + 1 := ⟨fuel - 1, by omega⟩
    have e : i = a := by omega
    subst e
    simp -implicitDefEqProofs (disch := omega) only [lp_s, f_X10_ask_B23, gP_p, gP_t, bnd_s, bnd2_s, ltt_s, jn_s, n32_nat, n32_le, n32_lt, n32_eq, n32_add, n32_sub, n32_dec, n32_mul, n32_div, n32_irm, n32_lit, n32_oN, n32_ix, n32_m1, n32_m2, neg_le0, neg_lt0, neg_lt1, neg_le1, n32_min, n32_max, if_true, if_false, Nat.one_ne_zero, gd_some, true_or, or_true, false_or, or_false, Nat.le_refl]
    exact K h s z f
  | succ d ih =>
    intro i fuel h hi hf s z f
    obtain ⟨k', rfl⟩ : ∃ k, fuel = k + 1 := ⟨fuel - 1, by omega⟩
    have e : ¬ a ≤ i := by omega
    simp -implicitDefEqProofs (disch := omega) only [lp_s, f_X10_ask_B23, gP_p, gP_t, bnd_s, bnd2_s, ltt_s, jn_s, n32_nat, n32_le, n32_lt, n32_eq, n32_add, n32_sub, n32_dec, n32_mul, n32_div, n32_irm, n32_lit, n32_oN, n32_ix, n32_m1, n32_m2, neg_le0, neg_lt0, neg_lt1, neg_le1, n32_min, n32_max, if_true, if_false, Nat.one_ne_zero, gd_some, true_or, or_true, false_or, or_false, e, s.mod]
    refine ih (i + 1) k' _ (by omega) (by omega) (s.sm ⟨rfl, rfl⟩) (fun b hb => ?_) (f.sI rfl)
    by_cases q : b = i
    · subst q; rw [sI_eq]
    · rw [sI_ne (by omega)]
      exact z b (by omega)
theorem parts_l {N n a : Nat} {A O : Nat → Nat} {bb c : Bool} {x1 x2 : Int32} {k : Int32 → HP → Option (Int32 × HP)} {Q : Int32 × HP → Prop} (hN : 1001 < N) (ho : HOK n A O) (h0 : HP) (ha : 2 ≤ a) (ha2 : a ≤ 40) (K : ∀ h', SH bb c h' → HeM h' n A O → fr [45] h0 h' → gd (k (n32 (mst (ff A O n) a)) h') Q) : ∀ (d x fuel : Nat) (h : HP), x + d = 1000 → 1 ≤ x → d < fuel → SH bb c h → HeM h n A O → PT h (ff A O n) a x → fr [45] h0 h → gd (lp (fun _ _ _ => none) (f_X10_ask_B49 N 188 x1 x2 (n32 a) k) fuel (n32 (mxN (fun b => cp (ff A O n) a b x) a)) (n32 x) h) Q := by
  have f1 : ∀ y, ff A O n y ≤ 1 := fun y => ff_1
  intro d
  induction d with
  | zero =>
    intro x fuel h hx h1 hf s hm pt f
    obtain ⟨k', rfl⟩ : ∃ k, fuel = k + 1 := ⟨fuel - 1, by omega⟩
    have e : 999 < x := by omega
    have ex : x = 1000 := by omega
    subst ex
    simp -implicitDefEqProofs (disch := omega) only [lp_s, f_X10_ask_B49, gP_p, gP_t, bnd_s, bnd2_s, ltt_s, jn_s, n32_nat, n32_le, n32_lt, n32_eq, n32_add, n32_sub, n32_dec, n32_mul, n32_div, n32_irm, n32_lit, n32_oN, n32_ix, n32_m1, n32_m2, neg_le0, neg_lt0, neg_lt1, neg_le1, n32_min, n32_max, if_true, if_false, Nat.one_ne_zero, gd_some, true_or, or_true, false_or, or_false, e]
    exact K h s hm f
  | succ d ih =>
    intro x fuel h hx h1 hf s hm pt f
    obtain ⟨k', rfl⟩ : ∃ k, fuel = k + 1 := ⟨fuel - 1, by omega⟩
    have e : ¬ 999 < x := by omega
    have so := so_m (N := N) (x := x) (by omega) s ho hm (by omega)
    rw [← ff_f (A := A) (O := O) (n := n) h1 (by omega)] at so
    have fg := flag_1 (f1 x)
    have r1 : x % a < a := Nat.mod_lt _ (by omega)
    have na : ¬ a = 0 := by omega
    have v := pt (x % a) r1
    have cb := cp_le (a := a) (b := x % a) (v := x) f1
    have fx := f1 x
    have mb : mxN (fun b => cp (ff A O n) a b x) a ≤ 1000 := mxN_le (fun y => by have := cp_le (a := a) (b := y) (v := x) f1; omega) a
    have es : cp (ff A O n) a (x % a) (x + 1) = cp (ff A O n) a (x % a) x + ff A O n x := by
      show sumN (cg (ff A O n) a (x % a)) x + cg (ff A O n) a (x % a) x = _
      unfold cp
      rw [show cg (ff A O n) a (x % a) x = ff A O n x from if_pos rfl]
    have en : ∀ b, b ≠ x % a → cp (ff A O n) a b (x + 1) = cp (ff A O n) a b x := fun b hb => by
      show sumN (cg (ff A O n) a b) x + cg (ff A O n) a b x = _
      rw [show cg (ff A O n) a b x = 0 from if_neg (fun z => hb z.symm)]
      rfl
    have mu : mxN (fun b => cp (ff A O n) a b (x + 1)) a = max (mxN (fun b => cp (ff A O n) a b x) a) (cp (ff A O n) a (x % a) x + ff A O n x) := by
      rw [← es]
      exact mxN_u (r := x % a) en (by show cp (ff A O n) a (x % a) x ≤ cp (ff A O n) a (x % a) (x + 1); omega) a r1
    have fn : fr [45] h (setI h 214 (x % a) (n32 (cp (ff A O n) a (x % a) x + ff A O n x))) := (fr.rf _ _).sI rfl
    have nx := ih (x + 1) k' (setI h 214 (x % a) (n32 (cp (ff A O n) a (x % a) x + ff A O n x))) (by omega) (by omega) (by omega) (s.fr fn) (hm.fr fn (by decide)) (fun b hb => by
      by_cases q : b = x % a
      · subst q
        rw [sI_eq, es]
      · rw [sI_ne (by omega), en b q]
        exact pt b hb) (f.tr fn)
    rw [mu] at nx
    simp -implicitDefEqProofs (disch := omega) only [lp_s, f_X10_ask_B49, gP_p, gP_t, bnd_s, bnd2_s, ltt_s, jn_s, n32_nat, n32_le, n32_lt, n32_eq, n32_add, n32_sub, n32_dec, n32_mul, n32_div, n32_irm, n32_lit, n32_oN, n32_ix, n32_m1, n32_m2, neg_le0, neg_lt0, neg_lt1, neg_le1, n32_min, n32_max, if_true, if_false, Nat.one_ne_zero, gd_some, true_or, or_true, false_or, or_false, e, s.mod, (s.fr fn).mod, na, so, fg, v, sI_eq, not_false_eq_true]
    exact nx
theorem ask_z {N n : Nat} {A O : Nat → Nat} {bb c : Bool} {k : Int32 → Int32 → HP → Option (Int32 × HP)} {x1 x2 : Int32} {Q : Int32 × HP → Prop} (hN : 1001 < N) (ho : HOK n A O) (h0 : HP) (mz : ∀ a, 2 ≤ a → a ≤ 40 → mst (ff A O n) a = 0) (K : ∀ h', SH bb c h' → HeM h' n A O → fr [45] h0 h' → gd (k x1 x2 h') Q) : ∀ (d a fuel : Nat) (h : HP), a + d = 41 → 2 ≤ a → d < fuel → SH bb c h → HeM h n A O → fr [45] h0 h → gd (lp (fun _ _ _ _ => none) (f_X10_ask_B14 N 188 k) fuel x1 x2 (n32 a) h) Q := by
  intro d
  induction d with
  | zero =>
    intro a fuel h ha h2 hf s hm f
    obtain ⟨k', rfl⟩ : ∃ k, fuel = k + 1 := ⟨fuel - 1, by omega⟩
    have e : 40 < a := by omega
    simp -implicitDefEqProofs (disch := omega) only [lp_s, f_X10_ask_B14, gP_p, gP_t, bnd_s, bnd2_s, ltt_s, jn_s, n32_nat, n32_le, n32_lt, n32_eq, n32_add, n32_sub, n32_dec, n32_mul, n32_div, n32_irm, n32_lit, n32_oN, n32_ix, n32_m1, n32_m2, neg_le0, neg_lt0, neg_lt1, neg_le1, n32_min, n32_max, if_true, if_false, Nat.one_ne_zero, gd_some, true_or, or_true, false_or, or_false, e]
    exact K h s hm f
  | succ d ih =>
    intro a fuel h ha h2 hf s hm f
    obtain ⟨k', rfl⟩ : ∃ k, fuel = k + 1 := ⟨fuel - 1, by omega⟩
    have e : ¬ 40 < a := by omega
    rw [lp_s, f_X10_ask_B14]
    simp -implicitDefEqProofs (disch := omega) only [gP_p, gP_t, bnd_s, bnd2_s, ltt_s, jn_s, n32_nat, n32_le, n32_lt, n32_eq, n32_add, n32_sub, n32_dec, n32_mul, n32_div, n32_irm, n32_lit, n32_oN, n32_ix, n32_m1, n32_m2, neg_le0, neg_lt0, neg_lt1, neg_le1, n32_min, n32_max, if_true, if_false, Nat.one_ne_zero, gd_some, true_or, or_true, false_or, or_false, e]
    refine part0_l h (by omega) ?_ a 0 N h (by omega) (by omega) s (fun b hb => absurd hb (Nat.not_lt_zero b)) (fr.rf _ _)
    intro g1 s1 z1 f1
    have zz : ∀ b, cp (ff A O n) a b 1 = 0 := fun b => by
      show 0 + cg (ff A O n) a b 0 = 0
      unfold cg
      rw [ff_0]
      split <;> rfl
    have key := parts_l (N := N) (A := A) (O := O) (n := n) (bb := bb) (c := c) (x1 := x1) (x2 := x2) (k := fun (x51 : Int32) (h52 : HP) => (if x51 ≤ n32 0 then lt_ (n32 a + n32 1) (fun v55 => lp (fun _ _ _ _ => none) (f_X10_ask_B14 N 188 k) k' x1 x2 v55 h52) else (if x2 ≤ x51 then lt_ (n32 a + n32 1) (fun v58 => lp (fun _ _ _ _ => none) (f_X10_ask_B14 N 188 k) k' x1 x2 v58 h52) else lt_ (n32 a + n32 1) (fun v60 => lp (fun _ _ _ _ => none) (f_X10_ask_B14 N 188 k) k' (n32 a) x51 v60 h52)))) (Q := Q) hN ho g1 h2 (by omega) (fun g2 s2 m2 f2 => by
      rw [mz a h2 (by omega)]
      simp -implicitDefEqProofs (disch := omega) only [gP_p, gP_t, bnd_s, bnd2_s, ltt_s, jn_s, n32_nat, n32_le, n32_lt, n32_eq, n32_add, n32_sub, n32_dec, n32_mul, n32_div, n32_irm, n32_lit, n32_oN, n32_ix, n32_m1, n32_m2, neg_le0, neg_lt0, neg_lt1, neg_le1, n32_min, n32_max, if_true, if_false, Nat.one_ne_zero, gd_some, true_or, or_true, false_or, or_false, Nat.le_refl]
      exact ih (a + 1) k' g2 (by omega) (by omega) (by omega) s2 m2 ((f.tr f1).tr f2)) 999 1 N g1 (by omega) (by omega) (by omega) s1 (hm.fr f1 (by decide)) (fun b hb => by rw [zz b]; exact z1 b hb) (fr.rf _ _)
    rw [mxN_0 a (fun b _ => zz b)] at key
    simp -implicitDefEqProofs (disch := omega) only [gP_p, gP_t, bnd_s, bnd2_s, ltt_s, jn_s, n32_nat, n32_le, n32_lt, n32_eq, n32_add, n32_sub, n32_dec, n32_mul, n32_div, n32_irm, n32_lit, n32_oN, n32_ix, n32_m1, n32_m2, neg_le0, neg_lt0, neg_lt1, neg_le1, n32_min, n32_max, if_true, if_false, Nat.one_ne_zero, gd_some, true_or, or_true, false_or, or_false] at key
    exact key
theorem ask_m {N n : Nat} {A O : Nat → Nat} {bb c : Bool} {k : Int32 → Int32 → HP → Option (Int32 × HP)} {Q : Int32 × HP → Prop} (hN : 1001 < N) (ho : HOK n A O) (h0 : HP) (mp : ∀ a, 2 ≤ a → a ≤ 40 → 0 < mst (ff A O n) a) (E : Nat × Int32) (K : ∀ h', SH bb c h' → HeM h' n A O → fr [45] h0 h' → gd (k E.2 (n32 E.1) h') Q) : ∀ (d a fuel : Nat) (h : HP) (p : Nat × Int32), a + d = 41 → 2 ≤ a → d < fuel → SH bb c h → HeM h n A O → fr [45] h0 h → p.1 ≤ 2000000000 → FA (mst (ff A O n)) d a p = E → gd (lp (fun _ _ _ _ => none) (f_X10_ask_B14 N 188 k) fuel p.2 (n32 p.1) (n32 a) h) Q := by
  have f1 : ∀ y, ff A O n y ≤ 1 := fun y => ff_1
  intro d
  induction d with
  | zero =>
    intro a fuel h p ha h2 hf s hm f hp hE
    obtain ⟨k', rfl⟩ : ∃ k, fuel = k + 1 := ⟨fuel - 1, by omega⟩
    have e : 40 < a := by omega
    have hE' : p = E := hE
    subst hE'
    simp -implicitDefEqProofs (disch := omega) only [lp_s, f_X10_ask_B14, gP_p, gP_t, bnd_s, bnd2_s, ltt_s, jn_s, n32_nat, n32_le, n32_lt, n32_eq, n32_add, n32_sub, n32_dec, n32_mul, n32_div, n32_irm, n32_lit, n32_oN, n32_ix, n32_m1, n32_m2, neg_le0, neg_lt0, neg_lt1, neg_le1, n32_min, n32_max, if_true, if_false, Nat.one_ne_zero, gd_some, true_or, or_true, false_or, or_false, e]
    exact K h s hm f
  | succ d ih =>
    intro a fuel h p ha h2 hf s hm f hp hE
    obtain ⟨k', rfl⟩ : ∃ k, fuel = k + 1 := ⟨fuel - 1, by omega⟩
    have e : ¬ 40 < a := by omega
    have mb : mst (ff A O n) a ≤ 1000 := mxN_le (fun y => cp_le f1) a
    have mp' := mp a h2 (by omega)
    have nz : ¬ mst (ff A O n) a ≤ 0 := by omega
    have hE' : FA (mst (ff A O n)) d (a + 1) (if p.1 ≤ mst (ff A O n) a then p else (mst (ff A O n) a, n32 a)) = E := hE
    rw [lp_s, f_X10_ask_B14]
    simp -implicitDefEqProofs (disch := omega) only [gP_p, gP_t, bnd_s, bnd2_s, ltt_s, jn_s, n32_nat, n32_le, n32_lt, n32_eq, n32_add, n32_sub, n32_dec, n32_mul, n32_div, n32_irm, n32_lit, n32_oN, n32_ix, n32_m1, n32_m2, neg_le0, neg_lt0, neg_lt1, neg_le1, n32_min, n32_max, if_true, if_false, Nat.one_ne_zero, gd_some, true_or, or_true, false_or, or_false, e]
    refine part0_l h (by omega) ?_ a 0 N h (by omega) (by omega) s (fun b hb => absurd hb (Nat.not_lt_zero b)) (fr.rf _ _)
    intro g1 s1 z1 f1
    have zz : ∀ b, cp (ff A O n) a b 1 = 0 := fun b => by
      show 0 + cg (ff A O n) a b 0 = 0
      unfold cg
      rw [ff_0]
      split <;> rfl
    have key := parts_l (N := N) (A := A) (O := O) (n := n) (bb := bb) (c := c) (x1 := p.2) (x2 := n32 p.1) (k := fun (x51 : Int32) (h52 : HP) => (if x51 ≤ n32 0 then lt_ (n32 a + n32 1) (fun v55 => lp (fun _ _ _ _ => none) (f_X10_ask_B14 N 188 k) k' p.2 (n32 p.1) v55 h52) else (if n32 p.1 ≤ x51 then lt_ (n32 a + n32 1) (fun v58 => lp (fun _ _ _ _ => none) (f_X10_ask_B14 N 188 k) k' p.2 (n32 p.1) v58 h52) else lt_ (n32 a + n32 1) (fun v60 => lp (fun _ _ _ _ => none) (f_X10_ask_B14 N 188 k) k' (n32 a) x51 v60 h52)))) (Q := Q) hN ho g1 h2 (by omega) (fun g2 s2 m2 f2 => by
      by_cases q : p.1 ≤ mst (ff A O n) a
      · rw [if_pos q] at hE'
        simp -implicitDefEqProofs (disch := omega) only [gP_p, gP_t, bnd_s, bnd2_s, ltt_s, jn_s, n32_nat, n32_le, n32_lt, n32_eq, n32_add, n32_sub, n32_dec, n32_mul, n32_div, n32_irm, n32_lit, n32_oN, n32_ix, n32_m1, n32_m2, neg_le0, neg_lt0, neg_lt1, neg_le1, n32_min, n32_max, if_true, if_false, Nat.one_ne_zero, gd_some, true_or, or_true, false_or, or_false, nz, q]
        exact ih (a + 1) k' g2 p (by omega) (by omega) (by omega) s2 m2 ((f.tr f1).tr f2) hp hE'
      · rw [if_neg q] at hE'
        simp -implicitDefEqProofs (disch := omega) only [gP_p, gP_t, bnd_s, bnd2_s, ltt_s, jn_s, n32_nat, n32_le, n32_lt, n32_eq, n32_add, n32_sub, n32_dec, n32_mul, n32_div, n32_irm, n32_lit, n32_oN, n32_ix, n32_m1, n32_m2, neg_le0, neg_lt0, neg_lt1, neg_le1, n32_min, n32_max, if_true, if_false, Nat.one_ne_zero, gd_some, true_or, or_true, false_or, or_false, nz, q]
        exact ih (a + 1) k' g2 (mst (ff A O n) a, n32 a) (by omega) (by omega) (by omega) s2 m2 ((f.tr f1).tr f2) (by show mst (ff A O n) a ≤ 2000000000; omega) hE') 999 1 N g1 (by omega) (by omega) (by omega) s1 (hm.fr f1 (by decide)) (fun b hb => by rw [zz b]; exact z1 b hb) (fr.rf _ _)
    rw [mxN_0 a (fun b _ => zz b)] at key
    simp -implicitDefEqProofs (disch := omega) only [gP_p, gP_t, bnd_s, bnd2_s, ltt_s, jn_s, n32_nat, n32_le, n32_lt, n32_eq, n32_add, n32_sub, n32_dec, n32_mul, n32_div, n32_irm, n32_lit, n32_oN, n32_ix, n32_m1, n32_m2, neg_le0, neg_lt0, neg_lt1, neg_le1, n32_min, n32_max, if_true, if_false, Nat.one_ne_zero, gd_some, true_or, or_true, false_or, or_false] at key
    exact key
theorem FA_0 {m : Nat → Nat} {v : Int32} : ∀ d a, FA m d a (0, v) = (0, v) := by
  intro d
  induction d with
  | zero => intro a; rfl
  | succ d ih =>
    intro a
    show FA m d (a + 1) (if 0 ≤ m a then (0, v) else (m a, n32 a)) = (0, v)
    rw [if_pos (Nat.zero_le _)]
    exact ih (a + 1)
theorem FA_s {m : Nat → Nat} {d a : Nat} {p : Nat × Int32} : FA m (d + 1) a p = FA m d (a + 1) (if p.1 ≤ m a then p else (m a, n32 a)) := rfl
theorem FA_39 {m : Nat → Nat} {w : Nat} {v : Int32} : FA m 39 2 (w, v) = FA m 38 3 (if w ≤ m 2 then (w, v) else (m 2, n32 2)) := FA_s (d := 38) (a := 2)
theorem FA_p {m : Nat → Nat} (mp : ∀ a, 2 ≤ a → a ≤ 40 → 0 < m a ∧ m a ≤ 1000) : ∀ d a w ch, a + d = 41 → 2 ≤ a → 0 < w → w ≤ 1000 → 2 ≤ ch → ch ≤ 40 → ∃ w' ch', FA m d a (w, n32 ch) = (w', n32 ch') ∧ 0 < w' ∧ w' ≤ 1000 ∧ 2 ≤ ch' ∧ ch' ≤ 40 := by
  intro d
  induction d with
  | zero => intro a w ch _ _ h1 h2 h3 h4; exact ⟨w, ch, rfl, h1, h2, h3, h4⟩
  | succ d ih =>
    intro a w ch ha h2 h3 h4 h5 h6
    have e : FA m (d + 1) a (w, n32 ch) = FA m d (a + 1) (if w ≤ m a then (w, n32 ch) else (m a, n32 a)) := rfl
    rw [e]
    by_cases q : w ≤ m a
    · rw [if_pos q]
      exact ih (a + 1) w ch (by omega) (by omega) h3 h4 h5 h6
    · rw [if_neg q]
      exact ih (a + 1) (m a) a (by omega) (by omega) (mp a h2 (by omega)).1 (mp a h2 (by omega)).2 h2 (by omega)
theorem mst_d (f : Nat → Nat) : (∀ a, 2 ≤ a → mst f a = 0) ∨ (∀ a, 2 ≤ a → 0 < mst f a) := by
  by_cases q : ∃ y, y < 1000 ∧ 0 < f y
  · obtain ⟨y, h1, h2⟩ := q
    refine Or.inr (fun a ha => ?_)
    have e1 : cp f a (y % a) 1000 ≤ mst f a := mxN_ge (g := fun b => cp f a b 1000) a (y % a) (Nat.mod_lt _ (by omega))
    have e2 : cg f a (y % a) y ≤ cp f a (y % a) 1000 := sumN_ge 1000 y h1
    have e3 : cg f a (y % a) y = f y := if_pos rfl
    omega
  · refine Or.inl (fun a ha => mxN_0 a (fun b hb => sumN_0 1000 (fun y hy => ?_)))
    unfold cg
    split
    · rcases Nat.eq_zero_or_pos (f y) with e | e
      · exact e
      · exact absurd ⟨y, hy, e⟩ q
    · rfl
theorem op_ask {k : Nat} (hk : k < 512) : ∀ (h : HP), Inv k h → ∃ (v : Int32) (h1 h2 : HP), f_X9_ask 1100 h 0 = some (v, h1) ∧ f_X10_ask 1100 h1 188 = some (v, h2) ∧ Inv (k + 1) h2 := by
  intro h I
  obtain ⟨b, c, sz, iv⟩ := I
  obtain ⟨a0, a1, a2, a3, a4, a5, a6, a7, a8, a9, a10⟩ := id iv
  obtain ⟨n, A, O, h1, h2, h3, h4⟩ := a10
  have ho : HOK n A O := ⟨h1, h2⟩
  have ff1 : ∀ y, ff A O n y ≤ 1 := fun y => ff_1
  have mb : ∀ a, mst (ff A O n) a ≤ 999 := fun a => mxN_le (fun b => sumN_le (g := cg (ff A O n) a b) (by unfold cg; rw [ff_0]; split <;> rfl) (fun y => cg_1 ff1) 999) a
  obtain ⟨g0, e0, x1, x2, x3⟩ := sift_x (N := 1100) (by omega) ho a0 h3
  have s1 := a0.fr x3
  have f0 : ∀ g1 : HP, fr [50] g1 (setI g1 188 0 (n32 0)) := fun g1 => (fr.rf _ _).sI rfl
  rcases mst_d (ff A O n) with mz | mp
  · -- nothing fits
    have cx : f_X9_ask 1100 h 0 = some (-n32 2, g0) := by
      unfold f_X9_ask
      have key := ask_x (N := 1100) (k := fun (x24 : Int32) (x25 : Int32) => (if x24 = 0 then some ((-2), g0) else bnd (rK g0 0 1 6) (fun t27 => bnd (f_X6_tell g0 t27 (x24.toInt64)) (fun h32 => some (x25, h32))))) (R := some (-n32 2, g0)) (by omega) s1 x2 (0, n32 2) rfl 39 2 1100 (1000, n32 0) (by omega) (by omega) (by omega) (by show 1000 ≤ 1000; omega) (by
        rw [FA_39, if_neg (by have := mb 2; omega), mz 2 (by omega)]
        exact FA_0 38 3)
      simp -implicitDefEqProofs (disch := omega) only [a0.root, gP_p, gP_t, bnd_s, bnd2_s, ltt_s, jn_s, n32_nat, n32_le, n32_lt, n32_eq, n32_add, n32_sub, n32_dec, n32_mul, n32_div, n32_irm, n32_lit, n32_oN, n32_ix, n32_m1, n32_m2, neg_le0, neg_lt0, neg_lt1, neg_le1, n32_min, n32_max, if_true, if_false, Nat.one_ne_zero, gd_some, true_or, or_true, false_or, or_false, e0]
      simp -implicitDefEqProofs (disch := omega) only [gP_p, gP_t, bnd_s, bnd2_s, ltt_s, jn_s, n32_nat, n32_le, n32_lt, n32_eq, n32_add, n32_sub, n32_dec, n32_mul, n32_div, n32_irm, n32_lit, n32_oN, n32_ix, n32_m1, n32_m2, neg_le0, neg_lt0, neg_lt1, neg_le1, n32_min, n32_max, if_true, if_false, Nat.one_ne_zero, gd_some, true_or, or_true, false_or, or_false] at key
      exact key
    have fa := x3.tr ((fr.rf [12] g0))
    have M : gd (f_X10_ask 1100 g0 188) (fun p => p.1 = -n32 2 ∧ fr [50, 45] g0 p.2) := by
      have key := ask_z (N := 1100) (A := A) (O := O) (n := n) (bb := b) (c := c) (x1 := -n32 2) (x2 := n32 2000000000) (k := fun (x62 : Int32) (x63 : Int32) (h64 : HP) => (if x62 ≤ 0 then some (x62, h64) else lt_ (setI h64 188 1 0) (fun h67 => bnd (f_X10_enters h67 188 (x63.toInt64)) (fun h70 => some (x62, h70))))) (Q := fun p => p.1 = -n32 2 ∧ fr [50, 45] g0 p.2) (by omega) ho (setI g0 188 0 (n32 0)) (fun a h _ => mz a h) (fun g2 s2 m2 f2 => by
        have e : -n32 2 ≤ (0 : Int32) := by decide
        rw [if_pos e]
        exact ⟨_, rfl, rfl, ((f0 g0).mono (by decide)).tr (f2.mono (by decide))⟩) 39 2 1100 (setI g0 188 0 (n32 0)) (by omega) (by omega) (by omega) (s1.fr (f0 g0)) ((h4.fr x3 (by decide)).fr (f0 g0) (by decide)) (fr.rf _ _)
      unfold f_X10_ask
      simp -implicitDefEqProofs (disch := omega) only [s1.mod, gP_p, gP_t, bnd_s, bnd2_s, ltt_s, jn_s, n32_nat, n32_le, n32_lt, n32_eq, n32_add, n32_sub, n32_dec, n32_mul, n32_div, n32_irm, n32_lit, n32_oN, n32_ix, n32_m1, n32_m2, neg_le0, neg_lt0, neg_lt1, neg_le1, n32_min, n32_max, if_true, if_false, Nat.one_ne_zero, gd_some, true_or, or_true, false_or, or_false]
      simp -implicitDefEqProofs (disch := omega) only [gP_p, gP_t, bnd_s, bnd2_s, ltt_s, jn_s, n32_nat, n32_le, n32_lt, n32_eq, n32_add, n32_sub, n32_dec, n32_mul, n32_div, n32_irm, n32_lit, n32_oN, n32_ix, n32_m1, n32_m2, neg_le0, neg_lt0, neg_lt1, neg_le1, n32_min, n32_max, if_true, if_false, Nat.one_ne_zero, gd_some, true_or, or_true, false_or, or_false] at key
      exact key
    obtain ⟨⟨v, g2⟩, e2, e3, e4⟩ := M
    have e3' : v = -n32 2 := e3
    subst e3'
    exact ⟨_, g0, g2, cx, e2, Iv.up (iv.he ((x3.mono (by decide)).tr (e4.mono (by decide))) ((a3.fr x3 (by decide)).fr e4 (by decide)) ⟨n, A, O, h1, h2, x1.fr e4 (by decide), (h4.fr x3 (by decide)).fr e4 (by decide)⟩)⟩
  · obtain ⟨w, ch, hE, w1, w2, w3, w4⟩ := FA_p (m := mst (ff A O n)) (fun a h _ => ⟨mp a h, by have := mb a; omega⟩) 38 3 (mst (ff A O n) 2) 2 (by omega) (by omega) (mp 2 (by omega)) (by have := mb 2; omega) (by omega) (by omega)
    have nz : ¬ w = 0 := by omega
    have X : gd (f_X9_ask 1100 h 0) (fun p => p.1 = n32 ch ∧ RowX p.2 [(n32 w).toInt64] ∧ HeX p.2 n A O ∧ fr [2, 12] h p.2) := by
      obtain ⟨g1, e1, t1, t2⟩ := tell1_x (v := (n32 w).toInt64) s1
      have fin : f_X9_ask 1100 h 0 = some (n32 ch, g1) := by
        unfold f_X9_ask
        have key := ask_x (N := 1100) (k := fun (x24 : Int32) (x25 : Int32) => (if x24 = 0 then some ((-2), g0) else bnd (rK g0 0 1 6) (fun t27 => bnd (f_X6_tell g0 t27 (x24.toInt64)) (fun h32 => some (x25, h32))))) (R := some (n32 ch, g1)) (by omega) s1 x2 (w, n32 ch) (by
          simp -implicitDefEqProofs (disch := omega) only [s1.root, gP_p, gP_t, bnd_s, bnd2_s, ltt_s, jn_s, n32_nat, n32_le, n32_lt, n32_eq, n32_add, n32_sub, n32_dec, n32_mul, n32_div, n32_irm, n32_lit, n32_oN, n32_ix, n32_m1, n32_m2, neg_le0, neg_lt0, neg_lt1, neg_le1, n32_min, n32_max, if_true, if_false, Nat.one_ne_zero, gd_some, true_or, or_true, false_or, or_false, nz, e1]) 39 2 1100 (1000, n32 0) (by omega) (by omega) (by omega) (by show 1000 ≤ 1000; omega) (by
          rw [FA_39, if_neg (by have := mb 2; omega)]
          exact hE)
        simp -implicitDefEqProofs (disch := omega) only [a0.root, gP_p, gP_t, bnd_s, bnd2_s, ltt_s, jn_s, n32_nat, n32_le, n32_lt, n32_eq, n32_add, n32_sub, n32_dec, n32_mul, n32_div, n32_irm, n32_lit, n32_oN, n32_ix, n32_m1, n32_m2, neg_le0, neg_lt0, neg_lt1, neg_le1, n32_min, n32_max, if_true, if_false, Nat.one_ne_zero, gd_some, true_or, or_true, false_or, or_false, e0]
        simp -implicitDefEqProofs (disch := omega) only [gP_p, gP_t, bnd_s, bnd2_s, ltt_s, jn_s, n32_nat, n32_le, n32_lt, n32_eq, n32_add, n32_sub, n32_dec, n32_mul, n32_div, n32_irm, n32_lit, n32_oN, n32_ix, n32_m1, n32_m2, neg_le0, neg_lt0, neg_lt1, neg_le1, n32_min, n32_max, if_true, if_false, Nat.one_ne_zero, gd_some, true_or, or_true, false_or, or_false] at key
        exact key
      exact ⟨_, fin, rfl, t1, x1.fr t2 (by decide), (x3.mono (by decide)).tr (t2.mono (by decide))⟩
    obtain ⟨⟨v, g1⟩, q1, q2, q3, q4, q5⟩ := X
    have s2 := a0.fr q5
    have M : gd (f_X10_ask 1100 g1 188) (fun p => p.1 = n32 ch ∧ RowM p.2 [(n32 w).toInt64] ∧ fr [22, 50, 45] g1 p.2) := by
      have cz : ¬ n32 ch ≤ (0 : Int32) := by
        rw [show (0 : Int32) = n32 0 from rfl, n32_le (by omega) (by omega)]
        omega
      · have key := ask_m (N := 1100) (A := A) (O := O) (n := n) (bb := b) (c := c) (k := fun (x62 : Int32) (x63 : Int32) (h64 : HP) => (if x62 ≤ 0 then some (x62, h64) else lt_ (setI h64 188 1 0) (fun h67 => bnd (f_X10_enters h67 188 (x63.toInt64)) (fun h70 => some (x62, h70))))) (Q := fun p => p.1 = n32 ch ∧ RowM p.2 [(n32 w).toInt64] ∧ fr [22, 50, 45] g1 p.2) (by omega) ho (setI g1 188 0 (n32 0)) (fun a h _ => mp a h) (w, n32 ch) (fun g2 s2 m2 f2 => by
          rw [if_neg cz]
          obtain ⟨y1, y2⟩ := rowM_0 (h := g2)
          simp -implicitDefEqProofs (disch := omega) only [gP_p, gP_t, bnd_s, bnd2_s, ltt_s, jn_s, n32_nat, n32_le, n32_lt, n32_eq, n32_add, n32_sub, n32_dec, n32_mul, n32_div, n32_irm, n32_lit, n32_oN, n32_ix, n32_m1, n32_m2, neg_le0, neg_lt0, neg_lt1, neg_le1, n32_min, n32_max, if_true, if_false, Nat.one_ne_zero, gd_some, true_or, or_true, false_or, or_false, gd_bnd]
          refine gd_mono (ent_m (s2.fr y2) y1 (by show 0 < 24; omega)) ?_
          rintro g3 ⟨z1, z2⟩
          exact ⟨trivial, z1, (((f0 g1).mono (by decide)).tr (f2.mono (by decide))).tr ((y2.mono (by decide)).tr (z2.mono (by decide)))⟩) 39 2 1100 (setI g1 188 0 (n32 0)) (2000000000, -n32 2) (by omega) (by omega) (by omega) (s2.fr (f0 g1)) ((h4.fr q5 (by decide)).fr (f0 g1) (by decide)) (fr.rf _ _) (by show 2000000000 ≤ 2000000000; omega) (by
          rw [FA_39, if_neg (by have := mb 2; omega)]
          exact hE)
        unfold f_X10_ask
        simp -implicitDefEqProofs (disch := omega) only [s2.mod, gP_p, gP_t, bnd_s, bnd2_s, ltt_s, jn_s, n32_nat, n32_le, n32_lt, n32_eq, n32_add, n32_sub, n32_dec, n32_mul, n32_div, n32_irm, n32_lit, n32_oN, n32_ix, n32_m1, n32_m2, neg_le0, neg_lt0, neg_lt1, neg_le1, n32_min, n32_max, if_true, if_false, Nat.one_ne_zero, gd_some, true_or, or_true, false_or, or_false]
        simp -implicitDefEqProofs (disch := omega) only [gP_p, gP_t, bnd_s, bnd2_s, ltt_s, jn_s, n32_nat, n32_le, n32_lt, n32_eq, n32_add, n32_sub, n32_dec, n32_mul, n32_div, n32_irm, n32_lit, n32_oN, n32_ix, n32_m1, n32_m2, neg_le0, neg_lt0, neg_lt1, neg_le1, n32_min, n32_max, if_true, if_false, Nat.one_ne_zero, gd_some, true_or, or_true, false_or, or_false] at key
        exact key
    obtain ⟨⟨v2, g2⟩, t1, t2, t3, t4⟩ := M
    have ev : v = v2 := q2.trans t2.symm
    subst ev
    exact ⟨_, g1, g2, q1, t1, Iv.up (iv.he ((q5.mono (by decide)).tr (t4.mono (by decide))) ⟨_, q3.fr t4 (by decide), t3⟩ ⟨n, A, O, h1, h2, q4.fr t4 (by decide), (h4.fr q5 (by decide)).fr t4 (by decide)⟩)⟩
