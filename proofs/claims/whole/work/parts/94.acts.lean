/-! ===== year: its text ===== -/
def kdL : List Nat := [109, 116, 98, 112, 102, 108, 115]
abbrev kd (s : Nat) : Nat := fi kdL s
def shp (k : Nat) : List Nat := if k = 0 then [109, 48] else if k = 1 then [116, 48, 49] else if k = 2 then [98, 48] else if k = 3 then [112] else if k = 4 then [102, 48] else if k = 5 then [108, 48, 107, 49] else if k = 6 then [115, 48, 107, 49] else []
def al (k : Nat) : Nat := (shp k).length
def shs (k : Nat) : Nat := if k = 0 then SB + 0 else if k = 1 then SB + 1 else if k = 2 then SB + 2 else if k = 3 then SB + 3 else if k = 4 then SB + 4 else if k = 5 then SB + 5 else if k = 6 then SB + 6 else SB + 7
theorem str_kd : STR (SB + 15) kdL := ⟨by decide, by decide +kernel, by decide +kernel⟩
theorem str_sh {k : Nat} (hk : k < 7) : STR (shs k) (shp k) := by
  rcases (show k = 0 ∨ k = 1 ∨ k = 2 ∨ k = 3 ∨ k = 4 ∨ k = 5 ∨ k = 6 by omega) with rfl | rfl | rfl | rfl | rfl | rfl | rfl <;> exact ⟨by decide, by decide +kernel, by decide +kernel⟩
theorem sho_all : (List.range 256).all (fun v => f_X9_shapeOfAct (n32 v) == some (shs (kd v))) = true := by decide +kernel
theorem sho_v {v : Nat} (hv : v < 256) : f_X9_shapeOfAct (n32 v) = some (shs (kd v)) := by
  have h1 := List.all_eq_true.mp sho_all v (List.mem_range.mpr hv)
  exact beq_iff_eq.mp h1
theorem emp_all : (List.range 8).all (fun k => f_J0_isEmpty_aae02 (shs k) == some (n32 (if k < 7 then 0 else 1))) = true := by decide +kernel
theorem emp_v {k : Nat} (hk : k < 8) : f_J0_isEmpty_aae02 (shs k) = some (n32 (if k < 7 then 0 else 1)) := by
  have h1 := List.all_eq_true.mp emp_all k (List.mem_range.mpr hk)
  exact beq_iff_eq.mp h1
theorem kd_lt {s : Nat} : kd s < 8 := by
  have := (fiL_le (bs := kdL) (s := s) kdL.length 0).2
  have e : kdL.length = 7 := rfl
  unfold kd fi
  omega
def sgB (x v : Nat) : Bool := if x = 48 then Nat.ble 48 v && Nat.ble v 57 else if x = 49 then Nat.ble 49 v && Nat.ble v 57 else if x = 107 then v == 111 || v == 110 else v == x
def sgL : List Nat := [48, 49, 107, 109, 116, 98, 112, 102, 108, 115]
theorem sui_all : sgL.all (fun x => (f_X9_suits (n32 x) (-n32 1) == some (n32 0)) && (List.range 256).all (fun v => f_X9_suits (n32 x) (n32 v) == some (n32 (if sgB x v = true then 1 else 0)))) = true := by decide +kernel
theorem sui_v {x v : Nat} (hx : sgL.contains x = true) (hv : v < 256) : f_X9_suits (n32 x) (n32 v) = some (n32 (if sgB x v = true then 1 else 0)) := by
  have h1 := List.all_eq_true.mp sui_all x (by simpa using hx)
  simp only [Bool.and_eq_true] at h1
  exact beq_iff_eq.mp (List.all_eq_true.mp h1.2 v (List.mem_range.mpr hv))
theorem sui_m {x : Nat} (hx : sgL.contains x = true) : f_X9_suits (n32 x) (-n32 1) = some (n32 0) := by
  have h1 := List.all_eq_true.mp sui_all x (by simpa using hx)
  simp only [Bool.and_eq_true] at h1
  exact beq_iff_eq.mp h1.1
theorem shp_sg : ∀ k, k < 7 → ∀ j, j < al k → sgL.contains ((shp k).getD j 0) = true := by decide
abbrev sg (t : Nat → Nat) (E p x : Nat) : Prop := p < E ∧ sgB x (t p) = true
def gsL (t : Nat → Nat) (E : Nat) (bs : List Nat) (p : Nat) : Nat → Nat → Nat
  | 0, j => j
  | d + 1, j => if sg t E (p + j) (bs.getD j 0) then gsL t E bs p d (j + 1) else j
def gs (t : Nat → Nat) (E k p : Nat) : Nat := gsL t E (shp k) p (al k) 0
theorem gsL_le {t : Nat → Nat} {E p : Nat} {bs : List Nat} : ∀ d j, j ≤ gsL t E bs p d j ∧ gsL t E bs p d j ≤ j + d := by
  intro d
  induction d with
  | zero => intro j; exact ⟨Nat.le_refl _, Nat.le_refl _⟩
  | succ d ih =>
    intro j
    have := ih (j + 1)
    show j ≤ (if sg t E (p + j) (bs.getD j 0) then gsL t E bs p d (j + 1) else j) ∧ (if sg t E (p + j) (bs.getD j 0) then gsL t E bs p d (j + 1) else j) ≤ j + (d + 1)
    split <;> omega
theorem gsL_in {t : Nat → Nat} {E p : Nat} {bs : List Nat} : ∀ d j i, j ≤ i → i < gsL t E bs p d j → sg t E (p + i) (bs.getD i 0) := by
  intro d
  induction d with
  | zero => intro j i h1 h2; exact absurd h2 (by show ¬ i < j; omega)
  | succ d ih =>
    intro j i h1 h2
    have h2' : i < (if sg t E (p + j) (bs.getD j 0) then gsL t E bs p d (j + 1) else j) := h2
    by_cases q : sg t E (p + j) (bs.getD j 0)
    · rw [if_pos q] at h2'
      by_cases e : i = j
      · rw [e]; exact q
      · exact ih (j + 1) i (by omega) h2'
    · rw [if_neg q] at h2'; omega
theorem gs_le {t : Nat → Nat} {E k p : Nat} : gs t E k p ≤ al k := by
  have := (gsL_le (t := t) (E := E) (p := p) (bs := shp k) (al k) 0).2
  unfold gs
  omega
theorem gs_in {t : Nat → Nat} {E k p i : Nat} (h : i < gs t E k p) : sg t E (p + i) ((shp k).getD i 0) := gsL_in (al k) 0 i (Nat.zero_le _) h
theorem gs_E {t : Nat → Nat} {E k p : Nat} (hp : p ≤ E) : p + gs t E k p ≤ E := by
  by_cases q : gs t E k p = 0
  · omega
  · have := (gs_in (t := t) (E := E) (k := k) (p := p) (i := gs t E k p - 1) (by omega)).1
    omega
/-- where the i-th act begins -/
def AP (t : Nat → Nat) : Nat → Nat
  | 0 => 0
  | i + 1 => AP t i + al (kd (t (AP t i)))
abbrev ka (t : Nat → Nat) (i : Nat) : Nat := kd (t (AP t i))
theorem AP_s {t : Nat → Nat} {i : Nat} : AP t (i + 1) = AP t i + al (ka t i) := rfl
theorem al_1 {k : Nat} (hk : k < 7) : 1 ≤ al k := by
  rcases (show k = 0 ∨ k = 1 ∨ k = 2 ∨ k = 3 ∨ k = 4 ∨ k = 5 ∨ k = 6 by omega) with rfl | rfl | rfl | rfl | rfl | rfl | rfl <;> decide
def VA (t : Nat → Nat) (E j : Nat) : Prop := AP t j < E ∧ ka t j < 7 ∧ gs t E (ka t j) (AP t j) = al (ka t j)
abbrev YR : Type := Bool × Nat × Nat
def yR (t : Nat → Nat) (E : Nat) : Nat → Nat → YR
  | 0, i => (false, AP t i, i)
  | d + 1, i => if E ≤ AP t i then (true, AP t i, i) else if ka t i = 7 then (false, AP t i, i) else if gs t E (ka t i) (AP t i) = al (ka t i) then yR t E d (i + 1) else (false, AP t i + gs t E (ka t i) (AP t i), i)
theorem yR_f {t : Nat → Nat} {E d i : Nat} : yR t E (d + 1) i = if E ≤ AP t i then (true, AP t i, i) else if ka t i = 7 then (false, AP t i, i) else if gs t E (ka t i) (AP t i) = al (ka t i) then yR t E d (i + 1) else (false, AP t i + gs t E (ka t i) (AP t i), i) := rfl
theorem yR_s {t : Nat → Nat} {E i : Nat} (h1 : i ≤ AP t i) (q1 : ¬ E ≤ AP t i) (q2 : ¬ ka t i = 7) (q3 : gs t E (ka t i) (AP t i) = al (ka t i)) : VA t E i ∧ i + 1 ≤ AP t (i + 1) ∧ AP t (i + 1) ≤ E := by
  have k7 : ka t i < 8 := kd_lt
  have k6 : ka t i < 7 := by omega
  have a1 := al_1 k6
  have g1 := gs_E (t := t) (E := E) (k := ka t i) (p := AP t i) (by omega)
  rw [AP_s]
  exact ⟨⟨by omega, k6, q3⟩, by omega, by omega⟩
theorem yR_ok {t : Nat → Nat} {E : Nat} (hE : E ≤ 60) : ∀ d i R, i + d = 61 → i ≤ AP t i → AP t i ≤ E → (∀ j, j < i → VA t E j) → yR t E d i = R → R.2.1 ≤ E ∧ R.2.2 ≤ 60 ∧ (R.1 = true → (∀ j, j < R.2.2 → VA t E j) ∧ AP t R.2.2 = E ∧ R.2.1 = E) := by
  intro d
  induction d with
  | zero => intro i R h1 h2 h3; omega
  | succ d ih =>
    intro i R h1 h2 h3 h4 hR
    rw [yR_f] at hR
    by_cases q1 : E ≤ AP t i
    · rw [if_pos q1] at hR
      subst hR
      exact ⟨h3, by show i ≤ 60; omega, fun _ => ⟨h4, by show AP t i = E; omega, by show AP t i = E; omega⟩⟩
    · rw [if_neg q1] at hR
      by_cases q2 : ka t i = 7
      · rw [if_pos q2] at hR
        subst hR
        exact ⟨h3, by show i ≤ 60; omega, fun z => absurd z Bool.false_ne_true⟩
      · rw [if_neg q2] at hR
        by_cases q3 : gs t E (ka t i) (AP t i) = al (ka t i)
        · rw [if_pos q3] at hR
          obtain ⟨v, a1, a2⟩ := yR_s h2 q1 q2 q3
          exact ih (i + 1) R (by omega) a1 a2 (fun j hj => by
            by_cases e : j = i
            · rw [e]; exact v
            · exact h4 j (by omega)) hR
        · rw [if_neg q3] at hR
          subst hR
          exact ⟨gs_E h3, by show i ≤ 60; omega, fun z => absurd z Bool.false_ne_true⟩
def yL (r : YR) : LR := (r.1, r.2.1, r.2.2, fun _ => 0)
theorem bad_i {t : Nat → Nat} {N n E p k : Nat} {b c : Bool} {h : HP} {K : Option Int32} (hk : k < 7) (s : SH b c h) (tx : TxX h t n) (tb : ∀ i, i < n → t i < 256) (hn : n ≤ 80) (hE : E ≤ n) (hp : p ≤ 60) : ∀ (d j fuel : Nat), j + d = al k → d < fuel → lp (fun _ => none) (f_X9_badSignOfYear_B45 N 0 (n32 E) (n32 p) (shs k) h K) fuel (n32 j) = if gsL t E (shp k) p d j = al k then K else some (n32 (p + gsL t E (shp k) p d j)) := by
  obtain ⟨st0, st1, st2⟩ : al k ≤ 8 ∧ f_J0_length_8abf5 (shs k) = some (n32 (al k)) ∧ ∀ i, i < al k → f_J0_charAt_5068e (shs k) (n32 i) = some (n32 ((shp k).getD i 0)) ∧ (shp k).getD i 0 < 256 := str_sh hk
  intro d
  induction d with
  | zero =>
    intro j fuel hj hf
    obtain ⟨k', rfl⟩ : ∃ k, fuel = k + 1 := ⟨fuel - 1, by omega⟩
    have e : al k ≤ j := by omega
    have e2 : gsL t E (shp k) p 0 j = al k := by show j = al k; omega
    rw [if_pos e2, lp_s, f_X9_badSignOfYear_B45]
    simp -implicitDefEqProofs (disch := omega) only [gP_p, gP_t, bnd_s, bnd2_s, ltt_s, jn_s, n32_nat, n32_le, n32_lt, n32_eq, n32_add, n32_sub, n32_dec, n32_mul, n32_div, n32_irm, n32_lit, n32_oN, n32_ix, n32_m1, n32_m2, neg_le0, neg_lt0, neg_lt1, neg_le1, n32_min, n32_max, if_true, if_false, Nat.one_ne_zero, gd_some, true_or, or_true, false_or, or_false, st1, e]
  | succ d ih =>
    intro j fuel hj hf
    obtain ⟨k', rfl⟩ : ∃ k, fuel = k + 1 := ⟨fuel - 1, by omega⟩
    have e : ¬ al k ≤ j := by omega
    obtain ⟨c1, c2⟩ := st2 j (by omega)
    have a1 := at_x (p := p + j) s tx hn (by omega) hE
    have hx := shp_sg k hk j (by omega)
    have nx := ih (j + 1) k' (by omega) (by omega)
    have st : gsL t E (shp k) p (d + 1) j = if sg t E (p + j) ((shp k).getD j 0) then gsL t E (shp k) p d (j + 1) else j := rfl
    rw [lp_s, f_X9_badSignOfYear_B45]
    by_cases q : p + j < E
    · rw [if_pos q] at a1
      have su := sui_v hx (tb (p + j) (by omega))
      by_cases q2 : sgB ((shp k).getD j 0) (t (p + j)) = true
      · rw [if_pos q2] at su
        rw [if_pos ⟨q, q2⟩] at st
        rw [st, ← nx]
        simp -implicitDefEqProofs (disch := omega) only [gP_p, gP_t, bnd_s, bnd2_s, ltt_s, jn_s, n32_nat, n32_le, n32_lt, n32_eq, n32_add, n32_sub, n32_dec, n32_mul, n32_div, n32_irm, n32_lit, n32_oN, n32_ix, n32_m1, n32_m2, neg_le0, neg_lt0, neg_lt1, neg_le1, n32_min, n32_max, if_true, if_false, Nat.one_ne_zero, gd_some, true_or, or_true, false_or, or_false, st1, e, c1, s.root, a1, su]
      · rw [if_neg q2] at su
        rw [if_neg (fun z => q2 z.2)] at st
        rw [st, if_neg (by omega)]
        simp -implicitDefEqProofs (disch := omega) only [gP_p, gP_t, bnd_s, bnd2_s, ltt_s, jn_s, n32_nat, n32_le, n32_lt, n32_eq, n32_add, n32_sub, n32_dec, n32_mul, n32_div, n32_irm, n32_lit, n32_oN, n32_ix, n32_m1, n32_m2, neg_le0, neg_lt0, neg_lt1, neg_le1, n32_min, n32_max, if_true, if_false, Nat.one_ne_zero, gd_some, true_or, or_true, false_or, or_false, st1, e, c1, s.root, a1, su]
    · rw [if_neg q] at a1
      have su := sui_m hx
      rw [if_neg (fun z => q z.1)] at st
      rw [st, if_neg (by omega)]
      simp -implicitDefEqProofs (disch := omega) only [gP_p, gP_t, bnd_s, bnd2_s, ltt_s, jn_s, n32_nat, n32_le, n32_lt, n32_eq, n32_add, n32_sub, n32_dec, n32_mul, n32_div, n32_irm, n32_lit, n32_oN, n32_ix, n32_m1, n32_m2, neg_le0, neg_lt0, neg_lt1, neg_le1, n32_min, n32_max, if_true, if_false, Nat.one_ne_zero, gd_some, true_or, or_true, false_or, or_false, st1, e, c1, s.root, a1, su]
theorem bad_l {t : Nat → Nat} {N n E : Nat} {b c : Bool} {h : HP} {K : Option Int32} (hN : 10 < N) (s : SH b c h) (tx : TxX h t n) (tb : ∀ i, i < n → t i < 256) (hn : n ≤ 80) (hE : E ≤ n) (hE2 : E ≤ 60) (R : YR) : ∀ (d i fuel : Nat), i + d = 61 → d < fuel → i ≤ AP t i → AP t i ≤ E → yR t E d i = R → lp (fun _ => none) (f_X9_badSignOfYear_B15 N 0 (n32 E) h K) fuel (n32 (AP t i)) = if R.1 = true then K else some (n32 R.2.1) := by
  intro d
  induction d with
  | zero => intro i fuel h1 h2 h3 h4; omega
  | succ d ih =>
    intro i fuel h1 h2 h3 h4 hR
    obtain ⟨k', rfl⟩ : ∃ k, fuel = k + 1 := ⟨fuel - 1, by omega⟩
    rw [yR_f] at hR
    rw [lp_s, f_X9_badSignOfYear_B15]
    by_cases q1 : E ≤ AP t i
    · rw [if_pos q1] at hR
      subst hR
      simp -implicitDefEqProofs (disch := omega) only [gP_p, gP_t, bnd_s, bnd2_s, ltt_s, jn_s, n32_nat, n32_le, n32_lt, n32_eq, n32_add, n32_sub, n32_dec, n32_mul, n32_div, n32_irm, n32_lit, n32_oN, n32_ix, n32_m1, n32_m2, neg_le0, neg_lt0, neg_lt1, neg_le1, n32_min, n32_max, if_true, if_false, Nat.one_ne_zero, gd_some, true_or, or_true, false_or, or_false, q1]
    · rw [if_neg q1] at hR
      have a1 := at_x (p := AP t i) s tx hn (by omega) hE
      rw [if_pos (by omega)] at a1
      have so := sho_v (tb (AP t i) (by omega))
      have em : f_J0_isEmpty_aae02 (shs (ka t i)) = some (n32 (if ka t i < 7 then 0 else 1)) := emp_v kd_lt
      by_cases q2 : ka t i = 7
      · rw [if_pos q2] at hR
        subst hR
        rw [if_neg (by omega)] at em
        rw [if_neg Bool.false_ne_true]
        simp -implicitDefEqProofs (disch := omega) only [gP_p, gP_t, bnd_s, bnd2_s, ltt_s, jn_s, n32_nat, n32_le, n32_lt, n32_eq, n32_add, n32_sub, n32_dec, n32_mul, n32_div, n32_irm, n32_lit, n32_oN, n32_ix, n32_m1, n32_m2, neg_le0, neg_lt0, neg_lt1, neg_le1, n32_min, n32_max, if_true, if_false, Nat.one_ne_zero, gd_some, true_or, or_true, false_or, or_false, q1, s.root, a1, so, em]
      · rw [if_neg q2] at hR
        have k7 : ka t i < 8 := kd_lt
        have k6 : ka t i < 7 := by omega
        rw [if_pos k6] at em
        have len : f_J0_length_8abf5 (shs (ka t i)) = some (n32 (al (ka t i))) := (str_sh k6).2.1
        have al8 : al (ka t i) ≤ 8 := (str_sh k6).1
        have key := fun K => bad_i (N := N) (K := K) (p := AP t i) k6 s tx tb hn hE (by omega) (al (ka t i)) 0 N (by omega) (by omega)
        have eg : gsL t E (shp (ka t i)) (AP t i) (al (ka t i)) 0 = gs t E (ka t i) (AP t i) := rfl
        rw [eg] at key
        have z0 : n32 0 = 0 := rfl
        rw [z0] at key
        by_cases q3 : gs t E (ka t i) (AP t i) = al (ka t i)
        · rw [if_pos q3] at hR
          obtain ⟨v, b1, b2⟩ := yR_s h3 q1 q2 q3
          have nx := ih (i + 1) k' (by omega) (by omega) b1 b2 hR
          rw [AP_s] at nx
          simp -implicitDefEqProofs (disch := omega) only [gP_p, gP_t, bnd_s, bnd2_s, n32_nat, n32_le, n32_lt, n32_eq, n32_add, n32_sub, n32_dec, n32_mul, n32_div, n32_irm, n32_lit, n32_oN, n32_ix, n32_m1, n32_m2, neg_le0, neg_lt0, neg_lt1, neg_le1, n32_min, n32_max, if_true, if_false, Nat.one_ne_zero, true_or, or_true, false_or, or_false, q1, s.root, a1, so, em]
          simp -implicitDefEqProofs (disch := omega) only [n32_lit] at key
          rw [key, if_pos q3]
          simp -implicitDefEqProofs (disch := omega) only [gP_p, gP_t, bnd_s, bnd2_s, ltt_s, jn_s, n32_nat, n32_le, n32_lt, n32_eq, n32_add, n32_sub, n32_dec, n32_mul, n32_div, n32_irm, n32_lit, n32_oN, n32_ix, n32_m1, n32_m2, neg_le0, neg_lt0, neg_lt1, neg_le1, n32_min, n32_max, if_true, if_false, Nat.one_ne_zero, gd_some, true_or, or_true, false_or, or_false, len]
          exact nx
        · rw [if_neg q3] at hR
          subst hR
          rw [if_neg Bool.false_ne_true]
          simp -implicitDefEqProofs (disch := omega) only [gP_p, gP_t, bnd_s, bnd2_s, n32_nat, n32_le, n32_lt, n32_eq, n32_add, n32_sub, n32_dec, n32_mul, n32_div, n32_irm, n32_lit, n32_oN, n32_ix, n32_m1, n32_m2, neg_le0, neg_lt0, neg_lt1, neg_le1, n32_min, n32_max, if_true, if_false, Nat.one_ne_zero, true_or, or_true, false_or, or_false, q1, s.root, a1, so, em]
          simp -implicitDefEqProofs (disch := omega) only [n32_lit] at key
          rw [key, if_neg q3]
theorem bad_x {t : Nat → Nat} {N n : Nat} {b c : Bool} {h : HP} (hN : 100 < N) (s : SH b c h) (tx : TxX h t n) (tb : ∀ i, i < n → t i < 256) (hn : n ≤ 80) (R : YR) (hR : yR t (min n 60) 61 0 = R) : f_X9_badSignOfYear N h 0 = some (lnC (yL R) n (min n 60)) := by
  have t1 := tx.1
  have mn : f_J9_min_7cf53 (n32 n) (n32 60) = some (n32 (min n 60)) := by
    unfold f_J9_min_7cf53
    simp -implicitDefEqProofs (disch := omega) only [n32_nat, n32_le, n32_lt, n32_eq]
    by_cases q : 60 < n
    · rw [if_pos q, show min n 60 = 60 by omega]
    · rw [if_neg q, show min n 60 = n by omega]
  have key := bad_l (N := N) (K := if n ≤ min n 60 then some (-n32 1) else some (n32 (min n 60))) (by omega) s tx tb hn (show min n 60 ≤ n by omega) (by omega) R 61 0 N (by omega) (by omega) (by omega) (by show 0 ≤ _; omega) hR
  have e0 : AP t 0 = 0 := rfl
  rw [e0] at key
  unfold f_X9_badSignOfYear
  simp -implicitDefEqProofs (disch := omega) only [gP_p, gP_t, bnd_s, bnd2_s, n32_nat, n32_le, n32_lt, n32_eq, n32_add, n32_sub, n32_dec, n32_mul, n32_div, n32_irm, n32_lit, n32_oN, n32_ix, n32_m1, n32_m2, neg_le0, neg_lt0, neg_lt1, neg_le1, n32_min, n32_max, if_true, if_false, Nat.one_ne_zero, true_or, or_true, false_or, or_false, s.root, t1, mn]
  rw [key]
  unfold lnC yL
  split
  · split <;> rfl
  · rfl
