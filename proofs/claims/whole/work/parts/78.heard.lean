/-! ===== how many it was ===== -/
def ftb (A O : Nat → Nat) (x : Nat) : Nat → Nat → Bool
  | 0, _ => true
  | d + 1, i => decide (x % A i = O i) && ftb A O x d (i + 1)
def fz (A O : Nat → Nat) (n x : Nat) : Nat := if ftb A O x n 0 = true then 1 else 0
theorem fz_le {A O : Nat → Nat} {n x : Nat} : fz A O n x ≤ 1 := by unfold fz; split <;> omega
def HOK (n : Nat) (A O : Nat → Nat) : Prop := n ≤ 8 ∧ ∀ i, i < n → 2 ≤ A i ∧ A i ≤ 40 ∧ O i < A i
theorem fit_l {N n x : Nat} {A O : Nat → Nat} {b c : Bool} {h : HP} (s : SH b c h) (ho : HOK n A O) (hx : HeX h n A O) (hx9 : x ≤ 999) : ∀ (d i fuel : Nat), i + d = n → d < fuel → lp (fun _ => none) (f_X2_isFitting_B2 N 165 (n32 x) h) fuel (n32 i) = some (n32 (if ftb A O x d i = true then 1 else 0)) := by
  obtain ⟨h1, h2, h3⟩ := hx
  have hn := ho.1
  intro d
  induction d with
  | zero =>
    intro i fuel hi hf
    obtain ⟨k, rfl⟩ : ∃ k, fuel = k + 1 := ⟨fuel - 1, by omega⟩
    have e : n ≤ i := by omega
    simp -implicitDefEqProofs (disch := omega) only [lp_s, f_X2_isFitting_B2, gP_p, gP_t, bnd_s, bnd2_s, ltt_s, jn_s, n32_nat, n32_le, n32_lt, n32_eq, n32_add, n32_sub, n32_dec, n32_mul, n32_div, n32_irm, n32_lit, n32_oN, n32_ix, n32_m1, n32_m2, neg_le0, neg_lt0, neg_lt1, neg_le1, n32_min, n32_max, if_true, if_false, Nat.one_ne_zero, gd_some, true_or, or_true, false_or, or_false, h1, e]
    rfl
  | succ d ih =>
    intro i fuel hi hf
    obtain ⟨k, rfl⟩ : ∃ k, fuel = k + 1 := ⟨fuel - 1, by omega⟩
    have e : ¬ n ≤ i := by omega
    obtain ⟨v1, v2⟩ := h2 i (by omega)
    obtain ⟨o1, o2, o3⟩ := ho.2 i (by omega)
    have nx := ih (i + 1) k (by omega) (by omega)
    have q1 : ¬ A i ≤ 0 := by omega
    have q2 : ¬ A i = 0 := by omega
    have ml : x % A i < A i := Nat.mod_lt _ (by omega)
    have nz : ¬ n32 (A i) = n32 0 := by rw [n32_eq (by omega) (by omega)]; exact q2
    have e3 : ftb A O x (d + 1) i = (decide (x % A i = O i) && ftb A O x d (i + 1)) := rfl
    rw [e3]
    by_cases q3 : x % A i = O i
    · rw [decide_eq_true q3, Bool.true_and]
      simp -implicitDefEqProofs (disch := omega) only [lp_s, f_X2_isFitting_B2, gP_p, gP_t, bnd_s, bnd2_s, ltt_s, jn_s, n32_nat, n32_le, n32_lt, n32_eq, n32_add, n32_sub, n32_dec, n32_mul, n32_div, n32_irm, n32_lit, n32_oN, n32_ix, n32_m1, n32_m2, neg_le0, neg_lt0, neg_lt1, neg_le1, n32_min, n32_max, if_true, if_false, Nat.one_ne_zero, gd_some, true_or, or_true, false_or, or_false, h1, e, s.root, v1, v2, q1, q2, q3, not_false_eq_true]
      exact nx
    · rw [decide_eq_false q3, Bool.false_and, if_neg (by decide)]
      simp -implicitDefEqProofs (disch := omega) only [lp_s, f_X2_isFitting_B2, gP_p, gP_t, bnd_s, bnd2_s, ltt_s, jn_s, n32_nat, n32_le, n32_lt, n32_eq, n32_add, n32_sub, n32_dec, n32_mul, n32_div, n32_irm, n32_lit, n32_oN, n32_ix, n32_m1, n32_m2, neg_le0, neg_lt0, neg_lt1, neg_le1, n32_min, n32_max, if_true, if_false, Nat.one_ne_zero, gd_some, true_or, or_true, false_or, or_false, h1, e, s.root, v1, v2, q1, q2, q3, not_false_eq_true]
theorem fit_x {N n x : Nat} {A O : Nat → Nat} {b c : Bool} {h : HP} (hN : 10 < N) (s : SH b c h) (ho : HOK n A O) (hx : HeX h n A O) (hx9 : x ≤ 999) : f_X2_isFitting N h 165 (n32 x) = some (n32 (fz A O n x)) := by
  unfold f_X2_isFitting
  rw [gP_p (by simp only [s.root])]
  exact fit_l s ho hx hx9 n 0 N (by omega) (by have := ho.1; omega)
theorem so_0 {N n x : Nat} {A O : Nat → Nat} {b c : Bool} {h : HP} (s : SH b c h) (ho : HOK n A O) (hm : HeM h n A O) : ∀ (d i fuel : Nat), i + d = n → d < fuel → lp (fun _ _ => none) (f_X10_isSo_B4 N 188 (n32 x) h) fuel (n32 0) (n32 i) = some (n32 0) := by
  have hn := ho.1
  have e1 := hm.1
  intro d
  induction d with
  | zero =>
    intro i fuel hi hf
    obtain ⟨k, rfl⟩ : ∃ k, fuel = k + 1 := ⟨fuel - 1, by omega⟩
    have e : n ≤ i := by omega
    simp -implicitDefEqProofs (disch := omega) only [lp_s, f_X10_isSo_B4, gP_p, gP_t, bnd_s, bnd2_s, ltt_s, jn_s, n32_nat, n32_le, n32_lt, n32_eq, n32_add, n32_sub, n32_dec, n32_mul, n32_div, n32_irm, n32_lit, n32_oN, n32_ix, n32_m1, n32_m2, neg_le0, neg_lt0, neg_lt1, neg_le1, n32_min, n32_max, if_true, if_false, Nat.one_ne_zero, gd_some, true_or, or_true, false_or, or_false, e1, e]
  | succ d ih =>
    intro i fuel hi hf
    obtain ⟨k, rfl⟩ : ∃ k, fuel = k + 1 := ⟨fuel - 1, by omega⟩
    have e : ¬ n ≤ i := by omega
    have nx := ih (i + 1) k (by omega) (by omega)
    simp -implicitDefEqProofs (disch := omega) only [lp_s, f_X10_isSo_B4, gP_p, gP_t, bnd_s, bnd2_s, ltt_s, jn_s, n32_nat, n32_le, n32_lt, n32_eq, n32_add, n32_sub, n32_dec, n32_mul, n32_div, n32_irm, n32_lit, n32_oN, n32_ix, n32_m1, n32_m2, neg_le0, neg_lt0, neg_lt1, neg_le1, n32_min, n32_max, if_true, if_false, Nat.one_ne_zero, gd_some, true_or, or_true, false_or, or_false, e1, e]
    exact nx
theorem so_l {N n x : Nat} {A O : Nat → Nat} {b c : Bool} {h : HP} (s : SH b c h) (ho : HOK n A O) (hm : HeM h n A O) (hx9 : x ≤ 999) : ∀ (d i fuel : Nat), i + d = n → d < fuel → lp (fun _ _ => none) (f_X10_isSo_B4 N 188 (n32 x) h) fuel (n32 1) (n32 i) = some (n32 (if ftb A O x d i = true then 1 else 0)) := by
  have hn := ho.1
  have e1 := hm.1
  intro d
  induction d with
  | zero =>
    intro i fuel hi hf
    obtain ⟨k, rfl⟩ : ∃ k, fuel = k + 1 := ⟨fuel - 1, by omega⟩
    have e : n ≤ i := by omega
    simp -implicitDefEqProofs (disch := omega) only [lp_s, f_X10_isSo_B4, gP_p, gP_t, bnd_s, bnd2_s, ltt_s, jn_s, n32_nat, n32_le, n32_lt, n32_eq, n32_add, n32_sub, n32_dec, n32_mul, n32_div, n32_irm, n32_lit, n32_oN, n32_ix, n32_m1, n32_m2, neg_le0, neg_lt0, neg_lt1, neg_le1, n32_min, n32_max, if_true, if_false, Nat.one_ne_zero, gd_some, true_or, or_true, false_or, or_false, e1, e]
    rfl
  | succ d ih =>
    intro i fuel hi hf
    obtain ⟨k, rfl⟩ : ∃ k, fuel = k + 1 := ⟨fuel - 1, by omega⟩
    have e : ¬ n ≤ i := by omega
    obtain ⟨v1, v2⟩ := hm.2 i (by omega)
    obtain ⟨o1, o2, o3⟩ := ho.2 i (by omega)
    have nx := ih (i + 1) k (by omega) (by omega)
    have n0 := so_0 (x := x) (N := N) s ho hm d (i + 1) k (by omega) (by omega)
    have q2 : ¬ A i = 0 := by omega
    have ml : x % A i < A i := Nat.mod_lt _ (by omega)
    have e3 : ftb A O x (d + 1) i = (decide (x % A i = O i) && ftb A O x d (i + 1)) := rfl
    rw [e3]
    by_cases q3 : x % A i = O i
    · rw [decide_eq_true q3, Bool.true_and]
      simp -implicitDefEqProofs (disch := omega) only [lp_s, f_X10_isSo_B4, gP_p, gP_t, bnd_s, bnd2_s, ltt_s, jn_s, n32_nat, n32_le, n32_lt, n32_eq, n32_add, n32_sub, n32_dec, n32_mul, n32_div, n32_irm, n32_lit, n32_oN, n32_ix, n32_m1, n32_m2, neg_le0, neg_lt0, neg_lt1, neg_le1, n32_min, n32_max, if_true, if_false, Nat.one_ne_zero, gd_some, true_or, or_true, false_or, or_false, e1, e, s.mod, v1, v2, q2, q3, not_false_eq_true]
      exact nx
    · rw [decide_eq_false q3, Bool.false_and, if_neg (by decide)]
      simp -implicitDefEqProofs (disch := omega) only [lp_s, f_X10_isSo_B4, gP_p, gP_t, bnd_s, bnd2_s, ltt_s, jn_s, n32_nat, n32_le, n32_lt, n32_eq, n32_add, n32_sub, n32_dec, n32_mul, n32_div, n32_irm, n32_lit, n32_oN, n32_ix, n32_m1, n32_m2, neg_le0, neg_lt0, neg_lt1, neg_le1, n32_min, n32_max, if_true, if_false, Nat.one_ne_zero, gd_some, true_or, or_true, false_or, or_false, e1, e, s.mod, v1, v2, q2, q3, not_false_eq_true]
      exact n0
theorem so_m {N n x : Nat} {A O : Nat → Nat} {b c : Bool} {h : HP} (hN : 10 < N) (s : SH b c h) (ho : HOK n A O) (hm : HeM h n A O) (hx9 : x ≤ 999) : f_X10_isSo N h 188 (n32 x) = some (n32 (fz A O n x)) := by
  unfold f_X10_isSo
  rw [gP_p (by simp only [s.mod])]
  exact so_l s ho hm hx9 n 0 N (by omega) (by have := ho.1; omega)
/-- the program sifts -/
def SF (h : HP) (n : Nat) (A O : Nat → Nat) (x : Nat) : Prop := h.2.1 168 0 = n32 0 ∧ ∀ y, 1 ≤ y → y < x → h.2.1 168 y = n32 (fz A O n y)
theorem zb_1 {v : Nat} (h : v ≤ 1) : zb (n32 v) = n32 v := by
  rcases (show v = 0 ∨ v = 1 by omega) with rfl | rfl <;> decide
theorem sift_l {N n : Nat} {A O : Nat → Nat} {b c : Bool} (hN : 10 < N) (ho : HOK n A O) (h0 : HP) : ∀ (d x fuel : Nat) (h : HP), x + d = 1000 → 1 ≤ x → d < fuel → SH b c h → HeX h n A O → SF h n A O x → fr [12] h0 h → gd (lp (fun _ _ => none) (f_X2_sift_B2 N 165) fuel (n32 x) h) (fun h' => HeX h' n A O ∧ SF h' n A O 1000 ∧ fr [12] h0 h') := by
  intro d
  induction d with
  | zero =>
    intro x fuel h hx h1 hf s hh sf f
    obtain ⟨k, rfl⟩ : ∃ k, fuel = k + 1 := ⟨fuel - 1, by omega⟩
    have e : 999 < x := by omega
    simp -implicitDefEqProofs (disch := omega) only [lp_s, f_X2_sift_B2, gP_p, gP_t, bnd_s, bnd2_s, ltt_s, jn_s, n32_nat, n32_le, n32_lt, n32_eq, n32_add, n32_sub, n32_dec, n32_mul, n32_div, n32_irm, n32_lit, n32_oN, n32_ix, n32_m1, n32_m2, neg_le0, neg_lt0, neg_lt1, neg_le1, n32_min, n32_max, if_true, if_false, Nat.one_ne_zero, gd_some, true_or, or_true, false_or, or_false, e]
    exact ⟨hh, ⟨sf.1, fun y y1 y2 => sf.2 y y1 (by omega)⟩, f⟩
  | succ d ih =>
    intro x fuel h hx h1 hf s hh sf f
    obtain ⟨k, rfl⟩ : ∃ k, fuel = k + 1 := ⟨fuel - 1, by omega⟩
    have e : ¬ 999 < x := by omega
    have fx := fit_x (x := x) hN s ho hh (by omega)
    have zz := zb_1 (fz_le (A := A) (O := O) (n := n) (x := x))
    simp -implicitDefEqProofs (disch := omega) only [lp_s, f_X2_sift_B2, gP_p, gP_t, bnd_s, bnd2_s, ltt_s, jn_s, n32_nat, n32_le, n32_lt, n32_eq, n32_add, n32_sub, n32_dec, n32_mul, n32_div, n32_irm, n32_lit, n32_oN, n32_ix, n32_m1, n32_m2, neg_le0, neg_lt0, neg_lt1, neg_le1, n32_min, n32_max, if_true, if_false, Nat.one_ne_zero, gd_some, true_or, or_true, false_or, or_false, e, s.root, fx, zz]
    refine ih (x + 1) k _ (by omega) (by omega) (by omega) (s.sm ⟨rfl, rfl⟩) ⟨by rw [sI_ne (by omega)]; exact hh.1, fun i hi => by rw [sI_ne (by omega), sI_ne (by omega)]; exact hh.2.1 i hi, by rw [sI_ne (by omega)]; exact hh.2.2⟩ ⟨by rw [sI_ne (by omega)]; exact sf.1, fun y y1 y2 => ?_⟩ (f.sI rfl)
    by_cases q : y = x
    · rw [q, sI_eq]
    · rw [sI_ne (by omega)]
      exact sf.2 y y1 (by omega)
theorem sift_x {N n : Nat} {A O : Nat → Nat} {b c : Bool} {h : HP} (hN : 1000 < N) (ho : HOK n A O) (s : SH b c h) (hh : HeX h n A O) : gd (f_X2_sift N h 165) (fun h' => HeX h' n A O ∧ SF h' n A O 1000 ∧ fr [12] h h') := by
  unfold f_X2_sift
  rw [gP_p (by simp only [s.root])]
  exact sift_l (by omega) ho h 999 1 N h (by omega) (by omega) (by omega) s hh ⟨hh.2.2, fun y y1 y2 => absurd y2 (by omega)⟩ (fr.rf _ _)
/-! left, forget -/
theorem Iv.he {B : Nat} {b c : Bool} {sz : Nat} {h h' : HP} (s : Iv B b c sz h) (f : fr [2, 22, 11, 12, 28, 4, 5, 9, 10, 13, 17, 19, 31, 32, 33, 40, 41, 42, 43, 44, 45, 46, 47, 50] h h') (rw' : Row h') (he : Hea h') : Iv B b c sz h' := by
  obtain ⟨a0, a1, a2, a3, a4, a5, a6, a7, a8, a9, a10⟩ := s
  exact ⟨a0.fr f, a1.fr f (by decide), a2.fr f (by decide), rw', a4.fr f (by decide), a5.fr f (by decide), a6.fr f (by cases b <;> decide), a7.fr f (by cases c <;> decide), a8.fr f (by decide), a9.fr f (by decide), he⟩
theorem op_forget {k : Nat} (hk : k < 512) : ∀ (h : HP), Inv k h → ∃ (v : Int32) (h1 h2 : HP), f_X9_forget h 0 = some (v, h1) ∧ f_X10_forget h1 188 = some (v, h2) ∧ Inv (k + 1) h2 := by
  intro h I
  obtain ⟨b, c, sz, iv⟩ := I
  obtain ⟨a0, a1, a2, a3, a4, a5, a6, a7, a8, a9, a10⟩ := id iv
  obtain ⟨n, A, O, h1, h2, h3, h4⟩ := a10
  have f1 : fr [11] h (setI h 165 3 (n32 0)) := (fr.rf _ _).sI rfl
  have f2 : fr [28, 50] (setI h 165 3 (n32 0)) (setI (setI (setI h 165 3 (n32 0)) 188 0 (n32 0)) 188 39 (n32 0)) := ((fr.rf _ _).sI rfl).sI rfl
  have f12 : fr [11, 28, 50] h (setI (setI (setI h 165 3 (n32 0)) 188 0 (n32 0)) 188 39 (n32 0)) := (f1.mono (by decide)).tr (f2.mono (by decide))
  refine ⟨n32 n, setI h 165 3 (n32 0), setI (setI (setI h 165 3 (n32 0)) 188 0 (n32 0)) 188 39 (n32 0), ?_, ?_, ?_⟩
  · unfold f_X9_forget
    simp -implicitDefEqProofs (disch := omega) only [a0.root, gP_p, gP_t, bnd_s, bnd2_s, ltt_s, jn_s, n32_nat, n32_le, n32_lt, n32_eq, n32_add, n32_sub, n32_dec, n32_mul, n32_div, n32_irm, n32_lit, n32_oN, n32_ix, n32_m1, n32_m2, neg_le0, neg_lt0, neg_lt1, neg_le1, n32_min, n32_max, if_true, if_false, Nat.one_ne_zero, gd_some, true_or, or_true, false_or, or_false, h3.1]
  · unfold f_X10_forget
    simp -implicitDefEqProofs (disch := omega) only [(a0.fr f1).mod, gP_p, gP_t, bnd_s, bnd2_s, ltt_s, jn_s, n32_nat, n32_le, n32_lt, n32_eq, n32_add, n32_sub, n32_dec, n32_mul, n32_div, n32_irm, n32_lit, n32_oN, n32_ix, n32_m1, n32_m2, neg_le0, neg_lt0, neg_lt1, neg_le1, n32_min, n32_max, if_true, if_false, Nat.one_ne_zero, gd_some, true_or, or_true, false_or, or_false, sI_eq, sI_ne, sI_J, sI_R, sI_kO, sI_rK, sI_len, sJ_eq, sJ_ne, sJ_I, sJ_kO, sJ_rK, sJ_len, h4.1]
  · refine Iv.up (iv.he (f12.mono (by decide)) (a3.fr f12 (by decide)) ⟨0, A, O, by omega, fun i hi => absurd hi (Nat.not_lt_zero i), ⟨?_, fun i hi => absurd hi (Nat.not_lt_zero i), ?_⟩, ?_, fun i hi => absurd hi (Nat.not_lt_zero i)⟩)
    · rw [sI_ne (by omega), sI_ne (by omega), sI_eq]
    · rw [sI_ne (by omega), sI_ne (by omega), sI_ne (by omega)]
      exact h3.2.2
    · rw [sI_eq]
theorem op_left {k : Nat} (hk : k < 512) : ∀ (h : HP) (a1 a2 : Int32), Inv k h → ∃ (v : Int32) (h1 h2 : HP), f_X9_left h 0 a1 a2 = some (v, h1) ∧ f_X10_left h1 188 a1 a2 = some (v, h2) ∧ Inv (k + 1) h2 := by
  intro h x1 x2 I
  obtain ⟨b, c, sz, iv⟩ := I
  obtain ⟨a0, a1, a2, a3, a4, a5, a6, a7, a8, a9, a10⟩ := id iv
  obtain ⟨n, A, O, h1, h2, h3, h4⟩ := a10
  have th : fr [50] h (setI h 188 0 (n32 0)) := (fr.rf _ _).sI rfl
  have no := Iv.up (k := k) (iv.q0 (th.mono (by decide)))
  by_cases q1 : 2 ≤ x1.toInt ∧ x1.toInt ≤ 40
  · obtain ⟨a, ha1, ha2, rfl⟩ := n32_of2 (lo := 2) (hi := 40) q1.1 q1.2
    have w1 : f_X9_within (n32 a) (n32 2) (n32 40) = some (n32 1) := within_y q1
    have m1 := in_y (x := n32 a) (lo := 2) (hi := 40) (a := 2) (b := 40) rfl rfl q1
    have ei : (n32 (a - 1)).toInt64.toInt = ((a - 1 : Nat) : Int) := by rw [Int32.toInt_toInt64, n32_int (by omega)]
    by_cases q2 : 0 ≤ x2.toInt ∧ x2.toInt ≤ ((a - 1 : Nat) : Int)
    · obtain ⟨o, -, ho2, rfl⟩ := n32_of2 (lo := 0) (hi := a - 1) q2.1 q2.2
      have w2 : f_X9_within (n32 o) (n32 0) (n32 (a - 1)) = some (n32 1) := within_y (by rw [n32_int (show a - 1 < 2147483648 by omega)]; exact q2)
      have m2 := in_y (x := n32 o) (lo := 0) (hi := (n32 (a - 1)).toInt64) (a := 0) (b := ((a - 1 : Nat) : Int)) rfl ei q2
      by_cases q3 : n < 8
      · have n8 : ¬ n = 8 := by omega
        have f1 : fr [11] h (setI (setI (setI h 166 n (n32 a)) 167 n (n32 o)) 165 3 (n32 (n + 1))) := (((fr.rf _ _).sI rfl).sI rfl).sI rfl
        refine ⟨n32 (n + 1), setI (setI (setI h 166 n (n32 a)) 167 n (n32 o)) 165 3 (n32 (n + 1)), setI (setI (setI (setI (setI (setI (setI h 166 n (n32 a)) 167 n (n32 o)) 165 3 (n32 (n + 1))) 188 0 (n32 0)) 212 n (n32 a)) 213 n (n32 o)) 188 39 (n32 (n + 1)), ?_, ?_, ?_⟩
        · unfold f_X9_left f_X2_hear
          simp -implicitDefEqProofs (disch := omega) only [a0.root, gP_p, gP_t, bnd_s, bnd2_s, ltt_s, jn_s, n32_nat, n32_le, n32_lt, n32_eq, n32_add, n32_sub, n32_dec, n32_mul, n32_div, n32_irm, n32_lit, n32_oN, n32_ix, n32_m1, n32_m2, neg_le0, neg_lt0, neg_lt1, neg_le1, n32_min, n32_max, if_true, if_false, Nat.one_ne_zero, gd_some, true_or, or_true, false_or, or_false, w1, w2, h3.1, q3, sI_eq, sI_ne, sI_J, sI_R, sI_kO, sI_rK, sI_len, sJ_eq, sJ_ne, sJ_I, sJ_kO, sJ_rK, sJ_len]
        · unfold f_X10_left
          simp -implicitDefEqProofs (disch := omega) only [(a0.fr f1).mod, a0.mod, gP_p, gP_t, bnd_s, bnd2_s, ltt_s, jn_s, n32_nat, n32_le, n32_lt, n32_eq, n32_add, n32_sub, n32_dec, n32_mul, n32_div, n32_irm, n32_lit, n32_oN, n32_ix, n32_m1, n32_m2, neg_le0, neg_lt0, neg_lt1, neg_le1, n32_min, n32_max, if_true, if_false, Nat.one_ne_zero, gd_some, true_or, or_true, false_or, or_false, m1, m2, h4.1, n8, sI_eq, sI_ne, sI_J, sI_R, sI_kO, sI_rK, sI_len, sJ_eq, sJ_ne, sJ_I, sJ_kO, sJ_rK, sJ_len]
        · have f2 : fr [11, 28, 50] h (setI (setI (setI (setI (setI (setI (setI h 166 n (n32 a)) 167 n (n32 o)) 165 3 (n32 (n + 1))) 188 0 (n32 0)) 212 n (n32 a)) 213 n (n32 o)) 188 39 (n32 (n + 1))) := ((((f1.mono (by decide)).sI rfl).sI rfl).sI rfl).sI rfl
          refine Iv.up (iv.he (f2.mono (by decide)) (a3.fr f2 (by decide)) ⟨n + 1, fun i => if i = n then a else A i, fun i => if i = n then o else O i, by omega, fun i hi => ?_, ⟨?_, fun i hi => ?_, ?_⟩, ?_, fun i hi => ?_⟩)
          · by_cases e : i = n
            · simp only [if_pos e]
              omega
            · simp only [if_neg e]
              exact h2 i (by omega)
          · simp -implicitDefEqProofs (disch := omega) only [sI_eq, sI_ne, sI_J, sI_R, sI_kO, sI_rK, sI_len, sJ_eq, sJ_ne, sJ_I, sJ_kO, sJ_rK, sJ_len]
          · by_cases e : i = n
            · subst e
              simp only [if_true]
              exact ⟨by simp -implicitDefEqProofs (disch := omega) only [sI_eq, sI_ne, sI_J, sI_R, sI_kO, sI_rK, sI_len, sJ_eq, sJ_ne, sJ_I, sJ_kO, sJ_rK, sJ_len], by simp -implicitDefEqProofs (disch := omega) only [sI_eq, sI_ne, sI_J, sI_R, sI_kO, sI_rK, sI_len, sJ_eq, sJ_ne, sJ_I, sJ_kO, sJ_rK, sJ_len]⟩
            · simp only [if_neg e]
              exact ⟨by simp -implicitDefEqProofs (disch := omega) only [sI_eq, sI_ne, sI_J, sI_R, sI_kO, sI_rK, sI_len, sJ_eq, sJ_ne, sJ_I, sJ_kO, sJ_rK, sJ_len]; exact (h3.2.1 i (by omega)).1, by simp -implicitDefEqProofs (disch := omega) only [sI_eq, sI_ne, sI_J, sI_R, sI_kO, sI_rK, sI_len, sJ_eq, sJ_ne, sJ_I, sJ_kO, sJ_rK, sJ_len]; exact (h3.2.1 i (by omega)).2⟩
          · simp -implicitDefEqProofs (disch := omega) only [sI_eq, sI_ne, sI_J, sI_R, sI_kO, sI_rK, sI_len, sJ_eq, sJ_ne, sJ_I, sJ_kO, sJ_rK, sJ_len]
            exact h3.2.2
          · simp -implicitDefEqProofs (disch := omega) only [sI_eq, sI_ne, sI_J, sI_R, sI_kO, sI_rK, sI_len, sJ_eq, sJ_ne, sJ_I, sJ_kO, sJ_rK, sJ_len]
          · by_cases e : i = n
            · subst e
              simp only [if_true]
              exact ⟨by simp -implicitDefEqProofs (disch := omega) only [sI_eq, sI_ne, sI_J, sI_R, sI_kO, sI_rK, sI_len, sJ_eq, sJ_ne, sJ_I, sJ_kO, sJ_rK, sJ_len], by simp -implicitDefEqProofs (disch := omega) only [sI_eq, sI_ne, sI_J, sI_R, sI_kO, sI_rK, sI_len, sJ_eq, sJ_ne, sJ_I, sJ_kO, sJ_rK, sJ_len]⟩
            · simp only [if_neg e]
              exact ⟨by simp -implicitDefEqProofs (disch := omega) only [sI_eq, sI_ne, sI_J, sI_R, sI_kO, sI_rK, sI_len, sJ_eq, sJ_ne, sJ_I, sJ_kO, sJ_rK, sJ_len]; exact (h4.2 i (by omega)).1, by simp -implicitDefEqProofs (disch := omega) only [sI_eq, sI_ne, sI_J, sI_R, sI_kO, sI_rK, sI_len, sJ_eq, sJ_ne, sJ_I, sJ_kO, sJ_rK, sJ_len]; exact (h4.2 i (by omega)).2⟩
      · have n8 : n = 8 := by omega
        have q3' : ¬ 8 < 8 := by omega
        subst n8
        refine ⟨-n32 1, h, setI h 188 0 (n32 0), ?_, ?_, no⟩
        · unfold f_X9_left f_X2_hear
          simp -implicitDefEqProofs (disch := omega) only [a0.root, gP_p, gP_t, bnd_s, bnd2_s, ltt_s, jn_s, n32_nat, n32_le, n32_lt, n32_eq, n32_add, n32_sub, n32_dec, n32_mul, n32_div, n32_irm, n32_lit, n32_oN, n32_ix, n32_m1, n32_m2, neg_le0, neg_lt0, neg_lt1, neg_le1, n32_min, n32_max, if_true, if_false, Nat.one_ne_zero, gd_some, true_or, or_true, false_or, or_false, w1, w2, h3.1, q3']
        · unfold f_X10_left
          simp -implicitDefEqProofs (disch := omega) only [a0.mod, gP_p, gP_t, bnd_s, bnd2_s, ltt_s, jn_s, n32_nat, n32_le, n32_lt, n32_eq, n32_add, n32_sub, n32_dec, n32_mul, n32_div, n32_irm, n32_lit, n32_oN, n32_ix, n32_m1, n32_m2, neg_le0, neg_lt0, neg_lt1, neg_le1, n32_min, n32_max, if_true, if_false, Nat.one_ne_zero, gd_some, true_or, or_true, false_or, or_false, m1, m2, h4.1, sI_eq, sI_ne, sI_J, sI_R, sI_kO, sI_rK, sI_len, sJ_eq, sJ_ne, sJ_I, sJ_kO, sJ_rK, sJ_len]
    · have w2 : f_X9_within x2 (n32 0) (n32 (a - 1)) = some (n32 0) := within_n (by rw [n32_int (show a - 1 < 2147483648 by omega)]; exact q2)
      have m2 := in_n (x := x2) (lo := 0) (hi := (n32 (a - 1)).toInt64) (a := 0) (b := ((a - 1 : Nat) : Int)) rfl ei q2
      refine ⟨-n32 1, h, setI h 188 0 (n32 0), ?_, ?_, no⟩
      · unfold f_X9_left
        simp -implicitDefEqProofs (disch := omega) only [a0.root, gP_p, gP_t, bnd_s, bnd2_s, ltt_s, jn_s, n32_nat, n32_le, n32_lt, n32_eq, n32_add, n32_sub, n32_dec, n32_mul, n32_div, n32_irm, n32_lit, n32_oN, n32_ix, n32_m1, n32_m2, neg_le0, neg_lt0, neg_lt1, neg_le1, n32_min, n32_max, if_true, if_false, Nat.one_ne_zero, gd_some, true_or, or_true, false_or, or_false, w1, w2]
      · unfold f_X10_left
        simp -implicitDefEqProofs (disch := omega) only [a0.mod, gP_p, gP_t, bnd_s, bnd2_s, ltt_s, jn_s, n32_nat, n32_le, n32_lt, n32_eq, n32_add, n32_sub, n32_dec, n32_mul, n32_div, n32_irm, n32_lit, n32_oN, n32_ix, n32_m1, n32_m2, neg_le0, neg_lt0, neg_lt1, neg_le1, n32_min, n32_max, if_true, if_false, Nat.one_ne_zero, gd_some, true_or, or_true, false_or, or_false, m1, m2]
  · have w1 : f_X9_within x1 (n32 2) (n32 40) = some (n32 0) := within_n q1
    have m1 := in_n (x := x1) (lo := 2) (hi := 40) (a := 2) (b := 40) rfl rfl q1
    refine ⟨-n32 1, h, setI h 188 0 (n32 0), ?_, ?_, no⟩
    · unfold f_X9_left
      simp -implicitDefEqProofs (disch := omega) only [a0.root, gP_p, gP_t, bnd_s, bnd2_s, ltt_s, jn_s, n32_nat, n32_le, n32_lt, n32_eq, n32_add, n32_sub, n32_dec, n32_mul, n32_div, n32_irm, n32_lit, n32_oN, n32_ix, n32_m1, n32_m2, neg_le0, neg_lt0, neg_lt1, neg_le1, n32_min, n32_max, if_true, if_false, Nat.one_ne_zero, gd_some, true_or, or_true, false_or, or_false, w1]
    · unfold f_X10_left
      simp -implicitDefEqProofs (disch := omega) only [a0.mod, gP_p, gP_t, bnd_s, bnd2_s, ltt_s, jn_s, n32_nat, n32_le, n32_lt, n32_eq, n32_add, n32_sub, n32_dec, n32_mul, n32_div, n32_irm, n32_lit, n32_oN, n32_ix, n32_m1, n32_m2, neg_le0, neg_lt0, neg_lt1, neg_le1, n32_min, n32_max, if_true, if_false, Nat.one_ne_zero, gd_some, true_or, or_true, false_or, or_false, m1]
/-! fits -/
def ftF (f : Nat → Nat) : Nat → Nat → Nat × Nat × Nat → Nat × Nat × Nat
  | 0, _, p => p
  | d + 1, x, p => ftF f d (x + 1) (if f x = 0 then p else (p.1 + 1, if p.2.1 = 0 then x else p.2.1, x))
def ftOK (p : Nat × Nat × Nat) (x : Nat) : Prop := p.1 < x ∧ p.2.1 ≤ 999 ∧ p.2.2 ≤ 999 ∧ (p.1 = 0 ↔ p.2.1 = 0)
theorem fits_x {n : Nat} {A O : Nat → Nat} {b c : Bool} {h : HP} {k : Int32 → Int32 → Int32 → Option (Int32 × HP)} {Q : Int32 × HP → Prop} (s : SH b c h) (sf : SF h n A O 1000) (E : Nat × Nat × Nat) (K : ftOK E 1000 → gd (k (n32 E.1) (n32 E.2.1) (n32 E.2.2)) Q) : ∀ (d x fuel : Nat) (p : Nat × Nat × Nat), x + d = 1000 → 1 ≤ x → d < fuel → ftOK p x → ftF (fz A O n) d x p = E →
    gd (lp (fun _ _ _ _ => none) (f_X9_fits_B16 1100 0 h k) fuel (n32 p.1) (n32 p.2.1) (n32 p.2.2) (n32 x)) Q := by
  intro d
  induction d with
  | zero =>
    intro x fuel p hx h1 hf o hE
    obtain ⟨k', rfl⟩ : ∃ k, fuel = k + 1 := ⟨fuel - 1, by omega⟩
    have e : 999 < x := by omega
    have ex : x = 1000 := by omega
    subst ex
    simp -implicitDefEqProofs (disch := omega) only [lp_s, f_X9_fits_B16, gP_p, gP_t, bnd_s, bnd2_s, ltt_s, jn_s, n32_nat, n32_le, n32_lt, n32_eq, n32_add, n32_sub, n32_dec, n32_mul, n32_div, n32_irm, n32_lit, n32_oN, n32_ix, n32_m1, n32_m2, neg_le0, neg_lt0, neg_lt1, neg_le1, n32_min, n32_max, if_true, if_false, Nat.one_ne_zero, gd_some, true_or, or_true, false_or, or_false, e]
    have hE' : p = E := hE
    subst hE'
    exact K o
  | succ d ih =>
    intro x fuel p hx h1 hf o hE
    obtain ⟨k', rfl⟩ : ∃ k, fuel = k + 1 := ⟨fuel - 1, by omega⟩
    have e : ¬ 999 < x := by omega
    have v := sf.2 x h1 (by omega)
    have fl := fz_le (A := A) (O := O) (n := n) (x := x)
    obtain ⟨o1, o2, o3, o4⟩ := id o
    have hE' : ftF (fz A O n) d (x + 1) (if fz A O n x = 0 then p else (p.1 + 1, if p.2.1 = 0 then x else p.2.1, x)) = E := hE
    by_cases q : fz A O n x = 0
    · rw [if_pos q] at hE'
      rw [q] at v
      simp -implicitDefEqProofs (disch := omega) only [lp_s, f_X9_fits_B16, gP_p, gP_t, bnd_s, bnd2_s, ltt_s, jn_s, n32_nat, n32_le, n32_lt, n32_eq, n32_add, n32_sub, n32_dec, n32_mul, n32_div, n32_irm, n32_lit, n32_oN, n32_ix, n32_m1, n32_m2, neg_le0, neg_lt0, neg_lt1, neg_le1, n32_min, n32_max, if_true, if_false, Nat.one_ne_zero, gd_some, true_or, or_true, false_or, or_false, e, s.root, v]
      exact ih (x + 1) k' p (by omega) (by omega) (by omega) ⟨by omega, o2, o3, o4⟩ hE'
    · rw [if_neg q] at hE'
      have q1 : fz A O n x = 1 := by omega
      rw [q1] at v
      by_cases q2 : p.2.1 = 0
      · rw [if_pos q2] at hE'
        simp -implicitDefEqProofs (disch := omega) only [lp_s, f_X9_fits_B16, gP_p, gP_t, bnd_s, bnd2_s, ltt_s, jn_s, n32_nat, n32_le, n32_lt, n32_eq, n32_add, n32_sub, n32_dec, n32_mul, n32_div, n32_irm, n32_lit, n32_oN, n32_ix, n32_m1, n32_m2, neg_le0, neg_lt0, neg_lt1, neg_le1, n32_min, n32_max, if_true, if_false, Nat.one_ne_zero, gd_some, true_or, or_true, false_or, or_false, e, s.root, v, q2]
        exact ih (x + 1) k' (p.1 + 1, x, x) (by omega) (by omega) (by omega) ⟨by show p.1 + 1 < x + 1; omega, by show x ≤ 999; omega, by show x ≤ 999; omega, by show p.1 + 1 = 0 ↔ x = 0; omega⟩ hE'
      · rw [if_neg q2] at hE'
        simp -implicitDefEqProofs (disch := omega) only [lp_s, f_X9_fits_B16, gP_p, gP_t, bnd_s, bnd2_s, ltt_s, jn_s, n32_nat, n32_le, n32_lt, n32_eq, n32_add, n32_sub, n32_dec, n32_mul, n32_div, n32_irm, n32_lit, n32_oN, n32_ix, n32_m1, n32_m2, neg_le0, neg_lt0, neg_lt1, neg_le1, n32_min, n32_max, if_true, if_false, Nat.one_ne_zero, gd_some, true_or, or_true, false_or, or_false, e, s.root, v, q2]
        exact ih (x + 1) k' (p.1 + 1, p.2.1, x) (by omega) (by omega) (by omega) ⟨by show p.1 + 1 < x + 1; omega, o2, by show x ≤ 999; omega, by show p.1 + 1 = 0 ↔ p.2.1 = 0; omega⟩ hE'
theorem fits_m {n : Nat} {A O : Nat → Nat} {b c : Bool} {h : HP} {k : Int32 → Int32 → Int32 → Option (Int32 × HP)} {Q : Int32 × HP → Prop} (s : SH b c h) (ho : HOK n A O) (hm : HeM h n A O) (E : Nat × Nat × Nat) (K : ftOK E 1000 → gd (k (n32 E.1) (n32 E.2.1) (n32 E.2.2)) Q) : ∀ (d x fuel : Nat) (p : Nat × Nat × Nat), x + d = 1000 → 1 ≤ x → d < fuel → ftOK p x → ftF (fz A O n) d x p = E →
    gd (lp (fun _ _ _ _ => none) (f_X10_fits_B14 1100 188 h k) fuel (n32 p.1) (n32 p.2.1) (n32 p.2.2) (n32 x)) Q := by
  intro d
  induction d with
  | zero =>
    intro x fuel p hx h1 hf o hE
    obtain ⟨k', rfl⟩ : ∃ k, fuel = k + 1 := ⟨fuel - 1, by omega⟩
    have e : 999 < x := by omega
    have ex : x = 1000 := by omega
    subst ex
    simp -implicitDefEqProofs (disch := omega) only [lp_s, f_X10_fits_B14, gP_p, gP_t, bnd_s, bnd2_s, ltt_s, jn_s, n32_nat, n32_le, n32_lt, n32_eq, n32_add, n32_sub, n32_dec, n32_mul, n32_div, n32_irm, n32_lit, n32_oN, n32_ix, n32_m1, n32_m2, neg_le0, neg_lt0, neg_lt1, neg_le1, n32_min, n32_max, if_true, if_false, Nat.one_ne_zero, gd_some, true_or, or_true, false_or, or_false, e]
    have hE' : p = E := hE
    subst hE'
    exact K o
  | succ d ih =>
    intro x fuel p hx h1 hf o hE
    obtain ⟨k', rfl⟩ : ∃ k, fuel = k + 1 := ⟨fuel - 1, by omega⟩
    have e : ¬ 999 < x := by omega
    have v := so_m (N := 1100) (x := x) (by omega) s ho hm (by omega)
    have fl := fz_le (A := A) (O := O) (n := n) (x := x)
    obtain ⟨o1, o2, o3, o4⟩ := id o
    have hE' : ftF (fz A O n) d (x + 1) (if fz A O n x = 0 then p else (p.1 + 1, if p.2.1 = 0 then x else p.2.1, x)) = E := hE
    by_cases q : fz A O n x = 0
    · rw [if_pos q] at hE'
      rw [q] at v
      simp -implicitDefEqProofs (disch := omega) only [lp_s, f_X10_fits_B14, gP_p, gP_t, bnd_s, bnd2_s, ltt_s, jn_s, n32_nat, n32_le, n32_lt, n32_eq, n32_add, n32_sub, n32_dec, n32_mul, n32_div, n32_irm, n32_lit, n32_oN, n32_ix, n32_m1, n32_m2, neg_le0, neg_lt0, neg_lt1, neg_le1, n32_min, n32_max, if_true, if_false, Nat.one_ne_zero, gd_some, true_or, or_true, false_or, or_false, e, v]
      exact ih (x + 1) k' p (by omega) (by omega) (by omega) ⟨by omega, o2, o3, o4⟩ hE'
    · rw [if_neg q] at hE'
      have q1 : fz A O n x = 1 := by omega
      rw [q1] at v
      by_cases q2 : p.2.1 = 0
      · rw [if_pos q2] at hE'
        have q3 : p.1 = 0 := o4.mpr q2
        simp -implicitDefEqProofs (disch := omega) only [lp_s, f_X10_fits_B14, gP_p, gP_t, bnd_s, bnd2_s, ltt_s, jn_s, n32_nat, n32_le, n32_lt, n32_eq, n32_add, n32_sub, n32_dec, n32_mul, n32_div, n32_irm, n32_lit, n32_oN, n32_ix, n32_m1, n32_m2, neg_le0, neg_lt0, neg_lt1, neg_le1, n32_min, n32_max, if_true, if_false, Nat.one_ne_zero, gd_some, true_or, or_true, false_or, or_false, e, v, q3]
        have := ih (x + 1) k' (p.1 + 1, x, x) (by omega) (by omega) (by omega) ⟨by show p.1 + 1 < x + 1; omega, by show x ≤ 999; omega, by show x ≤ 999; omega, by show p.1 + 1 = 0 ↔ x = 0; omega⟩ hE'
        simp -implicitDefEqProofs (disch := omega) only [q3] at this
        exact this
      · rw [if_neg q2] at hE'
        have q3 : ¬ p.1 = 0 := fun z => q2 (o4.mp z)
        simp -implicitDefEqProofs (disch := omega) only [lp_s, f_X10_fits_B14, gP_p, gP_t, bnd_s, bnd2_s, ltt_s, jn_s, n32_nat, n32_le, n32_lt, n32_eq, n32_add, n32_sub, n32_dec, n32_mul, n32_div, n32_irm, n32_lit, n32_oN, n32_ix, n32_m1, n32_m2, neg_le0, neg_lt0, neg_lt1, neg_le1, n32_min, n32_max, if_true, if_false, Nat.one_ne_zero, gd_some, true_or, or_true, false_or, or_false, e, v, q3]
        exact ih (x + 1) k' (p.1 + 1, p.2.1, x) (by omega) (by omega) (by omega) ⟨by show p.1 + 1 < x + 1; omega, o2, by show x ≤ 999; omega, by show p.1 + 1 = 0 ↔ p.2.1 = 0; omega⟩ hE'
def ftL (p : Nat × Nat × Nat) : List Int64 := if p.1 = 0 then [] else [(n32 p.2.1).toInt64, (n32 p.2.2).toInt64]
theorem op_fits {k : Nat} (hk : k < 512) : ∀ (h : HP), Inv k h → ∃ (v : Int32) (h1 h2 : HP), f_X9_fits 1100 h 0 = some (v, h1) ∧ f_X10_fits 1100 h1 188 = some (v, h2) ∧ Inv (k + 1) h2 := by
  intro h I
  obtain ⟨b, c, sz, iv⟩ := I
  obtain ⟨a0, a1, a2, a3, a4, a5, a6, a7, a8, a9, a10⟩ := id iv
  obtain ⟨n, A, O, h1, h2, h3, h4⟩ := a10
  have ho : HOK n A O := ⟨h1, h2⟩
  have o0 : ftOK (0, 0, 0) 1 := ⟨by show 0 < 1; omega, by show 0 ≤ 999; omega, by show 0 ≤ 999; omega, by show (0 = 0 ↔ 0 = 0); omega⟩
  have X : gd (f_X9_fits 1100 h 0) (fun p => p.1 = n32 (ftF (fz A O n) 999 1 (0, 0, 0)).1 ∧ RowX p.2 (ftL (ftF (fz A O n) 999 1 (0, 0, 0))) ∧ HeX p.2 n A O ∧ fr [2, 12] h p.2) := by
    unfold f_X9_fits
    simp -implicitDefEqProofs (disch := omega) only [a0.root, gP_p, gP_t, bnd_s, bnd2_s, ltt_s, jn_s, n32_nat, n32_le, n32_lt, n32_eq, n32_add, n32_sub, n32_dec, n32_mul, n32_div, n32_irm, n32_lit, n32_oN, n32_ix, n32_m1, n32_m2, neg_le0, neg_lt0, neg_lt1, neg_le1, n32_min, n32_max, if_true, if_false, Nat.one_ne_zero, gd_some, true_or, or_true, false_or, or_false, gd_bnd]
    refine gd_mono (sift_x (by omega) ho a0 h3) ?_
    rintro g1 ⟨x1, x2, x3⟩
    have s1 := a0.fr x3
    obtain ⟨y1, y2, y3⟩ := rowX_0 s1
    have key := fits_x (k := fun (x32 : Int32) (x33 : Int32) (x34 : Int32) => bnd (rK g1 0 1 6) (fun t35 => bnd (f_X6_clear g1 t35) (fun h40 => (if x32 ≤ 0 then some (x32, h40) else bnd (rK h40 0 1 6) (fun t45 => bnd (f_X6_tell_ h40 t45 (x33.toInt64) (x34.toInt64)) (fun h50 => some (x32, h50))))))) (Q := fun p => p.1 = n32 (ftF (fz A O n) 999 1 (0, 0, 0)).1 ∧ RowX p.2 (ftL (ftF (fz A O n) 999 1 (0, 0, 0))) ∧ HeX p.2 n A O ∧ fr [2, 12] h p.2) s1 x2 (ftF (fz A O n) 999 1 (0, 0, 0)) (fun oE => by
      obtain ⟨e1, e2, e3, e4⟩ := oE
      unfold ftL
      by_cases q : (ftF (fz A O n) 999 1 (0, 0, 0)).1 = 0
      · rw [if_pos q]
        simp -implicitDefEqProofs (disch := omega) only [s1.root, gP_p, gP_t, bnd_s, bnd2_s, ltt_s, jn_s, n32_nat, n32_le, n32_lt, n32_eq, n32_add, n32_sub, n32_dec, n32_mul, n32_div, n32_irm, n32_lit, n32_oN, n32_ix, n32_m1, n32_m2, neg_le0, neg_lt0, neg_lt1, neg_le1, n32_min, n32_max, if_true, if_false, Nat.one_ne_zero, gd_some, true_or, or_true, false_or, or_false, y1, q, Nat.le_refl]
        exact ⟨trivial, y2, x1.fr y3 (by decide), (x3.mono (by decide)).tr (y3.mono (by decide))⟩
      · rw [if_neg q]
        have q' : ¬ (ftF (fz A O n) 999 1 (0, 0, 0)).1 ≤ 0 := by omega
        simp -implicitDefEqProofs (disch := omega) only [s1.root, gP_p, gP_t, bnd_s, bnd2_s, ltt_s, jn_s, n32_nat, n32_le, n32_lt, n32_eq, n32_add, n32_sub, n32_dec, n32_mul, n32_div, n32_irm, n32_lit, n32_oN, n32_ix, n32_m1, n32_m2, neg_le0, neg_lt0, neg_lt1, neg_le1, n32_min, n32_max, if_true, if_false, Nat.one_ne_zero, gd_some, true_or, or_true, false_or, or_false, y1, q', sI_rK, gd_bnd]
        refine gd_mono (tell2_x (s1.fr y3)) ?_
        rintro g2 ⟨z1, z2⟩
        exact ⟨trivial, z1, (x1.fr y3 (by decide)).fr z2 (by decide), ((x3.mono (by decide)).tr (y3.mono (by decide))).tr (z2.mono (by decide))⟩) 999 1 1100 (0, 0, 0) (by omega) (by omega) (by omega) o0 rfl
    simp -implicitDefEqProofs (disch := omega) only [gP_p, gP_t, bnd_s, bnd2_s, ltt_s, jn_s, n32_nat, n32_le, n32_lt, n32_eq, n32_add, n32_sub, n32_dec, n32_mul, n32_div, n32_irm, n32_lit, n32_oN, n32_ix, n32_m1, n32_m2, neg_le0, neg_lt0, neg_lt1, neg_le1, n32_min, n32_max, if_true, if_false, Nat.one_ne_zero, gd_some, true_or, or_true, false_or, or_false] at key
    exact key
  obtain ⟨⟨v, g1⟩, q1, q2, q3, q4, q5⟩ := X
  have s1 := a0.fr q5
  have f0 : fr [50] g1 (setI g1 188 0 (n32 0)) := (fr.rf _ _).sI rfl
  have hm1 : HeM (setI g1 188 0 (n32 0)) n A O := (h4.fr q5 (by decide)).fr f0 (by decide)
  have M : gd (f_X10_fits 1100 g1 188) (fun p => p.1 = n32 (ftF (fz A O n) 999 1 (0, 0, 0)).1 ∧ RowM p.2 (ftL (ftF (fz A O n) 999 1 (0, 0, 0))) ∧ fr [22, 50] g1 p.2) := by
    obtain ⟨y1, y2⟩ := rowM_0 (h := setI g1 188 0 (n32 0))
    have s2 := (s1.fr f0).fr y2
    have f02 : fr [22, 50] g1 (setI (setI g1 188 0 (n32 0)) 188 1 (n32 0)) := (f0.mono (by decide)).tr (y2.mono (by decide))
    have key := fits_m (k := fun (x18 : Int32) (x19 : Int32) (x20 : Int32) => lt_ (setI (setI g1 188 0 0) 188 1 0) (fun h21 => (if x18 ≤ 0 then some (x18, h21) else bnd (f_X10_enters h21 188 (x19.toInt64)) (fun h25 => bnd (f_X10_enters h25 188 (x20.toInt64)) (fun h29 => some (x18, h29)))))) (Q := fun p => p.1 = n32 (ftF (fz A O n) 999 1 (0, 0, 0)).1 ∧ RowM p.2 (ftL (ftF (fz A O n) 999 1 (0, 0, 0))) ∧ fr [22, 50] g1 p.2) (s1.fr f0) ho hm1 (ftF (fz A O n) 999 1 (0, 0, 0)) (fun oE => by
      obtain ⟨e1, e2, e3, e4⟩ := oE
      unfold ftL
      by_cases q : (ftF (fz A O n) 999 1 (0, 0, 0)).1 = 0
      · rw [if_pos q]
        simp -implicitDefEqProofs (disch := omega) only [gP_p, gP_t, bnd_s, bnd2_s, ltt_s, jn_s, n32_nat, n32_le, n32_lt, n32_eq, n32_add, n32_sub, n32_dec, n32_mul, n32_div, n32_irm, n32_lit, n32_oN, n32_ix, n32_m1, n32_m2, neg_le0, neg_lt0, neg_lt1, neg_le1, n32_min, n32_max, if_true, if_false, Nat.one_ne_zero, gd_some, true_or, or_true, false_or, or_false, q, Nat.le_refl]
        exact ⟨trivial, y1, f02⟩
      · rw [if_neg q]
        have q' : ¬ (ftF (fz A O n) 999 1 (0, 0, 0)).1 ≤ 0 := by omega
        simp -implicitDefEqProofs (disch := omega) only [gP_p, gP_t, bnd_s, bnd2_s, ltt_s, jn_s, n32_nat, n32_le, n32_lt, n32_eq, n32_add, n32_sub, n32_dec, n32_mul, n32_div, n32_irm, n32_lit, n32_oN, n32_ix, n32_m1, n32_m2, neg_le0, neg_lt0, neg_lt1, neg_le1, n32_min, n32_max, if_true, if_false, Nat.one_ne_zero, gd_some, true_or, or_true, false_or, or_false, q', gd_bnd]
        refine gd_mono (ent_m s2 y1 (by show 0 < 24; omega)) ?_
        rintro g2 ⟨z1, z2⟩
        refine gd_mono (ent_m (s2.fr z2) z1 (by show 1 < 24; omega)) ?_
        rintro g3 ⟨w1, w2⟩
        exact ⟨trivial, w1, (f02.tr (z2.mono (by decide))).tr (w2.mono (by decide))⟩) 999 1 1100 (0, 0, 0) (by omega) (by omega) (by omega) o0 rfl
    unfold f_X10_fits
    simp -implicitDefEqProofs (disch := omega) only [s1.mod, gP_p, gP_t, bnd_s, bnd2_s, ltt_s, jn_s, n32_nat, n32_le, n32_lt, n32_eq, n32_add, n32_sub, n32_dec, n32_mul, n32_div, n32_irm, n32_lit, n32_oN, n32_ix, n32_m1, n32_m2, neg_le0, neg_lt0, neg_lt1, neg_le1, n32_min, n32_max, if_true, if_false, Nat.one_ne_zero, gd_some, true_or, or_true, false_or, or_false]
    simp -implicitDefEqProofs (disch := omega) only [gP_p, gP_t, bnd_s, bnd2_s, ltt_s, jn_s, n32_nat, n32_le, n32_lt, n32_eq, n32_add, n32_sub, n32_dec, n32_mul, n32_div, n32_irm, n32_lit, n32_oN, n32_ix, n32_m1, n32_m2, neg_le0, neg_lt0, neg_lt1, neg_le1, n32_min, n32_max, if_true, if_false, Nat.one_ne_zero, gd_some, true_or, or_true, false_or, or_false] at key
    exact key
  obtain ⟨⟨v2, g2⟩, t1, t2, t3, t4⟩ := M
  have ev : v = v2 := q2.trans t2.symm
  subst ev
  exact ⟨_, g1, g2, q1, t1, Iv.up (iv.he ((q5.mono (by decide)).tr (t4.mono (by decide))) ⟨_, q3.fr t4 (by decide), t3⟩ ⟨n, A, O, h1, h2, q4.fr t4 (by decide), (h4.fr q5 (by decide)).fr t4 (by decide)⟩)⟩
