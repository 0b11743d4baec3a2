/-! ===== the text: read ===== -/
abbrev dgt (t : Nat → Nat) (E p : Nat) : Prop := p < E ∧ 48 ≤ t p ∧ t p ≤ 57
def dgN (t : Nat → Nat) (E : Nat) : Nat → Nat → Nat
  | 0, _ => 0
  | m + 1, p => if dgt t E p then dgN t E m (p + 1) + 1 else 0
def nm (t : Nat → Nat) : Nat → Nat → Nat → Nat
  | 0, _, a => a
  | k + 1, p, a => nm t k (p + 1) (10 * a + t p - 48)
theorem dgN_le {t : Nat → Nat} {E : Nat} : ∀ m p, dgN t E m p ≤ m := by
  intro m
  induction m with
  | zero => intro p; exact Nat.le_refl 0
  | succ m ih =>
    intro p
    show (if dgt t E p then dgN t E m (p + 1) + 1 else 0) ≤ m + 1
    split
    · have := ih (p + 1); omega
    · omega
theorem dgN_E {t : Nat → Nat} {E : Nat} : ∀ m p, p ≤ E → p + dgN t E m p ≤ E := by
  intro m
  induction m with
  | zero => intro p h; exact h
  | succ m ih =>
    intro p h
    show p + (if dgt t E p then dgN t E m (p + 1) + 1 else 0) ≤ E
    split
    · rename_i q
      have := ih (p + 1) q.1
      omega
    · omega
theorem dgN_d {t : Nat → Nat} {E : Nat} : ∀ m p i, i < dgN t E m p → dgt t E (p + i) := by
  intro m
  induction m with
  | zero => intro p i h; exact absurd h (Nat.not_lt_zero i)
  | succ m ih =>
    intro p i h
    have h' : i < (if dgt t E p then dgN t E m (p + 1) + 1 else 0) := h
    by_cases q : dgt t E p
    · rw [if_pos q] at h'
      cases i with
      | zero => exact q
      | succ i =>
        have := ih (p + 1) i (by omega)
        rw [show p + (i + 1) = p + 1 + i by omega]
        exact this
    · rw [if_neg q] at h'
      omega
theorem nm_b {t : Nat → Nat} : ∀ k p a B, (∀ i, i < k → 48 ≤ t (p + i) ∧ t (p + i) ≤ 57) → a < B → nm t k p a < 10 ^ k * B := by
  intro k
  induction k with
  | zero => intro p a B _ h; show a < 1 * B; omega
  | succ k ih =>
    intro p a B hd h
    have d0 := hd 0 (by omega)
    rw [Nat.add_zero] at d0
    have := ih (p + 1) (10 * a + t p - 48) (10 * B) (fun i hi => by
      have := hd (i + 1) (by omega)
      rw [show p + 1 + i = p + (i + 1) by omega]
      exact this) (by omega)
    show nm t k (p + 1) (10 * a + t p - 48) < 10 ^ (k + 1) * B
    rw [Nat.pow_succ, Nat.mul_assoc]
    exact this
/-! the program's -/
theorem at_x {t : Nat → Nat} {n p E : Nat} {b c : Bool} {h : HP} (s : SH b c h) (tx : TxX h t n) (hn : n ≤ 80) (hp : p ≤ 1000) (hE : E ≤ n) : f_X8_at h 1 (n32 p) (n32 E) = some (if p < E then n32 (t p) else -n32 1) := by
  have t1 := tx.1
  unfold f_X8_at
  by_cases q : p < E
  · have e1 : ¬ n ≤ p := by omega
    have e2 : ¬ E ≤ p := by omega
    have t2 := tx.2 p (by omega)
    rw [if_pos q]
    simp -implicitDefEqProofs (disch := omega) only [s.root, gP_p, gP_t, bnd_s, bnd2_s, ltt_s, jn_s, n32_nat, n32_le, n32_lt, n32_eq, n32_add, n32_sub, n32_dec, n32_mul, n32_div, n32_irm, n32_lit, n32_oN, n32_ix, n32_m1, n32_m2, neg_le0, neg_lt0, neg_lt1, neg_le1, n32_min, n32_max, if_true, if_false, Nat.one_ne_zero, gd_some, true_or, or_true, false_or, or_false, Nat.not_lt_zero, t1, e1, e2, t2]
  · rw [if_neg q]
    by_cases e1 : n ≤ p
    · simp -implicitDefEqProofs (disch := omega) only [s.root, gP_p, gP_t, bnd_s, bnd2_s, ltt_s, jn_s, n32_nat, n32_le, n32_lt, n32_eq, n32_add, n32_sub, n32_dec, n32_mul, n32_div, n32_irm, n32_lit, n32_oN, n32_ix, n32_m1, n32_m2, neg_le0, neg_lt0, neg_lt1, neg_le1, n32_min, n32_max, if_true, if_false, Nat.one_ne_zero, gd_some, true_or, or_true, false_or, or_false, Nat.not_lt_zero, t1, e1]
    · have e2 : E ≤ p := by omega
      simp -implicitDefEqProofs (disch := omega) only [s.root, gP_p, gP_t, bnd_s, bnd2_s, ltt_s, jn_s, n32_nat, n32_le, n32_lt, n32_eq, n32_add, n32_sub, n32_dec, n32_mul, n32_div, n32_irm, n32_lit, n32_oN, n32_ix, n32_m1, n32_m2, neg_le0, neg_lt0, neg_lt1, neg_le1, n32_min, n32_max, if_true, if_false, Nat.one_ne_zero, gd_some, true_or, or_true, false_or, or_false, Nat.not_lt_zero, t1, e1, e2]
theorem at80_x {t : Nat → Nat} {n p : Nat} {b c : Bool} {h : HP} (s : SH b c h) (tx : TxX h t n) (hn : n ≤ 80) (hp : p < n) : f_X8_at h 1 (n32 p) (n32 80) = some (n32 (t p)) := by
  have t1 := tx.1
  have e1 : ¬ n ≤ p := by omega
  have e2 : ¬ 80 ≤ p := by omega
  have t2 := tx.2 p (by omega)
  unfold f_X8_at
  simp -implicitDefEqProofs (disch := omega) only [s.root, gP_p, gP_t, bnd_s, bnd2_s, ltt_s, jn_s, n32_nat, n32_le, n32_lt, n32_eq, n32_add, n32_sub, n32_dec, n32_mul, n32_div, n32_irm, n32_lit, n32_oN, n32_ix, n32_m1, n32_m2, neg_le0, neg_lt0, neg_lt1, neg_le1, n32_min, n32_max, if_true, if_false, Nat.one_ne_zero, gd_some, true_or, or_true, false_or, or_false, Nat.not_lt_zero, t1, e1, e2, t2]
theorem isd_x {v : Nat} (hv : v < 256) : f_X9_isDigit (n32 v) = some (n32 (if 48 ≤ v ∧ v ≤ 57 then 1 else 0)) := by
  unfold f_X9_isDigit
  by_cases q1 : v < 48
  · have e : (if 48 ≤ v ∧ v ≤ 57 then 1 else 0 : Nat) = 0 := if_neg (by omega)
    rw [e]
    simp -implicitDefEqProofs (disch := omega) only [n32_nat, n32_le, n32_lt, n32_eq, n32_add, n32_sub, n32_dec, n32_mul, n32_div, n32_irm, n32_lit, n32_oN, n32_ix, n32_m1, n32_m2, neg_le0, neg_lt0, neg_lt1, neg_le1, n32_min, n32_max, q1, if_true]
  · by_cases q2 : 57 < v
    · have e : (if 48 ≤ v ∧ v ≤ 57 then 1 else 0 : Nat) = 0 := if_neg (by omega)
      rw [e]
      simp -implicitDefEqProofs (disch := omega) only [n32_nat, n32_le, n32_lt, n32_eq, n32_add, n32_sub, n32_dec, n32_mul, n32_div, n32_irm, n32_lit, n32_oN, n32_ix, n32_m1, n32_m2, neg_le0, neg_lt0, neg_lt1, neg_le1, n32_min, n32_max, q1, q2, if_true, if_false]
    · have e : (if 48 ≤ v ∧ v ≤ 57 then 1 else 0 : Nat) = 1 := if_pos (by omega)
      rw [e]
      simp -implicitDefEqProofs (disch := omega) only [n32_nat, n32_le, n32_lt, n32_eq, n32_add, n32_sub, n32_dec, n32_mul, n32_div, n32_irm, n32_lit, n32_oN, n32_ix, n32_m1, n32_m2, neg_le0, neg_lt0, neg_lt1, neg_le1, n32_min, n32_max, q1, q2, if_false]
theorem digs_l {t : Nat → Nat} {N n p m E : Nat} {b c : Bool} {h : HP} (s : SH b c h) (tx : TxX h t n) (tb : ∀ i, i < n → t i < 256) (hn : n ≤ 80) (hp : p ≤ 100) (hm : m ≤ 10) (hE : E ≤ n) : ∀ (d i fuel : Nat), i + d = m → d < fuel → lp (fun _ => none) (f_X8_digits_B3 N 1 (n32 p) (n32 m) (n32 E) h) fuel (n32 i) = some (n32 (i + dgN t E d (p + i))) := by
  intro d
  induction d with
  | zero =>
    intro i fuel hi hf
    obtain ⟨k', rfl⟩ : ∃ k, fuel = k + 1 := ⟨fuel - 1, by omega⟩
    have e : i = m := by omega
    subst e
    rw [lp_s, f_X8_digits_B3]
    simp -implicitDefEqProofs (disch := omega) only [gP_p, gP_t, bnd_s, bnd2_s, ltt_s, jn_s, n32_nat, n32_le, n32_lt, n32_eq, n32_add, n32_sub, n32_dec, n32_mul, n32_div, n32_irm, n32_lit, n32_oN, n32_ix, n32_m1, n32_m2, neg_le0, neg_lt0, neg_lt1, neg_le1, n32_min, n32_max, if_true, if_false, Nat.one_ne_zero, gd_some, true_or, or_true, false_or, or_false, Nat.le_refl]
    rfl
  | succ d ih =>
    intro i fuel hi hf
    obtain ⟨k', rfl⟩ : ∃ k, fuel = k + 1 := ⟨fuel - 1, by omega⟩
    have e : ¬ m ≤ i := by omega
    have a1 := at_x (p := p + i) s tx hn (by omega) hE
    have nx := ih (i + 1) k' (by omega) (by omega)
    have ed : dgN t E (d + 1) (p + i) = if dgt t E (p + i) then dgN t E d (p + i + 1) + 1 else 0 := rfl
    rw [ed, lp_s, f_X8_digits_B3]
    by_cases q : p + i < E
    · rw [if_pos q] at a1
      have a2 := isd_x (tb (p + i) (by omega))
      by_cases q2 : 48 ≤ t (p + i) ∧ t (p + i) ≤ 57
      · rw [if_pos q2] at a2
        rw [if_pos (show dgt t E (p + i) from ⟨q, q2⟩)]
        simp -implicitDefEqProofs (disch := omega) only [gP_p, gP_t, bnd_s, bnd2_s, ltt_s, jn_s, n32_nat, n32_le, n32_lt, n32_eq, n32_add, n32_sub, n32_dec, n32_mul, n32_div, n32_irm, n32_lit, n32_oN, n32_ix, n32_m1, n32_m2, neg_le0, neg_lt0, neg_lt1, neg_le1, n32_min, n32_max, if_true, if_false, Nat.one_ne_zero, gd_some, true_or, or_true, false_or, or_false, e, a1, a2]
        rw [nx, show p + (i + 1) = p + i + 1 by omega, show i + 1 + dgN t E d (p + i + 1) = i + (dgN t E d (p + i + 1) + 1) by omega]
      · rw [if_neg q2] at a2
        rw [if_neg (show ¬ dgt t E (p + i) from fun z => q2 z.2)]
        simp -implicitDefEqProofs (disch := omega) only [gP_p, gP_t, bnd_s, bnd2_s, ltt_s, jn_s, n32_nat, n32_le, n32_lt, n32_eq, n32_add, n32_sub, n32_dec, n32_mul, n32_div, n32_irm, n32_lit, n32_oN, n32_ix, n32_m1, n32_m2, neg_le0, neg_lt0, neg_lt1, neg_le1, n32_min, n32_max, if_true, if_false, Nat.one_ne_zero, gd_some, true_or, or_true, false_or, or_false, e, a1, a2, Nat.add_zero]
    · rw [if_neg q] at a1
      have a2 : f_X9_isDigit (-n32 1) = some (n32 0) := by decide
      rw [if_neg (show ¬ dgt t E (p + i) from fun z => q z.1)]
      simp -implicitDefEqProofs (disch := omega) only [gP_p, gP_t, bnd_s, bnd2_s, ltt_s, jn_s, n32_nat, n32_le, n32_lt, n32_eq, n32_add, n32_sub, n32_dec, n32_mul, n32_div, n32_irm, n32_lit, n32_oN, n32_ix, n32_m1, n32_m2, neg_le0, neg_lt0, neg_lt1, neg_le1, n32_min, n32_max, if_true, if_false, Nat.one_ne_zero, gd_some, true_or, or_true, false_or, or_false, e, a1, a2, Nat.add_zero]
theorem dig_x {t : Nat → Nat} {N n p m E : Nat} {b c : Bool} {h : HP} (hN : 10 < N) (s : SH b c h) (tx : TxX h t n) (tb : ∀ i, i < n → t i < 256) (hn : n ≤ 80) (hp : p ≤ 100) (hm : m ≤ 10) (hE : E ≤ n) : f_X8_digits N h 1 (n32 p) (n32 m) (n32 E) = some (n32 (dgN t E m p)) := by
  unfold f_X8_digits
  rw [gP_p (by simp only [s.root])]
  have key := digs_l (N := N) s tx tb hn hp hm hE m 0 N (by omega) (by omega)
  rw [Nat.add_zero, Nat.zero_add] at key
  exact key
theorem num_l {t : Nat → Nat} {N n p k : Nat} {b c : Bool} {h : HP} (s : SH b c h) (tx : TxX h t n) (hn : n ≤ 80) (hpk : p + k ≤ n) (hd : ∀ i, i < k → 48 ≤ t (p + i) ∧ t (p + i) ≤ 57) (hk : k ≤ 8) : ∀ (d i fuel a : Nat), i + d = k → d < fuel → a < 10 ^ i → lp (fun _ _ => none) (f_X8_number_B5 N 1 (n32 p) (n32 k) h) fuel (n32 a) (n32 i) = some (n32 (nm t d (p + i) a)) := by
  intro d
  induction d with
  | zero =>
    intro i fuel a hi hf ha
    obtain ⟨k', rfl⟩ : ∃ k, fuel = k + 1 := ⟨fuel - 1, by omega⟩
    have e : i = k := by omega
    subst e
    rw [lp_s, f_X8_number_B5]
    simp -implicitDefEqProofs (disch := omega) only [gP_p, gP_t, bnd_s, bnd2_s, ltt_s, jn_s, n32_nat, n32_le, n32_lt, n32_eq, n32_add, n32_sub, n32_dec, n32_mul, n32_div, n32_irm, n32_lit, n32_oN, n32_ix, n32_m1, n32_m2, neg_le0, neg_lt0, neg_lt1, neg_le1, n32_min, n32_max, if_true, if_false, Nat.one_ne_zero, gd_some, true_or, or_true, false_or, or_false, Nat.le_refl]
    rfl
  | succ d ih =>
    intro i fuel a hi hf ha
    obtain ⟨k', rfl⟩ : ∃ k, fuel = k + 1 := ⟨fuel - 1, by omega⟩
    have e : ¬ k ≤ i := by omega
    have a1 := at80_x (p := p + i) s tx hn (by omega)
    have d1 := hd i (by omega)
    have p1 : 10 ^ i ≤ 10 ^ 8 := Nat.pow_le_pow_right (by omega) (by omega)
    have p2 : 10 ^ 8 = 100000000 := rfl
    have p3 : 10 ^ (i + 1) = 10 ^ i * 10 := Nat.pow_succ ..
    have nx := ih (i + 1) k' (10 * a + t (p + i) - 48) (by omega) (by omega) (by omega)
    have es : a * 10 + t (p + i) - 48 = 10 * a + t (p + i) - 48 := by omega
    have e48 : 48 ≤ a * 10 + t (p + i) := by omega
    rw [lp_s, f_X8_number_B5]
    simp -implicitDefEqProofs (disch := omega) only [gP_p, gP_t, bnd_s, bnd2_s, ltt_s, jn_s, n32_nat, n32_le, n32_lt, n32_eq, n32_add, n32_sub, n32_dec, n32_mul, n32_div, n32_irm, n32_lit, n32_oN, n32_ix, n32_m1, n32_m2, neg_le0, neg_lt0, neg_lt1, neg_le1, n32_min, n32_max, if_true, if_false, Nat.one_ne_zero, gd_some, true_or, or_true, false_or, or_false, e, a1, es]
    rw [nx, show p + (i + 1) = p + i + 1 by omega]
    rfl
theorem num_x {t : Nat → Nat} {N n p k : Nat} {b c : Bool} {h : HP} (hN : 10 < N) (s : SH b c h) (tx : TxX h t n) (hn : n ≤ 80) (hpk : p + k ≤ n) (hd : ∀ i, i < k → 48 ≤ t (p + i) ∧ t (p + i) ≤ 57) (hk : k ≤ 8) : f_X8_number N h 1 (n32 p) (n32 k) = some (n32 (nm t k p 0)) := by
  unfold f_X8_number
  rw [gP_p (by simp only [s.root])]
  exact num_l (N := N) s tx hn hpk hd hk k 0 N 0 (by omega) (by omega) (by decide)
/-! the reference's -/
def RM (h : HP) (t : Nat → Nat) (E p : Nat) : Prop := h.2.1 188 13 = n32 p ∧ h.2.1 188 14 = n32 E ∧ ∀ i, i < E → h.2.1 195 i = n32 (t i)
theorem RM.fr {h h' : HP} {t : Nat → Nat} {E p : Nat} {R : List Nat} (s : RM h t E p) (f : fr R h h') (d : [21].all (fun x => !R.contains x) = true) (e1 : h'.2.1 188 13 = h.2.1 188 13) (e2 : h'.2.1 188 14 = h.2.1 188 14) : RM h' t E p := ⟨e1.trans s.1, e2.trans s.2.1, fun i hi => by rw [f.ai [21] d 195 i rfl]; exact s.2.2 i hi⟩
theorem RM.pos {h : HP} {t : Nat → Nat} {E p p' : Nat} (s : RM h t E p) : RM (setI h 188 13 (n32 p')) t E p' := ⟨sI_eq, by rw [sI_ne (by omega)]; exact s.2.1, fun i hi => by rw [sI_ne (by omega)]; exact s.2.2 i hi⟩
theorem RM.ne {h : HP} {t : Nat → Nat} {E p a j : Nat} {v : Int32} (s : RM h t E p) (n1 : ¬ (a = 188 ∧ j = 13)) (n2 : ¬ (a = 188 ∧ j = 14)) (n3 : a ≠ 195) : RM (setI h a j v) t E p := ⟨by rw [sI_ne (by omega)]; exact s.1, by rw [sI_ne (by omega)]; exact s.2.1, fun i hi => by rw [sI_ne (by omega)]; exact s.2.2 i hi⟩
theorem begins_m {t : Nat → Nat} {n m : Nat} {b c : Bool} {h : HP} (s : SH b c h) (tm : TxM h t n) (hn : n ≤ 80) (hm : m ≤ 80) : gd (f_X10_begins h 188 (n32 m)) (fun p => p.1 = n32 n ∧ RM p.2 t (min n m) 0 ∧ TxM p.2 t 0 ∧ fr [21, 40] h p.2 ∧ p.2.2.1 188 15 = n32 0) := by
  obtain ⟨t1, t2⟩ := tm
  unfold f_X10_begins
  simp -implicitDefEqProofs (disch := omega) only [s.mod, gP_p, gP_t, bnd_s, bnd2_s, ltt_s, jn_s, n32_nat, n32_le, n32_lt, n32_eq, n32_add, n32_sub, n32_dec, n32_mul, n32_div, n32_irm, n32_lit, n32_oN, n32_ix, n32_m1, n32_m2, neg_le0, neg_lt0, neg_lt1, neg_le1, n32_min, n32_max, if_true, if_false, Nat.one_ne_zero, gd_some, true_or, or_true, false_or, or_false, t1]
  refine ⟨trivial, ⟨?_, sI_eq, fun i hi => ?_⟩, ⟨?_, fun i hi => absurd hi (Nat.not_lt_zero i)⟩, ((((fr.rf _ _).sI rfl).sI rfl).sI rfl).sI rfl, ?_⟩
  · rw [sI_ne (by omega), sI_ne (by omega), sI_eq]
  · rw [sI_ne (by omega), sI_ne (by omega), sI_ne (by omega), sI_ne (by omega)]
    exact t2 i (by omega)
  · rw [sI_ne (by omega), sI_ne (by omega), sI_ne (by omega), sI_eq]
  · rw [sI_ne (by omega), sI_eq]
theorem isd_m {t : Nat → Nat} {E p : Nat} {b c : Bool} {h : HP} (s : SH b c h) (r : RM h t E p) (hE : E ≤ 80) (hp : p ≤ E) (tb : ∀ i, i < E → t i < 256) : f_X10_isDigit h 188 = some (n32 (if dgt t E p then 1 else 0)) := by
  obtain ⟨r1, r2, r3⟩ := r
  unfold f_X10_isDigit
  by_cases q : p < E
  · have q' : ¬ E ≤ p := by omega
    have v := r3 p q
    have vb := tb p q
    by_cases q2 : 48 ≤ t p ∧ t p ≤ 57
    · have m1 := in_y (x := n32 (t p)) (lo := 48) (hi := 57) (a := 48) (b := 57) rfl rfl (by rw [n32_int (by omega)]; omega)
      rw [if_pos (show dgt t E p from ⟨q, q2⟩)]
      simp -implicitDefEqProofs (disch := omega) only [s.mod, gP_p, gP_t, bnd_s, bnd2_s, ltt_s, jn_s, n32_nat, n32_le, n32_lt, n32_eq, n32_add, n32_sub, n32_dec, n32_mul, n32_div, n32_irm, n32_lit, n32_oN, n32_ix, n32_m1, n32_m2, neg_le0, neg_lt0, neg_lt1, neg_le1, n32_min, n32_max, if_true, if_false, Nat.one_ne_zero, gd_some, true_or, or_true, false_or, or_false, r1, r2, q', v, m1]
    · have m1 := in_n (x := n32 (t p)) (lo := 48) (hi := 57) (a := 48) (b := 57) rfl rfl (by rw [n32_int (by omega)]; omega)
      rw [if_neg (show ¬ dgt t E p from fun z => q2 z.2)]
      simp -implicitDefEqProofs (disch := omega) only [s.mod, gP_p, gP_t, bnd_s, bnd2_s, ltt_s, jn_s, n32_nat, n32_le, n32_lt, n32_eq, n32_add, n32_sub, n32_dec, n32_mul, n32_div, n32_irm, n32_lit, n32_oN, n32_ix, n32_m1, n32_m2, neg_le0, neg_lt0, neg_lt1, neg_le1, n32_min, n32_max, if_true, if_false, Nat.one_ne_zero, gd_some, true_or, or_true, false_or, or_false, r1, r2, q', v, m1]
  · have q' : E ≤ p := by omega
    rw [if_neg (show ¬ dgt t E p from fun z => q z.1)]
    simp -implicitDefEqProofs (disch := omega) only [s.mod, gP_p, gP_t, bnd_s, bnd2_s, ltt_s, jn_s, n32_nat, n32_le, n32_lt, n32_eq, n32_add, n32_sub, n32_dec, n32_mul, n32_div, n32_irm, n32_lit, n32_oN, n32_ix, n32_m1, n32_m2, neg_le0, neg_lt0, neg_lt1, neg_le1, n32_min, n32_max, if_true, if_false, Nat.one_ne_zero, gd_some, true_or, or_true, false_or, or_false, r1, r2, q']
theorem takes_m {t : Nat → Nat} {E p v : Nat} {b c : Bool} {h : HP} (s : SH b c h) (r : RM h t E p) (hE : E ≤ 80) (hp : p ≤ E) (tb : ∀ i, i < E → t i < 256) (hv : v < 256) : gd (f_X10_takes h 188 (n32 v)) (fun q => q.1 = n32 (if p < E ∧ t p = v then 1 else 0) ∧ RM q.2 t E (if p < E ∧ t p = v then p + 1 else p) ∧ q.2 = setI h 188 13 (n32 (if p < E ∧ t p = v then p + 1 else p))) := by
  obtain ⟨r1, r2, r3⟩ := id r
  unfold f_X10_takes f_X10_flag
  by_cases q : p < E
  · have q' : ¬ E ≤ p := by omega
    have w := r3 p q
    have wb := tb p q
    by_cases q2 : t p = v
    · rw [if_pos ⟨q, q2⟩, if_pos ⟨q, q2⟩]
      subst q2
      simp -implicitDefEqProofs (disch := omega) only [s.mod, gP_p, gP_t, bnd_s, bnd2_s, ltt_s, jn_s, n32_nat, n32_le, n32_lt, n32_eq, n32_add, n32_sub, n32_dec, n32_mul, n32_div, n32_irm, n32_lit, n32_oN, n32_ix, n32_m1, n32_m2, neg_le0, neg_lt0, neg_lt1, neg_le1, n32_min, n32_max, if_true, if_false, Nat.one_ne_zero, gd_some, true_or, or_true, false_or, or_false, r1, r2, q', w, or_true]
      exact ⟨trivial, r.pos, trivial⟩
    · rw [if_neg (fun z => q2 z.2), if_neg (fun z => q2 z.2)]
      simp -implicitDefEqProofs (disch := omega) only [s.mod, gP_p, gP_t, bnd_s, bnd2_s, ltt_s, jn_s, n32_nat, n32_le, n32_lt, n32_eq, n32_add, n32_sub, n32_dec, n32_mul, n32_div, n32_irm, n32_lit, n32_oN, n32_ix, n32_m1, n32_m2, neg_le0, neg_lt0, neg_lt1, neg_le1, n32_min, n32_max, if_true, if_false, Nat.one_ne_zero, gd_some, true_or, or_true, false_or, or_false, r1, r2, q', w, q2, true_or, Nat.add_zero]
      exact ⟨trivial, r.pos, trivial⟩
  · have q' : E ≤ p := by omega
    rw [if_neg (fun z => q z.1), if_neg (fun z => q z.1)]
    simp -implicitDefEqProofs (disch := omega) only [s.mod, gP_p, gP_t, bnd_s, bnd2_s, ltt_s, jn_s, n32_nat, n32_le, n32_lt, n32_eq, n32_add, n32_sub, n32_dec, n32_mul, n32_div, n32_irm, n32_lit, n32_oN, n32_ix, n32_m1, n32_m2, neg_le0, neg_lt0, neg_lt1, neg_le1, n32_min, n32_max, if_true, if_false, Nat.one_ne_zero, gd_some, true_or, or_true, false_or, or_false, r1, r2, q', true_or, Nat.add_zero]
    exact ⟨trivial, r.pos, trivial⟩
theorem nbr_l {t : Nat → Nat} {N E m : Nat} {b c : Bool} (hE : E ≤ 80) (hm : m ≤ 8) (tb : ∀ i, i < E → t i < 256) (h0 : HP) : ∀ (d i fuel p a : Nat) (h : HP), i + d = m → d < fuel → p ≤ E → SH b c h → RM h t E p → a < 10 ^ i → (∀ a j, ¬ (a = 188 ∧ j = 13) → h.2.1 a j = h0.2.1 a j) → fr [40] h0 h → gd (lp (fun _ _ _ => none) (f_X10_number_B13 N 188 (n32 m)) fuel (n32 a) (n32 i) h) (fun q => q.1 = n32 (nm t (dgN t E d p) p a) ∧ RM q.2 t E (p + dgN t E d p) ∧ (∀ a j, ¬ (a = 188 ∧ j = 13) → q.2.2.1 a j = h0.2.1 a j) ∧ fr [40] h0 q.2) := by
  intro d
  induction d with
  | zero =>
    intro i fuel p a h hi hf hp s r ha k13 f
    obtain ⟨k', rfl⟩ : ∃ k, fuel = k + 1 := ⟨fuel - 1, by omega⟩
    have e : i = m := by omega
    subst e
    rw [lp_s, f_X10_number_B13]
    simp -implicitDefEqProofs (disch := omega) only [gP_p, gP_t, bnd_s, bnd2_s, ltt_s, jn_s, n32_nat, n32_le, n32_lt, n32_eq, n32_add, n32_sub, n32_dec, n32_mul, n32_div, n32_irm, n32_lit, n32_oN, n32_ix, n32_m1, n32_m2, neg_le0, neg_lt0, neg_lt1, neg_le1, n32_min, n32_max, if_true, if_false, Nat.one_ne_zero, gd_some, true_or, or_true, false_or, or_false, Nat.le_refl]
    exact ⟨rfl, r, k13, f⟩
  | succ d ih =>
    intro i fuel p a h hi hf hp s r ha k13 f
    obtain ⟨k', rfl⟩ : ∃ k, fuel = k + 1 := ⟨fuel - 1, by omega⟩
    have e : ¬ m ≤ i := by omega
    have e1 := isd_m s r hE hp tb
    have ed : dgN t E (d + 1) p = if dgt t E p then dgN t E d (p + 1) + 1 else 0 := rfl
    rw [ed, lp_s, f_X10_number_B13]
    by_cases q : dgt t E p
    · rw [if_pos q] at e1 ⊢
      obtain ⟨q0, q1, q2⟩ := id q
      obtain ⟨r1, r2, r3⟩ := id r
      have w := r3 p q0
      have p1 : 10 ^ i ≤ 10 ^ 8 := Nat.pow_le_pow_right (by omega) (by omega)
      have p2 : 10 ^ 8 = 100000000 := rfl
      have p3 : 10 ^ (i + 1) = 10 ^ i * 10 := Nat.pow_succ ..
      have e48 : 48 ≤ 10 * a + t p := by omega
      simp -implicitDefEqProofs (disch := omega) only [gP_p, gP_t, bnd_s, bnd2_s, ltt_s, jn_s, n32_nat, n32_le, n32_lt, n32_eq, n32_add, n32_sub, n32_dec, n32_mul, n32_div, n32_irm, n32_lit, n32_oN, n32_ix, n32_m1, n32_m2, neg_le0, neg_lt0, neg_lt1, neg_le1, n32_min, n32_max, if_true, if_false, Nat.one_ne_zero, gd_some, true_or, or_true, false_or, or_false, e, e1, s.mod, r1, w]
      have f1 : fr [40] h (setI h 188 13 (n32 (p + 1))) := (fr.rf _ _).sI rfl
      refine gd_mono (ih (i + 1) k' (p + 1) (10 * a + t p - 48) _ (by omega) (by omega) q0 (s.fr f1) r.pos (by omega) (fun a j hj => by rw [sI_ne hj]; exact k13 a j hj) (f.tr f1)) ?_
      rintro y ⟨y1, y2, y3, y4⟩
      exact ⟨y1, by rw [show p + (dgN t E d (p + 1) + 1) = p + 1 + dgN t E d (p + 1) by omega]; exact y2, y3, y4⟩
    · rw [if_neg q] at e1 ⊢
      simp -implicitDefEqProofs (disch := omega) only [gP_p, gP_t, bnd_s, bnd2_s, ltt_s, jn_s, n32_nat, n32_le, n32_lt, n32_eq, n32_add, n32_sub, n32_dec, n32_mul, n32_div, n32_irm, n32_lit, n32_oN, n32_ix, n32_m1, n32_m2, neg_le0, neg_lt0, neg_lt1, neg_le1, n32_min, n32_max, if_true, if_false, Nat.one_ne_zero, gd_some, true_or, or_true, false_or, or_false, e, e1]
      exact ⟨rfl, r, k13, f⟩
def nbV (t : Nat → Nat) (g p : Nat) : Int32 := if g = 0 then -n32 1 else n32 (nm t g p 0)
theorem nbr_m {t : Nat → Nat} {N E m p : Nat} {b c : Bool} {h : HP} (hN : 10 < N) (hE : E ≤ 80) (hm : m ≤ 8) (hm1 : 1 ≤ m) (tb : ∀ i, i < E → t i < 256) (hp : p ≤ E) (s : SH b c h) (r : RM h t E p) : gd (f_X10_number N h 188 (n32 m)) (fun q => q.1 = nbV t (dgN t E m p) p ∧ RM q.2 t E (p + dgN t E m p) ∧ (∀ a j, ¬ (a = 188 ∧ j = 13) → q.2.2.1 a j = h.2.1 a j) ∧ fr [40] h q.2) := by
  have e1 := isd_m s r hE hp tb
  obtain ⟨m', rfl⟩ : ∃ k, m = k + 1 := ⟨m - 1, by omega⟩
  have ed : dgN t E (m' + 1) p = if dgt t E p then dgN t E m' (p + 1) + 1 else 0 := rfl
  unfold f_X10_number
  by_cases q : dgt t E p
  · rw [if_pos q] at e1
    have key := nbr_l (N := N) (m := m' + 1) hE hm tb h (m' + 1) 0 N p 0 h (by omega) (by omega) hp s r (by decide) (fun _ _ _ => rfl) (fr.rf _ _)
    have nz : ¬ dgN t E (m' + 1) p = 0 := by rw [ed, if_pos q]; omega
    unfold nbV
    rw [if_neg nz]
    simp -implicitDefEqProofs (disch := omega) only [s.mod, gP_p, gP_t, bnd_s, bnd2_s, ltt_s, jn_s, n32_nat, n32_le, n32_lt, n32_eq, n32_add, n32_sub, n32_dec, n32_mul, n32_div, n32_irm, n32_lit, n32_oN, n32_ix, n32_m1, n32_m2, neg_le0, neg_lt0, neg_lt1, neg_le1, n32_min, n32_max, if_true, if_false, Nat.one_ne_zero, gd_some, true_or, or_true, false_or, or_false, e1]
    exact key
  · rw [if_neg q] at e1
    rw [if_neg q] at ed
    unfold nbV
    rw [ed]
    simp -implicitDefEqProofs (disch := omega) only [s.mod, gP_p, gP_t, bnd_s, bnd2_s, ltt_s, jn_s, n32_nat, n32_le, n32_lt, n32_eq, n32_add, n32_sub, n32_dec, n32_mul, n32_div, n32_irm, n32_lit, n32_oN, n32_ix, n32_m1, n32_m2, neg_le0, neg_lt0, neg_lt1, neg_le1, n32_min, n32_max, if_true, if_false, Nat.one_ne_zero, gd_some, true_or, or_true, false_or, or_false, e1, Nat.add_zero]
    exact ⟨trivial, r, fun _ _ _ => trivial, fr.rf _ _⟩
/-- where it breaks, and whether at all -/
theorem fault_m {t : Nat → Nat} {E p n m : Nat} {g : Nat} {b c : Bool} {h : HP} (s : SH b c h) (r : RM h t E p) (hn : n ≤ 80) (hm : m ≤ 80) (hE : E = min n m) (hp : p ≤ E) (hg : g ≤ 1) : f_X10_faultOf h 188 (n32 n) (n32 m) (n32 g) = some (if g = 1 ∧ p = E ∧ n ≤ m then n32 0 else -n32 1 - n32 (if g = 1 ∧ p = E then m else p)) := by
  obtain ⟨r1, r2, r3⟩ := r
  unfold f_X10_faultOf
  by_cases q1 : g = 1
  · subst q1
    by_cases q2 : p = E
    · by_cases q3 : n ≤ m
      · rw [if_pos ⟨rfl, q2, q3⟩]
        simp -implicitDefEqProofs (disch := omega) only [s.mod, gP_p, gP_t, bnd_s, bnd2_s, ltt_s, jn_s, n32_nat, n32_le, n32_lt, n32_eq, n32_add, n32_sub, n32_dec, n32_mul, n32_div, n32_irm, n32_lit, n32_oN, n32_ix, n32_m1, n32_m2, neg_le0, neg_lt0, neg_lt1, neg_le1, n32_min, n32_max, if_true, if_false, Nat.one_ne_zero, gd_some, true_or, or_true, false_or, or_false, r1, r2, q2, q3]
      · rw [if_neg (fun z => q3 z.2.2), if_pos ⟨rfl, q2⟩]
        simp -implicitDefEqProofs (disch := omega) only [s.mod, gP_p, gP_t, bnd_s, bnd2_s, ltt_s, jn_s, n32_nat, n32_le, n32_lt, n32_eq, n32_add, n32_sub, n32_dec, n32_mul, n32_div, n32_irm, n32_lit, n32_oN, n32_ix, n32_m1, n32_m2, neg_le0, neg_lt0, neg_lt1, neg_le1, n32_min, n32_max, if_true, if_false, Nat.one_ne_zero, gd_some, true_or, or_true, false_or, or_false, r1, r2, q2, q3]
    · rw [if_neg (fun z => q2 z.2.1), if_neg (fun z => q2 z.2)]
      by_cases q3 : n ≤ m
      · simp -implicitDefEqProofs (disch := omega) only [s.mod, gP_p, gP_t, bnd_s, bnd2_s, ltt_s, jn_s, n32_nat, n32_le, n32_lt, n32_eq, n32_add, n32_sub, n32_dec, n32_mul, n32_div, n32_irm, n32_lit, n32_oN, n32_ix, n32_m1, n32_m2, neg_le0, neg_lt0, neg_lt1, neg_le1, n32_min, n32_max, if_true, if_false, Nat.one_ne_zero, gd_some, true_or, or_true, false_or, or_false, r1, r2, q2, q3]
      · have q4 : p < m := by omega
        simp -implicitDefEqProofs (disch := omega) only [s.mod, gP_p, gP_t, bnd_s, bnd2_s, ltt_s, jn_s, n32_nat, n32_le, n32_lt, n32_eq, n32_add, n32_sub, n32_dec, n32_mul, n32_div, n32_irm, n32_lit, n32_oN, n32_ix, n32_m1, n32_m2, neg_le0, neg_lt0, neg_lt1, neg_le1, n32_min, n32_max, if_true, if_false, Nat.one_ne_zero, gd_some, true_or, or_true, false_or, or_false, r1, r2, q2, q3, q4]
  · have q0 : g = 0 := by omega
    subst q0
    rw [if_neg (fun z => q1 z.1), if_neg (fun z => q1 z.1)]
    by_cases q3 : n ≤ m
    · simp -implicitDefEqProofs (disch := omega) only [s.mod, gP_p, gP_t, bnd_s, bnd2_s, ltt_s, jn_s, n32_nat, n32_le, n32_lt, n32_eq, n32_add, n32_sub, n32_dec, n32_mul, n32_div, n32_irm, n32_lit, n32_oN, n32_ix, n32_m1, n32_m2, neg_le0, neg_lt0, neg_lt1, neg_le1, n32_min, n32_max, if_true, if_false, Nat.one_ne_zero, gd_some, true_or, or_true, false_or, or_false, r1, r2, q3]
    · by_cases q4 : p < m
      · simp -implicitDefEqProofs (disch := omega) only [s.mod, gP_p, gP_t, bnd_s, bnd2_s, ltt_s, jn_s, n32_nat, n32_le, n32_lt, n32_eq, n32_add, n32_sub, n32_dec, n32_mul, n32_div, n32_irm, n32_lit, n32_oN, n32_ix, n32_m1, n32_m2, neg_le0, neg_lt0, neg_lt1, neg_le1, n32_min, n32_max, if_true, if_false, Nat.one_ne_zero, gd_some, true_or, or_true, false_or, or_false, r1, r2, q3, q4]
      · have q5 : p = m := by omega
        simp -implicitDefEqProofs (disch := omega) only [s.mod, gP_p, gP_t, bnd_s, bnd2_s, ltt_s, jn_s, n32_nat, n32_le, n32_lt, n32_eq, n32_add, n32_sub, n32_dec, n32_mul, n32_div, n32_irm, n32_lit, n32_oN, n32_ix, n32_m1, n32_m2, neg_le0, neg_lt0, neg_lt1, neg_le1, n32_min, n32_max, if_true, if_false, Nat.one_ne_zero, gd_some, true_or, or_true, false_or, or_false, r1, r2, q3, q4, q5, Nat.lt_irrefl]
theorem flt_neg {q : Nat} (h : q ≤ 1000) : ¬ n32 0 ≤ -n32 1 - n32 q := by
  have e0 : (n32 0).toInt = 0 := rfl
  have e1 : (-n32 1 : Int32).toInt = -1 := rfl
  have e : (-n32 1 - n32 q).toInt = -1 - (q : Int) := by rw [Int32.toInt_sub, e1, n32_int (by omega), Int.bmod_eq_of_le (by omega) (by omega)]
  rw [Int32.le_iff_toInt_le, e, e0]
  omega
