/-! ===== the text: written, cut ===== -/
theorem bits8 (x : BitVec 32) (s : Nat) (hs : s ≤ 24) : (x >>> s) &&& 255#32 = (x.sshiftRight s) &&& 255#32 := by
  apply BitVec.eq_of_getLsbD_eq
  intro i hi
  simp only [BitVec.getLsbD_and, BitVec.getLsbD_ushiftRight, BitVec.getLsbD_sshiftRight]
  by_cases h8 : i < 8
  · have h1 : s + i < 32 := by omega
    have h2 : ¬ 32 ≤ i := by omega
    simp only [h1, h2, if_true, decide_false, Bool.not_false, Bool.true_and]
  · have h0 : (255#32).getLsbD i = false := by
      rw [BitVec.getLsbD_ofNat]
      have : Nat.testBit 255 i = false := Nat.testBit_lt_two_pow (Nat.lt_of_lt_of_le (by omega : 255 < 2 ^ 8) (Nat.pow_le_pow_right (by omega) (by omega)))
      rw [this, Bool.and_false]
    rw [h0, Bool.and_false, Bool.and_false]
def tn (x : Int32) : Nat := (x &&& n32 255).toBitVec.toNat
theorem tn_b (x : Int32) : tn x < 256 := by
  unfold tn
  have e : (x &&& n32 255).toBitVec = x.toBitVec &&& 255#32 := rfl
  rw [e, BitVec.toNat_and]
  have := Nat.and_le_right (n := x.toBitVec.toNat) (m := (255#32).toNat)
  have e2 : (255#32).toNat = 255 := rfl
  omega
theorem tn_e (x : Int32) : x &&& n32 255 = n32 (tn x) := by
  have e3 : (n32 (tn x)).toBitVec = BitVec.ofNat 32 (x &&& n32 255).toBitVec.toNat := rfl
  apply Int32.toBitVec_inj.mp
  rw [e3, BitVec.ofNat_toNat, BitVec.setWidth_eq]
def bt (v : Int32) (j : Nat) : Nat := tn (shr v (n32 (24 - 8 * j)))
theorem bt_b (v : Int32) (j : Nat) : bt v j < 256 := tn_b _
theorem bt_m (v : Int32) (j : Nat) : (shr v (n32 (24 - 8 * j))) &&& n32 255 = n32 (bt v j) := tn_e _
theorem bt_x (v : Int32) {j : Nat} (hj : j < 4) : (ushr v (n32 (24 - 8 * j))) &&& n32 255 = n32 (bt v j) := by
  rw [← bt_m]
  rcases (show j = 0 ∨ j = 1 ∨ j = 2 ∨ j = 3 by omega) with rfl | rfl | rfl | rfl
  · exact Int32.toBitVec_inj.mp (bits8 v.toBitVec 24 (by omega))
  · exact Int32.toBitVec_inj.mp (bits8 v.toBitVec 16 (by omega))
  · exact Int32.toBitVec_inj.mp (bits8 v.toBitVec 8 (by omega))
  · exact Int32.toBitVec_inj.mp (bits8 v.toBitVec 0 (by omega))
theorem cb_a : ∀ t, t < 256 → decide (cb (i2c (n32 t)) = n32 t) = true := by decide +kernel
theorem cb_t {t : Nat} (h : t < 256) : cb (i2c (n32 t)) = n32 t := of_decide_eq_true (cb_a t h)
def tw (t : Nat → Nat) (n : Nat) (v : Int32) : Nat → Nat := fun i => if i < n then t i else bt v (i - n)
theorem tw_b {t : Nat → Nat} {n m : Nat} {v : Int32} (h : ∀ i, i < n → t i < 256) : ∀ i, i < m → tw t n v i < 256 := fun i _ => by
  unfold tw
  split
  · exact h i (by omega)
  · exact bt_b _ _
def xs (j : Nat) : Int32 := if j < 4 then n32 (24 - 8 * j) else -n32 8
theorem add_l {t : Nat → Nat} {n : Nat} {v : Int32} {b c : Bool} (h0 : HP) (hn : n ≤ 76) : ∀ (d j fuel : Nat) (h : HP), j + d = 4 → d < fuel → SH b c h → TxX h (tw t n v) (n + j) → fr [1] h0 h → gd (lp (fun _ _ => none) (f_X8_add_B19 200 1 v) fuel (xs j) h) (fun p => p.1 = n32 1 ∧ TxX p.2 (tw t n v) (n + 4) ∧ fr [1] h0 p.2) := by
  intro d
  induction d with
  | zero =>
    intro j fuel h hj hf s tx f
    obtain ⟨k', rfl⟩ : ∃ k, fuel = k + 1 := ⟨fuel - 1, by omega⟩
    have e : j = 4 := by omega
    subst e
    have e8 : xs 4 = -n32 8 := rfl
    have e9 : -n32 8 < n32 0 := by decide
    rw [lp_s, f_X8_add_B19, e8]
    simp -implicitDefEqProofs (disch := omega) only [gP_p, gP_t, bnd_s, bnd2_s, ltt_s, jn_s, n32_nat, n32_le, n32_lt, n32_eq, n32_add, n32_sub, n32_dec, n32_mul, n32_div, n32_irm, n32_lit, n32_oN, n32_ix, n32_m1, n32_m2, neg_le0, neg_lt0, neg_lt1, neg_le1, n32_min, n32_max, if_true, if_false, Nat.one_ne_zero, gd_some, true_or, or_true, false_or, or_false, e9]
    exact ⟨trivial, tx, f⟩
  | succ d ih =>
    intro j fuel h hj hf s tx f
    obtain ⟨k', rfl⟩ : ∃ k, fuel = k + 1 := ⟨fuel - 1, by omega⟩
    have e1 : xs j = n32 (24 - 8 * j) := if_pos (by omega)
    have e2 : n32 (24 - 8 * j) + -n32 8 = xs (j + 1) := by
      rcases (show j = 0 ∨ j = 1 ∨ j = 2 ∨ j = 3 by omega) with rfl | rfl | rfl | rfl <;> decide
    have e3 : ¬ n32 (24 - 8 * j) < n32 0 := by rw [n32_lt (by omega) (by omega)]; omega
    have bx := bt_x v (j := j) (by omega)
    have cx := cb_t (bt_b v j)
    have t1 := tx.1
    have f1 : fr [1] h (setI (setI h 2 (n + j) (n32 (bt v j))) 1 1 (n32 (n + j + 1))) := ((fr.rf _ _).sI rfl).sI rfl
    rw [lp_s, f_X8_add_B19, e1]
    simp -implicitDefEqProofs (disch := omega) only [gP_p, gP_t, bnd_s, ltt_s, n32_lit, e3, if_false, s.root, t1, n32_ix, bx, cx, n32_nat, sI_ne, sI_eq, n32_add, e2]
    refine ih (j + 1) k' _ (by omega) (by omega) (s.fr f1) ⟨?_, fun i hi => ?_⟩ (f.tr f1)
    · rw [sI_eq, Nat.add_assoc]
    · by_cases q : i = n + j
      · subst q
        rw [sI_ne (by omega), sI_eq]
        unfold tw
        rw [if_neg (by omega), Nat.add_sub_cancel_left]
      · rw [sI_ne (by omega), sI_ne (by omega)]
        exact tx.2 i (by omega)
theorem sgn_l {t : Nat → Nat} {n : Nat} {v : Int32} {b c : Bool} (h0 : HP) (hn : n ≤ 76) : ∀ (d j fuel : Nat) (h : HP), j + d = 4 → d < fuel → SH b c h → h.2.1 188 12 = n32 n → (∀ i, i < n + j → h.2.1 195 i = n32 (tw t n v i)) → fr [21] h0 h → gd (lp (fun _ _ => none) (f_X10_sign_B18 200 188 v (fun (h17 : HP) => lt_ (setI h17 188 12 ((h17.2.1 188 12) + 4)) (fun h19 => some ((h19.2.1 188 12), h19)))) fuel (n32 j) h) (fun p => p.1 = n32 (n + 4) ∧ TxM p.2 (tw t n v) (n + 4) ∧ fr [21] h0 p.2) := by
  intro d
  induction d with
  | zero =>
    intro j fuel h hj hf s tx1 tx2 f
    obtain ⟨k', rfl⟩ : ∃ k, fuel = k + 1 := ⟨fuel - 1, by omega⟩
    have e : j = 4 := by omega
    subst e
    rw [lp_s, f_X10_sign_B18]
    simp -implicitDefEqProofs (disch := omega) only [gP_p, gP_t, bnd_s, bnd2_s, ltt_s, jn_s, n32_nat, n32_le, n32_lt, n32_eq, n32_add, n32_sub, n32_dec, n32_mul, n32_div, n32_irm, n32_lit, n32_oN, n32_ix, n32_m1, n32_m2, neg_le0, neg_lt0, neg_lt1, neg_le1, n32_min, n32_max, if_true, if_false, Nat.one_ne_zero, gd_some, true_or, or_true, false_or, or_false, Nat.le_refl, tx1, sI_eq]
    exact ⟨trivial, ⟨sI_eq, fun i hi => by rw [sI_ne (by omega)]; exact tx2 i hi⟩, f.sI rfl⟩
  | succ d ih =>
    intro j fuel h hj hf s tx1 tx2 f
    obtain ⟨k', rfl⟩ : ∃ k, fuel = k + 1 := ⟨fuel - 1, by omega⟩
    have e : ¬ 4 ≤ j := by omega
    have bx := bt_m v j
    have f1 : fr [21] h (setI h 195 (n + j) (n32 (bt v j))) := (fr.rf _ _).sI rfl
    rw [lp_s, f_X10_sign_B18]
    simp -implicitDefEqProofs (disch := omega) only [gP_p, gP_t, bnd_s, bnd2_s, ltt_s, jn_s, n32_nat, n32_le, n32_lt, n32_eq, n32_add, n32_sub, n32_dec, n32_mul, n32_div, n32_irm, n32_lit, n32_oN, n32_ix, n32_m1, n32_m2, neg_le0, neg_lt0, neg_lt1, neg_le1, n32_min, n32_max, if_true, if_false, Nat.one_ne_zero, gd_some, true_or, or_true, false_or, or_false, e, s.mod, tx1, bx]
    refine ih (j + 1) k' _ (by omega) (by omega) (s.fr f1) (by rw [sI_ne (by omega)]; exact tx1) (fun i hi => ?_) (f.tr f1)
    by_cases q : i = n + j
    · subst q
      rw [sI_eq]
      unfold tw
      rw [if_neg (by omega), Nat.add_sub_cancel_left]
    · rw [sI_ne (by omega)]
      exact tx2 i (by omega)
theorem Iv.tx {B : Nat} {b c : Bool} {sz : Nat} {h h' : HP} (s : Iv B b c sz h) (f : fr [1, 21, 2, 22, 4, 5, 9, 10, 13, 17, 19, 31, 32, 33, 40, 41, 42, 43, 44, 45, 46, 47, 50] h h') (rw' : Row h') (tx : Txt h') : Iv B b c sz h' := by
  obtain ⟨a0, a1, a2, a3, a4, a5, a6, a7, a8, a9, a10⟩ := s
  exact ⟨a0.fr f, a1.fr f (by decide), tx, rw', a4.fr f (by decide), a5.fr f (by decide), a6.fr f (by cases b <;> decide), a7.fr f (by cases c <;> decide), a8.fr f (by decide), a9.fr f (by decide), a10.fr f (by decide)⟩
theorem op_sign {k : Nat} (hk : k < 512) : ∀ (h : HP) (a1 : Int32), Inv k h → ∃ (v : Int32) (h1 h2 : HP), f_X9_sign 200 h 0 a1 = some (v, h1) ∧ f_X10_sign 200 h1 188 a1 = some (v, h2) ∧ Inv (k + 1) h2 := by
  intro h x1 I
  obtain ⟨b, c, sz, iv⟩ := I
  obtain ⟨a0, a1, a2, a3, a4, a5, a6, a7, a8, a9, a10⟩ := id iv
  obtain ⟨t, n, hn, tb, tx, tm⟩ := a2
  by_cases q : n ≤ 76
  · have X : gd (f_X9_sign 200 h 0 x1) (fun p => p.1 = n32 (n + 4) ∧ TxX p.2 (tw t n x1) (n + 4) ∧ fr [1] h p.2) := by
      have e1 : n + 4 ≤ 80 := by omega
      have t1 := tx.1
      have key := add_l (t := t) (n := n) (v := x1) (b := b) (c := c) h q 4 0 200 h (by omega) (by omega) a0 ⟨tx.1, fun i hi => by rw [tx.2 i (by omega)]; unfold tw; rw [if_pos (by omega)]⟩ (fr.rf _ _)
      have e0 : xs 0 = n32 24 := rfl
      rw [e0] at key
      unfold f_X9_sign f_X8_add
      simp -implicitDefEqProofs (disch := omega) only [a0.root, gP_p, gP_t, bnd_s, bnd2_s, ltt_s, jn_s, n32_nat, n32_le, n32_lt, n32_eq, n32_add, n32_sub, n32_dec, n32_mul, n32_div, n32_irm, n32_lit, n32_oN, n32_ix, n32_m1, n32_m2, neg_le0, neg_lt0, neg_lt1, neg_le1, n32_min, n32_max, if_true, if_false, Nat.one_ne_zero, gd_some, true_or, or_true, false_or, or_false, t1, e1, gd_bnd2]
      refine gd_mono key ?_
      rintro ⟨u, h1⟩ ⟨e2, e3, e4⟩
      have e2' : u = n32 1 := e2
      subst e2'
      have s1 := a0.fr e4
      simp -implicitDefEqProofs (disch := omega) only [gP_p, gP_t, bnd_s, bnd2_s, ltt_s, jn_s, n32_nat, n32_le, n32_lt, n32_eq, n32_add, n32_sub, n32_dec, n32_mul, n32_div, n32_irm, n32_lit, n32_oN, n32_ix, n32_m1, n32_m2, neg_le0, neg_lt0, neg_lt1, neg_le1, n32_min, n32_max, if_true, if_false, Nat.one_ne_zero, gd_some, true_or, or_true, false_or, or_false, s1.root]
      exact ⟨e3.1, e3, e4⟩
    obtain ⟨⟨v, h1⟩, q1, q2, q3, q4⟩ := X
    have q2' : v = n32 (n + 4) := q2
    subst q2'
    have s1 := a0.fr q4
    have f0 : fr [50] h1 (setI h1 188 0 (n32 0)) := (fr.rf _ _).sI rfl
    have tm1 := (tm.fr q4 (by decide)).fr f0 (by decide)
    have M := sgn_l (t := t) (n := n) (v := x1) (b := b) (c := c) (setI h1 188 0 (n32 0)) q 4 0 200 _ (by omega) (by omega) (s1.fr f0) tm1.1 (fun i hi => by rw [tm1.2 i (by omega)]; unfold tw; rw [if_pos (by omega)]) (fr.rf _ _)
    have M2 : gd (f_X10_sign 200 h1 188 x1) (fun p => p.1 = n32 (n + 4) ∧ TxM p.2 (tw t n x1) (n + 4) ∧ fr [21] (setI h1 188 0 (n32 0)) p.2) := by
      have t1 := tm1.1
      unfold f_X10_sign
      simp -implicitDefEqProofs (disch := omega) only [s1.mod, gP_p, gP_t, bnd_s, bnd2_s, ltt_s, jn_s, n32_nat, n32_le, n32_lt, n32_eq, n32_add, n32_sub, n32_dec, n32_mul, n32_div, n32_irm, n32_lit, n32_oN, n32_ix, n32_m1, n32_m2, neg_le0, neg_lt0, neg_lt1, neg_le1, n32_min, n32_max, if_true, if_false, Nat.one_ne_zero, gd_some, true_or, or_true, false_or, or_false, t1, q]
      simp -implicitDefEqProofs (disch := omega) only [gP_p, gP_t, bnd_s, bnd2_s, ltt_s, jn_s, n32_nat, n32_le, n32_lt, n32_eq, n32_add, n32_sub, n32_dec, n32_mul, n32_div, n32_irm, n32_lit, n32_oN, n32_ix, n32_m1, n32_m2, neg_le0, neg_lt0, neg_lt1, neg_le1, n32_min, n32_max, if_true, if_false, Nat.one_ne_zero, gd_some, true_or, or_true, false_or, or_false] at M
      exact M
    obtain ⟨⟨v2, h2⟩, p1, p2, p3, p4⟩ := M2
    have p2' : v2 = n32 (n + 4) := p2
    subst p2'
    have f2 := (q4.mono (R' := [1, 21, 50]) (by decide)).tr ((f0.mono (by decide)).tr (p4.mono (by decide)))
    exact ⟨_, h1, h2, q1, p1, Iv.up (iv.tx (f2.mono (by decide)) (a3.fr f2 (by decide)) ⟨tw t n x1, n + 4, by omega, tw_b tb, (q3.fr f0 (by decide)).fr p4 (by decide), p3⟩)⟩
  · have th : fr [50] h (setI h 188 0 (n32 0)) := (fr.rf _ _).sI rfl
    have e1 : ¬ n + 4 ≤ 80 := by omega
    have t1 := tx.1
    have t2 := (tm.fr th (by decide)).1
    refine ⟨-n32 1, h, setI h 188 0 (n32 0), ?_, ?_, Iv.up (iv.q0 (th.mono (by decide)))⟩
    · unfold f_X9_sign f_X8_add
      simp -implicitDefEqProofs (disch := omega) only [a0.root, gP_p, gP_t, bnd_s, bnd2_s, ltt_s, jn_s, n32_nat, n32_le, n32_lt, n32_eq, n32_add, n32_sub, n32_dec, n32_mul, n32_div, n32_irm, n32_lit, n32_oN, n32_ix, n32_m1, n32_m2, neg_le0, neg_lt0, neg_lt1, neg_le1, n32_min, n32_max, if_true, if_false, Nat.one_ne_zero, gd_some, true_or, or_true, false_or, or_false, t1, e1]
    · unfold f_X10_sign
      simp -implicitDefEqProofs (disch := omega) only [a0.mod, gP_p, gP_t, bnd_s, bnd2_s, ltt_s, jn_s, n32_nat, n32_le, n32_lt, n32_eq, n32_add, n32_sub, n32_dec, n32_mul, n32_div, n32_irm, n32_lit, n32_oN, n32_ix, n32_m1, n32_m2, neg_le0, neg_lt0, neg_lt1, neg_le1, n32_min, n32_max, if_true, if_false, Nat.one_ne_zero, gd_some, true_or, or_true, false_or, or_false, t2, q]
theorem op_end {k : Nat} (hk : k < 512) : ∀ (h : HP) (a1 : Int32), Inv k h → ∃ (v : Int32) (h1 h2 : HP), f_X9_end h 0 a1 = some (v, h1) ∧ f_X10_end h1 188 a1 = some (v, h2) ∧ Inv (k + 1) h2 := by
  intro h x1 I
  obtain ⟨b, c, sz, iv⟩ := I
  obtain ⟨a0, a1, a2, a3, a4, a5, a6, a7, a8, a9, a10⟩ := id iv
  obtain ⟨t, n, hn, tb, tx, tm⟩ := a2
  have th : ∀ g, fr [50] g (setI g 188 0 (n32 0)) := fun g => (fr.rf _ _).sI rfl
  have t1 := tx.1
  have t2 := (tm.fr (th h) (by decide)).1
  have ei : (n32 n).toInt64.toInt = (n : Int) := by rw [Int32.toInt_toInt64, n32_int (by omega)]
  by_cases q : 0 ≤ x1.toInt ∧ x1.toInt ≤ (n : Int)
  · obtain ⟨m, -, hm, rfl⟩ := n32_of2 (lo := 0) (hi := n) q.1 q.2
    have m1 := in_y (x := n32 m) (lo := 0) (hi := (n32 n).toInt64) (a := 0) (b := (n : Int)) rfl ei q
    have f1 : fr [1] h (setI h 1 1 (n32 m)) := (fr.rf _ _).sI rfl
    have f2 : fr [1, 21, 50] h (setI (setI (setI h 1 1 (n32 m)) 188 0 (n32 0)) 188 12 (n32 m)) := ((f1.mono (by decide)).tr ((th _).mono (by decide))).sI rfl
    have t3 := (tm.fr f1 (by decide)).fr (th _) (by decide)
    have t3' := t3.1
    have s1 := a0.fr f1
    refine ⟨n32 1, setI h 1 1 (n32 m), setI (setI (setI h 1 1 (n32 m)) 188 0 (n32 0)) 188 12 (n32 m), ?_, ?_, Iv.up (iv.tx (f2.mono (by decide)) (a3.fr f2 (by decide)) ⟨t, m, by omega, fun i hi => tb i (by omega), ⟨?_, fun i hi => ?_⟩, ⟨?_, fun i hi => ?_⟩⟩)⟩
    · unfold f_X9_end f_X8_cut
      simp -implicitDefEqProofs (disch := omega) only [a0.root, gP_p, gP_t, bnd_s, bnd2_s, ltt_s, jn_s, n32_nat, n32_le, n32_lt, n32_eq, n32_add, n32_sub, n32_dec, n32_mul, n32_div, n32_irm, n32_lit, n32_oN, n32_ix, n32_m1, n32_m2, neg_le0, neg_lt0, neg_lt1, neg_le1, n32_min, n32_max, if_true, if_false, Nat.one_ne_zero, gd_some, true_or, or_true, false_or, or_false, t1, hm, Nat.not_lt_zero]
    · unfold f_X10_end
      simp -implicitDefEqProofs (disch := omega) only [s1.mod, gP_p, gP_t, bnd_s, bnd2_s, ltt_s, jn_s, n32_nat, n32_le, n32_lt, n32_eq, n32_add, n32_sub, n32_dec, n32_mul, n32_div, n32_irm, n32_lit, n32_oN, n32_ix, n32_m1, n32_m2, neg_le0, neg_lt0, neg_lt1, neg_le1, n32_min, n32_max, if_true, if_false, Nat.one_ne_zero, gd_some, true_or, or_true, false_or, or_false, t3', m1]
    · rw [sI_ne (by omega), sI_ne (by omega), sI_eq]
    · rw [sI_ne (by omega), sI_ne (by omega), sI_ne (by omega)]
      exact tx.2 i (by omega)
    · rw [sI_eq]
    · rw [sI_ne (by omega)]
      exact t3.2 i (by omega)
  · have m1 := in_n (x := x1) (lo := 0) (hi := (n32 n).toInt64) (a := 0) (b := (n : Int)) rfl ei q
    refine ⟨n32 0, h, setI h 188 0 (n32 0), ?_, ?_, Iv.up (iv.q0 ((th h).mono (by decide)))⟩
    · have z0 : (n32 0).toInt = 0 := rfl
      unfold f_X9_end f_X8_cut
      by_cases q1 : x1 < n32 0
      · simp -implicitDefEqProofs (disch := omega) only [a0.root, gP_p, gP_t, bnd_s, bnd2_s, ltt_s, jn_s, n32_nat, n32_le, n32_lt, n32_eq, n32_add, n32_sub, n32_dec, n32_mul, n32_div, n32_irm, n32_lit, n32_oN, n32_ix, n32_m1, n32_m2, neg_le0, neg_lt0, neg_lt1, neg_le1, n32_min, n32_max, if_true, if_false, Nat.one_ne_zero, gd_some, true_or, or_true, false_or, or_false, q1]
      · have q2 : ¬ x1 ≤ n32 n := by
          rw [Int32.lt_iff_toInt_lt, z0] at q1
          rw [Int32.le_iff_toInt_le, n32_int (by omega)]
          omega
        simp -implicitDefEqProofs (disch := omega) only [a0.root, gP_p, gP_t, bnd_s, bnd2_s, ltt_s, jn_s, n32_nat, n32_le, n32_lt, n32_eq, n32_add, n32_sub, n32_dec, n32_mul, n32_div, n32_irm, n32_lit, n32_oN, n32_ix, n32_m1, n32_m2, neg_le0, neg_lt0, neg_lt1, neg_le1, n32_min, n32_max, if_true, if_false, Nat.one_ne_zero, gd_some, true_or, or_true, false_or, or_false, q1, t1, q2]
    · unfold f_X10_end
      simp -implicitDefEqProofs (disch := omega) only [a0.mod, gP_p, gP_t, bnd_s, bnd2_s, ltt_s, jn_s, n32_nat, n32_le, n32_lt, n32_eq, n32_add, n32_sub, n32_dec, n32_mul, n32_div, n32_irm, n32_lit, n32_oN, n32_ix, n32_m1, n32_m2, neg_le0, neg_lt0, neg_lt1, neg_le1, n32_min, n32_max, if_true, if_false, Nat.one_ne_zero, gd_some, true_or, or_true, false_or, or_false, t2, m1]
