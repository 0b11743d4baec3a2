/-! ===== closes, reign ===== -/
def bcv (x : Int32) : Int32 :=
  let v1 := x - ((ushr x 1) &&& 1431655765)
  let v3 := (v1 &&& 858993459) + ((ushr v1 2) &&& 858993459)
  let v5 := (v3 + (ushr v3 4)) &&& 252645135
  let v7 := v5 + (ushr v5 8)
  let v9 := v7 + (ushr v7 16)
  v9 &&& 63
theorem bit_e (x : Int32) : f_J6_bitCount_0f7a4 x = some (bcv x) := rfl
theorem few_e (a b : Int32) : f_X9_hasFewer a b = some (if bcv b ≤ bcv a then n32 0 else n32 1) := by
  unfold f_X9_hasFewer
  rw [bit_e, bnd_s, bit_e, bnd_s]
  split <;> rfl
def bq (s i : Nat) : Nat := if (shr (n32 s) (n32 i)) &&& n32 1 = n32 1 then 1 else 0
theorem bq_le {s i : Nat} : bq s i ≤ 1 := by unfold bq; split <;> omega
theorem shl_p {n : Nat} (hn : n ≤ 8) : shl (n32 1) (n32 n) = n32 (2 ^ n) := by
  rcases (show n = 0 ∨ n = 1 ∨ n = 2 ∨ n = 3 ∨ n = 4 ∨ n = 5 ∨ n = 6 ∨ n = 7 ∨ n = 8 by omega) with rfl | rfl | rfl | rfl | rfl | rfl | rfl | rfl | rfl <;> decide
theorem pow_b {n : Nat} (hn : n ≤ 8) : 1 ≤ 2 ^ n ∧ 2 ^ n ≤ 256 := by
  rcases (show n = 0 ∨ n = 1 ∨ n = 2 ∨ n = 3 ∨ n = 4 ∨ n = 5 ∨ n = 6 ∨ n = 7 ∨ n = 8 by omega) with rfl | rfl | rfl | rfl | rfl | rfl | rfl | rfl | rfl <;> decide
theorem x_27 {w : Wd} {l : List Int64} {h0 h : HP} {q : Nat → Nat} {D b : Nat} (t : XT w l h0 h q D) (hb : b ≤ 1) : XT w l h0 (setI h 19 6 (n32 b)) (up q 27 b) D := by
  obtain ⟨v, rx, cr, z, f, rb⟩ := t
  have f1 : fr [5] h (setI h 19 6 (n32 b)) := (fr.rf _ _).sI rfl
  exact ⟨v.fr f1 (by decide), rx.fr f1 (by decide), cr.setS (j := 6) (by omega) (by omega), by rw [sI_ne (by omega)]; exact z, f.tr (f1.mono (by decide)), rb.up (Or.inr (Or.inr (Or.inr ⟨rfl, hb⟩)))⟩
theorem m_27 {w : Wd} {l : List Int64} {h0 h : HP} {q : Nat → Nat} {D b : Nat} (t : MT w l h0 h q D) (hb : b ≤ 1) : MT w l h0 (setI h 194 27 (n32 b)) (up q 27 b) D := by
  obtain ⟨v, rm, mr, f, rb⟩ := t
  have f1 : fr [31] h (setI h 194 27 (n32 b)) := (fr.rf _ _).sI rfl
  exact ⟨v.fr f1 (by decide), rm.fr f1 (by decide), mR_set mr, f.tr (f1.mono (by decide)), rb.up (Or.inr (Or.inr (Or.inr ⟨rfl, hb⟩)))⟩
noncomputable def clR (w : Wd) (s : Nat) : Nat → Nat → (Nat → Nat) → (Nat → Nat)
  | 0, _, q => q
  | d + 1, i, q => clR w s d (i + 1) (wM w (up q 27 (bq s i)))
theorem pbc_x {m n s : Nat} {w : Wd} {h0 : HP} {l : List Int64} (ok : wOK w) (hm : m < wsz w) (hn : n ≤ 8) (hs : s ≤ 256) : ∀ (d i fuel : Nat) (h : HP) (q : Nat → Nat) (D : Nat), i + d = n → d < fuel → XT w l h0 h q D → D + d ≤ 300000 →
    gd (lp (fun _ _ => none) (f_X9_priceBehindClosing_B14 1000 0 (n32 m) (n32 n) (n32 s) (fun (h45 : HP) => bnd (rK h45 0 4 0) (fun t47 => bnd2 (f_X9_priceOf 1000 h45 0 t47 (n32 m)) (fun v52 h54 => some (v52, h54))))) fuel (n32 i) h) (fun p => p.1 = n32 (wP w (clR w s d i q) m) ∧ XEq w l h0 p.2) := by
  intro d
  induction d with
  | zero =>
    intro i fuel h q D hn hf t hD
    obtain ⟨k, rfl⟩ : ∃ k, fuel = k + 1 := ⟨fuel - 1, by omega⟩
    have e : n ≤ i := by omega
    simp -implicitDefEqProofs (disch := omega) only [lp_s, f_X9_priceBehindClosing_B14, gP_p, gP_t, bnd_s, bnd2_s, ltt_s, jn_s, n32_nat, n32_le, n32_lt, n32_eq, n32_add, n32_sub, n32_dec, n32_mul, n32_div, n32_irm, n32_lit, n32_oN, n32_ix, n32_m1, n32_m2, neg_le0, neg_lt0, neg_lt1, neg_le1, n32_min, n32_max, if_true, if_false, Nat.one_ne_zero, gd_some, true_or, or_true, false_or, or_false, e, t.1.1.root, gd_bnd2]
    refine gd_mono (x_price (by omega) ok t (by omega) hm) ?_
    rintro ⟨u, h1⟩ ⟨e1, t1⟩
    exact ⟨e1, t1.q⟩
  | succ d ih =>
    intro i fuel h q D hi hf t hD
    obtain ⟨k, rfl⟩ : ∃ k, fuel = k + 1 := ⟨fuel - 1, by omega⟩
    have e : ¬ n ≤ i := by omega
    have goal : gd (bnd2 (f_X0_pass 1000 (setI h 19 6 (n32 (bq s i))) 19 (flr w.1) (n32 1)) (fun v37 h39 => lp (fun _ _ => none) (f_X9_priceBehindClosing_B14 1000 0 (n32 m) (n32 n) (n32 s) (fun (h45 : HP) => bnd (rK h45 0 4 0) (fun t47 => bnd2 (f_X9_priceOf 1000 h45 0 t47 (n32 m)) (fun v52 h54 => some (v52, h54))))) k (n32 (i + 1)) h39)) (fun p => p.1 = n32 (wP w (clR w s (d + 1) i q) m) ∧ XEq w l h0 p.2) := by
      rw [gd_bnd2]
      refine gd_mono (x_pass (by omega) (by omega) (by omega) ok (x_27 t bq_le) (by omega)) ?_
      rintro ⟨u, h1⟩ t1
      exact ih (i + 1) k h1 _ (D + 1) (by omega) (by omega) t1 (by omega)
    by_cases b : (shr (n32 s) (n32 i)) &&& n32 1 = n32 1
    · have eb : bq s i = 1 := if_pos b
      rw [eb] at goal
      simp -implicitDefEqProofs (disch := omega) only [lp_s, f_X9_priceBehindClosing_B14, gP_p, gP_t, bnd_s, bnd2_s, ltt_s, jn_s, n32_nat, n32_le, n32_lt, n32_eq, n32_add, n32_sub, n32_dec, n32_mul, n32_div, n32_irm, n32_lit, n32_oN, n32_ix, n32_m1, n32_m2, neg_le0, neg_lt0, neg_lt1, neg_le1, n32_min, n32_max, if_true, if_false, Nat.one_ne_zero, gd_some, true_or, or_true, false_or, or_false, e, b, t.1.1.root, sI_rK]
      exact goal
    · have eb : bq s i = 0 := if_neg b
      rw [eb] at goal
      simp -implicitDefEqProofs (disch := omega) only [lp_s, f_X9_priceBehindClosing_B14, gP_p, gP_t, bnd_s, bnd2_s, ltt_s, jn_s, n32_nat, n32_le, n32_lt, n32_eq, n32_add, n32_sub, n32_dec, n32_mul, n32_div, n32_irm, n32_lit, n32_oN, n32_ix, n32_m1, n32_m2, neg_le0, neg_lt0, neg_lt1, neg_le1, n32_min, n32_max, if_true, if_false, Nat.one_ne_zero, gd_some, true_or, or_true, false_or, or_false, e, b, t.1.1.root, sI_rK]
      exact goal
theorem pbc_m {m n s : Nat} {w : Wd} {h0 : HP} {l : List Int64} {x3 x4 x5 : Int32} {k : HP → Option (Int32 × HP)} {Q : Int32 × HP → Prop} (ok : wOK w) (hm : m < wsz w) (hn : n ≤ 8) (hs : s ≤ 256) : ∀ (d i fuel : Nat) (h : HP) (q : Nat → Nat) (D : Nat), i + d = n → d < fuel → MT w l h0 h q D → D + d ≤ 300000 → (∀ h', MT w l h0 h' (clR w s d i q) (D + d) → gd (k h') Q) →
    gd (lp (fun _ _ => none) (f_X10_closes_B74 1000 188 (n32 m) (n32 n) x3 x4 x5 (n32 s) k) fuel (n32 i) h) Q := by
  intro d
  induction d with
  | zero =>
    intro i fuel h q D hn hf t hD K
    obtain ⟨k', rfl⟩ : ∃ k, fuel = k + 1 := ⟨fuel - 1, by omega⟩
    have e : n ≤ i := by omega
    simp -implicitDefEqProofs (disch := omega) only [lp_s, f_X10_closes_B74, gP_p, gP_t, bnd_s, bnd2_s, ltt_s, jn_s, n32_nat, n32_le, n32_lt, n32_eq, n32_add, n32_sub, n32_dec, n32_mul, n32_div, n32_irm, n32_lit, n32_oN, n32_ix, n32_m1, n32_m2, neg_le0, neg_lt0, neg_lt1, neg_le1, n32_min, n32_max, if_true, if_false, Nat.one_ne_zero, gd_some, true_or, or_true, false_or, or_false, e]
    exact K h t
  | succ d ih =>
    intro i fuel h q D hi hf t hD K
    obtain ⟨k', rfl⟩ : ∃ k, fuel = k + 1 := ⟨fuel - 1, by omega⟩
    have e : ¬ n ≤ i := by omega
    have goal : gd (bnd (f_X10_monthGoes 1000 (setI h 194 27 (n32 (bq s i))) 188 194) (fun h48 => lp (fun _ _ => none) (f_X10_closes_B74 1000 188 (n32 m) (n32 n) x3 x4 x5 (n32 s) k) k' (n32 (i + 1)) h48)) Q := by
      rw [gd_bnd]
      refine gd_mono (m_month (by omega) ok (m_27 t bq_le) (by omega)) ?_
      intro h1 t1
      exact ih (i + 1) k' h1 _ (D + 1) (by omega) (by omega) t1 (by omega) (fun h' t' => K h' (by rw [show D + (d + 1) = D + 1 + d by omega]; exact t'))
    by_cases b : (shr (n32 s) (n32 i)) &&& n32 1 = n32 1
    · have eb : bq s i = 1 := if_pos b
      rw [eb] at goal
      simp -implicitDefEqProofs (disch := omega) only [lp_s, f_X10_closes_B74, gP_p, gP_t, bnd_s, bnd2_s, ltt_s, jn_s, n32_nat, n32_le, n32_lt, n32_eq, n32_add, n32_sub, n32_dec, n32_mul, n32_div, n32_irm, n32_lit, n32_oN, n32_ix, n32_m1, n32_m2, neg_le0, neg_lt0, neg_lt1, neg_le1, n32_min, n32_max, if_true, if_false, Nat.one_ne_zero, gd_some, true_or, or_true, false_or, or_false, e, f_X10_has, b, f_X10_flag, t.1.1.mod, sI_rK]
      exact goal
    · have eb : bq s i = 0 := if_neg b
      rw [eb] at goal
      simp -implicitDefEqProofs (disch := omega) only [lp_s, f_X10_closes_B74, gP_p, gP_t, bnd_s, bnd2_s, ltt_s, jn_s, n32_nat, n32_le, n32_lt, n32_eq, n32_add, n32_sub, n32_dec, n32_mul, n32_div, n32_irm, n32_lit, n32_oN, n32_ix, n32_m1, n32_m2, neg_le0, neg_lt0, neg_lt1, neg_le1, n32_min, n32_max, if_true, if_false, Nat.one_ne_zero, gd_some, true_or, or_true, false_or, or_false, e, f_X10_has, b, f_X10_flag, t.1.1.mod, sI_rK]
      exact goal
noncomputable def pBc (w : Wd) (m n s : Nat) : Nat := wP w (clR w s n 0 (wr w)) m
noncomputable def clM (w : Wd) (m n c : Nat) : Nat → Nat → Nat → Nat → Nat × Nat
  | 0, _, le, ch => (le, ch)
  | d + 1, s, le, ch => if n32 c < bcv (n32 s) then clM w m n c d (s + 1) le ch else if pBc w m n s < le then clM w m n c d (s + 1) (pBc w m n s) s else if pBc w m n s = le then (if bcv (n32 ch) ≤ bcv (n32 s) then clM w m n c d (s + 1) le ch else clM w m n c d (s + 1) (pBc w m n s) s) else clM w m n c d (s + 1) le ch
theorem pbcX {m n s : Nat} {w : Wd} {h0 h : HP} {l : List Int64} (ok : wOK w) (t : XEq w l h0 h) (hm : m < wsz w) (hn : n ≤ 8) (hs : s ≤ 256) : gd (f_X9_priceBehindClosing 1000 h 0 (n32 m) (n32 n) (n32 s)) (fun p => p.1 = n32 (pBc w m n s) ∧ XEq w l h0 p.2) := by
  have hB := ok.2.2.2.2.2.2
  unfold f_X9_priceBehindClosing
  simp -implicitDefEqProofs (disch := omega) only [t.1.1.root, gP_p, gP_t, bnd_s, bnd2_s, ltt_s, jn_s, n32_nat, n32_le, n32_lt, n32_eq, n32_add, n32_sub, n32_dec, n32_mul, n32_div, n32_irm, n32_lit, n32_oN, n32_ix, n32_m1, n32_m2, neg_le0, neg_lt0, neg_lt1, neg_le1, n32_min, n32_max, if_true, if_false, Nat.one_ne_zero, gd_some, true_or, or_true, false_or, or_false, gd_bnd]
  refine gd_mono (x_become (N := 997) ok t.1 t.2.1 t.2.2) ?_
  intro h1 t1
  have := pbc_x (s := s) ok hm hn hs n 0 1000 h1 (wr w) _ (by omega) (by omega) t1 (by omega)
  exact this
theorem closes_x {m n c : Nat} {w : Wd} {h0 : HP} {l : List Int64} (ok : wOK w) (hm : m < wsz w) (hn : n ≤ 8) (hc : c ≤ 8) : ∀ (d s fuel : Nat) (h : HP) (le ch : Nat), s + d = 2 ^ n → d < fuel → XEq w l h0 h → le ≤ 99999 → ch ≤ 256 →
    gd (lp (fun _ _ _ _ => none) (f_X9_closes_B42 1000 0 (n32 m) (n32 n) (n32 c) (fun (x44 : Int32) (x45 : Int32) (h46 : HP) => bnd (rK h46 0 1 6) (fun t48 => bnd (f_X6_tell h46 t48 (x45.toInt64)) (fun h53 => some (x44, h53))))) fuel (n32 le) (n32 ch) (n32 s) h) (XA [(n32 (clM w m n c d s le ch).2).toInt64] (n32 (clM w m n c d s le ch).1) h0) := by
  have hp := pow_b hn
  have hsh := shl_p hn
  intro d
  induction d with
  | zero =>
    intro s fuel h le ch hs hf t hle hch
    obtain ⟨k, rfl⟩ : ∃ k, fuel = k + 1 := ⟨fuel - 1, by omega⟩
    have e : 2 ^ n ≤ s := by omega
    simp -implicitDefEqProofs (disch := omega) only [lp_s, f_X9_closes_B42, gP_p, gP_t, bnd_s, bnd2_s, ltt_s, jn_s, n32_nat, n32_le, n32_lt, n32_eq, n32_add, n32_sub, n32_dec, n32_mul, n32_div, n32_irm, n32_lit, n32_oN, n32_ix, n32_m1, n32_m2, neg_le0, neg_lt0, neg_lt1, neg_le1, n32_min, n32_max, if_true, if_false, Nat.one_ne_zero, gd_some, true_or, or_true, false_or, or_false, hsh, e, t.1.1.root, gd_bnd]
    refine gd_mono (xq_tell1 t) ?_
    intro h3 t3
    exact ⟨rfl, t3.2.1, t3.2.2⟩
  | succ d ih =>
    intro s fuel h le ch hs hf t hle hch
    obtain ⟨k, rfl⟩ : ∃ k, fuel = k + 1 := ⟨fuel - 1, by omega⟩
    have e : ¬ 2 ^ n ≤ s := by omega
    have pb : pBc w m n s ≤ 99999 := wP_le
    unfold clM
    by_cases q0 : n32 c < bcv (n32 s)
    · rw [if_pos q0]
      simp -implicitDefEqProofs (disch := omega) only [lp_s, f_X9_closes_B42, gP_p, gP_t, bnd_s, bnd2_s, ltt_s, jn_s, n32_nat, n32_le, n32_lt, n32_eq, n32_add, n32_sub, n32_dec, n32_mul, n32_div, n32_irm, n32_lit, n32_oN, n32_ix, n32_m1, n32_m2, neg_le0, neg_lt0, neg_lt1, neg_le1, n32_min, n32_max, if_true, if_false, Nat.one_ne_zero, gd_some, true_or, or_true, false_or, or_false, hsh, e, bit_e, q0]
      exact ih (s + 1) k h le ch (by omega) (by omega) t hle hch
    · rw [if_neg q0]
      simp -implicitDefEqProofs (disch := omega) only [lp_s, f_X9_closes_B42, gP_p, gP_t, bnd_s, bnd2_s, ltt_s, jn_s, n32_nat, n32_le, n32_lt, n32_eq, n32_add, n32_sub, n32_dec, n32_mul, n32_div, n32_irm, n32_lit, n32_oN, n32_ix, n32_m1, n32_m2, neg_le0, neg_lt0, neg_lt1, neg_le1, n32_min, n32_max, if_true, if_false, Nat.one_ne_zero, gd_some, true_or, or_true, false_or, or_false, hsh, e, bit_e, q0, gd_bnd2]
      refine gd_mono (pbcX ok t hm hn (by omega)) ?_
      rintro ⟨u, h1⟩ ⟨e1, t1⟩
      have e1' : u = n32 (pBc w m n s) := e1
      subst e1'
      have take := ih (s + 1) k h1 (pBc w m n s) s (by omega) (by omega) t1 pb (by omega)
      have skip' := ih (s + 1) k h1 le ch (by omega) (by omega) t1 hle hch
      by_cases q1 : pBc w m n s < le
      · rw [if_pos q1]
        simp -implicitDefEqProofs (disch := omega) only [gP_p, gP_t, bnd_s, bnd2_s, ltt_s, jn_s, n32_nat, n32_le, n32_lt, n32_eq, n32_add, n32_sub, n32_dec, n32_mul, n32_div, n32_irm, n32_lit, n32_oN, n32_ix, n32_m1, n32_m2, neg_le0, neg_lt0, neg_lt1, neg_le1, n32_min, n32_max, if_true, if_false, Nat.one_ne_zero, gd_some, true_or, or_true, false_or, or_false, q1]
        exact take
      · rw [if_neg q1]
        by_cases q2 : pBc w m n s = le
        · rw [if_pos q2]
          by_cases q3 : bcv (n32 ch) ≤ bcv (n32 s)
          · rw [if_pos q3]
            simp -implicitDefEqProofs (disch := omega) only [gP_p, gP_t, bnd_s, bnd2_s, ltt_s, jn_s, n32_nat, n32_le, n32_lt, n32_eq, n32_add, n32_sub, n32_dec, n32_mul, n32_div, n32_irm, n32_lit, n32_oN, n32_ix, n32_m1, n32_m2, neg_le0, neg_lt0, neg_lt1, neg_le1, n32_min, n32_max, if_true, if_false, Nat.one_ne_zero, gd_some, true_or, or_true, false_or, or_false, q1, q2, few_e, q3, Nat.lt_irrefl]
            exact skip'
          · rw [if_neg q3]
            simp -implicitDefEqProofs (disch := omega) only [gP_p, gP_t, bnd_s, bnd2_s, ltt_s, jn_s, n32_nat, n32_le, n32_lt, n32_eq, n32_add, n32_sub, n32_dec, n32_mul, n32_div, n32_irm, n32_lit, n32_oN, n32_ix, n32_m1, n32_m2, neg_le0, neg_lt0, neg_lt1, neg_le1, n32_min, n32_max, if_true, if_false, Nat.one_ne_zero, gd_some, true_or, or_true, false_or, or_false, q1, q2, few_e, q3, Nat.lt_irrefl]
            rw [q2] at take
            exact take
        · rw [if_neg q2]
          simp -implicitDefEqProofs (disch := omega) only [gP_p, gP_t, bnd_s, bnd2_s, ltt_s, jn_s, n32_nat, n32_le, n32_lt, n32_eq, n32_add, n32_sub, n32_dec, n32_mul, n32_div, n32_irm, n32_lit, n32_oN, n32_ix, n32_m1, n32_m2, neg_le0, neg_lt0, neg_lt1, neg_le1, n32_min, n32_max, if_true, if_false, Nat.one_ne_zero, gd_some, true_or, or_true, false_or, or_false, q1, q2]
          exact skip'
theorem closes_m {m n c : Nat} {w : Wd} {h0 : HP} {l : List Int64} (ok : wOK w) (hm : m < wsz w) (hn : n ≤ 8) (hc : c ≤ 8) : ∀ (d s fuel : Nat) (h : HP) (le ch : Nat), s + d = 2 ^ n → d < fuel → MEq w l h0 h → le ≤ 2000000000 → ch ≤ 256 →
    gd (lp (fun _ _ _ _ => none) (f_X10_closes_B50 1000 188 (n32 m) (n32 n) (n32 c) (fun (x86 : Int32) (x87 : Int32) (h88 : HP) => lt_ (setI h88 188 1 0) (fun h90 => bnd (f_X10_enters h90 188 (x86.toInt64)) (fun h93 => some (x87, h93))))) fuel (n32 ch) (n32 le) (n32 s) h) (MA [(n32 (clM w m n c d s le ch).2).toInt64] (n32 (clM w m n c d s le ch).1) h0) := by
  have hp := pow_b hn
  have hsh := shl_p hn
  have hB := ok.2.2.2.2.2.2
  intro d
  induction d with
  | zero =>
    intro s fuel h le ch hs hf t hle hch
    obtain ⟨k, rfl⟩ : ∃ k, fuel = k + 1 := ⟨fuel - 1, by omega⟩
    have e : 2 ^ n ≤ s := by omega
    rw [lp_s]
    simp -implicitDefEqProofs (disch := omega) only [f_X10_closes_B50, gP_p, gP_t, bnd_s, bnd2_s, ltt_s, jn_s, n32_nat, n32_le, n32_lt, n32_eq, n32_add, n32_sub, n32_dec, n32_mul, n32_div, n32_irm, n32_lit, n32_oN, n32_ix, n32_m1, n32_m2, neg_le0, neg_lt0, neg_lt1, neg_le1, n32_min, n32_max, if_true, if_false, Nat.one_ne_zero, gd_some, true_or, or_true, false_or, or_false, hsh, e, t.1.1.mod, gd_bnd]
    refine gd_mono (mq_ent (mq_told0 t) (by show 0 < 6; omega)) ?_
    intro h3 t3
    exact ⟨rfl, t3.2.1, t3.2.2⟩
  | succ d ih =>
    intro s fuel h le ch hs hf t hle hch
    obtain ⟨k, rfl⟩ : ∃ k, fuel = k + 1 := ⟨fuel - 1, by omega⟩
    have e : ¬ 2 ^ n ≤ s := by omega
    have pb : pBc w m n s ≤ 99999 := wP_le
    unfold clM
    by_cases q0 : n32 c < bcv (n32 s)
    · rw [if_pos q0]
      have skip' := ih (s + 1) k h le ch (by omega) (by omega) t hle hch
      simp -implicitDefEqProofs (disch := omega) only [gP_p, gP_t, bnd_s, bnd2_s, ltt_s, jn_s, n32_nat, n32_le, n32_lt, n32_eq, n32_add, n32_sub, n32_dec, n32_mul, n32_div, n32_irm, n32_lit, n32_oN, n32_ix, n32_m1, n32_m2, neg_le0, neg_lt0, neg_lt1, neg_le1, n32_min, n32_max, if_true, if_false, Nat.one_ne_zero, gd_some, true_or, or_true, false_or, or_false] at skip'
      rw [lp_s]
      simp -implicitDefEqProofs (disch := omega) only [f_X10_closes_B50, gP_p, gP_t, bnd_s, bnd2_s, ltt_s, jn_s, n32_nat, n32_le, n32_lt, n32_eq, n32_add, n32_sub, n32_dec, n32_mul, n32_div, n32_irm, n32_lit, n32_oN, n32_ix, n32_m1, n32_m2, neg_le0, neg_lt0, neg_lt1, neg_le1, n32_min, n32_max, if_true, if_false, Nat.one_ne_zero, gd_some, true_or, or_true, false_or, or_false, hsh, e, bit_e, q0]
      exact skip'
    · rw [if_neg q0]
      have take := fun h1 t1 => ih (s + 1) k h1 (pBc w m n s) s (by omega) (by omega) t1 (by omega) (by omega)
      have skip' := fun h1 t1 => ih (s + 1) k h1 le ch (by omega) (by omega) t1 hle hch
      simp -implicitDefEqProofs (disch := omega) only [gP_p, gP_t, bnd_s, bnd2_s, ltt_s, jn_s, n32_nat, n32_le, n32_lt, n32_eq, n32_add, n32_sub, n32_dec, n32_mul, n32_div, n32_irm, n32_lit, n32_oN, n32_ix, n32_m1, n32_m2, neg_le0, neg_lt0, neg_lt1, neg_le1, n32_min, n32_max, if_true, if_false, Nat.one_ne_zero, gd_some, true_or, or_true, false_or, or_false] at skip' take
      rw [lp_s]
      simp -implicitDefEqProofs (disch := omega) only [f_X10_closes_B50, gP_p, gP_t, bnd_s, bnd2_s, ltt_s, jn_s, n32_nat, n32_le, n32_lt, n32_eq, n32_add, n32_sub, n32_dec, n32_mul, n32_div, n32_irm, n32_lit, n32_oN, n32_ix, n32_m1, n32_m2, neg_le0, neg_lt0, neg_lt1, neg_le1, n32_min, n32_max, if_true, if_false, Nat.one_ne_zero, gd_some, true_or, or_true, false_or, or_false, hsh, e, bit_e, q0, gd_bnd]
      refine gd_mono (m_copies (by omega) ok t.1 t.2.1 t.2.2) ?_
      intro h1 t1
      refine pbc_m ok hm hn (by omega) n 0 1000 h1 (wr w) _ (by omega) (by omega) t1 (by omega) ?_
      intro h2 t2
      simp -implicitDefEqProofs (disch := omega) only [t2.1.1.mod, gP_p, gP_t, bnd_s, bnd2_s, ltt_s, jn_s, n32_nat, n32_le, n32_lt, n32_eq, n32_add, n32_sub, n32_dec, n32_mul, n32_div, n32_irm, n32_lit, n32_oN, n32_ix, n32_m1, n32_m2, neg_le0, neg_lt0, neg_lt1, neg_le1, n32_min, n32_max, if_true, if_false, Nat.one_ne_zero, gd_some, true_or, or_true, false_or, or_false, gd_bnd2]
      refine gd_mono (m_price (by omega) ok t2 (by omega) hm) ?_
      rintro ⟨u, h3⟩ ⟨e3, t3⟩
      have e3' : u = n32 (pBc w m n s) := e3
      subst e3'
      by_cases q1 : pBc w m n s < le
      · rw [if_pos q1]
        have em : min le (pBc w m n s) = pBc w m n s := by omega
        simp -implicitDefEqProofs (disch := omega) only [gP_p, gP_t, bnd_s, bnd2_s, ltt_s, jn_s, n32_nat, n32_le, n32_lt, n32_eq, n32_add, n32_sub, n32_dec, n32_mul, n32_div, n32_irm, n32_lit, n32_oN, n32_ix, n32_m1, n32_m2, neg_le0, neg_lt0, neg_lt1, neg_le1, n32_min, n32_max, if_true, if_false, Nat.one_ne_zero, gd_some, true_or, or_true, false_or, or_false, q1, em]
        exact take h3 t3.q
      · rw [if_neg q1]
        have em : min le (pBc w m n s) = le := by omega
        by_cases q2 : pBc w m n s = le
        · rw [if_pos q2]
          have em2 : min le le = le := Nat.min_self le
          by_cases q3 : bcv (n32 ch) ≤ bcv (n32 s)
          · rw [if_pos q3]
            have := skip' h3 t3.q
            simp -implicitDefEqProofs (disch := omega) only [gP_p, gP_t, bnd_s, bnd2_s, ltt_s, jn_s, n32_nat, n32_le, n32_lt, n32_eq, n32_add, n32_sub, n32_dec, n32_mul, n32_div, n32_irm, n32_lit, n32_oN, n32_ix, n32_m1, n32_m2, neg_le0, neg_lt0, neg_lt1, neg_le1, n32_min, n32_max, if_true, if_false, Nat.one_ne_zero, gd_some, true_or, or_true, false_or, or_false, q1, q2, q3, Nat.lt_irrefl, em2]
            exact this
          · rw [if_neg q3]
            have := take h3 t3.q
            simp -implicitDefEqProofs (disch := omega) only [gP_p, gP_t, bnd_s, bnd2_s, ltt_s, jn_s, n32_nat, n32_le, n32_lt, n32_eq, n32_add, n32_sub, n32_dec, n32_mul, n32_div, n32_irm, n32_lit, n32_oN, n32_ix, n32_m1, n32_m2, neg_le0, neg_lt0, neg_lt1, neg_le1, n32_min, n32_max, if_true, if_false, Nat.one_ne_zero, gd_some, true_or, or_true, false_or, or_false, q1, q2, q3, Nat.lt_irrefl, em2]
            rw [q2] at this
            exact this
        · rw [if_neg q2]
          have := skip' h3 t3.q
          simp -implicitDefEqProofs (disch := omega) only [gP_p, gP_t, bnd_s, bnd2_s, ltt_s, jn_s, n32_nat, n32_le, n32_lt, n32_eq, n32_add, n32_sub, n32_dec, n32_mul, n32_div, n32_irm, n32_lit, n32_oN, n32_ix, n32_m1, n32_m2, neg_le0, neg_lt0, neg_lt1, neg_le1, n32_min, n32_max, if_true, if_false, Nat.one_ne_zero, gd_some, true_or, or_true, false_or, or_false, q1, q2, em]
          exact this

theorem op_closes {k : Nat} (hk : k < 512) : ∀ (h : HP) (a1 a2 a3 : Int32), Inv k h → ∃ (v : Int32) (h1 h2 : HP), f_X9_closes 1000 h 0 a1 a2 a3 = some (v, h1) ∧ f_X10_closes 1000 h1 188 a1 a2 a3 = some (v, h2) ∧ Inv (k + 1) h2 := fun h a1 a2 a3 I => q_op hk (fX := fun h => f_X9_closes 1000 h 0 a1 a2 a3) (fM := fun h => f_X10_closes 1000 h 188 a1 a2 a3) (fun w l ok => by
  have hB := ok.2.2.2.2.2.2
  have hz := ok.1
  by_cases c1 : 0 ≤ a1.toInt ∧ a1.toInt < (wsz w : Int)
  · obtain ⟨m, hm, rfl⟩ := n32_of c1.1 c1.2
    by_cases c2 : 1 ≤ a2.toInt ∧ a2.toInt ≤ 8
    · obtain ⟨n, ln, hn, rfl⟩ := n32_of2 (lo := 1) (hi := 8) c2.1 c2.2
      have xn : f_X9_within (n32 n) (n32 1) (n32 8) = some (n32 1) := within_y c2
      have mn := in_y (x := n32 n) (lo := 1) (hi := 8) (a := 1) (b := 8) rfl rfl c2
      by_cases c3 : 0 ≤ a3.toInt ∧ a3.toInt ≤ 8
      · obtain ⟨c, lc, hc, rfl⟩ := n32_of2 (lo := 0) (hi := 8) c3.1 c3.2
        have xc : f_X9_within (n32 c) (n32 0) (n32 8) = some (n32 1) := within_y c3
        have mc := in_y (x := n32 c) (lo := 0) (hi := 8) (a := 0) (b := 8) rfl rfl c3
        have hp := pow_b hn
        have hsh := shl_p hn
        have pb : pBc w m n 0 ≤ 99999 := wP_le
        have b0 : bcv (n32 0) = n32 0 := by decide
        have q0 : ¬ n32 c < n32 0 := by rw [n32_lt (by omega) (by omega)]; omega
        have e1 : clM w m n c (2 ^ n) 0 2000000000 0 = clM w m n c (2 ^ n - 1) 1 (pBc w m n 0) 0 := by
          obtain ⟨t, ht⟩ : ∃ t, 2 ^ n = t + 1 := ⟨2 ^ n - 1, by omega⟩
          rw [ht, show t + 1 - 1 = t by omega]
          conv => lhs; unfold clM
          rw [b0, if_neg q0, if_pos (by omega)]
        refine ⟨n32 (clM w m n c (2 ^ n) 0 2000000000 0).1, [(n32 (clM w m n c (2 ^ n) 0 2000000000 0).2).toInt64], fun h x rx => ?_, fun h x rm => ?_⟩
        · have e : ¬ 2 ^ n ≤ 0 := by omega
          unfold f_X9_closes
          rw [e1]
          simp -implicitDefEqProofs (disch := omega) only [x.1.root, gP_p, gP_t, bnd_s, bnd2_s, ltt_s, jn_s, n32_nat, n32_le, n32_lt, n32_eq, n32_add, n32_sub, n32_dec, n32_mul, n32_div, n32_irm, n32_lit, n32_oN, n32_ix, n32_m1, n32_m2, neg_le0, neg_lt0, neg_lt1, neg_le1, n32_min, n32_max, if_true, if_false, Nat.one_ne_zero, gd_some, true_or, or_true, false_or, or_false, hasX_y ok x hm, xn, xc, lp_1000, f_X9_closes_B42, hsh, e, bit_e, b0, q0, Nat.not_lt_zero, gd_bnd2]
          refine gd_mono (pbcX ok ⟨x, rx, fr.rf _ _⟩ hm hn (by omega)) ?_
          rintro ⟨u, h1⟩ ⟨e2, t1⟩
          have e2' : u = n32 (pBc w m n 0) := e2
          subst e2'
          exact closes_x ok hm hn hc (2 ^ n - 1) 1 999 h1 _ 0 (by omega) (by omega) t1 pb (by omega)
        · obtain ⟨v1, rm1, f1⟩ := thr0 x rm
          have goal := closes_m ok hm hn hc (2 ^ n) 0 1000 _ 2000000000 0 (by omega) (by omega) ⟨v1, rm1, f1⟩ (by omega) (by omega)
          unfold f_X10_closes
          simp -implicitDefEqProofs (disch := omega) only [x.1.mod, gP_p, gP_t, bnd_s, bnd2_s, ltt_s, jn_s, n32_nat, n32_le, n32_lt, n32_eq, n32_add, n32_sub, n32_dec, n32_mul, n32_div, n32_irm, n32_lit, n32_oN, n32_ix, n32_m1, n32_m2, neg_le0, neg_lt0, neg_lt1, neg_le1, n32_min, n32_max, if_true, if_false, Nat.one_ne_zero, gd_some, true_or, or_true, false_or, or_false]
          simp -implicitDefEqProofs (disch := omega) only [v1.1.mod, gP_p, gP_t, bnd_s, bnd2_s, ltt_s, jn_s, n32_nat, n32_le, n32_lt, n32_eq, n32_add, n32_sub, n32_dec, n32_mul, n32_div, n32_irm, n32_lit, n32_oN, n32_ix, n32_m1, n32_m2, neg_le0, neg_lt0, neg_lt1, neg_le1, n32_min, n32_max, if_true, if_false, Nat.one_ne_zero, gd_some, true_or, or_true, false_or, or_false, isM_y ok v1.1 v1.2.1 hm, mn, mc]
          simp -implicitDefEqProofs (disch := omega) only [gP_p, gP_t, bnd_s, bnd2_s, ltt_s, jn_s, n32_nat, n32_le, n32_lt, n32_eq, n32_add, n32_sub, n32_dec, n32_mul, n32_div, n32_irm, n32_lit, n32_oN, n32_ix, n32_m1, n32_m2, neg_le0, neg_lt0, neg_lt1, neg_le1, n32_min, n32_max, if_true, if_false, Nat.one_ne_zero, gd_some, true_or, or_true, false_or, or_false] at goal
          exact goal
      · have xc : f_X9_within a3 (n32 0) (n32 8) = some (n32 0) := within_n c3
        have mc := in_n (x := a3) (lo := 0) (hi := 8) (a := 0) (b := 8) rfl rfl c3
        refine ⟨-n32 1, l, fun h x rx => ?_, fun h x rm => ?_⟩
        · unfold f_X9_closes
          simp -implicitDefEqProofs (disch := omega) only [x.1.root, gP_p, gP_t, bnd_s, bnd2_s, ltt_s, jn_s, n32_nat, n32_le, n32_lt, n32_eq, n32_add, n32_sub, n32_dec, n32_mul, n32_div, n32_irm, n32_lit, n32_oN, n32_ix, n32_m1, n32_m2, neg_le0, neg_lt0, neg_lt1, neg_le1, n32_min, n32_max, if_true, if_false, Nat.one_ne_zero, gd_some, true_or, or_true, false_or, or_false, hasX_y ok x hm, xn, xc]
          exact fin_x rx (fr.rf _ _)
        · obtain ⟨v1, rm1, f1⟩ := thr0 x rm
          unfold f_X10_closes
          simp -implicitDefEqProofs (disch := omega) only [x.1.mod, gP_p, gP_t, bnd_s, bnd2_s, ltt_s, jn_s, n32_nat, n32_le, n32_lt, n32_eq, n32_add, n32_sub, n32_dec, n32_mul, n32_div, n32_irm, n32_lit, n32_oN, n32_ix, n32_m1, n32_m2, neg_le0, neg_lt0, neg_lt1, neg_le1, n32_min, n32_max, if_true, if_false, Nat.one_ne_zero, gd_some, true_or, or_true, false_or, or_false]
          simp -implicitDefEqProofs (disch := omega) only [gP_p, gP_t, bnd_s, bnd2_s, ltt_s, jn_s, n32_nat, n32_le, n32_lt, n32_eq, n32_add, n32_sub, n32_dec, n32_mul, n32_div, n32_irm, n32_lit, n32_oN, n32_ix, n32_m1, n32_m2, neg_le0, neg_lt0, neg_lt1, neg_le1, n32_min, n32_max, if_true, if_false, Nat.one_ne_zero, gd_some, true_or, or_true, false_or, or_false, isM_y ok v1.1 v1.2.1 hm, mn, mc]
          exact fin_m rm1 f1
    · have xn : f_X9_within a2 (n32 1) (n32 8) = some (n32 0) := within_n c2
      have mn := in_n (x := a2) (lo := 1) (hi := 8) (a := 1) (b := 8) rfl rfl c2
      refine ⟨-n32 1, l, fun h x rx => ?_, fun h x rm => ?_⟩
      · unfold f_X9_closes
        simp -implicitDefEqProofs (disch := omega) only [x.1.root, gP_p, gP_t, bnd_s, bnd2_s, ltt_s, jn_s, n32_nat, n32_le, n32_lt, n32_eq, n32_add, n32_sub, n32_dec, n32_mul, n32_div, n32_irm, n32_lit, n32_oN, n32_ix, n32_m1, n32_m2, neg_le0, neg_lt0, neg_lt1, neg_le1, n32_min, n32_max, if_true, if_false, Nat.one_ne_zero, gd_some, true_or, or_true, false_or, or_false, hasX_y ok x hm, xn]
        exact fin_x rx (fr.rf _ _)
      · obtain ⟨v1, rm1, f1⟩ := thr0 x rm
        unfold f_X10_closes
        simp -implicitDefEqProofs (disch := omega) only [x.1.mod, gP_p, gP_t, bnd_s, bnd2_s, ltt_s, jn_s, n32_nat, n32_le, n32_lt, n32_eq, n32_add, n32_sub, n32_dec, n32_mul, n32_div, n32_irm, n32_lit, n32_oN, n32_ix, n32_m1, n32_m2, neg_le0, neg_lt0, neg_lt1, neg_le1, n32_min, n32_max, if_true, if_false, Nat.one_ne_zero, gd_some, true_or, or_true, false_or, or_false]
        simp -implicitDefEqProofs (disch := omega) only [gP_p, gP_t, bnd_s, bnd2_s, ltt_s, jn_s, n32_nat, n32_le, n32_lt, n32_eq, n32_add, n32_sub, n32_dec, n32_mul, n32_div, n32_irm, n32_lit, n32_oN, n32_ix, n32_m1, n32_m2, neg_le0, neg_lt0, neg_lt1, neg_le1, n32_min, n32_max, if_true, if_false, Nat.one_ne_zero, gd_some, true_or, or_true, false_or, or_false, isM_y ok v1.1 v1.2.1 hm, mn]
        exact fin_m rm1 f1
  · skip
    refine ⟨-n32 1, l, fun h x rx => ?_, fun h x rm => ?_⟩
    · unfold f_X9_closes
      simp -implicitDefEqProofs (disch := omega) only [x.1.root, gP_p, gP_t, bnd_s, bnd2_s, ltt_s, jn_s, n32_nat, n32_le, n32_lt, n32_eq, n32_add, n32_sub, n32_dec, n32_mul, n32_div, n32_irm, n32_lit, n32_oN, n32_ix, n32_m1, n32_m2, neg_le0, neg_lt0, neg_lt1, neg_le1, n32_min, n32_max, if_true, if_false, Nat.one_ne_zero, gd_some, true_or, or_true, false_or, or_false, hasX_n ok x c1]
      exact fin_x rx (fr.rf _ _)
    · obtain ⟨v1, rm1, f1⟩ := thr0 x rm
      unfold f_X10_closes
      simp -implicitDefEqProofs (disch := omega) only [x.1.mod, gP_p, gP_t, bnd_s, bnd2_s, ltt_s, jn_s, n32_nat, n32_le, n32_lt, n32_eq, n32_add, n32_sub, n32_dec, n32_mul, n32_div, n32_irm, n32_lit, n32_oN, n32_ix, n32_m1, n32_m2, neg_le0, neg_lt0, neg_lt1, neg_le1, n32_min, n32_max, if_true, if_false, Nat.one_ne_zero, gd_some, true_or, or_true, false_or, or_false]
      simp -implicitDefEqProofs (disch := omega) only [gP_p, gP_t, bnd_s, bnd2_s, ltt_s, jn_s, n32_nat, n32_le, n32_lt, n32_eq, n32_add, n32_sub, n32_dec, n32_mul, n32_div, n32_irm, n32_lit, n32_oN, n32_ix, n32_m1, n32_m2, neg_le0, neg_lt0, neg_lt1, neg_le1, n32_min, n32_max, if_true, if_false, Nat.one_ne_zero, gd_some, true_or, or_true, false_or, or_false, isM_n ok v1.1 v1.2.1 c1]
      exact fin_m rm1 f1) h I
