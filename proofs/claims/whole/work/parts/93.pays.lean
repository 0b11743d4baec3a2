/-! ===== pays ===== -/
theorem bq_all : (List.range 256).all (fun s => (List.range 8).all (fun i => decide (shr (n32 s) (n32 i) &&& n32 1 = n32 (bq s i)))) = true := by decide +kernel
theorem bq_v {s i : Nat} (hs : s < 256) (hi : i < 8) : shr (n32 s) (n32 i) &&& n32 1 = n32 (bq s i) := by
  have h1 := List.all_eq_true.mp bq_all s (List.mem_range.mpr hs)
  exact of_decide_eq_true (List.all_eq_true.mp h1 i (List.mem_range.mpr hi))
theorem has_v {s i : Nat} (hs : s < 256) (hi : i < 8) : f_X10_has (n32 s) (n32 i) = some (n32 (bq s i)) := by
  unfold f_X10_has bq
  show (if (shr (n32 s) (n32 i)) &&& n32 1 = n32 1 then some (n32 1) else some (n32 0)) = _
  split <;> rfl
def sV (v : Nat → Nat) (s : Nat) : Nat → Nat → Nat → Nat
  | 0, _, a => a
  | d + 1, i, a => sV v s d (i + 1) (a + bq s i * v i)
theorem sV_le {v : Nat → Nat} {s : Nat} : ∀ d i a, (∀ j, j < i + d → v j < 1000) → sV v s d i a ≤ a + 999 * d := by
  intro d
  induction d with
  | zero => intro i a _; exact Nat.le_refl _
  | succ d ih =>
    intro i a hv
    have h1 := ih (i + 1) (a + bq s i * v i) (fun j hj => hv j (by omega))
    have h2 := hv i (by omega)
    have h3 : bq s i * v i ≤ 999 := by
      have := bq_le (s := s) (i := i)
      rcases (show bq s i = 0 ∨ bq s i = 1 by omega) with e | e <;> rw [e] <;> omega
    show sV v s d (i + 1) (a + bq s i * v i) ≤ _
    omega
theorem sum_l {v : Nat → Nat} {N s cnt : Nat} {b c : Bool} {h : HP} (sh : SH b c h) (lv : LV h cnt v) (hs : s < 256) (hc : cnt ≤ 8) : ∀ (d i fuel a : Nat), i + d = cnt → d < fuel → lp (fun _ _ => none) (f_X3_sum_B4 N 163 (n32 s) h) fuel (n32 a) (n32 i) = some (n32 (sV v s d i a)) := by
  intro d
  have l1 := lv.1
  induction d with
  | zero =>
    intro i fuel a hi hf
    obtain ⟨k', rfl⟩ : ∃ k, fuel = k + 1 := ⟨fuel - 1, by omega⟩
    have e : cnt ≤ i := by omega
    rw [lp_s, f_X3_sum_B4]
    simp -implicitDefEqProofs (disch := omega) only [gP_p, gP_t, bnd_s, bnd2_s, ltt_s, jn_s, n32_nat, n32_le, n32_lt, n32_eq, n32_add, n32_sub, n32_dec, n32_mul, n32_div, n32_irm, n32_lit, n32_oN, n32_ix, n32_m1, n32_m2, neg_le0, neg_lt0, neg_lt1, neg_le1, n32_min, n32_max, if_true, if_false, Nat.one_ne_zero, gd_some, true_or, or_true, false_or, or_false, l1, e]
    rfl
  | succ d ih =>
    intro i fuel a hi hf
    obtain ⟨k', rfl⟩ : ∃ k, fuel = k + 1 := ⟨fuel - 1, by omega⟩
    have e : ¬ cnt ≤ i := by omega
    have l2 := lv.2 i (by omega)
    have nx := ih (i + 1) k' (a + bq s i * v i) (by omega) (by omega)
    rw [lp_s, f_X3_sum_B4]
    simp -implicitDefEqProofs (disch := omega) only [gP_p, gP_t, bnd_s, bnd2_s, ltt_s, jn_s, n32_nat, n32_le, n32_lt, n32_eq, n32_add, n32_sub, n32_dec, n32_mul, n32_div, n32_irm, n32_lit, n32_oN, n32_ix, n32_m1, n32_m2, neg_le0, neg_lt0, neg_lt1, neg_le1, n32_min, n32_max, if_true, if_false, Nat.one_ne_zero, gd_some, true_or, or_true, false_or, or_false, l1, e, sh.root, l2, bq_v hs (show i < 8 by omega)]
    exact nx
theorem sum_x {v : Nat → Nat} {N s cnt : Nat} {b c : Bool} {h : HP} (hN : 10 < N) (sh : SH b c h) (lv : LV h cnt v) (hs : s < 256) (hc : cnt ≤ 8) : f_X3_sum N h 163 (n32 s) = some (n32 (sV v s cnt 0 0)) := by
  unfold f_X3_sum
  rw [gP_p (by simp only [sh.root])]
  exact sum_l (N := N) sh lv hs hc cnt 0 N 0 (by omega) (by omega)
def PV (h : HP) (i : Nat) (v : Nat → Nat) : Prop := ∀ j, j < i → h.2.1 211 j = n32 (v j)
theorem sum_m {v : Nat → Nat} {N s cnt : Nat} {b c : Bool} {h : HP} {x1 x6 : Int32} {k : Int32 → Option (Int32 × HP)} (sh : SH b c h) (pv : PV h cnt v) (hs : s < 256) (hc : cnt ≤ 8) : ∀ (d i fuel a : Nat), i + d = cnt → d < fuel → lp (fun _ _ => none) (f_X10_pays_B164 N 188 x1 (n32 cnt) x6 (n32 s) h k) fuel (n32 a) (n32 i) = k (n32 (sV v s d i a)) := by
  intro d
  induction d with
  | zero =>
    intro i fuel a hi hf
    obtain ⟨k', rfl⟩ : ∃ k, fuel = k + 1 := ⟨fuel - 1, by omega⟩
    have e : cnt ≤ i := by omega
    rw [lp_s, f_X10_pays_B164]
    simp -implicitDefEqProofs (disch := omega) only [gP_p, gP_t, bnd_s, bnd2_s, ltt_s, jn_s, n32_nat, n32_le, n32_lt, n32_eq, n32_add, n32_sub, n32_dec, n32_mul, n32_div, n32_irm, n32_lit, n32_oN, n32_ix, n32_m1, n32_m2, neg_le0, neg_lt0, neg_lt1, neg_le1, n32_min, n32_max, if_true, if_false, Nat.one_ne_zero, gd_some, true_or, or_true, false_or, or_false, e]
    rfl
  | succ d ih =>
    intro i fuel a hi hf
    obtain ⟨k', rfl⟩ : ∃ k, fuel = k + 1 := ⟨fuel - 1, by omega⟩
    have e : ¬ cnt ≤ i := by omega
    have l2 := pv i (by omega)
    have nx := ih (i + 1) k' (a + bq s i * v i) (by omega) (by omega)
    have ha := has_v hs (show i < 8 by omega)
    have b1 := bq_le (s := s) (i := i)
    rw [lp_s, f_X10_pays_B164]
    rcases (show bq s i = 0 ∨ bq s i = 1 by omega) with q | q
    · rw [q] at ha nx
      rw [Nat.zero_mul] at nx
      simp -implicitDefEqProofs (disch := omega) only [gP_p, gP_t, bnd_s, bnd2_s, ltt_s, jn_s, n32_nat, n32_le, n32_lt, n32_eq, n32_add, n32_sub, n32_dec, n32_mul, n32_div, n32_irm, n32_lit, n32_oN, n32_ix, n32_m1, n32_m2, neg_le0, neg_lt0, neg_lt1, neg_le1, n32_min, n32_max, if_true, if_false, Nat.one_ne_zero, gd_some, true_or, or_true, false_or, or_false, e, ha]
      rw [nx]
      show _ = k (n32 (sV v s d (i + 1) (a + bq s i * v i)))
      rw [q, Nat.zero_mul]
    · rw [q] at ha nx
      rw [Nat.one_mul] at nx
      simp -implicitDefEqProofs (disch := omega) only [gP_p, gP_t, bnd_s, bnd2_s, ltt_s, jn_s, n32_nat, n32_le, n32_lt, n32_eq, n32_add, n32_sub, n32_dec, n32_mul, n32_div, n32_irm, n32_lit, n32_oN, n32_ix, n32_m1, n32_m2, neg_le0, neg_lt0, neg_lt1, neg_le1, n32_min, n32_max, if_true, if_false, Nat.one_ne_zero, gd_some, true_or, or_true, false_or, or_false, e, ha, sh.mod, l2]
      rw [nx]
      show _ = k (n32 (sV v s d (i + 1) (a + bq s i * v i)))
      rw [q, Nat.one_mul]
def pF (v : Nat → Nat) (x cnt : Nat) : Nat → Nat → Nat → Nat
  | 0, _, b => b
  | d + 1, s, b => pF v x cnt d (s + 1) (if sV v s cnt 0 0 = x ∧ (b = 0 ∨ ¬ bcv (xt b) ≤ bcv (n32 s)) then s + 1 else b)
theorem pF_le {v : Nat → Nat} {x cnt : Nat} : ∀ d s b, b ≤ s → pF v x cnt d s b ≤ s + d := by
  intro d
  induction d with
  | zero => intro s b h; exact h
  | succ d ih =>
    intro s b h
    have := ih (s + 1) (if sV v s cnt 0 0 = x ∧ (b = 0 ∨ ¬ bcv (xt b) ≤ bcv (n32 s)) then s + 1 else b) (by split <;> omega)
    show pF v x cnt d (s + 1) _ ≤ _
    omega
theorem xt_lt0 {a : Nat} (h : a < 2000000000) : (xt a < n32 0) = (a = 0) := by
  have := xt_ge0 h
  rw [← Int32.not_le]
  rw [this]
  exact propext ⟨fun z => by omega, fun z => by omega⟩
theorem srch_x {v : Nat → Nat} {N x cnt : Nat} {b c : Bool} {h : HP} {k : Int32 → Option (Int32 × HP)} (hN : 10 < N) (hx : x ≤ 9999) (hv : ∀ j, j < cnt → v j < 1000) (sh : SH b c h) (lv : LV h cnt v) (hc : cnt ≤ 8) : ∀ (d s fuel bst : Nat), s + d = 2 ^ cnt → d < fuel → bst ≤ s → lp (fun _ _ => none) (f_X9_pays_B60 N 0 (n32 x) h k) fuel (xt bst) (n32 s) = k (xt (pF v x cnt d s bst)) := by
  intro d
  have l1 := lv.1
  obtain ⟨p1, p2⟩ := pow_b hc
  have sp := shl_p hc
  induction d with
  | zero =>
    intro s fuel bst hi hf hb
    obtain ⟨k', rfl⟩ : ∃ k, fuel = k + 1 := ⟨fuel - 1, by omega⟩
    have e : 2 ^ cnt ≤ s := by omega
    rw [lp_s, f_X9_pays_B60]
    simp -implicitDefEqProofs (disch := omega) only [gP_p, gP_t, bnd_s, bnd2_s, ltt_s, jn_s, n32_nat, n32_le, n32_lt, n32_eq, n32_add, n32_sub, n32_dec, n32_mul, n32_div, n32_irm, n32_lit, n32_oN, n32_ix, n32_m1, n32_m2, neg_le0, neg_lt0, neg_lt1, neg_le1, n32_min, n32_max, if_true, if_false, Nat.one_ne_zero, gd_some, true_or, or_true, false_or, or_false, sh.root, l1, sp, e]
    rfl
  | succ d ih =>
    intro s fuel bst hi hf hb
    obtain ⟨k', rfl⟩ : ∃ k, fuel = k + 1 := ⟨fuel - 1, by omega⟩
    have e : ¬ 2 ^ cnt ≤ s := by omega
    have su := sum_x (N := N) (s := s) hN sh lv (by omega) hc
    have sl := sV_le (v := v) (s := s) cnt 0 0 (fun j hj => hv j (by omega))
    have fw := few_e (n32 s) (xt bst)
    have x0 := xt_0 (a := bst) (by omega)
    have st : pF v x cnt (d + 1) s bst = pF v x cnt d (s + 1) (if sV v s cnt 0 0 = x ∧ (bst = 0 ∨ ¬ bcv (xt bst) ≤ bcv (n32 s)) then s + 1 else bst) := rfl
    rw [lp_s, f_X9_pays_B60]
    by_cases q : sV v s cnt 0 0 = x
    · by_cases q2 : bst = 0
      · rw [if_pos ⟨q, Or.inl q2⟩] at st
        have nx := ih (s + 1) k' (s + 1) (by omega) (by omega) (by omega)
        rw [xt_s] at nx
        rw [st]
        simp -implicitDefEqProofs (disch := omega) only [gP_p, gP_t, bnd_s, bnd2_s, ltt_s, jn_s, n32_nat, n32_le, n32_lt, n32_eq, n32_add, n32_sub, n32_dec, n32_mul, n32_div, n32_irm, n32_lit, n32_oN, n32_ix, n32_m1, n32_m2, neg_le0, neg_lt0, neg_lt1, neg_le1, n32_min, n32_max, if_true, if_false, Nat.one_ne_zero, gd_some, true_or, or_true, false_or, or_false, sh.root, l1, sp, e, su, q, x0, q2]
        exact nx
      · by_cases q3 : bcv (xt bst) ≤ bcv (n32 s)
        · rw [if_neg (fun z => z.2.elim q2 (fun w => w q3))] at st
          rw [if_pos q3] at fw
          have nx := ih (s + 1) k' bst (by omega) (by omega) (by omega)
          rw [st]
          simp -implicitDefEqProofs (disch := omega) only [gP_p, gP_t, bnd_s, bnd2_s, ltt_s, jn_s, n32_nat, n32_le, n32_lt, n32_eq, n32_add, n32_sub, n32_dec, n32_mul, n32_div, n32_irm, n32_lit, n32_oN, n32_ix, n32_m1, n32_m2, neg_le0, neg_lt0, neg_lt1, neg_le1, n32_min, n32_max, if_true, if_false, Nat.one_ne_zero, gd_some, true_or, or_true, false_or, or_false, sh.root, l1, sp, e, su, q, x0, q2, fw]
          exact nx
        · rw [if_pos ⟨q, Or.inr q3⟩] at st
          rw [if_neg q3] at fw
          have nx := ih (s + 1) k' (s + 1) (by omega) (by omega) (by omega)
          rw [xt_s] at nx
          rw [st]
          simp -implicitDefEqProofs (disch := omega) only [gP_p, gP_t, bnd_s, bnd2_s, ltt_s, jn_s, n32_nat, n32_le, n32_lt, n32_eq, n32_add, n32_sub, n32_dec, n32_mul, n32_div, n32_irm, n32_lit, n32_oN, n32_ix, n32_m1, n32_m2, neg_le0, neg_lt0, neg_lt1, neg_le1, n32_min, n32_max, if_true, if_false, Nat.one_ne_zero, gd_some, true_or, or_true, false_or, or_false, sh.root, l1, sp, e, su, q, x0, q2, fw]
          exact nx
    · rw [if_neg (fun z => q z.1)] at st
      have nx := ih (s + 1) k' bst (by omega) (by omega) (by omega)
      rw [st]
      simp -implicitDefEqProofs (disch := omega) only [gP_p, gP_t, bnd_s, bnd2_s, ltt_s, jn_s, n32_nat, n32_le, n32_lt, n32_eq, n32_add, n32_sub, n32_dec, n32_mul, n32_div, n32_irm, n32_lit, n32_oN, n32_ix, n32_m1, n32_m2, neg_le0, neg_lt0, neg_lt1, neg_le1, n32_min, n32_max, if_true, if_false, Nat.one_ne_zero, gd_some, true_or, or_true, false_or, or_false, sh.root, l1, sp, e, su, q]
      exact nx
theorem srch_m {v : Nat → Nat} {N x cnt : Nat} {b c : Bool} {h : HP} {k : Int32 → Option (Int32 × HP)} (hN : 10 < N) (hx : x ≤ 9999) (hv : ∀ j, j < cnt → v j < 1000) (sh : SH b c h) (pv : PV h cnt v) (hc : cnt ≤ 8) : ∀ (d s fuel bst : Nat), s + d = 2 ^ cnt → d < fuel → bst ≤ s → lp (fun _ _ => none) (f_X10_pays_B150 N 188 (n32 x) (n32 cnt) h k) fuel (xt bst) (n32 s) = k (xt (pF v x cnt d s bst)) := by
  intro d
  obtain ⟨p1, p2⟩ := pow_b hc
  have sp := shl_p hc
  induction d with
  | zero =>
    intro s fuel bst hi hf hb
    obtain ⟨k', rfl⟩ : ∃ k, fuel = k + 1 := ⟨fuel - 1, by omega⟩
    have e : 2 ^ cnt ≤ s := by omega
    rw [lp_s, f_X10_pays_B150]
    simp -implicitDefEqProofs (disch := omega) only [gP_p, gP_t, bnd_s, bnd2_s, ltt_s, jn_s, n32_nat, n32_le, n32_lt, n32_eq, n32_add, n32_sub, n32_dec, n32_mul, n32_div, n32_irm, n32_lit, n32_oN, n32_ix, n32_m1, n32_m2, neg_le0, neg_lt0, neg_lt1, neg_le1, n32_min, n32_max, if_true, if_false, Nat.one_ne_zero, gd_some, true_or, or_true, false_or, or_false, sp, e]
    rfl
  | succ d ih =>
    intro s fuel bst hi hf hb
    obtain ⟨k', rfl⟩ : ∃ k, fuel = k + 1 := ⟨fuel - 1, by omega⟩
    have e : ¬ 2 ^ cnt ≤ s := by omega
    have sl := sV_le (v := v) (s := s) cnt 0 0 (fun j hj => hv j (by omega))
    have x0 := xt_lt0 (a := bst) (by omega)
    have b1 := bit_e (n32 s)
    have b2 := bit_e (xt bst)
    have st : pF v x cnt (d + 1) s bst = pF v x cnt d (s + 1) (if sV v s cnt 0 0 = x ∧ (bst = 0 ∨ ¬ bcv (xt bst) ≤ bcv (n32 s)) then s + 1 else bst) := rfl
    rw [lp_s, f_X10_pays_B150]
    have z0 : (0 : Int32) = n32 0 := rfl
    have sp1 : shl 1 (n32 cnt) = n32 (2 ^ cnt) := sp
    rw [sp1, if_neg (by rw [n32_le (by omega) (by omega)]; exact e), z0, sum_m (v := v) sh pv (show s < 256 by omega) hc cnt 0 N 0 (by omega) (by omega)]
    by_cases q : sV v s cnt 0 0 = x
    · by_cases q2 : bst = 0
      · rw [if_pos ⟨q, Or.inl q2⟩] at st
        have nx := ih (s + 1) k' (s + 1) (by omega) (by omega) (by omega)
        rw [xt_s] at nx
        rw [st]
        simp -implicitDefEqProofs (disch := omega) only [gP_p, gP_t, bnd_s, bnd2_s, ltt_s, jn_s, n32_nat, n32_le, n32_lt, n32_eq, n32_add, n32_sub, n32_dec, n32_mul, n32_div, n32_irm, n32_lit, n32_oN, n32_ix, n32_m1, n32_m2, neg_le0, neg_lt0, neg_lt1, neg_le1, n32_min, n32_max, if_true, if_false, Nat.one_ne_zero, gd_some, true_or, or_true, false_or, or_false, q, x0, q2]
        exact nx
      · by_cases q3 : bcv (xt bst) ≤ bcv (n32 s)
        · rw [if_neg (fun z => z.2.elim q2 (fun w => w q3))] at st
          have nx := ih (s + 1) k' bst (by omega) (by omega) (by omega)
          rw [st]
          simp -implicitDefEqProofs (disch := omega) only [gP_p, gP_t, bnd_s, bnd2_s, ltt_s, jn_s, n32_nat, n32_le, n32_lt, n32_eq, n32_add, n32_sub, n32_dec, n32_mul, n32_div, n32_irm, n32_lit, n32_oN, n32_ix, n32_m1, n32_m2, neg_le0, neg_lt0, neg_lt1, neg_le1, n32_min, n32_max, if_true, if_false, Nat.one_ne_zero, gd_some, true_or, or_true, false_or, or_false, q, x0, q2, b1, b2, q3]
          exact nx
        · rw [if_pos ⟨q, Or.inr q3⟩] at st
          have nx := ih (s + 1) k' (s + 1) (by omega) (by omega) (by omega)
          rw [xt_s] at nx
          rw [st]
          simp -implicitDefEqProofs (disch := omega) only [gP_p, gP_t, bnd_s, bnd2_s, ltt_s, jn_s, n32_nat, n32_le, n32_lt, n32_eq, n32_add, n32_sub, n32_dec, n32_mul, n32_div, n32_irm, n32_lit, n32_oN, n32_ix, n32_m1, n32_m2, neg_le0, neg_lt0, neg_lt1, neg_le1, n32_min, n32_max, if_true, if_false, Nat.one_ne_zero, gd_some, true_or, or_true, false_or, or_false, q, x0, q2, b1, b2, q3]
          exact nx
    · rw [if_neg (fun z => q z.1)] at st
      have nx := ih (s + 1) k' bst (by omega) (by omega) (by omega)
      rw [st]
      simp -implicitDefEqProofs (disch := omega) only [gP_p, gP_t, bnd_s, bnd2_s, ltt_s, jn_s, n32_nat, n32_le, n32_lt, n32_eq, n32_add, n32_sub, n32_dec, n32_mul, n32_div, n32_irm, n32_lit, n32_oN, n32_ix, n32_m1, n32_m2, neg_le0, neg_lt0, neg_lt1, neg_le1, n32_min, n32_max, if_true, if_false, Nat.one_ne_zero, gd_some, true_or, or_true, false_or, or_false, q]
      exact nx
theorem pay_m {t : Nat → Nat} {N E : Nat} {b c : Bool} {k : Int32 → Int32 → HP → Option (Int32 × HP)} {x1 : Int32} {Q : Int32 × HP → Prop} (hN : 10 < N) (hE : E ≤ 80) (tb : ∀ i, i < E → t i < 256) (h0 : HP) (r : LR) (K : ∀ h' g x, g ≤ 1 → SH b c h' → RM h' t E r.2.1 → (r.1 = true → x = n32 r.2.2.1 ∧ PV h' r.2.2.1 r.2.2.2) → fr [40, 44] h0 h' → (r.1 = true ↔ g = 1 ∧ r.2.1 = E) → gd (k x (n32 g) h') Q) : ∀ (d i p fuel : Nat) (v : Nat → Nat) (h : HP) (x2 : Int32), i + d = 8 + 1 → d + 1 < fuel → i ≤ 8 → p ≤ E → SH b c h → RM h t E p → PV h i v → fr [40, 44] h0 h → lnR t E 3 8 d i p v = r → gd (lp (fun _ _ _ _ => none) (f_X10_pays_B44 N 188 x1 k) fuel (n32 i) x2 (n32 1) h) Q := by
  intro d
  induction d with
  | zero => intro i p fuel v h x2 hi hf hic; omega
  | succ d ih =>
    intro i p fuel v h x2 hi hf hic hp s rm pv f hr
    obtain ⟨k', rfl⟩ : ∃ k, fuel = k + 1 + 1 := ⟨fuel - 2, by omega⟩
    have b1 := dgN_E (t := t) 3 p hp
    have b2 := nm_m (t := t) (E := E) (m := 3) (p := p)
    have b3 := dgN_le (t := t) (E := E) 3 p
    have p4 : 10 ^ 3 = 1000 := rfl
    have lt0 : -n32 1 < n32 0 := by decide
    rw [lnR_f] at hr
    have stop : ∀ (h' : HP) (g : Nat) (x : Int32), g ≤ 1 → SH b c h' → RM h' t E r.2.1 → (r.1 = true → x = n32 r.2.2.1 ∧ PV h' r.2.2.1 r.2.2.2) → fr [40, 44] h0 h' → (r.1 = true ↔ g = 1 ∧ r.2.1 = E) → gd (lp (fun _ _ _ _ => none) (f_X10_pays_B44 N 188 x1 k) (k' + 1) x (n32 g) (n32 0) h') Q := by
      intro h' g x hg s' r' m' f' e'
      rw [lp_s, f_X10_pays_B44]
      simp -implicitDefEqProofs (disch := omega) only [gP_p, gP_t, bnd_s, bnd2_s, ltt_s, jn_s, n32_nat, n32_le, n32_lt, n32_eq, n32_add, n32_sub, n32_dec, n32_mul, n32_div, n32_irm, n32_lit, n32_oN, n32_ix, n32_m1, n32_m2, neg_le0, neg_lt0, neg_lt1, neg_le1, n32_min, n32_max, if_true, if_false, Nat.one_ne_zero, gd_some, true_or, or_true, false_or, or_false]
      exact K h' g x hg s' r' m' f' e'
    rw [lp_s, f_X10_pays_B44]
    by_cases q1 : 8 ≤ i
    · rw [if_pos q1] at hr
      subst hr
      simp -implicitDefEqProofs (disch := omega) only [gP_p, gP_t, bnd_s, bnd2_s, ltt_s, jn_s, n32_nat, n32_le, n32_lt, n32_eq, n32_add, n32_sub, n32_dec, n32_mul, n32_div, n32_irm, n32_lit, n32_oN, n32_ix, n32_m1, n32_m2, neg_le0, neg_lt0, neg_lt1, neg_le1, n32_min, n32_max, if_true, if_false, Nat.one_ne_zero, gd_some, true_or, or_true, false_or, or_false, q1]
      exact stop h 0 _ (by omega) s rm (fun z => absurd z Bool.false_ne_true) f ⟨fun z => absurd z Bool.false_ne_true, fun z => absurd z.1 (by decide)⟩
    · rw [if_neg q1] at hr
      simp -implicitDefEqProofs (disch := omega) only [gP_p, gP_t, bnd_s, bnd2_s, ltt_s, jn_s, n32_nat, n32_le, n32_lt, n32_eq, n32_add, n32_sub, n32_dec, n32_mul, n32_div, n32_irm, n32_lit, n32_oN, n32_ix, n32_m1, n32_m2, neg_le0, neg_lt0, neg_lt1, neg_le1, n32_min, n32_max, if_true, if_false, Nat.one_ne_zero, gd_some, true_or, or_true, false_or, or_false, q1, s.mod, gd_bnd2]
      refine gd_mono (nab_m (N := N) hN hE (m := 3) (by omega) (by omega) tb hp s rm) ?_
      rintro ⟨u, h1⟩ ⟨e1, e2, e3, e4⟩
      have e1' : u = naV t (dgN t E 3 p) p := e1
      subst e1'
      have s1 := s.fr e4
      have f1 : fr [44] h1 (setI h1 211 i (naV t (dgN t E 3 p) p)) := (fr.rf _ _).sI rfl
      have s2 := s1.fr f1
      have e2' : RM h1 t E (naP t (dgN t E 3 p) p) := e2
      have r2 : RM (setI h1 211 i (naV t (dgN t E 3 p) p)) t E (naP t (dgN t E 3 p) p) := e2'.ne (by omega) (by omega) (by omega)
      have f2 := (f.tr (e4.mono (R' := [40, 44]) (by decide))).tr (f1.mono (by decide))
      by_cases q2 : dgN t E 3 p = 0
      · rw [if_pos q2] at hr
        subst hr
        have en : naV t (dgN t E 3 p) p = -n32 1 := if_pos (Or.inl q2)
        have ep : naP t (dgN t E 3 p) p = p := if_pos q2
        rw [en] at s2 r2 f2 f1
        rw [ep] at r2
        simp -implicitDefEqProofs (disch := omega) only [gP_p, gP_t, bnd_s, bnd2_s, ltt_s, jn_s, n32_nat, n32_le, n32_lt, n32_eq, n32_add, n32_sub, n32_dec, n32_mul, n32_div, n32_irm, n32_lit, n32_oN, n32_ix, n32_m1, n32_m2, neg_le0, neg_lt0, neg_lt1, neg_le1, n32_min, n32_max, if_true, if_false, Nat.one_ne_zero, gd_some, true_or, or_true, false_or, or_false, s1.mod, s2.mod, en, sI_eq, sI_ne, sI_J, sI_R, sI_kO, sI_rK, sI_len, sJ_eq, sJ_ne, sJ_I, sJ_kO, sJ_rK, sJ_len, lt0]
        exact stop _ 0 _ (by omega) s2 r2 (fun z => absurd z Bool.false_ne_true) f2 ⟨fun z => absurd z Bool.false_ne_true, fun z => absurd z.1 (by decide)⟩
      · rw [if_neg q2] at hr
        by_cases q3 : nm t (dgN t E 3 p) p 0 = 0
        · rw [if_pos q3] at hr
          subst hr
          have en : naV t (dgN t E 3 p) p = -n32 1 := if_pos (Or.inr q3)
          have ep : naP t (dgN t E 3 p) p = p + dgN t E 3 p - 1 := by unfold naP; rw [if_neg q2, if_pos q3]
          rw [en] at s2 r2 f2 f1
          rw [ep] at r2
          simp -implicitDefEqProofs (disch := omega) only [gP_p, gP_t, bnd_s, bnd2_s, ltt_s, jn_s, n32_nat, n32_le, n32_lt, n32_eq, n32_add, n32_sub, n32_dec, n32_mul, n32_div, n32_irm, n32_lit, n32_oN, n32_ix, n32_m1, n32_m2, neg_le0, neg_lt0, neg_lt1, neg_le1, n32_min, n32_max, if_true, if_false, Nat.one_ne_zero, gd_some, true_or, or_true, false_or, or_false, s1.mod, s2.mod, en, sI_eq, sI_ne, sI_J, sI_R, sI_kO, sI_rK, sI_len, sJ_eq, sJ_ne, sJ_I, sJ_kO, sJ_rK, sJ_len, lt0]
          exact stop _ 0 _ (by omega) s2 r2 (fun z => absurd z Bool.false_ne_true) f2 ⟨fun z => absurd z Bool.false_ne_true, fun z => absurd z.1 (by decide)⟩
        · rw [if_neg q3] at hr
          have en : naV t (dgN t E 3 p) p = n32 (nm t (dgN t E 3 p) p 0) := if_neg (fun z => z.elim q2 q3)
          have ep : naP t (dgN t E 3 p) p = p + dgN t E 3 p := by unfold naP; rw [if_neg q2, if_neg q3]
          rw [en] at s2 r2 f2 f1
          rw [ep] at r2
          have lv1 : PV (setI h1 211 i (n32 (nm t (dgN t E 3 p) p 0))) (i + 1) (up v i (nm t (dgN t E 3 p) p 0)) := fun j hj => by
            by_cases e : j = i
            · subst e
              rw [sI_eq, up_eq]
            · rw [sI_ne (by omega), up_ne e, e3 211 j (by omega)]
              exact pv j (by omega)
          simp -implicitDefEqProofs (disch := omega) only [gP_p, gP_t, bnd_s, bnd2_s, ltt_s, jn_s, n32_nat, n32_le, n32_lt, n32_eq, n32_add, n32_sub, n32_dec, n32_mul, n32_div, n32_irm, n32_lit, n32_oN, n32_ix, n32_m1, n32_m2, neg_le0, neg_lt0, neg_lt1, neg_le1, n32_min, n32_max, if_true, if_false, Nat.one_ne_zero, gd_some, true_or, or_true, false_or, or_false, s1.mod, s2.mod, en, sI_eq, sI_ne, sI_J, sI_R, sI_kO, sI_rK, sI_len, sJ_eq, sJ_ne, sJ_I, sJ_kO, sJ_rK, sJ_len, Nat.not_lt_zero]
          rw [gd_bnd2]
          refine gd_mono (takes_m s2 r2 hE b1 tb (show 59 < 256 by omega)) ?_
          rintro ⟨w, h3⟩ ⟨w1, w2, w3⟩
          have w3' : h3 = _ := w3
          have f3 : fr [40] (setI h1 211 i (n32 (nm t (dgN t E 3 p) p 0))) h3 := by
            rw [w3']
            exact (fr.rf _ _).sI rfl
          have lv3 : PV h3 (i + 1) (up v i (nm t (dgN t E 3 p) p 0)) := fun j hj => by
            rw [w3', sI_ne (by omega)]
            exact lv1 j hj
          have s3 := s2.fr f3
          have f4 := f2.tr (f3.mono (by decide))
          by_cases q4 : p + dgN t E 3 p = E
          · rw [if_pos q4] at hr
            subst hr
            have w1' : w = n32 0 := by
              have w1'' : w = n32 (if p + dgN t E 3 p < E ∧ t (p + dgN t E 3 p) = 59 then 1 else 0) := w1
              rw [w1'', if_neg (fun z => by omega)]
            have w2' : RM h3 t E (if p + dgN t E 3 p < E ∧ t (p + dgN t E 3 p) = 59 then p + dgN t E 3 p + 1 else p + dgN t E 3 p) := w2
            rw [if_neg (fun z => by omega), q4] at w2'
            subst w1'
            simp -implicitDefEqProofs (disch := omega) only [gP_p, gP_t, bnd_s, bnd2_s, ltt_s, jn_s, n32_nat, n32_le, n32_lt, n32_eq, n32_add, n32_sub, n32_dec, n32_mul, n32_div, n32_irm, n32_lit, n32_oN, n32_ix, n32_m1, n32_m2, neg_le0, neg_lt0, neg_lt1, neg_le1, n32_min, n32_max, if_true, if_false, Nat.one_ne_zero, gd_some, true_or, or_true, false_or, or_false]
            exact stop h3 1 _ (by omega) s3 w2' (fun _ => ⟨rfl, lv3⟩) f4 ⟨fun _ => ⟨rfl, rfl⟩, fun _ => rfl⟩
          · rw [if_neg q4] at hr
            by_cases q5 : t (p + dgN t E 3 p) = 59
            · rw [if_pos q5] at hr
              have q6 : p + dgN t E 3 p < E ∧ t (p + dgN t E 3 p) = 59 := ⟨by omega, q5⟩
              have w1' : w = n32 1 := by
                have w1'' : w = n32 (if p + dgN t E 3 p < E ∧ t (p + dgN t E 3 p) = 59 then 1 else 0) := w1
                rw [w1'', if_pos q6]
              have w2' : RM h3 t E (if p + dgN t E 3 p < E ∧ t (p + dgN t E 3 p) = 59 then p + dgN t E 3 p + 1 else p + dgN t E 3 p) := w2
              rw [if_pos q6] at w2'
              subst w1'
              simp -implicitDefEqProofs (disch := omega) only [gP_p, gP_t, bnd_s, bnd2_s, ltt_s, jn_s, n32_nat, n32_le, n32_lt, n32_eq, n32_add, n32_sub, n32_dec, n32_mul, n32_div, n32_irm, n32_lit, n32_oN, n32_ix, n32_m1, n32_m2, neg_le0, neg_lt0, neg_lt1, neg_le1, n32_min, n32_max, if_true, if_false, Nat.one_ne_zero, gd_some, true_or, or_true, false_or, or_false]
              exact ih (i + 1) _ (k' + 1) _ h3 _ (by omega) (by omega) (by omega) (by omega) s3 w2' lv3 f4 hr
            · rw [if_neg q5] at hr
              subst hr
              have w1' : w = n32 0 := by
                have w1'' : w = n32 (if p + dgN t E 3 p < E ∧ t (p + dgN t E 3 p) = 59 then 1 else 0) := w1
                rw [w1'', if_neg (fun z => q5 z.2)]
              have w2' : RM h3 t E (if p + dgN t E 3 p < E ∧ t (p + dgN t E 3 p) = 59 then p + dgN t E 3 p + 1 else p + dgN t E 3 p) := w2
              rw [if_neg (fun z => q5 z.2)] at w2'
              subst w1'
              simp -implicitDefEqProofs (disch := omega) only [gP_p, gP_t, bnd_s, bnd2_s, ltt_s, jn_s, n32_nat, n32_le, n32_lt, n32_eq, n32_add, n32_sub, n32_dec, n32_mul, n32_div, n32_irm, n32_lit, n32_oN, n32_ix, n32_m1, n32_m2, neg_le0, neg_lt0, neg_lt1, neg_le1, n32_min, n32_max, if_true, if_false, Nat.one_ne_zero, gd_some, true_or, or_true, false_or, or_false]
              exact stop h3 1 _ (by omega) s3 w2' (fun z => absurd z Bool.false_ne_true) f4 ⟨fun z => absurd z Bool.false_ne_true, fun z => absurd z.2 q4⟩
def pyA (b : Nat) : Int32 := if b = 0 then -n32 10000 else bcv (xt b)
theorem payX {h : HP} {t : Nat → Nat} {n x : Nat} {b c : Bool} (hx : x ≤ 9999) (s : SH b c h) (tx : TxX h t n) (tb : ∀ i, i < n → t i < 256) (hn : n ≤ 80) (R : LR) (hR : lnT t n (min n 80) 3 8 = R) (P : Nat) (hP : pF R.2.2.2 x R.2.2.1 (2 ^ R.2.2.1) 0 0 = P) :
    (¬ (R.1 = true ∧ n ≤ min n 80) → gd (f_X9_pays 1000 h 0 (n32 x)) (fun p => p.1 = -n32 1 - n32 (lnQ R (min n 80)) ∧ TxX p.2 t 0 ∧ fr [10, 1] h p.2)) ∧
    (R.1 = true ∧ n ≤ min n 80 → gd (f_X9_pays 1000 h 0 (n32 x)) (fun p => p.1 = pyA P ∧ TxX p.2 t 0 ∧ ((P = 0 ∧ fr [10, 1] h p.2) ∨ (P ≠ 0 ∧ RowX p.2 [(xt P).toInt64] ∧ fr [10, 1, 2] h p.2)))) := by
  obtain ⟨k1, k2, k3, k4⟩ := lnT_ok (t := t) (n := n) (E := min n 80) (m := 3) (cap := 8)
  rw [hR] at k1 k2 k3 k4
  have rd := read_x (N := 1000) (M := 80) (m := 3) (cap := 8) (by omega) s tx tb hn (by omega) (by omega) (by omega) (by omega)
  rw [hR] at rd
  have w1 : f_X9_within (n32 x) (n32 0) (n32 9999) = some (n32 1) := within_y (by rw [n32_int (show x < 2147483648 by omega)]; exact ⟨by show (0 : Int) ≤ _; omega, by show _ ≤ (9999 : Int); omega⟩)
  obtain ⟨p1, p2⟩ := pow_b k3
  have hPl : P ≤ 256 := by rw [← hP]; have := pF_le (v := R.2.2.2) (x := x) (cnt := R.2.2.1) (2 ^ R.2.2.1) 0 0 (by omega); omega
  refine ⟨fun bad => ?_, fun ok => ?_⟩
  · unfold f_X9_pays
    simp -implicitDefEqProofs (disch := omega) only [s.root, gP_p, gP_t, bnd_s, bnd2_s, ltt_s, jn_s, n32_nat, n32_le, n32_lt, n32_eq, n32_add, n32_sub, n32_dec, n32_mul, n32_div, n32_irm, n32_lit, n32_oN, n32_ix, n32_m1, n32_m2, neg_le0, neg_lt0, neg_lt1, neg_le1, n32_min, n32_max, if_true, if_false, Nat.one_ne_zero, gd_some, true_or, or_true, false_or, or_false, w1, gd_bnd2]
    refine gd_mono rd ?_
    rintro ⟨u, h1⟩ ⟨e1, e2, e3⟩
    have e1' : u = n32 (lnQ R (min n 80)) := (show u = lnC R n (min n 80) from e1).trans (lnC_q bad)
    subst e1'
    have s1 := s.fr e3
    have lq : lnQ R (min n 80) ≤ 80 := by unfold lnQ; split <;> omega
    have f1 : fr [1] h1 (setI h1 1 1 (n32 0)) := (fr.rf _ _).sI rfl
    simp -implicitDefEqProofs (disch := omega) only [gP_p, gP_t, bnd_s, bnd2_s, ltt_s, jn_s, n32_nat, n32_le, n32_lt, n32_eq, n32_add, n32_sub, n32_dec, n32_mul, n32_div, n32_irm, n32_lit, n32_oN, n32_ix, n32_m1, n32_m2, neg_le0, neg_lt0, neg_lt1, neg_le1, n32_min, n32_max, if_true, if_false, Nat.one_ne_zero, gd_some, true_or, or_true, false_or, or_false, s1.root, clr_x s1]
    exact ⟨trivial, ⟨sI_eq, fun i hi => absurd hi (Nat.not_lt_zero i)⟩, (e3.mono (by decide)).tr (f1.mono (by decide))⟩
  · unfold f_X9_pays
    simp -implicitDefEqProofs (disch := omega) only [s.root, gP_p, gP_t, bnd_s, bnd2_s, ltt_s, jn_s, n32_nat, n32_le, n32_lt, n32_eq, n32_add, n32_sub, n32_dec, n32_mul, n32_div, n32_irm, n32_lit, n32_oN, n32_ix, n32_m1, n32_m2, neg_le0, neg_lt0, neg_lt1, neg_le1, n32_min, n32_max, if_true, if_false, Nat.one_ne_zero, gd_some, true_or, or_true, false_or, or_false, w1, gd_bnd2]
    refine gd_mono rd ?_
    rintro ⟨u, h1⟩ ⟨e1, e2, e3⟩
    have e1' : u = -n32 1 := (show u = lnC R n (min n 80) from e1).trans (lnC_f ok)
    subst e1'
    have s1 := s.fr e3
    have lv := e2 ok.1
    have f1 : fr [1] h1 (setI h1 1 1 (n32 0)) := (fr.rf _ _).sI rfl
    have f2 : fr [10, 1] h (setI h1 1 1 (n32 0)) := (e3.mono (by decide)).tr (f1.mono (by decide))
    have s2 := s1.fr f1
    have lv2 : LV (setI h1 1 1 (n32 0)) R.2.2.1 R.2.2.2 := ⟨by rw [sI_ne (by omega)]; exact lv.1, fun j hj => by rw [sI_ne (by omega)]; exact lv.2 j hj⟩
    have key := srch_x (N := 1000) (x := x) (k := fun (x58 : Int32) => (if x58 = -n32 1 then some (-n32 10000, setI h1 1 1 (n32 0)) else bnd (rK (setI h1 1 1 (n32 0)) 0 1 6) (fun t60 => bnd (f_X6_tell (setI h1 1 1 (n32 0)) t60 (x58.toInt64)) (fun h65 => bnd (f_J6_bitCount_0f7a4 x58) (fun v69 => some (v69, h65)))))) (by omega) hx (fun j hj => (k1 j hj).2) s2 lv2 k3 (2 ^ R.2.2.1) 0 1000 0 (by omega) (by omega) (by omega)
    rw [hP] at key
    have e0 : xt 0 = -n32 1 := rfl
    rw [e0] at key
    simp -implicitDefEqProofs (disch := omega) only [gP_p, gP_t, bnd_s, bnd2_s, ltt_s, jn_s, n32_nat, n32_le, n32_lt, n32_eq, n32_add, n32_sub, n32_dec, n32_mul, n32_div, n32_irm, n32_lit, n32_oN, n32_ix, n32_m1, n32_m2, neg_le0, neg_lt0, neg_lt1, neg_le1, n32_min, n32_max, if_true, if_false, Nat.one_ne_zero, gd_some, true_or, or_true, false_or, or_false, s1.root, clr_x s1]
    rw [key]
    by_cases q : P = 0
    · have eA : pyA P = -n32 10000 := if_pos q
      rw [if_pos (by rw [xt_0 (by omega)]; exact q)]
      exact gd_some.mpr ⟨eA.symm, ⟨sI_eq, fun i hi => absurd hi (Nat.not_lt_zero i)⟩, Or.inl ⟨q, f2⟩⟩
    · have eA : pyA P = bcv (xt P) := if_neg q
      rw [if_neg (by rw [xt_0 (by omega)]; exact q)]
      simp -implicitDefEqProofs (disch := omega) only [gP_p, gP_t, bnd_s, bnd2_s, ltt_s, jn_s, n32_nat, n32_le, n32_lt, n32_eq, n32_add, n32_sub, n32_dec, n32_mul, n32_div, n32_irm, n32_lit, n32_oN, n32_ix, n32_m1, n32_m2, neg_le0, neg_lt0, neg_lt1, neg_le1, n32_min, n32_max, if_true, if_false, Nat.one_ne_zero, gd_some, true_or, or_true, false_or, or_false, s2.root, gd_bnd, bit_e]
      refine gd_mono (tell1_x s2) ?_
      rintro h3 ⟨t1, t2⟩
      exact ⟨eA.symm, TxX.fr (h := setI h1 1 1 (n32 0)) ⟨sI_eq, fun i hi => absurd hi (Nat.not_lt_zero i)⟩ t2 (by decide), Or.inr ⟨q, t1, (f2.mono (by decide)).tr (t2.mono (by decide))⟩⟩
theorem payM {h : HP} {t : Nat → Nat} {n x : Nat} {b c : Bool} (hx : x ≤ 9999) (s : SH b c h) (tm : TxM h t n) (tb : ∀ i, i < n → t i < 256) (hn : n ≤ 80) (R : LR) (hR : lnT t n (min n 80) 3 8 = R) (P : Nat) (hP : pF R.2.2.2 x R.2.2.1 (2 ^ R.2.2.1) 0 0 = P) :
    (¬ (R.1 = true ∧ n ≤ min n 80) → gd (f_X10_pays 1000 h 188 (n32 x)) (fun p => p.1 = -n32 1 - n32 (lnQ R (min n 80)) ∧ TxM p.2 t 0 ∧ fr [50, 21, 40, 44] h p.2)) ∧
    (R.1 = true ∧ n ≤ min n 80 → gd (f_X10_pays 1000 h 188 (n32 x)) (fun p => p.1 = pyA P ∧ TxM p.2 t 0 ∧ ((P = 0 ∧ fr [50, 21, 40, 44] h p.2) ∨ (P ≠ 0 ∧ RowM p.2 [(xt P).toInt64] ∧ fr [50, 21, 40, 44, 22] h p.2)))) := by
  obtain ⟨k1, k2, k3, k4⟩ := lnT_ok (t := t) (n := n) (E := min n 80) (m := 3) (cap := 8)
  rw [hR] at k1 k2 k3 k4
  have mn : min n 80 = n := by omega
  have m1 : f_X10_in (n32 x).toInt64 0 9999 = some (n32 1) := in_y (a := 0) (b := 9999) rfl rfl (by rw [n32_int (by omega)]; omega)
  obtain ⟨p1, p2⟩ := pow_b k3
  have hPl : P ≤ 256 := by rw [← hP]; have := pF_le (v := R.2.2.2) (x := x) (cnt := R.2.2.1) (2 ^ R.2.2.1) 0 0 (by omega); omega
  have f0 : fr [50] h (setI h 188 0 (n32 0)) := (fr.rf _ _).sI rfl
  have main : ∀ (Q : Int32 × HP → Prop), (∀ h' gg x', gg ≤ 1 → SH b c h' → RM h' t (min n 80) R.2.1 → (R.1 = true → x' = n32 R.2.2.1 ∧ PV h' R.2.2.1 R.2.2.2) → fr [50, 21, 40, 44] h h' → TxM h' t 0 → (R.1 = true ↔ gg = 1 ∧ R.2.1 = min n 80) → gd (if n32 gg = n32 0 then some ((-n32 1 - (h'.2.1 188 13)), h') else (if (h'.2.1 188 14) ≤ (h'.2.1 188 13) then lp (fun _ _ => none) (f_X10_pays_B150 1000 188 (n32 x) x' h' (fun (x101 : Int32) => (if n32 0 ≤ x101 then lt_ (setI h' 188 1 (n32 0)) (fun h103 => bnd (f_X10_enters h103 188 (x101.toInt64)) (fun h106 => bnd (f_J6_bitCount_0f7a4 x101) (fun v110 => some (v110, h106)))) else some (-n32 10000, h')))) 1000 (-n32 1) (n32 0) else some ((-n32 1 - (h'.2.1 188 13)), h'))) Q) → gd (f_X10_pays 1000 h 188 (n32 x)) Q := by
    intro Q K
    unfold f_X10_pays
    simp -implicitDefEqProofs (disch := omega) only [s.mod, gP_p, gP_t, bnd_s, bnd2_s, ltt_s, jn_s, n32_nat, n32_le, n32_lt, n32_eq, n32_add, n32_sub, n32_dec, n32_mul, n32_div, n32_irm, n32_lit, n32_oN, n32_ix, n32_m1, n32_m2, neg_le0, neg_lt0, neg_lt1, neg_le1, n32_min, n32_max, if_true, if_false, Nat.one_ne_zero, gd_some, true_or, or_true, false_or, or_false, gd_bnd2]
    refine gd_mono (begins_m (s.fr f0) (tm.fr f0 (by decide)) hn (show 80 ≤ 80 by omega)) ?_
    rintro ⟨u, h1⟩ ⟨e1, e2, e3, e4, -⟩
    have e1' : u = n32 n := e1
    subst e1'
    have e2' : RM h1 t (min n 80) 0 := e2
    have e3' : TxM h1 t 0 := e3
    have s1 := (s.fr f0).fr e4
    have f2 : fr [50, 21, 40, 44] h h1 := (f0.mono (by decide)).tr (e4.mono (by decide))
    have m1' : f_X10_in (n32 x).toInt64 0 9999 = some (n32 1) := m1
    have lq0 : ∀ k3 : Int32 → Int32 → HP → Option (Int32 × HP), lp (fun _ _ _ _ => none) (f_X10_pays_B44 1000 188 (n32 x) k3) 1000 (n32 0) (n32 1) (n32 0) h1 = k3 (n32 0) (n32 1) h1 := fun k3 => by
      rw [show (1000 : Nat) = 999 + 1 from rfl, lp_s, f_X10_pays_B44]
      exact if_pos rfl
    by_cases q : n ≤ 0
    · have n0 : n = 0 := by omega
      subst n0
      have hR' : R = (true, 0, 0, fun _ => 0) := hR.symm
      subst hR'
      have key := K h1 1 (n32 0) (by omega) s1 e2' (fun _ => ⟨rfl, fun j hj => absurd hj (Nat.not_lt_zero j)⟩) f2 e3' ⟨fun _ => ⟨rfl, (Nat.zero_min 80).symm⟩, fun _ => rfl⟩
      rw [m1', bnd_s]
      simp -implicitDefEqProofs (disch := omega) only [gP_p, gP_t, bnd_s, bnd2_s, ltt_s, jn_s, n32_nat, n32_le, n32_lt, n32_eq, n32_add, n32_sub, n32_dec, n32_mul, n32_div, n32_irm, n32_lit, n32_oN, n32_ix, n32_m1, n32_m2, neg_le0, neg_lt0, neg_lt1, neg_le1, n32_min, n32_max, if_true, if_false, Nat.one_ne_zero, gd_some, true_or, or_true, false_or, or_false, Nat.le_refl]
      rw [lq0]
      simp -implicitDefEqProofs (disch := omega) only [gP_p, gP_t, bnd_s, bnd2_s, ltt_s, jn_s, n32_nat, n32_le, n32_lt, n32_eq, n32_add, n32_sub, n32_dec, n32_mul, n32_div, n32_irm, n32_lit, n32_oN, n32_ix, n32_m1, n32_m2, neg_le0, neg_lt0, neg_lt1, neg_le1, n32_min, n32_max, if_true, if_false, Nat.one_ne_zero, gd_some, true_or, or_true, false_or, or_false] at key
      simp -implicitDefEqProofs (disch := omega) only [gP_p, gP_t, bnd_s, bnd2_s, ltt_s, jn_s, n32_nat, n32_le, n32_lt, n32_eq, n32_add, n32_sub, n32_dec, n32_mul, n32_div, n32_irm, n32_lit, n32_oN, n32_ix, n32_m1, n32_m2, neg_le0, neg_lt0, neg_lt1, neg_le1, n32_min, n32_max, if_true, if_false, Nat.one_ne_zero, gd_some, true_or, or_true, false_or, or_false]
      exact key
    · have hR' : lnR t (min n 80) 3 8 9 0 0 (fun _ => 0) = R := by
        rw [← hR]
        unfold lnT
        rw [if_neg (by omega)]
      have key := pay_m (N := 1000) (b := b) (c := c) (x1 := n32 x) (k := fun (x57 : Int32) (x58 : Int32) (h59 : HP) => (if x58 = n32 0 then some ((-n32 1 - (h59.2.1 188 13)), h59) else (if (h59.2.1 188 14) ≤ (h59.2.1 188 13) then lp (fun _ _ => none) (f_X10_pays_B150 1000 188 (n32 x) x57 h59 (fun (x101 : Int32) => (if n32 0 ≤ x101 then lt_ (setI h59 188 1 (n32 0)) (fun h103 => bnd (f_X10_enters h103 188 (x101.toInt64)) (fun h106 => bnd (f_J6_bitCount_0f7a4 x101) (fun v110 => some (v110, h106)))) else some (-n32 10000, h59)))) 1000 (-n32 1) (n32 0) else some ((-n32 1 - (h59.2.1 188 13)), h59)))) (Q := Q) (by omega) (show min n 80 ≤ 80 by omega) (fun i hi => tb i (by omega)) h1 R (fun h' gg x' hg s' r' m' f' e' => K h' gg x' hg s' r' m' (f2.tr (f'.mono (by decide))) (e3'.fr f' (by decide)) e') 9 0 0 1000 (fun _ => 0) h1 (n32 1) (by omega) (by omega) (by omega) (by omega) s1 e2' (fun j hj => absurd hj (Nat.not_lt_zero j)) (fr.rf _ _) hR'
      rw [m1', bnd_s]
      simp -implicitDefEqProofs (disch := omega) only [gP_p, gP_t, bnd_s, bnd2_s, ltt_s, jn_s, n32_nat, n32_le, n32_lt, n32_eq, n32_add, n32_sub, n32_dec, n32_mul, n32_div, n32_irm, n32_lit, n32_oN, n32_ix, n32_m1, n32_m2, neg_le0, neg_lt0, neg_lt1, neg_le1, n32_min, n32_max, if_true, if_false, Nat.one_ne_zero, gd_some, true_or, or_true, false_or, or_false, q]
      simp -implicitDefEqProofs (disch := omega) only [gP_p, gP_t, bnd_s, bnd2_s, ltt_s, jn_s, n32_nat, n32_le, n32_lt, n32_eq, n32_add, n32_sub, n32_dec, n32_mul, n32_div, n32_irm, n32_lit, n32_oN, n32_ix, n32_m1, n32_m2, neg_le0, neg_lt0, neg_lt1, neg_le1, n32_min, n32_max, if_true, if_false, Nat.one_ne_zero, gd_some, true_or, or_true, false_or, or_false] at key
      exact key
  refine ⟨fun bad => main _ (fun h' gg x' hg s' r' m' f' t' e' => ?_), fun ok => main _ (fun h' gg x' hg s' r' m' f' t' e' => ?_)⟩
  · have bad' : ¬ R.1 = true := fun z => bad ⟨z, by omega⟩
    have lq : lnQ R (min n 80) = R.2.1 := if_neg bad'
    obtain ⟨r1, r2, r3⟩ := r'
    rw [lq]
    by_cases g0 : gg = 0
    · subst g0
      rw [if_pos rfl, r1]
      exact gd_some.mpr ⟨rfl, t', f'⟩
    · have g1 : gg = 1 := by omega
      subst g1
      have ne : ¬ R.2.1 = min n 80 := fun z => bad' (e'.mpr ⟨rfl, z⟩)
      have ne2 : ¬ min n 80 ≤ R.2.1 := by omega
      simp -implicitDefEqProofs (disch := omega) only [gP_p, gP_t, bnd_s, bnd2_s, ltt_s, jn_s, n32_nat, n32_le, n32_lt, n32_eq, n32_add, n32_sub, n32_dec, n32_mul, n32_div, n32_irm, n32_lit, n32_oN, n32_ix, n32_m1, n32_m2, neg_le0, neg_lt0, neg_lt1, neg_le1, n32_min, n32_max, if_true, if_false, Nat.one_ne_zero, gd_some, true_or, or_true, false_or, or_false, r1, r2, ne2]
      exact ⟨trivial, t', f'⟩
  · obtain ⟨g1, g2⟩ := e'.mp ok.1
    subst g1
    obtain ⟨x2, pv⟩ := m' ok.1
    subst x2
    obtain ⟨r1, r2, r3⟩ := r'
    have key := srch_m (N := 1000) (x := x) (k := fun (x101 : Int32) => (if n32 0 ≤ x101 then lt_ (setI h' 188 1 (n32 0)) (fun h103 => bnd (f_X10_enters h103 188 (x101.toInt64)) (fun h106 => bnd (f_J6_bitCount_0f7a4 x101) (fun v110 => some (v110, h106)))) else some (-n32 10000, h'))) (by omega) hx (fun j hj => (k1 j hj).2) s' pv k3 (2 ^ R.2.2.1) 0 1000 0 (by omega) (by omega) (by omega)
    rw [hP] at key
    have e0 : xt 0 = -n32 1 := rfl
    rw [e0] at key
    simp -implicitDefEqProofs (disch := omega) only [gP_p, gP_t, bnd_s, bnd2_s, n32_nat, n32_le, n32_lt, n32_eq, n32_add, n32_sub, n32_dec, n32_mul, n32_div, n32_irm, n32_lit, n32_oN, n32_ix, n32_m1, n32_m2, neg_le0, neg_lt0, neg_lt1, neg_le1, n32_min, n32_max, if_true, if_false, Nat.one_ne_zero, true_or, or_true, false_or, or_false, r1, r2, g2, Nat.le_refl]
    rw [key]
    by_cases q : P = 0
    · have eA : pyA P = -n32 10000 := if_pos q
      rw [if_neg (by rw [xt_ge0 (by omega)]; omega)]
      exact gd_some.mpr ⟨eA.symm, t', Or.inl ⟨q, f'⟩⟩
    · have eA : pyA P = bcv (xt P) := if_neg q
      rw [if_pos (by rw [xt_ge0 (by omega)]; omega), ltt_s, gd_bnd]
      obtain ⟨m0, m2⟩ := rowM_0 (h := h')
      refine gd_mono (ent_m (s'.fr m2) m0 (by decide)) ?_
      rintro h3 ⟨t1, t2⟩
      rw [bit_e, bnd_s]
      exact gd_some.mpr ⟨eA.symm, (t'.fr m2 (by decide)).fr t2 (by decide), Or.inr ⟨q, t1, (f'.mono (by decide)).tr ((m2.tr t2).mono (by decide))⟩⟩
theorem op_pays {k : Nat} (hk : k < 512) : ∀ (h : HP) (a1 : Int32), Inv k h → ∃ (v : Int32) (h1 h2 : HP), f_X9_pays 1000 h 0 a1 = some (v, h1) ∧ f_X10_pays 1000 h1 188 a1 = some (v, h2) ∧ Inv (k + 1) h2 := by
  intro h x1 I
  obtain ⟨b, c, sz, iv⟩ := I
  obtain ⟨a0, a1, a2, a3, a4, a5, a6, a7, a8, a9, a10⟩ := id iv
  obtain ⟨t, n, hn, tb, tx, tm⟩ := a2
  by_cases q0 : 0 ≤ x1.toInt ∧ x1.toInt ≤ 9999
  · obtain ⟨x, -, hx, rfl⟩ := n32_of2 (lo := 0) (hi := 9999) q0.1 q0.2
    obtain ⟨R, hR⟩ : ∃ R, lnT t n (min n 80) 3 8 = R := ⟨_, rfl⟩
    obtain ⟨P, hP⟩ : ∃ P, pF R.2.2.2 x R.2.2.1 (2 ^ R.2.2.1) 0 0 = P := ⟨_, rfl⟩
    obtain ⟨X1, X2⟩ := payX hx a0 tx tb hn R hR P hP
    by_cases q : R.1 = true ∧ n ≤ min n 80
    · obtain ⟨⟨v, h1⟩, x1, x2, x3, x4⟩ := X2 q
      have x4' : (P = 0 ∧ fr [10, 1] h h1) ∨ (P ≠ 0 ∧ RowX h1 [(xt P).toInt64] ∧ fr [10, 1, 2] h h1) := x4
      have fX : fr [10, 1, 2] h h1 := by
        rcases x4' with ⟨-, e⟩ | ⟨-, -, e⟩
        · exact e.mono (by decide)
        · exact e
      obtain ⟨-, M2⟩ := payM hx (a0.fr fX) (tm.fr fX (by decide)) tb hn R hR P hP
      obtain ⟨⟨v2, h2⟩, y1, y2, y3, y4⟩ := M2 q
      have y4' : (P = 0 ∧ fr [50, 21, 40, 44] h1 h2) ∨ (P ≠ 0 ∧ RowM h2 [(xt P).toInt64] ∧ fr [50, 21, 40, 44, 22] h1 h2) := y4
      have fM : fr [50, 21, 40, 44, 22] h1 h2 := by
        rcases y4' with ⟨-, e⟩ | ⟨-, -, e⟩
        · exact e.mono (by decide)
        · exact e
      have ev : v = v2 := x2.trans y2.symm
      subst ev
      have fA : fr [10, 1, 2, 50, 21, 40, 44, 22] h h2 := (fX.mono (by decide)).tr (fM.mono (by decide))
      have ro : Row h2 := by
        rcases x4' with ⟨e, e2⟩ | ⟨e, e2, e3⟩
        · rcases y4' with ⟨g, g2⟩ | ⟨g, g2, g3⟩
          · exact (a3.fr e2 (by decide)).fr g2 (by decide)
          · exact absurd e g
        · rcases y4' with ⟨g, g2⟩ | ⟨g, g2, g3⟩
          · exact absurd g e
          · exact ⟨_, e2.fr g3 (by decide), g2⟩
      exact ⟨v, h1, h2, x1, y1, Iv.up (iv.tx (fA.mono (by decide)) ro ⟨t, 0, by omega, fun i hi => absurd hi (Nat.not_lt_zero i), TxX.fr x3 fM (by decide), y3⟩)⟩
    · obtain ⟨⟨v, h1⟩, x1, x2, x3, x4⟩ := X1 q
      have x4' : fr [10, 1] h h1 := x4
      obtain ⟨M1, -⟩ := payM hx (a0.fr x4') (tm.fr x4' (by decide)) tb hn R hR P hP
      obtain ⟨⟨v2, h2⟩, y1, y2, y3, y4⟩ := M1 q
      have ev : v = v2 := x2.trans y2.symm
      subst ev
      have fA : fr [10, 1, 50, 21, 40, 44] h h2 := (x4'.mono (by decide)).tr (y4.mono (by decide))
      exact ⟨v, h1, h2, x1, y1, Iv.up (iv.tx (fA.mono (by decide)) (a3.fr fA (by decide)) ⟨t, 0, by omega, fun i hi => absurd hi (Nat.not_lt_zero i), TxX.fr x3 y4 (by decide), y3⟩)⟩
  · have w1 : f_X9_within x1 (n32 0) (n32 9999) = some (n32 0) := within_n q0
    have m1 : f_X10_in x1.toInt64 0 9999 = some (n32 0) := in_n (a := 0) (b := 9999) rfl rfl q0
    have f1 : fr [1] h (setI h 1 1 (n32 0)) := (fr.rf _ _).sI rfl
    have s1 := a0.fr f1
    have X : f_X9_pays 1000 h 0 x1 = some (-n32 20000, setI h 1 1 (n32 0)) := by
      unfold f_X9_pays
      rw [gP_p (by simp only [a0.root])]
      simp -implicitDefEqProofs (disch := omega) only [gP_p, gP_t, bnd_s, bnd2_s, ltt_s, jn_s, n32_nat, n32_le, n32_lt, n32_eq, n32_add, n32_sub, n32_dec, n32_mul, n32_div, n32_irm, n32_lit, n32_oN, n32_ix, n32_m1, n32_m2, neg_le0, neg_lt0, neg_lt1, neg_le1, n32_min, n32_max, if_true, if_false, Nat.one_ne_zero, gd_some, true_or, or_true, false_or, or_false, w1, a0.root, clr_x a0]
    have f2 : fr [50] (setI h 1 1 (n32 0)) (setI (setI h 1 1 (n32 0)) 188 0 (n32 0)) := (fr.rf _ _).sI rfl
    have M : gd (f_X10_pays 1000 (setI h 1 1 (n32 0)) 188 x1) (fun p => p.1 = -n32 20000 ∧ TxM p.2 t 0 ∧ fr [50, 21, 40] (setI h 1 1 (n32 0)) p.2) := by
      unfold f_X10_pays
      simp -implicitDefEqProofs (disch := omega) only [s1.mod, gP_p, gP_t, bnd_s, bnd2_s, ltt_s, jn_s, n32_nat, n32_le, n32_lt, n32_eq, n32_add, n32_sub, n32_dec, n32_mul, n32_div, n32_irm, n32_lit, n32_oN, n32_ix, n32_m1, n32_m2, neg_le0, neg_lt0, neg_lt1, neg_le1, n32_min, n32_max, if_true, if_false, Nat.one_ne_zero, gd_some, true_or, or_true, false_or, or_false, gd_bnd2]
      refine gd_mono (begins_m (s1.fr f2) ((tm.fr f1 (by decide)).fr f2 (by decide)) hn (show 80 ≤ 80 by omega)) ?_
      rintro ⟨u, h1⟩ ⟨e1, e2, e3, e4, -⟩
      have m1' : f_X10_in x1.toInt64 0 9999 = some (n32 0) := m1
      rw [m1', bnd_s]
      simp -implicitDefEqProofs (disch := omega) only [gP_p, gP_t, bnd_s, bnd2_s, ltt_s, jn_s, n32_nat, n32_le, n32_lt, n32_eq, n32_add, n32_sub, n32_dec, n32_mul, n32_div, n32_irm, n32_lit, n32_oN, n32_ix, n32_m1, n32_m2, neg_le0, neg_lt0, neg_lt1, neg_le1, n32_min, n32_max, if_true, if_false, Nat.one_ne_zero, gd_some, true_or, or_true, false_or, or_false]
      exact ⟨trivial, e3, (f2.mono (by decide)).tr (e4.mono (by decide))⟩
    obtain ⟨⟨v2, h2⟩, y1, y2, y3, y4⟩ := M
    have y2' : v2 = -n32 20000 := y2
    subst y2'
    have fA : fr [1, 50, 21, 40] h h2 := (f1.mono (by decide)).tr (y4.mono (by decide))
    exact ⟨_, _, h2, X, y1, Iv.up (iv.tx (fA.mono (by decide)) (a3.fr fA (by decide)) ⟨t, 0, by omega, fun i hi => absurd hi (Nat.not_lt_zero i), TxX.fr (h := setI h 1 1 (n32 0)) ⟨sI_eq, fun i hi => absurd hi (Nat.not_lt_zero i)⟩ y4 (by decide), y3⟩)⟩
