/-! ===== numbers with ; between ===== -/
abbrev LR : Type := Bool × Nat × Nat × (Nat → Nat)
def lnR (t : Nat → Nat) (E m cap : Nat) : Nat → Nat → Nat → (Nat → Nat) → LR
  | 0, i, p, v => (false, p, i, v)
  | d + 1, i, p, v => if cap ≤ i then (false, p, i, v) else if dgN t E m p = 0 then (false, p, i, v) else
    if nm t (dgN t E m p) p 0 = 0 then (false, p + dgN t E m p - 1, i, v) else
    if p + dgN t E m p = E then (true, E, i + 1, up v i (nm t (dgN t E m p) p 0)) else
    if t (p + dgN t E m p) = 59 then lnR t E m cap d (i + 1) (p + dgN t E m p + 1) (up v i (nm t (dgN t E m p) p 0)) else (false, p + dgN t E m p, i + 1, up v i (nm t (dgN t E m p) p 0))
def lnT (t : Nat → Nat) (n E m cap : Nat) : LR := if n = 0 then (true, 0, 0, fun _ => 0) else lnR t E m cap (cap + 1) 0 0 (fun _ => 0)
def lnC (r : LR) (n E : Nat) : Int32 := if r.1 = true then (if n ≤ E then -n32 1 else n32 E) else n32 r.2.1
def vOK (m : Nat) (v : Nat → Nat) (i : Nat) : Prop := ∀ j, j < i → 1 ≤ v j ∧ v j < 10 ^ m
theorem up_ok {m i x : Nat} {v : Nat → Nat} (h : vOK m v i) (h1 : 1 ≤ x) (h2 : x < 10 ^ m) : vOK m (up v i x) (i + 1) := fun j hj => by
  by_cases q : j = i
  · subst q; rw [up_eq]; exact ⟨h1, h2⟩
  · rw [up_ne q]; exact h j (by omega)
theorem nm_m {t : Nat → Nat} {E m p : Nat} : nm t (dgN t E m p) p 0 < 10 ^ m := by
  have h1 := nm_b (t := t) (dgN t E m p) p 0 1 (fun i hi => (dgN_d m p i hi).2) (by omega)
  have h2 : 10 ^ dgN t E m p ≤ 10 ^ m := Nat.pow_le_pow_right (by omega) (dgN_le m p)
  omega
theorem lnR_ok {t : Nat → Nat} {E m cap : Nat} : ∀ d i p v, vOK m v i → p ≤ E → i ≤ cap → vOK m (lnR t E m cap d i p v).2.2.2 (lnR t E m cap d i p v).2.2.1 ∧ (lnR t E m cap d i p v).2.1 ≤ E ∧ (lnR t E m cap d i p v).2.2.1 ≤ cap ∧ ((lnR t E m cap d i p v).1 = true → 1 ≤ (lnR t E m cap d i p v).2.2.1 ∧ (lnR t E m cap d i p v).2.1 = E) := by
  intro d
  induction d with
  | zero => intro i p v hv hp hi; exact ⟨hv, hp, hi, fun z => absurd z Bool.false_ne_true⟩
  | succ d ih =>
    intro i p v hv hp hi
    have b1 := dgN_E (t := t) m p hp
    have b2 := nm_m (t := t) (E := E) (m := m) (p := p)
    unfold lnR
    by_cases q1 : cap ≤ i
    · rw [if_pos q1]; exact ⟨hv, hp, hi, fun z => absurd z Bool.false_ne_true⟩
    · rw [if_neg q1]
      by_cases q2 : dgN t E m p = 0
      · rw [if_pos q2]; exact ⟨hv, hp, hi, fun z => absurd z Bool.false_ne_true⟩
      · rw [if_neg q2]
        by_cases q3 : nm t (dgN t E m p) p 0 = 0
        · rw [if_pos q3]; exact ⟨hv, by show p + dgN t E m p - 1 ≤ E; omega, hi, fun z => absurd z Bool.false_ne_true⟩
        · rw [if_neg q3]
          have u := up_ok hv (Nat.pos_of_ne_zero q3) b2
          by_cases q4 : p + dgN t E m p = E
          · rw [if_pos q4]; exact ⟨u, Nat.le_refl _, by show i + 1 ≤ cap; omega, fun _ => ⟨by show 1 ≤ i + 1; omega, rfl⟩⟩
          · rw [if_neg q4]
            by_cases q5 : t (p + dgN t E m p) = 59
            · rw [if_pos q5]; exact ih _ _ _ u (by omega) (by omega)
            · rw [if_neg q5]; exact ⟨u, by show p + dgN t E m p ≤ E; omega, by show i + 1 ≤ cap; omega, fun z => absurd z Bool.false_ne_true⟩
theorem lnT_ok {t : Nat → Nat} {n E m cap : Nat} : vOK m (lnT t n E m cap).2.2.2 (lnT t n E m cap).2.2.1 ∧ (lnT t n E m cap).2.1 ≤ E ∧ (lnT t n E m cap).2.2.1 ≤ cap ∧ ((lnT t n E m cap).1 = true → n ≠ 0 → 1 ≤ (lnT t n E m cap).2.2.1 ∧ (lnT t n E m cap).2.1 = E) := by
  unfold lnT
  by_cases q : n = 0
  · rw [if_pos q]; exact ⟨fun j hj => absurd hj (Nat.not_lt_zero j), Nat.zero_le _, Nat.zero_le _, fun _ z => absurd q z⟩
  · rw [if_neg q]
    obtain ⟨h1, h2, h3, h4⟩ := lnR_ok (t := t) (E := E) (m := m) (cap := cap) (cap + 1) 0 0 (fun _ => 0) (fun j hj => absurd hj (Nat.not_lt_zero j)) (Nat.zero_le _) (Nat.zero_le _)
    exact ⟨h1, h2, h3, fun z _ => h4 z⟩
/-! the program's -/
def LV (h : HP) (i : Nat) (v : Nat → Nat) : Prop := h.2.1 163 1 = n32 i ∧ ∀ j, j < i → h.2.1 164 j = n32 (v j)
theorem lnR_x {t : Nat → Nat} {N n E m cap : Nat} {b c : Bool} {k : HP → Option (Int32 × HP)} (hN : 10 < N) (tb : ∀ i, i < n → t i < 256) (hn : n ≤ 80) (hE : E ≤ n) (hm : m ≤ 3) (hm1 : 1 ≤ m) (hcap : cap ≤ 8) (h0 : HP) (r : LR) (K : ∀ h', SH b c h' → TxX h' t n → k h' = some (if n ≤ E then -n32 1 else n32 E, h')) : ∀ (d i p fuel : Nat) (v : Nat → Nat) (h : HP), i + d = cap + 1 → d < fuel → i ≤ cap → p ≤ E → SH b c h → TxX h t n → LV h i v → fr [10] h0 h → lnR t E m cap d i p v = r → gd (lp (fun _ _ _ => none) (f_X3_read_B30 N 163 1 (n32 cap) (n32 m) (n32 E) k) fuel (n32 p) (n32 i) h) (fun q => q.1 = lnC r n E ∧ (r.1 = true → LV q.2 r.2.2.1 r.2.2.2) ∧ fr [10] h0 q.2) := by
  intro d
  induction d with
  | zero => intro i p fuel v h hi hf hic; omega
  | succ d ih =>
    intro i p fuel v h hi hf hic hp s tx lv f hr
    obtain ⟨k', rfl⟩ : ∃ k, fuel = k + 1 := ⟨fuel - 1, by omega⟩
    have b1 := dgN_E (t := t) m p hp
    have b2 := nm_m (t := t) (E := E) (m := m) (p := p)
    have b3 := dgN_le (t := t) (E := E) m p
    have p3 : 10 ^ m ≤ 10 ^ 3 := Nat.pow_le_pow_right (by omega) hm
    have p4 : 10 ^ 3 = 1000 := rfl
    have dx := dig_x (N := N) (t := t) (m := m) hN s tx tb hn (show p ≤ 100 by omega) (by omega) hE
    have nx := num_x (N := N) (t := t) (p := p) (k := dgN t E m p) hN s tx hn (by omega) (fun i hi => (dgN_d m p i hi).2) (by omega)
    rw [lp_s, f_X3_read_B30]
    unfold lnR at hr
    by_cases q1 : cap ≤ i
    · rw [if_pos q1] at hr
      subst hr
      simp -implicitDefEqProofs (disch := omega) only [gP_p, gP_t, bnd_s, bnd2_s, ltt_s, jn_s, n32_nat, n32_le, n32_lt, n32_eq, n32_add, n32_sub, n32_dec, n32_mul, n32_div, n32_irm, n32_lit, n32_oN, n32_ix, n32_m1, n32_m2, neg_le0, neg_lt0, neg_lt1, neg_le1, n32_min, n32_max, if_true, if_false, Nat.one_ne_zero, gd_some, true_or, or_true, false_or, or_false, q1]
      exact ⟨rfl, fun z => absurd z Bool.false_ne_true, f⟩
    · rw [if_neg q1] at hr
      have q8 : ¬ 8 ≤ i := by omega
      by_cases q2 : dgN t E m p = 0
      · rw [if_pos q2] at hr
        subst hr
        rw [q2] at dx
        simp -implicitDefEqProofs (disch := omega) only [gP_p, gP_t, bnd_s, bnd2_s, ltt_s, jn_s, n32_nat, n32_le, n32_lt, n32_eq, n32_add, n32_sub, n32_dec, n32_mul, n32_div, n32_irm, n32_lit, n32_oN, n32_ix, n32_m1, n32_m2, neg_le0, neg_lt0, neg_lt1, neg_le1, n32_min, n32_max, if_true, if_false, Nat.one_ne_zero, gd_some, true_or, or_true, false_or, or_false, q1, q8, s.root, dx]
        exact ⟨rfl, fun z => absurd z Bool.false_ne_true, f⟩
      · rw [if_neg q2] at hr
        have f1 : fr [10] h (setI (setI h 164 i (n32 (nm t (dgN t E m p) p 0))) 163 1 (n32 (i + 1))) := ((fr.rf _ _).sI rfl).sI rfl
        have s1 := s.fr f1
        have t1 := tx.fr f1 (by decide)
        have lv1 : LV (setI (setI h 164 i (n32 (nm t (dgN t E m p) p 0))) 163 1 (n32 (i + 1))) (i + 1) (up v i (nm t (dgN t E m p) p 0)) := ⟨sI_eq, fun j hj => by
          by_cases e : j = i
          · subst e
            rw [sI_ne (by omega), sI_eq, up_eq]
          · rw [sI_ne (by omega), sI_ne (by omega), up_ne e]
            exact lv.2 j (by omega)⟩
        by_cases q3 : nm t (dgN t E m p) p 0 = 0
        · rw [if_pos q3] at hr
          subst hr
          rw [q3] at f1 nx
          simp -implicitDefEqProofs (disch := omega) only [gP_p, gP_t, bnd_s, bnd2_s, ltt_s, jn_s, n32_nat, n32_le, n32_lt, n32_eq, n32_add, n32_sub, n32_dec, n32_mul, n32_div, n32_irm, n32_lit, n32_oN, n32_ix, n32_m1, n32_m2, neg_le0, neg_lt0, neg_lt1, neg_le1, n32_min, n32_max, if_true, if_false, Nat.one_ne_zero, gd_some, true_or, or_true, false_or, or_false, q1, q8, s.root, dx, q2, nx, sI_eq, sI_ne, sI_J, sI_R, sI_kO, sI_rK, sI_len, sJ_eq, sJ_ne, sJ_I, sJ_kO, sJ_rK, sJ_len]
          exact ⟨rfl, fun z => absurd z Bool.false_ne_true, f.tr f1⟩
        · rw [if_neg q3] at hr
          by_cases q4 : p + dgN t E m p = E
          · rw [if_pos q4] at hr
            subst hr
            simp -implicitDefEqProofs (disch := omega) only [gP_p, gP_t, bnd_s, bnd2_s, ltt_s, jn_s, n32_nat, n32_le, n32_lt, n32_eq, n32_add, n32_sub, n32_dec, n32_mul, n32_div, n32_irm, n32_lit, n32_oN, n32_ix, n32_m1, n32_m2, neg_le0, neg_lt0, neg_lt1, neg_le1, n32_min, n32_max, if_true, if_false, Nat.one_ne_zero, gd_some, true_or, or_true, false_or, or_false, q1, q8, s.root, dx, q2, nx, sI_eq, sI_ne, sI_J, sI_R, sI_kO, sI_rK, sI_len, sJ_eq, sJ_ne, sJ_I, sJ_kO, sJ_rK, sJ_len, q3, q4]
            rw [K _ s1 t1]
            exact gd_some.mpr ⟨rfl, fun _ => lv1, f.tr f1⟩
          · rw [if_neg q4] at hr
            have a1 := at_x (p := p + dgN t E m p) s1 t1 hn (by omega) hE
            rw [if_pos (by omega)] at a1
            have tl := tb (p + dgN t E m p) (by omega)
            by_cases q5 : t (p + dgN t E m p) = 59
            · rw [if_pos q5] at hr
              rw [q5] at a1
              simp -implicitDefEqProofs (disch := omega) only [gP_p, gP_t, bnd_s, bnd2_s, ltt_s, jn_s, n32_nat, n32_le, n32_lt, n32_eq, n32_add, n32_sub, n32_dec, n32_mul, n32_div, n32_irm, n32_lit, n32_oN, n32_ix, n32_m1, n32_m2, neg_le0, neg_lt0, neg_lt1, neg_le1, n32_min, n32_max, if_true, if_false, Nat.one_ne_zero, gd_some, true_or, or_true, false_or, or_false, q1, q8, s.root, dx, q2, nx, sI_eq, sI_ne, sI_J, sI_R, sI_kO, sI_rK, sI_len, sJ_eq, sJ_ne, sJ_I, sJ_kO, sJ_rK, sJ_len, q3, q4, a1]
              exact ih (i + 1) _ k' _ _ (by omega) (by omega) (by omega) (by omega) s1 t1 lv1 (f.tr f1) hr
            · rw [if_neg q5] at hr
              subst hr
              simp -implicitDefEqProofs (disch := omega) only [gP_p, gP_t, bnd_s, bnd2_s, ltt_s, jn_s, n32_nat, n32_le, n32_lt, n32_eq, n32_add, n32_sub, n32_dec, n32_mul, n32_div, n32_irm, n32_lit, n32_oN, n32_ix, n32_m1, n32_m2, neg_le0, neg_lt0, neg_lt1, neg_le1, n32_min, n32_max, if_true, if_false, Nat.one_ne_zero, gd_some, true_or, or_true, false_or, or_false, q1, q8, s.root, dx, q2, nx, sI_eq, sI_ne, sI_J, sI_R, sI_kO, sI_rK, sI_len, sJ_eq, sJ_ne, sJ_I, sJ_kO, sJ_rK, sJ_len, q3, q4, a1, q5]
              exact ⟨rfl, fun z => absurd z Bool.false_ne_true, f.tr f1⟩
theorem read_x {t : Nat → Nat} {N n M m cap : Nat} {b c : Bool} {h : HP} (hN : 10 < N) (s : SH b c h) (tx : TxX h t n) (tb : ∀ i, i < n → t i < 256) (hn : n ≤ 80) (hM : M ≤ 80) (hm : m ≤ 3) (hm1 : 1 ≤ m) (hcap : cap ≤ 8) : gd (f_X3_read N h 163 1 (n32 M) (n32 cap) (n32 m)) (fun q => q.1 = lnC (lnT t n (min n M) m cap) n (min n M) ∧ ((lnT t n (min n M) m cap).1 = true → LV q.2 (lnT t n (min n M) m cap).2.2.1 (lnT t n (min n M) m cap).2.2.2) ∧ fr [10] h q.2) := by
  have f1 : fr [10] h (setI h 163 1 (n32 0)) := (fr.rf _ _).sI rfl
  have s1 := s.fr f1
  have t1 := tx.fr f1 (by decide)
  have tx1 := t1.1
  unfold f_X3_read lnT
  by_cases q : n = 0
  · subst q
    rw [if_pos rfl]
    simp -implicitDefEqProofs (disch := omega) only [s.root, gP_p, gP_t, bnd_s, bnd2_s, ltt_s, jn_s, n32_nat, n32_le, n32_lt, n32_eq, n32_add, n32_sub, n32_dec, n32_mul, n32_div, n32_irm, n32_lit, n32_oN, n32_ix, n32_m1, n32_m2, neg_le0, neg_lt0, neg_lt1, neg_le1, n32_min, n32_max, if_true, if_false, Nat.one_ne_zero, gd_some, true_or, or_true, false_or, or_false, tx1]
    exact ⟨by unfold lnC; rw [if_pos rfl, if_pos (Nat.zero_le _)], fun _ => ⟨sI_eq, fun j hj => absurd hj (Nat.not_lt_zero j)⟩, f1⟩
  · rw [if_neg q]
    have key := lnR_x (t := t) (N := N) (n := n) (E := min n M) (m := m) (cap := cap) (b := b) (c := c) (k := fun (h52 : HP) => (if (h52.2.1 1 1) ≤ n32 (min n M) then some (-n32 1, h52) else some (n32 (min n M), h52))) hN tb hn (by omega) hm hm1 hcap h _ (fun h' s' t' => by
      have t2 := t'.1
      by_cases q2 : n ≤ min n M
      · rw [if_pos q2]
        simp -implicitDefEqProofs (disch := omega) only [gP_p, gP_t, bnd_s, bnd2_s, ltt_s, jn_s, n32_nat, n32_le, n32_lt, n32_eq, n32_add, n32_sub, n32_dec, n32_mul, n32_div, n32_irm, n32_lit, n32_oN, n32_ix, n32_m1, n32_m2, neg_le0, neg_lt0, neg_lt1, neg_le1, n32_min, n32_max, if_true, if_false, Nat.one_ne_zero, gd_some, true_or, or_true, false_or, or_false, t2, q2]
      · rw [if_neg q2]
        simp -implicitDefEqProofs (disch := omega) only [gP_p, gP_t, bnd_s, bnd2_s, ltt_s, jn_s, n32_nat, n32_le, n32_lt, n32_eq, n32_add, n32_sub, n32_dec, n32_mul, n32_div, n32_irm, n32_lit, n32_oN, n32_ix, n32_m1, n32_m2, neg_le0, neg_lt0, neg_lt1, neg_le1, n32_min, n32_max, if_true, if_false, Nat.one_ne_zero, gd_some, true_or, or_true, false_or, or_false, t2, q2]) (cap + 1) 0 0 N (fun _ => 0) (setI h 163 1 (n32 0)) (by omega) (by omega) (by omega) (by omega) s1 t1 ⟨sI_eq, fun j hj => absurd hj (Nat.not_lt_zero j)⟩ f1 rfl
    simp -implicitDefEqProofs (disch := omega) only [s.root, gP_p, gP_t, bnd_s, bnd2_s, ltt_s, jn_s, n32_nat, n32_le, n32_lt, n32_eq, n32_add, n32_sub, n32_dec, n32_mul, n32_div, n32_irm, n32_lit, n32_oN, n32_ix, n32_m1, n32_m2, neg_le0, neg_lt0, neg_lt1, neg_le1, n32_min, n32_max, if_true, if_false, Nat.one_ne_zero, gd_some, true_or, or_true, false_or, or_false, tx1, q]
    exact key
/-! the reference's -/
def naV (t : Nat → Nat) (g p : Nat) : Int32 := if g = 0 ∨ nm t g p 0 = 0 then -n32 1 else n32 (nm t g p 0)
def naP (t : Nat → Nat) (g p : Nat) : Nat := if g = 0 then p else if nm t g p 0 = 0 then p + g - 1 else p + g
theorem nab_m {t : Nat → Nat} {N E m p : Nat} {b c : Bool} {h : HP} (hN : 10 < N) (hE : E ≤ 80) (hm : m ≤ 3) (hm1 : 1 ≤ m) (tb : ∀ i, i < E → t i < 256) (hp : p ≤ E) (s : SH b c h) (r : RM h t E p) : gd (f_X10_numberAbove N h 188 (n32 m)) (fun q => q.1 = naV t (dgN t E m p) p ∧ RM q.2 t E (naP t (dgN t E m p) p) ∧ (∀ a j, ¬ (a = 188 ∧ j = 13) → q.2.2.1 a j = h.2.1 a j) ∧ fr [40] h q.2) := by
  have b2 := nm_m (t := t) (E := E) (m := m) (p := p)
  have b3 := dgN_le (t := t) (E := E) m p
  have p3 : 10 ^ m ≤ 10 ^ 3 := Nat.pow_le_pow_right (by omega) hm
  have p4 : 10 ^ 3 = 1000 := rfl
  have b1 := dgN_E (t := t) m p hp
  unfold f_X10_numberAbove
  rw [gP_p (by simp only [s.mod])]
  simp -implicitDefEqProofs (disch := omega) only [gd_bnd2]
  refine gd_mono (nbr_m (N := N) hN hE (by omega) hm1 tb hp s r) ?_
  rintro ⟨u, h1⟩ ⟨e1, e2, e3, e4⟩
  have e1' : u = nbV t (dgN t E m p) p := e1
  subst e1'
  have r1 : h1.2.1 188 13 = n32 (p + dgN t E m p) := e2.1
  unfold nbV naV naP f_X10_flag
  by_cases q1 : dgN t E m p = 0
  · rw [if_pos q1, if_pos (Or.inl q1), if_pos q1]
    rw [q1] at r1 e2
    simp -implicitDefEqProofs (disch := omega) only [gP_p, gP_t, bnd_s, bnd2_s, ltt_s, jn_s, n32_nat, n32_le, n32_lt, n32_eq, n32_add, n32_sub, n32_dec, n32_mul, n32_div, n32_irm, n32_lit, n32_oN, n32_ix, n32_m1, n32_m2, neg_le0, neg_lt0, neg_lt1, neg_le1, n32_min, n32_max, if_true, if_false, Nat.one_ne_zero, gd_some, true_or, or_true, false_or, or_false, r1, Nat.add_zero]
    exact ⟨trivial, e2.pos, fun a j hj => by rw [sI_ne hj]; exact e3 a j hj, e4.sI rfl⟩
  · rw [if_neg q1, if_neg q1]
    by_cases q2 : nm t (dgN t E m p) p 0 = 0
    · rw [if_pos (Or.inr q2), if_pos q2, q2]
      simp -implicitDefEqProofs (disch := omega) only [gP_p, gP_t, bnd_s, bnd2_s, ltt_s, jn_s, n32_nat, n32_le, n32_lt, n32_eq, n32_add, n32_sub, n32_dec, n32_mul, n32_div, n32_irm, n32_lit, n32_oN, n32_ix, n32_m1, n32_m2, neg_le0, neg_lt0, neg_lt1, neg_le1, n32_min, n32_max, if_true, if_false, Nat.one_ne_zero, gd_some, true_or, or_true, false_or, or_false, r1]
      exact ⟨trivial, e2.pos, fun a j hj => by rw [sI_ne hj]; exact e3 a j hj, e4.sI rfl⟩
    · rw [if_neg (fun z => z.elim q1 q2), if_neg q2]
      simp -implicitDefEqProofs (disch := omega) only [gP_p, gP_t, bnd_s, bnd2_s, ltt_s, jn_s, n32_nat, n32_le, n32_lt, n32_eq, n32_add, n32_sub, n32_dec, n32_mul, n32_div, n32_irm, n32_lit, n32_oN, n32_ix, n32_m1, n32_m2, neg_le0, neg_lt0, neg_lt1, neg_le1, n32_min, n32_max, if_true, if_false, Nat.one_ne_zero, gd_some, true_or, or_true, false_or, or_false, r1, q2]
      exact ⟨trivial, e2.pos, fun a j hj => by rw [sI_ne hj]; exact e3 a j hj, e4.sI rfl⟩
