/-! ===== ships: both sides ===== -/
theorem sh_m {t : Nat → Nat} {N E : Nat} {b c : Bool} {k : Int32 → HP → Option (Int32 × HP)} {x1 : Int32} {Q : Int32 × HP → Prop} (hN : 10 < N) (hE : E ≤ 80) (tb : ∀ i, i < E → t i < 256) (h0 : HP) (r : SR) (K1 : ∀ h' g, g ≤ 1 → SH b c h' → RM h' t E r.2.1 → (r.1 = true → LD h' r.2.2.1 r.2.2.2.1 r.2.2.2.2) → fr [40] h0 h' → (r.1 = true ↔ g = 1 ∧ r.2.1 = E) → gd (k (n32 g) h') Q) : ∀ (d i p fuel : Nat) (K S : Nat → Nat) (h : HP), i + d = 9 → d + 1 < fuel → i ≤ 8 → p ≤ E → SH b c h → RM h t E p → LD h i K S → fr [40] h0 h → shR t E d i p K S = r → gd (lp (fun _ _ => none) (f_X10_ships_B19 N 188 x1 k) fuel (n32 1) h) Q := by
  intro d
  induction d with
  | zero => intro i p fuel K S h hi hf hic; omega
  | succ d ih =>
    intro i p fuel K S h hi hf hic hp s rm ld f hr
    obtain ⟨k', rfl⟩ : ∃ k, fuel = k + 1 + 1 := ⟨fuel - 2, by omega⟩
    have z18 := ld.1
    obtain ⟨r1, r2, r3⟩ := id rm
    rw [shR_f] at hr
    have stop : ∀ (h' : HP), SH b c h' → RM h' t E r.2.1 → r.1 = false → fr [40] h0 h' → gd (lp (fun _ _ => none) (f_X10_ships_B19 N 188 x1 k) (k' + 1) (n32 0) h') Q := by
      intro h' s' r' m' f'
      rw [lp_s, f_X10_ships_B19]
      simp -implicitDefEqProofs (disch := omega) only [gP_p, gP_t, bnd_s, bnd2_s, ltt_s, jn_s, n32_nat, n32_le, n32_lt, n32_eq, n32_add, n32_sub, n32_dec, n32_mul, n32_div, n32_irm, n32_lit, n32_oN, n32_ix, n32_m1, n32_m2, neg_le0, neg_lt0, neg_lt1, neg_le1, n32_min, n32_max, if_true, if_false, Nat.one_ne_zero, gd_some, true_or, or_true, false_or, or_false]
      exact K1 h' 0 (by omega) s' r' (fun z => by rw [m'] at z; exact absurd z Bool.false_ne_true) f' ⟨fun z => by rw [m'] at z; exact absurd z Bool.false_ne_true, fun z => absurd z.1 (by decide)⟩
    rw [lp_s, f_X10_ships_B19]
    by_cases q1 : E ≤ p
    · rw [if_pos q1] at hr
      have pe : p = E := by omega
      subst pe
      by_cases q2 : i = 0
      · rw [if_pos q2] at hr
        subst hr
        subst q2
        simp -implicitDefEqProofs (disch := omega) only [gP_p, gP_t, bnd_s, bnd2_s, ltt_s, jn_s, n32_nat, n32_le, n32_lt, n32_eq, n32_add, n32_sub, n32_dec, n32_mul, n32_div, n32_irm, n32_lit, n32_oN, n32_ix, n32_m1, n32_m2, neg_le0, neg_lt0, neg_lt1, neg_le1, n32_min, n32_max, if_true, if_false, Nat.one_ne_zero, gd_some, true_or, or_true, false_or, or_false, r1, r2, z18, Nat.lt_irrefl, gd_bnd2]
        refine gd_mono (rlB (N := N) hN hE tb hp s rm z18 (by omega) (fun z => absurd z.1 (Nat.lt_irrefl _)) (fun z => absurd z.1 (Nat.lt_irrefl _))) ?_
        rintro ⟨w, h1⟩ ⟨w1, w2, w3⟩
        have w1' : w = n32 0 := w1
        subst w1'
        exact stop h1 (s.fr w3) w2 rfl (f.tr w3)
      · rw [if_neg q2] at hr
        subst hr
        simp -implicitDefEqProofs (disch := omega) only [gP_p, gP_t, bnd_s, bnd2_s, ltt_s, jn_s, n32_nat, n32_le, n32_lt, n32_eq, n32_add, n32_sub, n32_dec, n32_mul, n32_div, n32_irm, n32_lit, n32_oN, n32_ix, n32_m1, n32_m2, neg_le0, neg_lt0, neg_lt1, neg_le1, n32_min, n32_max, if_true, if_false, Nat.one_ne_zero, gd_some, true_or, or_true, false_or, or_false, r1, r2, z18, Nat.lt_irrefl, q2]
        exact K1 h 1 (by omega) s rm (fun _ => ld) f ⟨fun _ => ⟨rfl, rfl⟩, fun _ => rfl⟩
    · rw [if_neg q1] at hr
      have q1' : p < E := by omega
      by_cases q2 : i = 8
      · rw [if_pos q2] at hr
        subst hr
        subst q2
        simp -implicitDefEqProofs (disch := omega) only [gP_p, gP_t, bnd_s, bnd2_s, ltt_s, jn_s, n32_nat, n32_le, n32_lt, n32_eq, n32_add, n32_sub, n32_dec, n32_mul, n32_div, n32_irm, n32_lit, n32_oN, n32_ix, n32_m1, n32_m2, neg_le0, neg_lt0, neg_lt1, neg_le1, n32_min, n32_max, if_true, if_false, Nat.one_ne_zero, gd_some, true_or, or_true, false_or, or_false, r1, r2, q1', rl8 s z18]
        exact stop h s rm rfl f
      · rw [if_neg q2] at hr
        by_cases q3 : t p = 46
        · rw [if_pos q3] at hr
          simp -implicitDefEqProofs (disch := omega) only [gP_p, gP_t, bnd_s, bnd2_s, ltt_s, jn_s, n32_nat, n32_le, n32_lt, n32_eq, n32_add, n32_sub, n32_dec, n32_mul, n32_div, n32_irm, n32_lit, n32_oN, n32_ix, n32_m1, n32_m2, neg_le0, neg_lt0, neg_lt1, neg_le1, n32_min, n32_max, if_true, if_false, Nat.one_ne_zero, gd_some, true_or, or_true, false_or, or_false, r1, r2, q1', gd_bnd2]
          refine gd_mono (rlD (N := N) hN hE tb q1' s rm ld (by omega) q3) ?_
          rintro ⟨w, h1⟩ ⟨w1, w2, w3, w4⟩
          have w1' : w = n32 1 := w1
          subst w1'
          exact ih (i + 1) (p + 1) (k' + 1) _ _ h1 (by omega) (by omega) (by omega) (by omega) (s.fr w4) w2 w3 (f.tr w4) hr
        · rw [if_neg q3] at hr
          have fo := fi_on (t p)
          by_cases q4 : t p = 111 ∨ t p = 110
          · rw [if_pos q4] at hr
            have b1 := dgN_E (t := t) (E := E) 3 (p + 1) (by omega)
            have ea : fi [111, 110] (t p) = (if t p = 111 then 0 else 1) := by
              rw [fo]
              rcases q4 with q4 | q4
              · rw [if_pos q4, if_pos q4]
              · have q5 : ¬ t p = 111 := by omega
                rw [if_neg q5, if_pos q4, if_neg q5]
            simp -implicitDefEqProofs (disch := omega) only [gP_p, gP_t, bnd_s, bnd2_s, ltt_s, jn_s, n32_nat, n32_le, n32_lt, n32_eq, n32_add, n32_sub, n32_dec, n32_mul, n32_div, n32_irm, n32_lit, n32_oN, n32_ix, n32_m1, n32_m2, neg_le0, neg_lt0, neg_lt1, neg_le1, n32_min, n32_max, if_true, if_false, Nat.one_ne_zero, gd_some, true_or, or_true, false_or, or_false, r1, r2, q1', gd_bnd2]
            refine gd_mono (rlN (N := N) hN hE tb q1' s rm ld (by omega) q3 ea (by split <;> omega)) ?_
            rintro ⟨w, h1⟩ ⟨w1, w2, w4⟩
            by_cases q5 : dgN t E 3 (p + 1) = 0
            · rw [if_pos q5] at hr
              subst hr
              obtain ⟨v1, v2⟩ := w1 q5
              have v1' : w = n32 0 := v1
              subst v1'
              exact stop h1 (s.fr w4) v2 rfl (f.tr w4)
            · rw [if_neg q5] at hr
              obtain ⟨v1, v2, v3⟩ := w2 q5
              have v1' : w = n32 1 := v1
              subst v1'
              exact ih (i + 1) _ (k' + 1) _ _ h1 (by omega) (by omega) (by omega) (by omega) (s.fr w4) v2 v3 (f.tr w4) hr
          · rw [if_neg q4] at hr
            subst hr
            simp -implicitDefEqProofs (disch := omega) only [gP_p, gP_t, bnd_s, bnd2_s, ltt_s, jn_s, n32_nat, n32_le, n32_lt, n32_eq, n32_add, n32_sub, n32_dec, n32_mul, n32_div, n32_irm, n32_lit, n32_oN, n32_ix, n32_m1, n32_m2, neg_le0, neg_lt0, neg_lt1, neg_le1, n32_min, n32_max, if_true, if_false, Nat.one_ne_zero, gd_some, true_or, or_true, false_or, or_false, r1, r2, q1', gd_bnd2]
            refine gd_mono (rlB (N := N) hN hE tb hp s rm z18 (by omega) (fun z => q3 z.2) (fun z => ?_)) ?_
            · have z2 : fi [111, 110] (t p) < 2 := z.2
              rw [fo, if_neg (fun e => q4 (Or.inl e)), if_neg (fun e => q4 (Or.inr e))] at z2
              omega
            rintro ⟨w, h1⟩ ⟨w1, w2, w3⟩
            have w1' : w = n32 0 := w1
            subst w1'
            exact stop h1 (s.fr w3) w2 rfl (f.tr w3)
theorem shc_m {N cnt : Nat} {K S : Nat → Nat} {b c : Bool} (h0 : HP) (hc : cnt ≤ 8) (hk : kOK K S cnt) : ∀ (d i fuel : Nat) (h : HP), i + d = cnt → d < fuel → SH b c h → LD h cnt K S → h.2.1 188 5 = n32 cnt → (∀ j, j < i → h.2.1 190 j = (if K j = 2 then -n32 1 else n32 (K j)) ∧ h.2.1 191 j = n32 (10 * S j)) → fr [24] h0 h → gd (lp (fun _ _ => none) (f_X10_ships_B75 N 188) fuel (n32 i) h) (fun p => p.1 = n32 cnt ∧ MF p.2 (cnt, K, fun j => 10 * S j) ∧ fr [24] h0 p.2) := by
  intro d
  induction d with
  | zero =>
    intro i fuel h hi hf s ld z5 m f
    obtain ⟨k', rfl⟩ : ∃ k, fuel = k + 1 := ⟨fuel - 1, by omega⟩
    have e : i = cnt := by omega
    subst e
    have l1 := ld.1
    rw [lp_s, f_X10_ships_B75]
    simp -implicitDefEqProofs (disch := omega) only [gP_p, gP_t, bnd_s, bnd2_s, ltt_s, jn_s, n32_nat, n32_le, n32_lt, n32_eq, n32_add, n32_sub, n32_dec, n32_mul, n32_div, n32_irm, n32_lit, n32_oN, n32_ix, n32_m1, n32_m2, neg_le0, neg_lt0, neg_lt1, neg_le1, n32_min, n32_max, if_true, if_false, Nat.one_ne_zero, gd_some, true_or, or_true, false_or, or_false, l1, Nat.le_refl, z5]
    exact ⟨trivial, ⟨z5, m⟩, f⟩
  | succ d ih =>
    intro i fuel h hi hf s ld z5 m f
    obtain ⟨k', rfl⟩ : ∃ k, fuel = k + 1 := ⟨fuel - 1, by omega⟩
    have e : ¬ cnt ≤ i := by omega
    have l1 := ld.1
    obtain ⟨l2, l3⟩ := ld.2 i (by omega)
    obtain ⟨k1, k2⟩ := hk i (by omega)
    have step : ∀ v, v = (if K i = 2 then -n32 1 else n32 (K i)) → gd (lp (fun _ _ => none) (f_X10_ships_B75 N 188) k' (n32 (i + 1)) (setI (setI h 190 i v) 191 i (n32 (10 * S i)))) (fun p => p.1 = n32 cnt ∧ MF p.2 (cnt, K, fun j => 10 * S j) ∧ fr [24] h0 p.2) := by
      intro v hv
      have f1 : fr [24] h (setI (setI h 190 i v) 191 i (n32 (10 * S i))) := ((fr.rf _ _).sI rfl).sI rfl
      refine ih (i + 1) k' _ (by omega) (by omega) (s.fr f1) ⟨?_, fun j hj => ?_⟩ ?_ (fun j hj => ?_) (f.tr f1)
      · rw [sI_ne (by omega), sI_ne (by omega)]; exact l1
      · rw [sI_ne (by omega), sI_ne (by omega), sI_ne (by omega), sI_ne (by omega)]; exact ld.2 j hj
      · rw [sI_ne (by omega), sI_ne (by omega)]; exact z5
      · by_cases q : j = i
        · subst q
          rw [sI_ne (by omega), sI_eq, sI_eq]
          exact ⟨hv, rfl⟩
        · rw [sI_ne (by omega), sI_ne (by omega), sI_ne (by omega), sI_ne (by omega)]
          exact m j (by omega)
    rw [lp_s, f_X10_ships_B75]
    by_cases q : K i = 2
    · have st := step (-n32 1) (by rw [if_pos q])
      rw [q] at l2
      simp -implicitDefEqProofs (disch := omega) only [gP_p, gP_t, bnd_s, bnd2_s, n32_nat, n32_le, n32_lt, n32_eq, n32_add, n32_sub, n32_dec, n32_mul, n32_div, n32_irm, n32_lit, n32_oN, n32_ix, n32_m1, n32_m2, neg_le0, neg_lt0, neg_lt1, neg_le1, n32_min, n32_max, if_true, if_false, Nat.one_ne_zero, true_or, or_true, false_or, or_false, l1, e, s.mod, l2]
      simp -implicitDefEqProofs (disch := omega) only [gP_p, gP_t, bnd_s, bnd2_s, ltt_s, jn_s, n32_nat, n32_le, n32_lt, n32_eq, n32_add, n32_sub, n32_dec, n32_mul, n32_div, n32_irm, n32_lit, n32_oN, n32_ix, n32_m1, n32_m2, neg_le0, neg_lt0, neg_lt1, neg_le1, n32_min, n32_max, if_true, if_false, Nat.one_ne_zero, gd_some, true_or, or_true, false_or, or_false, s.mod, sI_eq, sI_ne, sI_J, sI_R, sI_kO, sI_rK, sI_len, sJ_eq, sJ_ne, sJ_I, sJ_kO, sJ_rK, sJ_len, l3]
      exact st
    · have st := step (n32 (K i)) (by rw [if_neg q])
      simp -implicitDefEqProofs (disch := omega) only [gP_p, gP_t, bnd_s, bnd2_s, n32_nat, n32_le, n32_lt, n32_eq, n32_add, n32_sub, n32_dec, n32_mul, n32_div, n32_irm, n32_lit, n32_oN, n32_ix, n32_m1, n32_m2, neg_le0, neg_lt0, neg_lt1, neg_le1, n32_min, n32_max, if_true, if_false, Nat.one_ne_zero, true_or, or_true, false_or, or_false, l1, e, s.mod, l2, q]
      simp -implicitDefEqProofs (disch := omega) only [gP_p, gP_t, bnd_s, bnd2_s, ltt_s, jn_s, n32_nat, n32_le, n32_lt, n32_eq, n32_add, n32_sub, n32_dec, n32_mul, n32_div, n32_irm, n32_lit, n32_oN, n32_ix, n32_m1, n32_m2, neg_le0, neg_lt0, neg_lt1, neg_le1, n32_min, n32_max, if_true, if_false, Nat.one_ne_zero, gd_some, true_or, or_true, false_or, or_false, s.mod, sI_eq, sI_ne, sI_J, sI_R, sI_kO, sI_rK, sI_len, sJ_eq, sJ_ne, sJ_I, sJ_kO, sJ_rK, sJ_len, l3]
      exact st
theorem sR_I {h : HP} {a j : Nat} {v : Option Nat} : (setR h a j v).2.1 = h.2.1 := rfl
abbrev swF (b : Bool) (h : HP) : HP := setR (setR h 0 12 (some (flr (!b)))) 0 13 (some (flr b))
theorem rt_sw : RT.all (fun e => !(e.1 == 0 && (e.2.1 == 12 || e.2.1 == 13 || e.2.1 == 14 || e.2.1 == 15))) = true := by decide +kernel
theorem sR_R {h : HP} {a j : Nat} {v : Option Nat} {x y : Nat} : (setR h a j v).2.2.2 x y = if x = a ∧ y = j then v else h.2.2.2 x y := by
  show va_up h.2.2.2 a (va_up (h.2.2.2 a) j v) x y = _
  unfold va_up
  by_cases q : x = a
  · subst q
    by_cases q2 : y = j
    · subst q2; simp
    · simp [q2]
  · simp [q]
theorem SH.swF {b c : Bool} {h : HP} (s : SH b c h) : SH (!b) c (swF b h) := by
  obtain ⟨e1, e2, e3, e4, e5, e6⟩ := s
  refine ⟨e1, fun e he => ?_, ?_, ?_, ?_, ?_⟩
  · have := List.all_eq_true.mp rt_sw e he
    simp only [Bool.not_eq_true', Bool.and_eq_false_iff, Bool.or_eq_false_iff, beq_eq_false_iff_ne] at this
    rw [sR_R, sR_R, if_neg (by omega), if_neg (by omega)]
    exact e2 e he
  · rw [sR_R, sR_R, if_neg (by omega), if_pos ⟨rfl, rfl⟩]
  · rw [sR_R, if_pos ⟨rfl, rfl⟩, Bool.not_not]
  · rw [sR_R, sR_R, if_neg (by omega), if_neg (by omega)]; exact e5
  · rw [sR_R, sR_R, if_neg (by omega), if_neg (by omega)]; exact e6
theorem shX {h : HP} {t : Nat → Nat} {n : Nat} {b c : Bool} (s : SH b c h) (tx : TxX h t n) (tb : ∀ i, i < n → t i < 256) (hn : n ≤ 80) (R : SR) (hR : shR t (min n 32) 9 0 0 (fun _ => 0) (fun _ => 0) = R) :
    (¬ (R.1 = true ∧ n ≤ min n 32) → gd (f_X9_ships 200 h 0) (fun p => p.1 = -n32 1 - n32 (lnQ (shL R) (min n 32)) ∧ TxX p.2 t 0 ∧ fr [flq (!b), 1] h p.2)) ∧
    (R.1 = true ∧ n ≤ min n 32 → gd (f_X9_ships 200 h 0) (fun p => ∃ g, p.2 = swF b g ∧ p.1 = n32 R.2.2.1 ∧ TxX g t 0 ∧ FR g (flr (!b)) (shF R) ∧ fr [flq (!b), 1] h g)) := by
  obtain ⟨k1, k2, k3, k4⟩ := shR_ok (t := t) (E := min n 32) 9 0 0 (fun _ => 0) (fun _ => 0) (fun j hj => absurd hj (Nat.not_lt_zero j)) (by omega) (by omega)
  rw [hR] at k1 k2 k3 k4
  obtain ⟨fc0, fc1, fc2, fc3, fc4⟩ := s.flc (!b)
  have t1 := tx.1
  have f0 : fr [flq (!b)] h (setI h (flr (!b)) 2 (n32 0)) := (fr.rf _ _).sI (fl_reg (!b) 2 0 (by omega))
  have fr0 : FR (setI h (flr (!b)) 2 (n32 0)) (flr (!b)) (0, (fun _ => 0), fun j => 10 * (fun _ => 0 : Nat → Nat) j) := ⟨sI_eq, fun j hj => absurd hj (Nat.not_lt_zero j)⟩
  have rd : gd (f_X1_read 200 h (flr (!b)) 1) (fun q => q.1 = lnC (shL R) n (min n 32) ∧ (R.1 = true → FR q.2 (flr (!b)) (shF R)) ∧ fr [flq (!b)] h q.2) := by
    have key := shR_x (N := 200) (t := t) (n := n) (E := min n 32) (b := b) (c := c) (w := !b) (k := fun (h55 : HP) => (if (h55.2.1 (flr (!b)) 2) = n32 0 then some (n32 (min n 32), h55) else (if (h55.2.1 1 1) ≤ n32 (min n 32) then some (-n32 1, h55) else some (n32 (min n 32), h55)))) (by omega) tb hn (by omega) h R (fun h' i hi s' tx' z2 => by
      have t1' := tx'.1
      by_cases q : i = 0
      · simp -implicitDefEqProofs (disch := omega) only [gP_p, gP_t, bnd_s, bnd2_s, ltt_s, jn_s, n32_nat, n32_le, n32_lt, n32_eq, n32_add, n32_sub, n32_dec, n32_mul, n32_div, n32_irm, n32_lit, n32_oN, n32_ix, n32_m1, n32_m2, neg_le0, neg_lt0, neg_lt1, neg_le1, n32_min, n32_max, if_true, if_false, Nat.one_ne_zero, gd_some, true_or, or_true, false_or, or_false, z2, t1', q]
      · by_cases q2 : n ≤ min n 32
        · simp -implicitDefEqProofs (disch := omega) only [gP_p, gP_t, bnd_s, bnd2_s, ltt_s, jn_s, n32_nat, n32_le, n32_lt, n32_eq, n32_add, n32_sub, n32_dec, n32_mul, n32_div, n32_irm, n32_lit, n32_oN, n32_ix, n32_m1, n32_m2, neg_le0, neg_lt0, neg_lt1, neg_le1, n32_min, n32_max, if_true, if_false, Nat.one_ne_zero, gd_some, true_or, or_true, false_or, or_false, z2, t1', q, q2]
        · simp -implicitDefEqProofs (disch := omega) only [gP_p, gP_t, bnd_s, bnd2_s, ltt_s, jn_s, n32_nat, n32_le, n32_lt, n32_eq, n32_add, n32_sub, n32_dec, n32_mul, n32_div, n32_irm, n32_lit, n32_oN, n32_ix, n32_m1, n32_m2, neg_le0, neg_lt0, neg_lt1, neg_le1, n32_min, n32_max, if_true, if_false, Nat.one_ne_zero, gd_some, true_or, or_true, false_or, or_false, z2, t1', q, q2]) 9 0 0 200 _ _ _ (by omega) (by omega) (by omega) (by omega) (s.fr f0) (tx.fr f0 (by cases b <;> decide)) fr0 f0 hR
    have mn : f_J9_min_7cf53 (n32 n) (n32 32) = some (n32 (min n 32)) := by
      unfold f_J9_min_7cf53
      simp -implicitDefEqProofs (disch := omega) only [n32_nat, n32_le, n32_lt, n32_eq]
      by_cases q : 32 < n
      · rw [if_pos q, show min n 32 = 32 by omega]
      · rw [if_neg q, show min n 32 = n by omega]
    unfold f_X1_read
    simp -implicitDefEqProofs (disch := omega) only [fc0, s.root, t1, n32_lit, mn, gP_p, gP_t, bnd_s, ltt_s]
    exact key
  refine ⟨fun bad => ?_, fun ok => ?_⟩
  · unfold f_X9_ships
    simp -implicitDefEqProofs (disch := omega) only [s.root, gP_p, gP_t, bnd_s, bnd2_s, ltt_s, jn_s, n32_nat, n32_le, n32_lt, n32_eq, n32_add, n32_sub, n32_dec, n32_mul, n32_div, n32_irm, n32_lit, n32_oN, n32_ix, n32_m1, n32_m2, neg_le0, neg_lt0, neg_lt1, neg_le1, n32_min, n32_max, if_true, if_false, Nat.one_ne_zero, gd_some, true_or, or_true, false_or, or_false, gd_bnd2]
    refine gd_mono rd ?_
    rintro ⟨u, h1⟩ ⟨e1, e2, e3⟩
    have e1' : u = n32 (lnQ (shL R) (min n 32)) := (show u = lnC (shL R) n (min n 32) from e1).trans (lnC_q bad)
    subst e1'
    have s1 := s.fr e3
    have lq : lnQ (shL R) (min n 32) ≤ 32 := by unfold lnQ; split; omega; show R.2.1 ≤ 32; omega
    have f1 : fr [1] h1 (setI h1 1 1 (n32 0)) := (fr.rf _ _).sI rfl
    simp -implicitDefEqProofs (disch := omega) only [gP_p, gP_t, bnd_s, bnd2_s, ltt_s, jn_s, n32_nat, n32_le, n32_lt, n32_eq, n32_add, n32_sub, n32_dec, n32_mul, n32_div, n32_irm, n32_lit, n32_oN, n32_ix, n32_m1, n32_m2, neg_le0, neg_lt0, neg_lt1, neg_le1, n32_min, n32_max, if_true, if_false, Nat.one_ne_zero, gd_some, true_or, or_true, false_or, or_false, s1.root, clr_x s1]
    exact ⟨trivial, ⟨sI_eq, fun i hi => absurd hi (Nat.not_lt_zero i)⟩, (e3.mono (by cases b <;> decide)).tr (f1.mono (by cases b <;> decide))⟩
  · unfold f_X9_ships
    simp -implicitDefEqProofs (disch := omega) only [s.root, gP_p, gP_t, bnd_s, bnd2_s, ltt_s, jn_s, n32_nat, n32_le, n32_lt, n32_eq, n32_add, n32_sub, n32_dec, n32_mul, n32_div, n32_irm, n32_lit, n32_oN, n32_ix, n32_m1, n32_m2, neg_le0, neg_lt0, neg_lt1, neg_le1, n32_min, n32_max, if_true, if_false, Nat.one_ne_zero, gd_some, true_or, or_true, false_or, or_false, gd_bnd2]
    refine gd_mono rd ?_
    rintro ⟨u, h1⟩ ⟨e1, e2, e3⟩
    have e1' : u = -n32 1 := (show u = lnC (shL R) n (min n 32) from e1).trans (lnC_f ok)
    subst e1'
    have s1 := s.fr e3
    have fR := e2 ok.1
    have f1 : fr [1] h1 (setI h1 1 1 (n32 0)) := (fr.rf _ _).sI rfl
    have s2 := s1.fr f1
    have s3 := s2.swF
    have fR2 : FR (setI h1 1 1 (n32 0)) (flr (!b)) (shF R) := FR.fr (show FR h1 (flr (!b)) (shF R) from fR) f1 (by cases b <;> decide)
    have z := fR2.1
    simp -implicitDefEqProofs (disch := omega) only [gP_p, gP_t, bnd_s, bnd2_s, ltt_s, jn_s, n32_nat, n32_le, n32_lt, n32_eq, n32_add, n32_sub, n32_dec, n32_mul, n32_div, n32_irm, n32_lit, n32_oN, n32_ix, n32_m1, n32_m2, neg_le0, neg_lt0, neg_lt1, neg_le1, n32_min, n32_max, if_true, if_false, Nat.one_ne_zero, gd_some, true_or, or_true, false_or, or_false, s1.root, clr_x s1, s2.root, s3.root, sR_I, z]
    exact ⟨_, rfl, rfl, ⟨sI_eq, fun i hi => absurd hi (Nat.not_lt_zero i)⟩, fR2, (e3.mono (by cases b <;> decide)).tr (f1.mono (by cases b <;> decide))⟩
theorem shM {h : HP} {t : Nat → Nat} {n : Nat} {b c : Bool} (s : SH b c h) (tm : TxM h t n) (tb : ∀ i, i < n → t i < 256) (hn : n ≤ 80) (R : SR) (hR : shR t (min n 32) 9 0 0 (fun _ => 0) (fun _ => 0) = R) :
    (¬ (R.1 = true ∧ n ≤ min n 32) → gd (f_X10_ships 200 h 188) (fun p => p.1 = -n32 1 - n32 (lnQ (shL R) (min n 32)) ∧ TxM p.2 t 0 ∧ fr [50, 21, 40] h p.2)) ∧
    (R.1 = true ∧ n ≤ min n 32 → gd (f_X10_ships 200 h 188) (fun p => p.1 = n32 R.2.2.1 ∧ MF p.2 (shF R) ∧ TxM p.2 t 0 ∧ fr [50, 21, 40, 24] h p.2)) := by
  obtain ⟨k1, k2, k3, k4⟩ := shR_ok (t := t) (E := min n 32) 9 0 0 (fun _ => 0) (fun _ => 0) (fun j hj => absurd hj (Nat.not_lt_zero j)) (by omega) (by omega)
  rw [hR] at k1 k2 k3 k4
  have f0 : fr [50] h (setI h 188 0 (n32 0)) := (fr.rf _ _).sI rfl
  have main : ∀ (Q : Int32 × HP → Prop), (∀ h' gg, gg ≤ 1 → SH b c h' → RM h' t (min n 32) R.2.1 → (R.1 = true → LD h' R.2.2.1 R.2.2.2.1 R.2.2.2.2) → fr [50, 21, 40] h h' → TxM h' t 0 → (R.1 = true ↔ gg = 1 ∧ R.2.1 = min n 32) → gd (bnd (f_X10_faultOf h' 188 (n32 n) (n32 32) (n32 gg)) (fun v24 => (if n32 0 ≤ v24 then lt_ (setI h' 188 5 (h'.2.1 188 18)) (fun h28 => lp (fun _ _ => none) (f_X10_ships_B75 200 188) 200 (n32 0) h28) else some (v24, h')))) Q) → gd (f_X10_ships 200 h 188) Q := by
    intro Q K
    unfold f_X10_ships
    simp -implicitDefEqProofs (disch := omega) only [s.mod, gP_p, gP_t, bnd_s, bnd2_s, ltt_s, jn_s, n32_nat, n32_le, n32_lt, n32_eq, n32_add, n32_sub, n32_dec, n32_mul, n32_div, n32_irm, n32_lit, n32_oN, n32_ix, n32_m1, n32_m2, neg_le0, neg_lt0, neg_lt1, neg_le1, n32_min, n32_max, if_true, if_false, Nat.one_ne_zero, gd_some, true_or, or_true, false_or, or_false, gd_bnd2]
    refine gd_mono (begins_m (s.fr f0) (tm.fr f0 (by decide)) hn (show 32 ≤ 80 by omega)) ?_
    rintro ⟨u, h1⟩ ⟨e1, e2, e3, e4, -⟩
    have e1' : u = n32 n := e1
    subst e1'
    have e2' : RM h1 t (min n 32) 0 := e2
    have s1 := (s.fr f0).fr e4
    have f1 : fr [40] h1 (setI h1 188 18 (n32 0)) := (fr.rf _ _).sI rfl
    have f2 : fr [50, 21, 40] h (setI h1 188 18 (n32 0)) := ((f0.mono (by decide)).tr (e4.mono (by decide))).tr (f1.mono (by decide))
    have r1 : RM (setI h1 188 18 (n32 0)) t (min n 32) 0 := e2'.ne (by omega) (by omega) (by omega)
    have t1 : TxM (setI h1 188 18 (n32 0)) t 0 := e3.fr f1 (by decide)
    have m1 : LD (setI h1 188 18 (n32 0)) 0 (fun _ => 0) (fun _ => 0) := ⟨sI_eq, fun j hj => absurd hj (Nat.not_lt_zero j)⟩
    have key := sh_m (N := 200) (b := b) (c := c) (x1 := n32 n) (k := fun (x21 : Int32) (h22 : HP) => bnd (f_X10_faultOf h22 188 (n32 n) (n32 32) x21) (fun v24 => (if n32 0 ≤ v24 then lt_ (setI h22 188 5 (h22.2.1 188 18)) (fun h28 => lp (fun _ _ => none) (f_X10_ships_B75 200 188) 200 (n32 0) h28) else some (v24, h22)))) (Q := Q) (by omega) (show min n 32 ≤ 80 by omega) (fun i hi => tb i (by omega)) (setI h1 188 18 (n32 0)) R (fun h' gg hg s' r' m' f' e' => K h' gg hg s' r' m' (f2.tr (f'.mono (by decide))) (t1.fr f' (by decide)) e') 9 0 0 200 _ _ (setI h1 188 18 (n32 0)) (by omega) (by omega) (by omega) (by omega) (s1.fr f1) r1 m1 (fr.rf _ _) hR
    simp -implicitDefEqProofs (disch := omega) only [gP_p, gP_t, bnd_s, bnd2_s, ltt_s, jn_s, n32_nat, n32_le, n32_lt, n32_eq, n32_add, n32_sub, n32_dec, n32_mul, n32_div, n32_irm, n32_lit, n32_oN, n32_ix, n32_m1, n32_m2, neg_le0, neg_lt0, neg_lt1, neg_le1, n32_min, n32_max, if_true, if_false, Nat.one_ne_zero, gd_some, true_or, or_true, false_or, or_false] at key
    simp -implicitDefEqProofs (disch := omega) only [gP_p, gP_t, bnd_s, bnd2_s, ltt_s, jn_s, n32_nat, n32_le, n32_lt, n32_eq, n32_add, n32_sub, n32_dec, n32_mul, n32_div, n32_irm, n32_lit, n32_oN, n32_ix, n32_m1, n32_m2, neg_le0, neg_lt0, neg_lt1, neg_le1, n32_min, n32_max, if_true, if_false, Nat.one_ne_zero, gd_some, true_or, or_true, false_or, or_false]
    exact key
  have fE : ∀ gg, (R.1 = true ↔ gg = 1 ∧ R.2.1 = min n 32) → (if gg = 1 ∧ R.2.1 = min n 32 ∧ n ≤ 32 then n32 0 else -n32 1 - n32 (if gg = 1 ∧ R.2.1 = min n 32 then 32 else R.2.1)) = if R.1 = true ∧ n ≤ min n 32 then n32 0 else -n32 1 - n32 (lnQ (shL R) (min n 32)) := by
    intro gg e
    unfold lnQ shL
    by_cases q : R.1 = true
    · obtain ⟨g1, g2⟩ := e.mp q
      rw [if_pos q]
      by_cases q2 : n ≤ 32
      · rw [if_pos ⟨g1, g2, q2⟩, if_pos ⟨q, by omega⟩]
      · rw [if_neg (fun z => q2 z.2.2), if_pos ⟨g1, g2⟩, if_neg (fun z => q2 (by have := z.2; omega)), show min n 32 = 32 by omega]
    · rw [if_neg q, if_neg (fun z => q (e.mpr ⟨z.1, z.2.1⟩)), if_neg (fun z => q (e.mpr z)), if_neg (fun z => q z.1)]
  refine ⟨fun bad => main _ (fun h' gg hg s' r' m' f' t' e' => ?_), fun ok => main _ (fun h' gg hg s' r' m' f' t' e' => ?_)⟩
  · have lq : lnQ (shL R) (min n 32) ≤ 32 := by unfold lnQ; split; omega; show R.2.1 ≤ 32; omega
    have fo := fault_m s' r' hn (show 32 ≤ 80 by omega) rfl k2 hg
    rw [fE gg e', if_neg bad] at fo
    rw [fo, bnd_s, if_neg (flt_neg (by omega))]
    exact gd_some.mpr ⟨rfl, t', f'⟩
  · have fo := fault_m s' r' hn (show 32 ≤ 80 by omega) rfl k2 hg
    rw [fE gg e', if_pos ok] at fo
    rw [fo, bnd_s, if_pos (by decide), ltt_s]
    have ld := m' ok.1
    have l1 := ld.1
    rw [l1]
    have f3 : fr [24] h' (setI h' 188 5 (n32 R.2.2.1)) := (fr.rf _ _).sI rfl
    refine gd_mono (shc_m (N := 200) (setI h' 188 5 (n32 R.2.2.1)) k3 k1 R.2.2.1 0 200 _ (by omega) (by omega) (s'.fr f3) ⟨by rw [sI_ne (by omega)]; exact l1, fun j hj => by rw [sI_ne (by omega), sI_ne (by omega)]; exact ld.2 j hj⟩ sI_eq (fun j hj => absurd hj (Nat.not_lt_zero j)) (fr.rf _ _)) ?_
    rintro ⟨w, h4⟩ ⟨w1, w2, w3⟩
    have f4 : fr [24] h' h4 := f3.tr w3
    exact ⟨w1, w2, t'.fr f4 (by decide), (f'.mono (by decide)).tr (f4.mono (by decide))⟩
theorem op_ships {k : Nat} (hk : k < 512) : ∀ (h : HP), Inv k h → ∃ (v : Int32) (h1 h2 : HP), f_X9_ships 200 h 0 = some (v, h1) ∧ f_X10_ships 200 h1 188 = some (v, h2) ∧ Inv (k + 1) h2 := by
  intro h I
  obtain ⟨b, c, sz, iv⟩ := I
  obtain ⟨a0, a1, a2, a3, a4, a5, a6, a7, a8, a9, a10⟩ := id iv
  obtain ⟨t, n, hn, tb, tx, tm⟩ := a2
  obtain ⟨R, hR⟩ : ∃ R, shR t (min n 32) 9 0 0 (fun _ => 0) (fun _ => 0) = R := ⟨_, rfl⟩
  obtain ⟨X1, X2⟩ := shX a0 tx tb hn R hR
  obtain ⟨k1, k2, k3, k4⟩ := shR_ok (t := t) (E := min n 32) 9 0 0 (fun _ => 0) (fun _ => 0) (fun j hj => absurd hj (Nat.not_lt_zero j)) (by omega) (by omega)
  rw [hR] at k1 k2 k3 k4
  by_cases q : R.1 = true ∧ n ≤ min n 32
  · obtain ⟨⟨v, h1⟩, x1, g, x2, x3, x4, x5, x6⟩ := X2 q
    have x2' : h1 = swF b g := x2
    subst x2'
    have sg := (a0.fr x6).swF
    have tmg : TxM g t n := tm.fr x6 (by cases b <;> decide)
    obtain ⟨-, M2⟩ := shM (h := swF b g) sg (t := t) (n := n) tmg tb hn R hR
    obtain ⟨⟨v2, h2⟩, y1, y2, y3, y4, y5⟩ := M2 q
    have ev : v = v2 := x3.trans y2.symm
    subst ev
    have y5' : fr [50, 21, 40, 24] (swF b g) h2 := y5
    have b1 : Siz sz g := a1.fr x6 (by cases b <;> decide)
    have b3 : Row g := a3.fr x6 (by cases b <;> decide)
    have b4 : Coa (300 * k) sz g := a4.fr x6 (by cases b <;> decide)
    have b5 : Goo sz g := a5.fr x6 (by cases b <;> decide)
    have b7 : Rul c g := a7.fr x6 (by cases b <;> cases c <;> decide)
    have b8 : Pas (300 * k) sz g := a8.fr x6 (by cases b <;> decide)
    have b9 : Kep (300 * k) sz g := a9.fr x6 (by cases b <;> decide)
    have b10 : Hea g := a10.fr x6 (by cases b <;> decide)
    have fb : FB (shF R) := ⟨(k4 q.1).1, k3, fun i hi => ⟨(k1 i hi).1, by show 10 * R.2.2.2.2 i ≤ 9990; have := (k1 i hi).2; omega⟩⟩
    have x5' : FR (swF b g) (flr (!b)) (shF R) := x5
    have x4' : TxX (swF b g) t 0 := x4
    exact ⟨_, _, h2, x1, y1, Iv.up ⟨sg.fr y5', Siz.fr (h := swF b g) b1 y5' (by decide), ⟨t, 0, by omega, fun i hi => absurd hi (Nat.not_lt_zero i), x4'.fr y5' (by decide), y4⟩, Row.fr (h := swF b g) b3 y5' (by decide), Coa.fr (h := swF b g) b4 y5' (by decide), Goo.fr (h := swF b g) b5 y5' (by decide), ⟨shF R, x5'.fr y5' (by cases b <;> decide), y3, fb⟩, Rul.fr (h := swF b g) b7 y5' (by cases c <;> decide), Pas.fr (h := swF b g) b8 y5' (by decide), Kep.fr (h := swF b g) b9 y5' (by decide), Hea.fr (h := swF b g) b10 y5' (by decide)⟩⟩
  · obtain ⟨⟨v, h1⟩, x1, x2, x3, x4⟩ := X1 q
    have x4' : fr [flq (!b), 1] h h1 := x4
    obtain ⟨M1, -⟩ := shM (a0.fr x4') (tm.fr x4' (by cases b <;> decide)) tb hn R hR
    obtain ⟨⟨v2, h2⟩, y1, y2, y3, y4⟩ := M1 q
    have ev : v = v2 := x2.trans y2.symm
    subst ev
    have fA : fr [flq (!b), 1, 50, 21, 40] h h2 := (x4'.mono (by cases b <;> decide)).tr (y4.mono (by cases b <;> decide))
    refine ⟨v, h1, h2, x1, y1, Iv.up ⟨a0.fr fA, a1.fr fA (by cases b <;> decide), ⟨t, 0, by omega, fun i hi => absurd hi (Nat.not_lt_zero i), TxX.fr x3 y4 (by decide), y3⟩, a3.fr fA (by cases b <;> decide), a4.fr fA (by cases b <;> decide), a5.fr fA (by cases b <;> decide), a6.fr fA (by cases b <;> decide), a7.fr fA (by cases b <;> cases c <;> decide), a8.fr fA (by cases b <;> decide), a9.fr fA (by cases b <;> decide), a10.fr fA (by cases b <;> decide)⟩⟩
