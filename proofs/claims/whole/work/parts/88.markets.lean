/-! ===== markets ===== -/
theorem lnR_f {t : Nat → Nat} {E m cap d i p : Nat} {v : Nat → Nat} : lnR t E m cap (d + 1) i p v = if cap ≤ i then (false, p, i, v) else if dgN t E m p = 0 then (false, p, i, v) else
    if nm t (dgN t E m p) p 0 = 0 then (false, p + dgN t E m p - 1, i, v) else
    if p + dgN t E m p = E then (true, E, i + 1, up v i (nm t (dgN t E m p) p 0)) else
    if t (p + dgN t E m p) = 59 then lnR t E m cap d (i + 1) (p + dgN t E m p + 1) (up v i (nm t (dgN t E m p) p 0)) else (false, p + dgN t E m p, i + 1, up v i (nm t (dgN t E m p) p 0)) := rfl
def MV6 (h : HP) (i : Nat) (v : Nat → Nat) : Prop := h.2.1 188 18 = n32 i ∧ ∀ j, j < i → h.2.1 196 j = n32 (v j)
theorem mk_m {t : Nat → Nat} {N E cap sz : Nat} {b c : Bool} {k : Int32 → HP → Option (Int32 × HP)} {x1 : Int32} {Q : Int32 × HP → Prop} (hN : 10 < N) (hE : E ≤ 80) (tb : ∀ i, i < E → t i < 256) (hc : cap + sz = 6) (h0 : HP) (r : LR) (K : ∀ h' g, g ≤ 1 → SH b c h' → RM h' t E r.2.1 → (r.1 = true → MV6 h' r.2.2.1 r.2.2.2) → fr [40] h0 h' → (r.1 = true ↔ g = 1 ∧ r.2.1 = E) → gd (k (n32 g) h') Q) : ∀ (d i p fuel : Nat) (v : Nat → Nat) (h : HP) (x2 : Int32), i + d = cap + 1 → d + 1 < fuel → i ≤ cap → p ≤ E → SH b c h → h.2.1 188 3 = n32 sz → RM h t E p → MV6 h i v → fr [40] h0 h → lnR t E 2 cap d i p v = r → gd (lp (fun _ _ _ => none) (f_X10_markets_B29 N 188 x1 k) fuel x2 (n32 1) h) Q := by
  intro d
  induction d with
  | zero => intro i p fuel v h x2 hi hf hic; omega
  | succ d ih =>
    intro i p fuel v h x2 hi hf hic hp s z3 rm mv f hr
    obtain ⟨k', rfl⟩ : ∃ k, fuel = k + 1 + 1 := ⟨fuel - 2, by omega⟩
    have b1 := dgN_E (t := t) 2 p hp
    have b2 := nm_m (t := t) (E := E) (m := 2) (p := p)
    have b3 := dgN_le (t := t) (E := E) 2 p
    have p4 : 10 ^ 2 = 100 := rfl
    have z18 := mv.1
    rw [lnR_f] at hr
    have stop : ∀ (h' : HP) (g : Nat), g ≤ 1 → SH b c h' → RM h' t E r.2.1 → (r.1 = true → MV6 h' r.2.2.1 r.2.2.2) → fr [40] h0 h' → (r.1 = true ↔ g = 1 ∧ r.2.1 = E) → gd (lp (fun _ _ _ => none) (f_X10_markets_B29 N 188 x1 k) (k' + 1) (n32 g) (n32 0) h') Q := by
      intro h' g hg s' r' m' f' e'
      rw [lp_s, f_X10_markets_B29]
      simp -implicitDefEqProofs (disch := omega) only [gP_p, gP_t, bnd_s, bnd2_s, ltt_s, jn_s, n32_nat, n32_le, n32_lt, n32_eq, n32_add, n32_sub, n32_dec, n32_mul, n32_div, n32_irm, n32_lit, n32_oN, n32_ix, n32_m1, n32_m2, neg_le0, neg_lt0, neg_lt1, neg_le1, n32_min, n32_max, if_true, if_false, Nat.one_ne_zero, gd_some, true_or, or_true, false_or, or_false]
      exact K h' g hg s' r' m' f' e'
    rw [lp_s, f_X10_markets_B29]
    unfold f_X10_readsMarket
    by_cases q1 : cap ≤ i
    · rw [if_pos q1] at hr
      subst hr
      have e6 : sz + i = 6 := by omega
      simp -implicitDefEqProofs (disch := omega) only [gP_p, gP_t, bnd_s, bnd2_s, ltt_s, jn_s, n32_nat, n32_le, n32_lt, n32_eq, n32_add, n32_sub, n32_dec, n32_mul, n32_div, n32_irm, n32_lit, n32_oN, n32_ix, n32_m1, n32_m2, neg_le0, neg_lt0, neg_lt1, neg_le1, n32_min, n32_max, if_true, if_false, Nat.one_ne_zero, gd_some, true_or, or_true, false_or, or_false, s.mod, z3, z18, e6]
      exact stop h 0 (by omega) s rm (fun z => absurd z Bool.false_ne_true) f ⟨fun z => absurd z Bool.false_ne_true, fun z => absurd z.1 (by decide)⟩
    · rw [if_neg q1] at hr
      have e6 : ¬ sz + i = 6 := by omega
      simp -implicitDefEqProofs (disch := omega) only [gP_p, gP_t, bnd_s, bnd2_s, ltt_s, jn_s, n32_nat, n32_le, n32_lt, n32_eq, n32_add, n32_sub, n32_dec, n32_mul, n32_div, n32_irm, n32_lit, n32_oN, n32_ix, n32_m1, n32_m2, neg_le0, neg_lt0, neg_lt1, neg_le1, n32_min, n32_max, if_true, if_false, Nat.one_ne_zero, gd_some, true_or, or_true, false_or, or_false, s.mod, z3, z18, e6, gd_bnd2]
      refine gd_mono (nab_m (N := N) hN hE (m := 2) (by omega) (by omega) tb hp s rm) ?_
      rintro ⟨u, h1⟩ ⟨e1, e2, e3, e4⟩
      have e1' : u = naV t (dgN t E 2 p) p := e1
      subst e1'
      have s1 := s.fr e4
      have z18' : h1.2.1 188 18 = n32 i := (e3 188 18 (by omega)).trans z18
      have z3' : h1.2.1 188 3 = n32 sz := (e3 188 3 (by omega)).trans z3
      have f1 : fr [40] h1 (setI (setI h1 196 i (naV t (dgN t E 2 p) p)) 188 18 (n32 (i + 1))) := ((fr.rf _ _).sI rfl).sI rfl
      have s2 := s1.fr f1
      have e2' : RM h1 t E (naP t (dgN t E 2 p) p) := e2
      have r2 : RM (setI (setI h1 196 i (naV t (dgN t E 2 p) p)) 188 18 (n32 (i + 1))) t E (naP t (dgN t E 2 p) p) := (e2'.ne (by omega) (by omega) (by omega)).ne (by omega) (by omega) (by omega)
      have f2 := (f.tr e4).tr f1
      by_cases q2 : dgN t E 2 p = 0
      · rw [if_pos q2] at hr
        subst hr
        have en : naV t (dgN t E 2 p) p = -n32 1 := if_pos (Or.inl q2)
        have ep : naP t (dgN t E 2 p) p = p := if_pos q2
        rw [en] at s2 r2 f2 f1
        rw [ep] at r2
        have lt0 : -n32 1 < n32 0 := by decide
        simp -implicitDefEqProofs (disch := omega) only [gP_p, gP_t, bnd_s, bnd2_s, ltt_s, jn_s, n32_nat, n32_le, n32_lt, n32_eq, n32_add, n32_sub, n32_dec, n32_mul, n32_div, n32_irm, n32_lit, n32_oN, n32_ix, n32_m1, n32_m2, neg_le0, neg_lt0, neg_lt1, neg_le1, n32_min, n32_max, if_true, if_false, Nat.one_ne_zero, gd_some, true_or, or_true, false_or, or_false, s1.mod, s2.mod, z18', en, sI_eq, sI_ne, sI_J, sI_R, sI_kO, sI_rK, sI_len, sJ_eq, sJ_ne, sJ_I, sJ_kO, sJ_rK, sJ_len, Nat.add_sub_cancel, lt0]
        exact stop _ 0 (by omega) s2 r2 (fun z => absurd z Bool.false_ne_true) f2 ⟨fun z => absurd z Bool.false_ne_true, fun z => absurd z.1 (by decide)⟩
      · rw [if_neg q2] at hr
        by_cases q3 : nm t (dgN t E 2 p) p 0 = 0
        · rw [if_pos q3] at hr
          subst hr
          have en : naV t (dgN t E 2 p) p = -n32 1 := if_pos (Or.inr q3)
          have ep : naP t (dgN t E 2 p) p = p + dgN t E 2 p - 1 := by unfold naP; rw [if_neg q2, if_pos q3]
          rw [en] at s2 r2 f2 f1
          rw [ep] at r2
          have lt0 : -n32 1 < n32 0 := by decide
          simp -implicitDefEqProofs (disch := omega) only [gP_p, gP_t, bnd_s, bnd2_s, ltt_s, jn_s, n32_nat, n32_le, n32_lt, n32_eq, n32_add, n32_sub, n32_dec, n32_mul, n32_div, n32_irm, n32_lit, n32_oN, n32_ix, n32_m1, n32_m2, neg_le0, neg_lt0, neg_lt1, neg_le1, n32_min, n32_max, if_true, if_false, Nat.one_ne_zero, gd_some, true_or, or_true, false_or, or_false, s1.mod, s2.mod, z18', en, sI_eq, sI_ne, sI_J, sI_R, sI_kO, sI_rK, sI_len, sJ_eq, sJ_ne, sJ_I, sJ_kO, sJ_rK, sJ_len, Nat.add_sub_cancel, lt0]
          exact stop _ 0 (by omega) s2 r2 (fun z => absurd z Bool.false_ne_true) f2 ⟨fun z => absurd z Bool.false_ne_true, fun z => absurd z.1 (by decide)⟩
        · rw [if_neg q3] at hr
          have en : naV t (dgN t E 2 p) p = n32 (nm t (dgN t E 2 p) p 0) := if_neg (fun z => z.elim q2 q3)
          have ep : naP t (dgN t E 2 p) p = p + dgN t E 2 p := by unfold naP; rw [if_neg q2, if_neg q3]
          rw [en] at s2 r2 f2 f1
          rw [ep] at r2
          have lv1 : MV6 (setI (setI h1 196 i (n32 (nm t (dgN t E 2 p) p 0))) 188 18 (n32 (i + 1))) (i + 1) (up v i (nm t (dgN t E 2 p) p 0)) := ⟨sI_eq, fun j hj => by
            by_cases e : j = i
            · subst e
              rw [sI_ne (by omega), sI_eq, up_eq]
            · rw [sI_ne (by omega), sI_ne (by omega), up_ne e, e3 196 j (by omega)]
              exact mv.2 j (by omega)⟩
          simp -implicitDefEqProofs (disch := omega) only [gP_p, gP_t, bnd_s, bnd2_s, ltt_s, jn_s, n32_nat, n32_le, n32_lt, n32_eq, n32_add, n32_sub, n32_dec, n32_mul, n32_div, n32_irm, n32_lit, n32_oN, n32_ix, n32_m1, n32_m2, neg_le0, neg_lt0, neg_lt1, neg_le1, n32_min, n32_max, if_true, if_false, Nat.one_ne_zero, gd_some, true_or, or_true, false_or, or_false, s1.mod, s2.mod, z18', en, sI_eq, sI_ne, sI_J, sI_R, sI_kO, sI_rK, sI_len, sJ_eq, sJ_ne, sJ_I, sJ_kO, sJ_rK, sJ_len, Nat.add_sub_cancel, Nat.not_lt_zero]
          rw [gd_bnd2]
          refine gd_mono (takes_m s2 r2 hE b1 tb (show 59 < 256 by omega)) ?_
          rintro ⟨w, h3⟩ ⟨w1, w2, w3⟩
          have w3' : h3 = _ := w3
          have f3 : fr [40] (setI (setI h1 196 i (n32 (nm t (dgN t E 2 p) p 0))) 188 18 (n32 (i + 1))) h3 := by
            rw [w3']
            exact (fr.rf _ _).sI rfl
          have lv3 : MV6 h3 (i + 1) (up v i (nm t (dgN t E 2 p) p 0)) := by
            rw [w3']
            exact ⟨by rw [sI_ne (by omega)]; exact lv1.1, fun j hj => by rw [sI_ne (by omega)]; exact lv1.2 j hj⟩
          have z3'' : h3.2.1 188 3 = n32 sz := by
            rw [w3', sI_ne (by omega), sI_ne (by omega), sI_ne (by omega)]
            exact z3'
          have s3 := s2.fr f3
          by_cases q4 : p + dgN t E 2 p = E
          · rw [if_pos q4] at hr
            subst hr
            have w1' : w = n32 0 := by
              have w1'' : w = n32 (if p + dgN t E 2 p < E ∧ t (p + dgN t E 2 p) = 59 then 1 else 0) := w1
              rw [w1'', if_neg (fun z => by omega)]
            have w2' : RM h3 t E (if p + dgN t E 2 p < E ∧ t (p + dgN t E 2 p) = 59 then p + dgN t E 2 p + 1 else p + dgN t E 2 p) := w2
            rw [if_neg (fun z => by omega), q4] at w2'
            subst w1'
            simp -implicitDefEqProofs (disch := omega) only [gP_p, gP_t, bnd_s, bnd2_s, ltt_s, jn_s, n32_nat, n32_le, n32_lt, n32_eq, n32_add, n32_sub, n32_dec, n32_mul, n32_div, n32_irm, n32_lit, n32_oN, n32_ix, n32_m1, n32_m2, neg_le0, neg_lt0, neg_lt1, neg_le1, n32_min, n32_max, if_true, if_false, Nat.one_ne_zero, gd_some, true_or, or_true, false_or, or_false]
            exact stop h3 1 (by omega) s3 w2' (fun _ => lv3) (f2.tr f3) ⟨fun _ => ⟨rfl, rfl⟩, fun _ => rfl⟩
          · rw [if_neg q4] at hr
            by_cases q5 : t (p + dgN t E 2 p) = 59
            · rw [if_pos q5] at hr
              have q6 : p + dgN t E 2 p < E ∧ t (p + dgN t E 2 p) = 59 := ⟨by omega, q5⟩
              have w1' : w = n32 1 := by
                have w1'' : w = n32 (if p + dgN t E 2 p < E ∧ t (p + dgN t E 2 p) = 59 then 1 else 0) := w1
                rw [w1'', if_pos q6]
              have w2' : RM h3 t E (if p + dgN t E 2 p < E ∧ t (p + dgN t E 2 p) = 59 then p + dgN t E 2 p + 1 else p + dgN t E 2 p) := w2
              rw [if_pos q6] at w2'
              subst w1'
              simp -implicitDefEqProofs (disch := omega) only [gP_p, gP_t, bnd_s, bnd2_s, ltt_s, jn_s, n32_nat, n32_le, n32_lt, n32_eq, n32_add, n32_sub, n32_dec, n32_mul, n32_div, n32_irm, n32_lit, n32_oN, n32_ix, n32_m1, n32_m2, neg_le0, neg_lt0, neg_lt1, neg_le1, n32_min, n32_max, if_true, if_false, Nat.one_ne_zero, gd_some, true_or, or_true, false_or, or_false]
              exact ih (i + 1) _ (k' + 1) _ h3 _ (by omega) (by omega) (by omega) (by omega) s3 z3'' w2' lv3 (f2.tr f3) hr
            · rw [if_neg q5] at hr
              subst hr
              have w1' : w = n32 0 := by
                have w1'' : w = n32 (if p + dgN t E 2 p < E ∧ t (p + dgN t E 2 p) = 59 then 1 else 0) := w1
                rw [w1'', if_neg (fun z => q5 z.2)]
              have w2' : RM h3 t E (if p + dgN t E 2 p < E ∧ t (p + dgN t E 2 p) = 59 then p + dgN t E 2 p + 1 else p + dgN t E 2 p) := w2
              rw [if_neg (fun z => q5 z.2)] at w2'
              subst w1'
              simp -implicitDefEqProofs (disch := omega) only [gP_p, gP_t, bnd_s, bnd2_s, ltt_s, jn_s, n32_nat, n32_le, n32_lt, n32_eq, n32_add, n32_sub, n32_dec, n32_mul, n32_div, n32_irm, n32_lit, n32_oN, n32_ix, n32_m1, n32_m2, neg_le0, neg_lt0, neg_lt1, neg_le1, n32_min, n32_max, if_true, if_false, Nat.one_ne_zero, gd_some, true_or, or_true, false_or, or_false]
              exact stop h3 1 (by omega) s3 w2' (fun z => absurd z Bool.false_ne_true) (f2.tr f3) ⟨fun z => absurd z Bool.false_ne_true, fun z => absurd z.2 q4⟩
def gN (g : Nat → Nat) (sz : Nat) (v : Nat → Nat) : Nat → Nat := fun m => if m < sz then g m else v (m - sz)
/-- nothing but the goods and the size -/
def oG (h0 h : HP) : Prop := ∀ a j, a ≠ 155 → ¬ (a = 5 ∧ j = 2) → h.2.1 a j = h0.2.1 a j
theorem CR.oG {h0 h : HP} {r : Nat → Nat} (s : CR h0 5 r) (o : oG h0 h) : CR h 5 r := by
  obtain ⟨s0, s1, s2, s3, s4, s5⟩ := s
  exact ⟨fun k m hk hm => by rw [o _ _ (by omega) (by omega)]; exact s0 k m hk hm, fun k m hk hm => by rw [o _ _ (by omega) (by omega)]; exact s1 k m hk hm, by rw [o _ _ (by omega) (by omega)]; exact s2, by rw [o _ _ (by omega) (by omega)]; exact s3, by rw [o _ _ (by omega) (by omega)]; exact s4, by rw [o _ _ (by omega) (by omega)]; exact s5⟩
theorem amk_x {N cnt sz : Nat} {g v : Nat → Nat} {b c : Bool} {k : HP → Option (Int32 × HP)} {Q : Int32 × HP → Prop} (hs : sz + cnt ≤ 6) (h0 : HP) (K : ∀ h', SH b c h' → LV h' cnt v → h'.2.1 5 2 = n32 (sz + cnt) → (∀ m, m < sz + cnt → h'.2.1 155 m = n32 (gN g sz v m)) → oG h0 h' → fr [8, 3] h0 h' → gd (k h') Q) : ∀ (d i fuel : Nat) (h : HP), i + d = cnt → d < fuel → SH b c h → LV h cnt v → h.2.1 5 2 = n32 (sz + i) → (∀ m, m < sz + i → h.2.1 155 m = n32 (gN g sz v m)) → oG h0 h → fr [8, 3] h0 h → gd (lp (fun _ _ => none) (f_X9_markets_B43 N 0 k) fuel (n32 i) h) Q := by
  intro d
  induction d with
  | zero =>
    intro i fuel h hi hf s lv z g1 o f
    obtain ⟨k', rfl⟩ : ∃ k, fuel = k + 1 := ⟨fuel - 1, by omega⟩
    have e : i = cnt := by omega
    subst e
    have l1 := lv.1
    rw [lp_s, f_X9_markets_B43]
    simp -implicitDefEqProofs (disch := omega) only [gP_p, gP_t, bnd_s, bnd2_s, ltt_s, jn_s, n32_nat, n32_le, n32_lt, n32_eq, n32_add, n32_sub, n32_dec, n32_mul, n32_div, n32_irm, n32_lit, n32_oN, n32_ix, n32_m1, n32_m2, neg_le0, neg_lt0, neg_lt1, neg_le1, n32_min, n32_max, if_true, if_false, Nat.one_ne_zero, gd_some, true_or, or_true, false_or, or_false, s.root, l1, Nat.le_refl]
    exact K h s lv z g1 o f
  | succ d ih =>
    intro i fuel h hi hf s lv z g1 o f
    obtain ⟨k', rfl⟩ : ∃ k, fuel = k + 1 := ⟨fuel - 1, by omega⟩
    have e : ¬ cnt ≤ i := by omega
    have e6 : ¬ 6 ≤ sz + i := by omega
    have l1 := lv.1
    have l2 := lv.2 i (by omega)
    have f1 : fr [8, 3] h (setI (setI h 155 (sz + i) (n32 (v i))) 5 2 (n32 (sz + i + 1))) := ((fr.rf _ _).sI rfl).sI rfl
    rw [lp_s, f_X9_markets_B43]
    unfold f_X9_addMarket f_X0_grow
    simp -implicitDefEqProofs (disch := omega) only [gP_p, gP_t, bnd_s, bnd2_s, ltt_s, jn_s, n32_nat, n32_le, n32_lt, n32_eq, n32_add, n32_sub, n32_dec, n32_mul, n32_div, n32_irm, n32_lit, n32_oN, n32_ix, n32_m1, n32_m2, neg_le0, neg_lt0, neg_lt1, neg_le1, n32_min, n32_max, if_true, if_false, Nat.one_ne_zero, gd_some, true_or, or_true, false_or, or_false, s.root, l1, e, l2, z, e6, sI_eq, sI_ne, sI_J, sI_R, sI_kO, sI_rK, sI_len, sJ_eq, sJ_ne, sJ_I, sJ_kO, sJ_rK, sJ_len]
    refine ih (i + 1) k' _ (by omega) (by omega) (s.fr f1) ?_ ?_ (fun m hm => ?_) (fun a j h1 h2 => ?_) (f.tr f1)
    · exact ⟨by rw [sI_ne (by omega), sI_ne (by omega)]; exact l1, fun j hj => by rw [sI_ne (by omega), sI_ne (by omega)]; exact lv.2 j hj⟩
    · rw [sI_eq, Nat.add_assoc]
    · rw [sI_ne (by omega)]
      by_cases q : m = sz + i
      · subst q
        rw [sI_eq]
        unfold gN
        rw [if_neg (by omega), Nat.add_sub_cancel_left]
      · rw [sI_ne (by omega)]
        exact g1 m (by omega)
    · rw [sI_ne (by omega), sI_ne (by omega)]
      exact o a j h1 h2
theorem zer_m {N m : Nat} {r : Nat → Nat} {b c : Bool} {x5 : Int32} {k : HP → Option (Int32 × HP)} {Q : Int32 × HP → Prop} (hm : m < 6) (hz : ∀ x, x < 4 → r (6 * x + m) = 0) (h0 : HP) (K : ∀ h', SH b c h' → MR h' 193 r → (∀ a j, a ≠ 193 → h'.2.1 a j = h0.2.1 a j) → fr [30] h0 h' → gd (k h') Q) : ∀ (d x fuel : Nat) (h : HP), x + d = 4 → d < fuel → SH b c h → MR h 193 r → h.2.1 188 3 = n32 m → (∀ a j, a ≠ 193 → h.2.1 a j = h0.2.1 a j) → fr [30] h0 h → gd (lp (fun _ _ => none) (f_X10_markets_B109 N 188 x5 k) fuel (n32 x) h) Q := by
  intro d
  induction d with
  | zero =>
    intro x fuel h hx hf s mr z o f
    obtain ⟨k', rfl⟩ : ∃ k, fuel = k + 1 := ⟨fuel - 1, by omega⟩
    have e : 4 ≤ x := by omega
    rw [lp_s, f_X10_markets_B109]
    simp -implicitDefEqProofs (disch := omega) only [gP_p, gP_t, bnd_s, bnd2_s, ltt_s, jn_s, n32_nat, n32_le, n32_lt, n32_eq, n32_add, n32_sub, n32_dec, n32_mul, n32_div, n32_irm, n32_lit, n32_oN, n32_ix, n32_m1, n32_m2, neg_le0, neg_lt0, neg_lt1, neg_le1, n32_min, n32_max, if_true, if_false, Nat.one_ne_zero, gd_some, true_or, or_true, false_or, or_false, e]
    exact K h s mr o f
  | succ d ih =>
    intro x fuel h hx hf s mr z o f
    obtain ⟨k', rfl⟩ : ∃ k, fuel = k + 1 := ⟨fuel - 1, by omega⟩
    have e : ¬ 4 ≤ x := by omega
    have f1 : fr [30] h (setI h 193 (6 * x + m) (n32 0)) := (fr.rf _ _).sI rfl
    have hz' := hz x (by omega)
    rw [lp_s, f_X10_markets_B109]
    simp -implicitDefEqProofs (disch := omega) only [gP_p, gP_t, bnd_s, bnd2_s, ltt_s, jn_s, n32_nat, n32_le, n32_lt, n32_eq, n32_add, n32_sub, n32_dec, n32_mul, n32_div, n32_irm, n32_lit, n32_oN, n32_ix, n32_m1, n32_m2, neg_le0, neg_lt0, neg_lt1, neg_le1, n32_min, n32_max, if_true, if_false, Nat.one_ne_zero, gd_some, true_or, or_true, false_or, or_false, e, s.mod, z]
    refine ih (x + 1) k' _ (by omega) (by omega) (s.fr f1) (fun j hj => ?_) (by rw [sI_ne (by omega)]; exact z) (fun a j ha => by rw [sI_ne (by omega)]; exact o a j ha) (f.tr f1)
    by_cases q : j = 6 * x + m
    · subst q
      rw [sI_eq, hz']
    · rw [sI_ne (by omega)]
      exact mr j hj
theorem amk_m {N cnt sz : Nat} {g v r : Nat → Nat} {b c : Bool} {k : HP → Option (Int32 × HP)} {Q : Int32 × HP → Prop} (hN : 10 < N) (hs : sz + cnt ≤ 6) (zb : ZB sz r) (h0 : HP) (K : ∀ h', SH b c h' → MV6 h' cnt v → h'.2.1 188 3 = n32 (sz + cnt) → (∀ m, m < sz + cnt → h'.2.1 192 m = n32 (gN g sz v m)) → MR h' 193 r → fr [29, 30, 23] h0 h' → gd (k h') Q) : ∀ (d i fuel : Nat) (h : HP), i + d = cnt → d < fuel → SH b c h → MV6 h cnt v → h.2.1 188 3 = n32 (sz + i) → (∀ m, m < sz + i → h.2.1 192 m = n32 (gN g sz v m)) → MR h 193 r → fr [29, 30, 23] h0 h → gd (lp (fun _ _ => none) (f_X10_markets_B81 N 188 k) fuel (n32 i) h) Q := by
  intro d
  induction d with
  | zero =>
    intro i fuel h hi hf s lv z g1 mr f
    obtain ⟨k', rfl⟩ : ∃ k, fuel = k + 1 := ⟨fuel - 1, by omega⟩
    have e : i = cnt := by omega
    subst e
    have l1 := lv.1
    rw [lp_s, f_X10_markets_B81]
    simp -implicitDefEqProofs (disch := omega) only [gP_p, gP_t, bnd_s, bnd2_s, ltt_s, jn_s, n32_nat, n32_le, n32_lt, n32_eq, n32_add, n32_sub, n32_dec, n32_mul, n32_div, n32_irm, n32_lit, n32_oN, n32_ix, n32_m1, n32_m2, neg_le0, neg_lt0, neg_lt1, neg_le1, n32_min, n32_max, if_true, if_false, Nat.one_ne_zero, gd_some, true_or, or_true, false_or, or_false, l1, Nat.le_refl]
    exact K h s lv z g1 mr f
  | succ d ih =>
    intro i fuel h hi hf s lv z g1 mr f
    obtain ⟨k', rfl⟩ : ∃ k, fuel = k + 1 := ⟨fuel - 1, by omega⟩
    have e : ¬ cnt ≤ i := by omega
    have l1 := lv.1
    have l2 := lv.2 i (by omega)
    have f1 : fr [29] h (setI h 192 (sz + i) (n32 (v i))) := (fr.rf _ _).sI rfl
    rw [lp_s, f_X10_markets_B81]
    simp -implicitDefEqProofs (disch := omega) only [gP_p, gP_t, bnd_s, bnd2_s, ltt_s, jn_s, n32_nat, n32_le, n32_lt, n32_eq, n32_add, n32_sub, n32_dec, n32_mul, n32_div, n32_irm, n32_lit, n32_oN, n32_ix, n32_m1, n32_m2, neg_le0, neg_lt0, neg_lt1, neg_le1, n32_min, n32_max, if_true, if_false, Nat.one_ne_zero, gd_some, true_or, or_true, false_or, or_false, s.mod, l1, e, l2, z]
    refine zer_m (N := N) (m := sz + i) (r := r) (by omega) (fun x hx => ?_) (setI h 192 (sz + i) (n32 (v i))) (fun h2 s2 m2 o2 f2 => ?_) 4 0 N _ (by omega) (by omega) (s.fr f1) (fun j hj => by rw [sI_ne (by omega)]; exact mr j hj) (by rw [sI_ne (by omega)]; exact z) (fun a j _ => rfl) (fr.rf _ _)
    · rcases (show x = 0 ∨ x = 1 ∨ x = 2 ∨ x = 3 by omega) with rfl | rfl | rfl | rfl
      · exact (zb 0 (sz + i) (by omega) (by omega) (by omega)).1
      · exact (zb 1 (sz + i) (by omega) (by omega) (by omega)).1
      · have := (zb 0 (sz + i) (by omega) (by omega) (by omega)).2
        rw [show 6 * 2 + (sz + i) = 12 + (6 * 0 + (sz + i)) by omega]
        exact this
      · have := (zb 1 (sz + i) (by omega) (by omega) (by omega)).2
        rw [show 6 * 3 + (sz + i) = 12 + (6 * 1 + (sz + i)) by omega]
        exact this
    · have z2 : h2.2.1 188 3 = n32 (sz + i) := by
        rw [o2 _ _ (by omega), sI_ne (by omega)]
        exact z
      have f3 : fr [23] h2 (setI h2 188 3 (n32 (sz + i + 1))) := (fr.rf _ _).sI rfl
      simp -implicitDefEqProofs (disch := omega) only [gP_p, gP_t, bnd_s, bnd2_s, ltt_s, jn_s, n32_nat, n32_le, n32_lt, n32_eq, n32_add, n32_sub, n32_dec, n32_mul, n32_div, n32_irm, n32_lit, n32_oN, n32_ix, n32_m1, n32_m2, neg_le0, neg_lt0, neg_lt1, neg_le1, n32_min, n32_max, if_true, if_false, Nat.one_ne_zero, gd_some, true_or, or_true, false_or, or_false, z2]
      refine ih (i + 1) k' _ (by omega) (by omega) (s2.fr f3) ⟨?_, fun j hj => ?_⟩ ?_ (fun m hm => ?_) (fun j hj => by rw [sI_ne (by omega)]; exact m2 j hj) (((f.tr (f1.mono (by decide))).tr (f2.mono (by decide))).tr (f3.mono (by decide)))
      · rw [sI_ne (by omega), o2 _ _ (by omega), sI_ne (by omega)]
        exact l1
      · rw [sI_ne (by omega), o2 _ _ (by omega), sI_ne (by omega)]
        exact lv.2 j hj
      · rw [sI_eq, Nat.add_assoc]
      · rw [sI_ne (by omega), o2 _ _ (by omega)]
        by_cases q : m = sz + i
        · subst q
          rw [sI_eq]
          unfold gN
          rw [if_neg (by omega), Nat.add_sub_cancel_left]
        · rw [sI_ne (by omega)]
          exact g1 m (by omega)
