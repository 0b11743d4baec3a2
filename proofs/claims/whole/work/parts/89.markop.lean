/-! ===== markets: the operation ===== -/
def lnQ (r : LR) (E : Nat) : Nat := if r.1 = true then E else r.2.1
theorem lnC_f {r : LR} {n E : Nat} (h : r.1 = true ∧ n ≤ E) : lnC r n E = -n32 1 := by unfold lnC; rw [if_pos h.1, if_pos h.2]
theorem lnC_q {r : LR} {n E : Nat} (h : ¬ (r.1 = true ∧ n ≤ E)) : lnC r n E = n32 (lnQ r E) := by
  unfold lnC lnQ
  by_cases q : r.1 = true
  · rw [if_pos q, if_pos q, if_neg (fun z => h ⟨q, z⟩)]
  · rw [if_neg q, if_neg q]
theorem clr_x {h : HP} {b c : Bool} (s : SH b c h) : f_X8_empty h 1 = some (setI h 1 1 (n32 0)) := by
  unfold f_X8_empty
  simp -implicitDefEqProofs (disch := omega) only [s.root, gP_p, gP_t, bnd_s, bnd2_s, ltt_s, jn_s, n32_nat, n32_le, n32_lt, n32_eq, n32_add, n32_sub, n32_dec, n32_mul, n32_div, n32_irm, n32_lit, n32_oN, n32_ix, n32_m1, n32_m2, neg_le0, neg_lt0, neg_lt1, neg_le1, n32_min, n32_max, if_true, if_false, Nat.one_ne_zero, gd_some, true_or, or_true, false_or, or_false]
theorem marX {h : HP} {t g : Nat → Nat} {r : Nat → Nat} {n sz : Nat} {b c : Bool} (s : SH b c h) (tx : TxX h t n) (tb : ∀ i, i < n → t i < 256) (hn : n ≤ 80) (z : h.2.1 5 2 = n32 sz) (hz : sz ≤ 6) (gx : GX h sz g) (cr : CR h 5 r) (R : LR) (hR : lnT t n (min n 17) 2 (6 - sz) = R) :
    (¬ (R.1 = true ∧ n ≤ min n 17) → gd (f_X9_markets 200 h 0) (fun p => p.1 = -n32 1 - n32 (lnQ R (min n 17)) ∧ TxX p.2 t 0 ∧ fr [10, 1] h p.2)) ∧
    (R.1 = true ∧ n ≤ min n 17 → gd (f_X9_markets 200 h 0) (fun p => p.1 = n32 R.2.2.1 ∧ p.2.2.1 5 2 = n32 (sz + R.2.2.1) ∧ (∀ m, m < sz + R.2.2.1 → p.2.2.1 155 m = n32 (gN g sz R.2.2.2 m)) ∧ CR p.2 5 r ∧ TxX p.2 t 0 ∧ (0 < R.2.2.1 → p.2.2.1 26 2 = n32 0 ∧ p.2.2.1 26 1 = h.2.1 26 1) ∧ fr [10, 1, 8, 3, 6] h p.2 ∧ (R.2.2.1 = 0 → fr [10, 1, 8, 3] h p.2))) := by
  obtain ⟨k1, k2, k3, k4⟩ := lnT_ok (t := t) (n := n) (E := min n 17) (m := 2) (cap := 6 - sz)
  rw [hR] at k1 k2 k3 k4
  have rd := read_x (N := 200) (M := 17) (m := 2) (cap := 6 - sz) (by omega) s tx tb hn (by omega) (by omega) (by omega) (by omega)
  rw [hR] at rd
  refine ⟨fun bad => ?_, fun ok => ?_⟩
  · unfold f_X9_markets
    simp -implicitDefEqProofs (disch := omega) only [s.root, gP_p, gP_t, bnd_s, bnd2_s, ltt_s, jn_s, n32_nat, n32_le, n32_lt, n32_eq, n32_add, n32_sub, n32_dec, n32_mul, n32_div, n32_irm, n32_lit, n32_oN, n32_ix, n32_m1, n32_m2, neg_le0, neg_lt0, neg_lt1, neg_le1, n32_min, n32_max, if_true, if_false, Nat.one_ne_zero, gd_some, true_or, or_true, false_or, or_false, z, gd_bnd2]
    refine gd_mono rd ?_
    rintro ⟨u, h1⟩ ⟨e1, e2, e3⟩
    have e1' : u = n32 (lnQ R (min n 17)) := (show u = lnC R n (min n 17) from e1).trans (lnC_q bad)
    subst e1'
    have s1 := s.fr e3
    have lq : lnQ R (min n 17) ≤ 17 := by unfold lnQ; split <;> omega
    have f1 : fr [1] h1 (setI h1 1 1 (n32 0)) := (fr.rf _ _).sI rfl
    simp -implicitDefEqProofs (disch := omega) only [gP_p, gP_t, bnd_s, bnd2_s, ltt_s, jn_s, n32_nat, n32_le, n32_lt, n32_eq, n32_add, n32_sub, n32_dec, n32_mul, n32_div, n32_irm, n32_lit, n32_oN, n32_ix, n32_m1, n32_m2, neg_le0, neg_lt0, neg_lt1, neg_le1, n32_min, n32_max, if_true, if_false, Nat.one_ne_zero, gd_some, true_or, or_true, false_or, or_false, s1.root, clr_x s1]
    exact ⟨trivial, ⟨sI_eq, fun i hi => absurd hi (Nat.not_lt_zero i)⟩, (e3.mono (by decide)).tr (f1.mono (by decide))⟩
  · unfold f_X9_markets
    simp -implicitDefEqProofs (disch := omega) only [s.root, gP_p, gP_t, bnd_s, bnd2_s, ltt_s, jn_s, n32_nat, n32_le, n32_lt, n32_eq, n32_add, n32_sub, n32_dec, n32_mul, n32_div, n32_irm, n32_lit, n32_oN, n32_ix, n32_m1, n32_m2, neg_le0, neg_lt0, neg_lt1, neg_le1, n32_min, n32_max, if_true, if_false, Nat.one_ne_zero, gd_some, true_or, or_true, false_or, or_false, z, gd_bnd2]
    refine gd_mono rd ?_
    rintro ⟨u, h1⟩ ⟨e1, e2, e3⟩
    have e1' : u = -n32 1 := (show u = lnC R n (min n 17) from e1).trans (lnC_f ok)
    subst e1'
    have s1 := s.fr e3
    have lv := e2 ok.1
    have f1 : fr [1] h1 (setI h1 1 1 (n32 0)) := (fr.rf _ _).sI rfl
    have f2 : fr [10, 1] h (setI h1 1 1 (n32 0)) := (e3.mono (by decide)).tr (f1.mono (by decide))
    have key := amk_x (N := 200) (cnt := R.2.2.1) (sz := sz) (g := g) (v := R.2.2.2) (b := b) (c := c) (k := fun (h54 : HP) => bnd (rK h54 0 9 3) (fun t56 => (if (h54.2.1 t56 1) ≤ n32 0 then bnd (rK h54 0 9 3) (fun t62 => some ((h54.2.1 t62 1), h54)) else bnd (rK h54 0 5 5) (fun t67 => bnd (f_X5_clear h54 t67) (fun h72 => bnd (rK h72 0 9 3) (fun t76 => some ((h72.2.1 t76 1), h72))))))) (Q := fun p => p.1 = n32 R.2.2.1 ∧ p.2.2.1 5 2 = n32 (sz + R.2.2.1) ∧ (∀ m, m < sz + R.2.2.1 → p.2.2.1 155 m = n32 (gN g sz R.2.2.2 m)) ∧ CR p.2 5 r ∧ TxX p.2 t 0 ∧ (0 < R.2.2.1 → p.2.2.1 26 2 = n32 0 ∧ p.2.2.1 26 1 = h.2.1 26 1) ∧ fr [10, 1, 8, 3, 6] h p.2 ∧ (R.2.2.1 = 0 → fr [10, 1, 8, 3] h p.2)) (by omega) (setI h1 1 1 (n32 0)) (fun g1 s2 lv2 z2 gg o f3 => by
      have l1 := lv2.1
      have f4 : fr [10, 1, 8, 3] h g1 := (f2.mono (by decide)).tr (f3.mono (by decide))
      have cr2 : CR g1 5 r := (cr_frc cr (q := 3) rfl (by omega) rc5 f2 (by decide)).oG o
      have t2 : TxX g1 t 0 := ⟨by rw [f3.ai [1] (by decide) 1 1 rfl, sI_eq], fun i hi => absurd hi (Nat.not_lt_zero i)⟩
      by_cases q : R.2.2.1 ≤ 0
      · simp -implicitDefEqProofs (disch := omega) only [gP_p, gP_t, bnd_s, bnd2_s, ltt_s, jn_s, n32_nat, n32_le, n32_lt, n32_eq, n32_add, n32_sub, n32_dec, n32_mul, n32_div, n32_irm, n32_lit, n32_oN, n32_ix, n32_m1, n32_m2, neg_le0, neg_lt0, neg_lt1, neg_le1, n32_min, n32_max, if_true, if_false, Nat.one_ne_zero, gd_some, true_or, or_true, false_or, or_false, s2.root, l1, q]
        exact ⟨trivial, z2, gg, cr2, t2, fun z => absurd z (by omega), f4.mono (by decide), fun _ => f4⟩
      · unfold f_X5_clear
        have f5 : fr [6] g1 (setI g1 26 2 (n32 0)) := (fr.rf _ _).sI rfl
        simp -implicitDefEqProofs (disch := omega) only [gP_p, gP_t, bnd_s, bnd2_s, ltt_s, jn_s, n32_nat, n32_le, n32_lt, n32_eq, n32_add, n32_sub, n32_dec, n32_mul, n32_div, n32_irm, n32_lit, n32_oN, n32_ix, n32_m1, n32_m2, neg_le0, neg_lt0, neg_lt1, neg_le1, n32_min, n32_max, if_true, if_false, Nat.one_ne_zero, gd_some, true_or, or_true, false_or, or_false, s2.root, l1, q, sI_eq, sI_ne, sI_J, sI_R, sI_kO, sI_rK, sI_len, sJ_eq, sJ_ne, sJ_I, sJ_kO, sJ_rK, sJ_len]
        exact ⟨trivial, z2, gg, cr_frc cr2 (q := 3) rfl (by omega) rc5 f5 (by decide), t2.fr f5 (by decide), fun _ => ⟨trivial, f4.ai [6] (by decide) 26 1 rfl⟩, (f4.mono (by decide)).tr (f5.mono (by decide)), fun z => absurd z (by omega)⟩) R.2.2.1 0 200 (setI h1 1 1 (n32 0)) (by omega) (by omega) (s1.fr f1) ⟨by rw [sI_ne (by omega)]; exact lv.1, fun j hj => by rw [sI_ne (by omega)]; exact lv.2 j hj⟩ (by rw [f2.ai [3] (by decide) 5 2 rfl]; exact z) (fun m hm => by rw [f2.ai [8] (by decide) 155 m rfl]; unfold gN; rw [if_pos (by omega)]; exact gx m (by omega)) (fun _ _ _ _ => rfl) (fr.rf _ _)
    simp -implicitDefEqProofs (disch := omega) only [gP_p, gP_t, bnd_s, bnd2_s, ltt_s, jn_s, n32_nat, n32_le, n32_lt, n32_eq, n32_add, n32_sub, n32_dec, n32_mul, n32_div, n32_irm, n32_lit, n32_oN, n32_ix, n32_m1, n32_m2, neg_le0, neg_lt0, neg_lt1, neg_le1, n32_min, n32_max, if_true, if_false, Nat.one_ne_zero, gd_some, true_or, or_true, false_or, or_false, s1.root, clr_x s1]
    exact key
theorem marM {h : HP} {t g : Nat → Nat} {r : Nat → Nat} {n sz ch : Nat} {b c : Bool} (s : SH b c h) (tm : TxM h t n) (tb : ∀ i, i < n → t i < 256) (hn : n ≤ 80) (z : h.2.1 188 3 = n32 sz) (hz : sz ≤ 6) (gx : GM h sz g) (mr : MR h 193 r) (zb : ZB sz r) (hch : h.2.1 188 4 = n32 ch) (R : LR) (hR : lnT t n (min n 17) 2 (6 - sz) = R) :
    (¬ (R.1 = true ∧ n ≤ min n 17) → gd (f_X10_markets 200 h 188) (fun p => p.1 = -n32 1 - n32 (lnQ R (min n 17)) ∧ TxM p.2 t 0 ∧ fr [50, 21, 40] h p.2)) ∧
    (R.1 = true ∧ n ≤ min n 17 → gd (f_X10_markets 200 h 188) (fun p => p.1 = n32 R.2.2.1 ∧ p.2.2.1 188 3 = n32 (sz + R.2.2.1) ∧ (∀ m, m < sz + R.2.2.1 → p.2.2.1 192 m = n32 (gN g sz R.2.2.2 m)) ∧ MR p.2 193 r ∧ TxM p.2 t 0 ∧ (0 < R.2.2.1 → p.2.2.1 188 25 = n32 0 ∧ p.2.2.1 188 4 = n32 (ch + 1)) ∧ (∀ a j, 216 ≤ a → a < 219 → p.2.2.1 a j = h.2.1 a j) ∧ fr [50, 21, 40, 29, 30, 23, 26, 27] h p.2 ∧ (R.2.2.1 = 0 → fr [50, 21, 40, 29, 30, 23] h p.2))) := by
  obtain ⟨k1, k2, k3, k4⟩ := lnT_ok (t := t) (n := n) (E := min n 17) (m := 2) (cap := 6 - sz)
  rw [hR] at k1 k2 k3 k4
  have f0 : fr [50] h (setI h 188 0 (n32 0)) := (fr.rf _ _).sI rfl
  have main : ∀ (Q : Int32 × HP → Prop), (∀ h' gg, gg ≤ 1 → SH b c h' → RM h' t (min n 17) R.2.1 → (R.1 = true → MV6 h' R.2.2.1 R.2.2.2) → fr [50, 21, 40] h h' → TxM h' t 0 → (R.1 = true ↔ gg = 1 ∧ R.2.1 = min n 17) → gd (bnd (f_X10_faultOf h' 188 (n32 n) (n32 17) (n32 gg)) (fun v30 => (if n32 0 ≤ v30 then lp (fun _ _ => none) (f_X10_markets_B81 200 188 (fun (h69 : HP) => (if (h69.2.1 188 18) ≤ n32 0 then some ((h69.2.1 188 18), h69) else lt_ (setI h69 188 25 (n32 0)) (fun h72 => lt_ (setI h72 188 4 ((h72.2.1 188 4) + n32 1)) (fun h75 => some ((h75.2.1 188 18), h75)))))) 200 (n32 0) h' else some (v30, h')))) Q) → gd (f_X10_markets 200 h 188) Q := by
    intro Q K
    unfold f_X10_markets
    simp -implicitDefEqProofs (disch := omega) only [s.mod, gP_p, gP_t, bnd_s, bnd2_s, ltt_s, jn_s, n32_nat, n32_le, n32_lt, n32_eq, n32_add, n32_sub, n32_dec, n32_mul, n32_div, n32_irm, n32_lit, n32_oN, n32_ix, n32_m1, n32_m2, neg_le0, neg_lt0, neg_lt1, neg_le1, n32_min, n32_max, if_true, if_false, Nat.one_ne_zero, gd_some, true_or, or_true, false_or, or_false, gd_bnd2]
    refine gd_mono (begins_m (s.fr f0) (tm.fr f0 (by decide)) hn (show 17 ≤ 80 by omega)) ?_
    rintro ⟨u, h1⟩ ⟨e1, e2, e3, e4, -⟩
    have e1' : u = n32 n := e1
    subst e1'
    have e2' : RM h1 t (min n 17) 0 := e2
    have s1 := (s.fr f0).fr e4
    have f1 : fr [40] h1 (setI h1 188 18 (n32 0)) := (fr.rf _ _).sI rfl
    have f2 : fr [50, 21, 40] h (setI h1 188 18 (n32 0)) := ((f0.mono (by decide)).tr (e4.mono (by decide))).tr (f1.mono (by decide))
    have r1 : RM (setI h1 188 18 (n32 0)) t (min n 17) 0 := e2'.ne (by omega) (by omega) (by omega)
    have t1 : TxM (setI h1 188 18 (n32 0)) t 0 := e3.fr f1 (by decide)
    have m1 : MV6 (setI h1 188 18 (n32 0)) 0 (fun _ => 0) := ⟨sI_eq, fun j hj => absurd hj (Nat.not_lt_zero j)⟩
    have z3 : (setI h1 188 18 (n32 0)).2.1 188 3 = n32 sz := by rw [f2.ai [23] (by decide) 188 3 rfl]; exact z
    by_cases q : n = 0
    · subst q
      have hR' : R = (true, 0, 0, fun _ => 0) := hR.symm
      subst hR'
      have key := K _ 1 (by omega) (s1.fr f1) r1 (fun _ => m1) f2 t1 ⟨fun _ => ⟨rfl, (Nat.zero_min 17).symm⟩, fun _ => rfl⟩
      simp -implicitDefEqProofs (disch := omega) only [gP_p, gP_t, bnd_s, bnd2_s, ltt_s, jn_s, n32_nat, n32_le, n32_lt, n32_eq, n32_add, n32_sub, n32_dec, n32_mul, n32_div, n32_irm, n32_lit, n32_oN, n32_ix, n32_m1, n32_m2, neg_le0, neg_lt0, neg_lt1, neg_le1, n32_min, n32_max, if_true, if_false, Nat.one_ne_zero, gd_some, true_or, or_true, false_or, or_false, Nat.le_refl]
      rw [show (200 : Nat) = 199 + 1 from rfl, lp_s, f_X10_markets_B29]
      simp -implicitDefEqProofs (disch := omega) only [gP_p, gP_t, bnd_s, bnd2_s, ltt_s, jn_s, n32_nat, n32_le, n32_lt, n32_eq, n32_add, n32_sub, n32_dec, n32_mul, n32_div, n32_irm, n32_lit, n32_oN, n32_ix, n32_m1, n32_m2, neg_le0, neg_lt0, neg_lt1, neg_le1, n32_min, n32_max, if_true, if_false, Nat.one_ne_zero, gd_some, true_or, or_true, false_or, or_false]
      simp -implicitDefEqProofs (disch := omega) only [gP_p, gP_t, bnd_s, bnd2_s, ltt_s, jn_s, n32_nat, n32_le, n32_lt, n32_eq, n32_add, n32_sub, n32_dec, n32_mul, n32_div, n32_irm, n32_lit, n32_oN, n32_ix, n32_m1, n32_m2, neg_le0, neg_lt0, neg_lt1, neg_le1, n32_min, n32_max, if_true, if_false, Nat.one_ne_zero, gd_some, true_or, or_true, false_or, or_false] at key
      exact key
    · have hR' : lnR t (min n 17) 2 (6 - sz) (6 - sz + 1) 0 0 (fun _ => 0) = R := by
        rw [← hR]
        unfold lnT
        rw [if_neg q]
      have key := mk_m (N := 200) (b := b) (c := c) (x1 := n32 n) (k := fun (x27 : Int32) (h28 : HP) => bnd (f_X10_faultOf h28 188 (n32 n) (n32 17) x27) (fun v30 => (if n32 0 ≤ v30 then lp (fun _ _ => none) (f_X10_markets_B81 200 188 (fun (h69 : HP) => (if (h69.2.1 188 18) ≤ n32 0 then some ((h69.2.1 188 18), h69) else lt_ (setI h69 188 25 (n32 0)) (fun h72 => lt_ (setI h72 188 4 ((h72.2.1 188 4) + n32 1)) (fun h75 => some ((h75.2.1 188 18), h75)))))) 200 (n32 0) h28 else some (v30, h28)))) (Q := Q) (by omega) (show min n 17 ≤ 80 by omega) (fun i hi => tb i (by omega)) (show 6 - sz + sz = 6 by omega) (setI h1 188 18 (n32 0)) R (fun h' gg hg s' r' m' f' e' => K h' gg hg s' r' m' (f2.tr (f'.mono (by decide))) (t1.fr f' (by decide)) e') (6 - sz + 1) 0 0 200 (fun _ => 0) (setI h1 188 18 (n32 0)) (n32 1) (by omega) (by omega) (by omega) (by omega) (s1.fr f1) z3 r1 m1 (fr.rf _ _) hR'
      simp -implicitDefEqProofs (disch := omega) only [gP_p, gP_t, bnd_s, bnd2_s, ltt_s, jn_s, n32_nat, n32_le, n32_lt, n32_eq, n32_add, n32_sub, n32_dec, n32_mul, n32_div, n32_irm, n32_lit, n32_oN, n32_ix, n32_m1, n32_m2, neg_le0, neg_lt0, neg_lt1, neg_le1, n32_min, n32_max, if_true, if_false, Nat.one_ne_zero, gd_some, true_or, or_true, false_or, or_false, q, Nat.le_zero_eq]
      simp -implicitDefEqProofs (disch := omega) only [gP_p, gP_t, bnd_s, bnd2_s, ltt_s, jn_s, n32_nat, n32_le, n32_lt, n32_eq, n32_add, n32_sub, n32_dec, n32_mul, n32_div, n32_irm, n32_lit, n32_oN, n32_ix, n32_m1, n32_m2, neg_le0, neg_lt0, neg_lt1, neg_le1, n32_min, n32_max, if_true, if_false, Nat.one_ne_zero, gd_some, true_or, or_true, false_or, or_false] at key
      exact key
  have fE : ∀ gg, (R.1 = true ↔ gg = 1 ∧ R.2.1 = min n 17) → (if gg = 1 ∧ R.2.1 = min n 17 ∧ n ≤ 17 then n32 0 else -n32 1 - n32 (if gg = 1 ∧ R.2.1 = min n 17 then 17 else R.2.1)) = if R.1 = true ∧ n ≤ min n 17 then n32 0 else -n32 1 - n32 (lnQ R (min n 17)) := by
    intro gg e
    unfold lnQ
    by_cases q : R.1 = true
    · obtain ⟨g1, g2⟩ := e.mp q
      rw [if_pos q]
      by_cases q2 : n ≤ 17
      · rw [if_pos ⟨g1, g2, q2⟩, if_pos ⟨q, by omega⟩]
      · rw [if_neg (fun z => q2 z.2.2), if_pos ⟨g1, g2⟩, if_neg (fun z => q2 (by have := z.2; omega)), show min n 17 = 17 by omega]
    · rw [if_neg q, if_neg (fun z => q (e.mpr ⟨z.1, z.2.1⟩)), if_neg (fun z => q (e.mpr z)), if_neg (fun z => q z.1)]
  refine ⟨fun bad => main _ (fun h' gg hg s' r' m' f' t' e' => ?_), fun ok => main _ (fun h' gg hg s' r' m' f' t' e' => ?_)⟩
  · have lq : lnQ R (min n 17) ≤ 17 := by unfold lnQ; split <;> omega
    have fo := fault_m s' r' hn (show 17 ≤ 80 by omega) rfl k2 hg
    rw [fE gg e', if_neg bad] at fo
    rw [fo, bnd_s, if_neg (flt_neg (by omega))]
    exact gd_some.mpr ⟨rfl, t', f'⟩
  · have fo := fault_m s' r' hn (show 17 ≤ 80 by omega) rfl k2 hg
    rw [fE gg e', if_pos ok] at fo
    rw [fo, bnd_s, if_pos (by decide)]
    refine amk_m (N := 200) (cnt := R.2.2.1) (sz := sz) (g := g) (v := R.2.2.2) (r := r) (by omega) (by omega) zb h' (fun g1 s2 lv2 z2 gg2 mr2 f3 => ?_) R.2.2.1 0 200 h' (by omega) (by omega) s' (m' ok.1) (by rw [f'.ai [23] (by decide) 188 3 rfl]; exact z) (fun m hm => by rw [f'.ai [29] (by decide) 192 m rfl]; unfold gN; rw [if_pos (by omega)]; exact gx m (by omega)) (fun j hj => by rw [f'.ai [30] (by decide) 193 j rfl]; exact mr j hj) (fr.rf _ _)
    have l1 := lv2.1
    have f4 : fr [50, 21, 40, 29, 30, 23] h g1 := (f'.mono (by decide)).tr (f3.mono (by decide))
    have t2 := t'.fr f3 (by decide)
    have o4 : ∀ a j, 216 ≤ a → a < 219 → g1.2.1 a j = h.2.1 a j := fun a j h1 h2 => by
      rcases (show a = 216 ∨ a = 217 ∨ a = 218 by omega) with rfl | rfl | rfl
      · exact f4.ai [27] (by decide) 216 j rfl
      · exact f4.ai [27] (by decide) 217 j rfl
      · exact f4.ai [27] (by decide) 218 j rfl
    by_cases q : R.2.2.1 ≤ 0
    · simp -implicitDefEqProofs (disch := omega) only [gP_p, gP_t, bnd_s, bnd2_s, ltt_s, jn_s, n32_nat, n32_le, n32_lt, n32_eq, n32_add, n32_sub, n32_dec, n32_mul, n32_div, n32_irm, n32_lit, n32_oN, n32_ix, n32_m1, n32_m2, neg_le0, neg_lt0, neg_lt1, neg_le1, n32_min, n32_max, if_true, if_false, Nat.one_ne_zero, gd_some, true_or, or_true, false_or, or_false, s2.mod, l1, q]
      exact ⟨trivial, z2, gg2, mr2, t2, fun z => absurd z (by omega), o4, f4.mono (by decide), fun _ => f4⟩
    · have c4 : g1.2.1 188 4 = n32 ch := by rw [f4.ai [27] (by decide) 188 4 rfl]; exact hch
      have f5 : fr [26, 27] g1 (setI (setI g1 188 25 (n32 0)) 188 4 (n32 (ch + 1))) := ((fr.rf _ _).sI rfl).sI rfl
      simp -implicitDefEqProofs (disch := omega) only [gP_p, gP_t, bnd_s, bnd2_s, ltt_s, jn_s, n32_nat, n32_le, n32_lt, n32_eq, n32_add, n32_sub, n32_dec, n32_mul, n32_div, n32_irm, n32_lit, n32_oN, n32_ix, n32_m1, n32_m2, neg_le0, neg_lt0, neg_lt1, neg_le1, n32_min, n32_max, if_true, if_false, Nat.one_ne_zero, gd_some, true_or, or_true, false_or, or_false, s2.mod, l1, q, sI_eq, sI_ne, sI_J, sI_R, sI_kO, sI_rK, sI_len, sJ_eq, sJ_ne, sJ_I, sJ_kO, sJ_rK, sJ_len, c4]
      exact ⟨trivial, z2, gg2, fun j hj => by rw [f5.ai [30] (by decide) 193 j rfl]; exact mr2 j hj, t2.fr f5 (by decide), fun _ => ⟨trivial, trivial⟩, fun a j h1 h2 => by rw [sI_ne (by omega), sI_ne (by omega)]; exact o4 a j h1 h2, (f4.mono (by decide)).tr (f5.mono (by decide)), fun z => absurd z (by omega)⟩
theorem op_markets {k : Nat} (hk : k < 512) : ∀ (h : HP), Inv k h → ∃ (v : Int32) (h1 h2 : HP), f_X9_markets 200 h 0 = some (v, h1) ∧ f_X10_markets 200 h1 188 = some (v, h2) ∧ Inv (k + 1) h2 := by
  intro h I
  obtain ⟨b, c, sz, iv⟩ := I
  obtain ⟨a0, a1, a2, a3, a4, a5, a6, a7, a8, a9, a10⟩ := id iv
  obtain ⟨z1, z2, z3⟩ := id a1
  obtain ⟨t, n, hn, tb, tx, tm⟩ := a2
  obtain ⟨r, r1, r2, r3, r4⟩ := a4
  obtain ⟨g, g1, g2, g3⟩ := a5
  obtain ⟨ch, c1, c2, c3⟩ := id a9
  obtain ⟨nx, u, pn, pe⟩ := id a8
  obtain ⟨R, hR⟩ : ∃ R, lnT t n (min n 17) 2 (6 - sz) = R := ⟨_, rfl⟩
  obtain ⟨X1, X2⟩ := marX a0 tx tb hn z2 z1 g1 r1 R hR
  obtain ⟨k1, k2, k3, k4⟩ := lnT_ok (t := t) (n := n) (E := min n 17) (m := 2) (cap := 6 - sz)
  rw [hR] at k1 k2 k3 k4
  by_cases q : R.1 = true ∧ n ≤ min n 17
  · obtain ⟨⟨v, h1⟩, x1, x2, x3, x4, x5, x6, x7, x8, x9⟩ := X2 q
    have x8' : fr [10, 1, 8, 3, 6] h h1 := x8
    obtain ⟨-, M2⟩ := marM (a0.fr x8') (tm.fr x8' (by decide)) tb hn (by rw [x8'.ai [23] (by decide) 188 3 rfl]; exact z3) z1 (fun m hm => by rw [x8'.ai [29] (by decide) 192 m rfl]; exact g2 m hm) (fun j hj => by rw [x8'.ai [30] (by decide) 193 j rfl]; exact r2 j hj) r4 (by rw [x8'.ai [27] (by decide) 188 4 rfl]; exact c2) R hR
    obtain ⟨⟨v2, h2⟩, y1, y2, y3, y4, y5, y6, y7, yo, y8, y9⟩ := M2 q
    have y8' : fr [50, 21, 40, 29, 30, 23, 26, 27] h1 h2 := y8
    have ev : v = v2 := x2.trans y2.symm
    subst ev
    refine ⟨v, h1, h2, x1, y1, Inv.mo ⟨b, c, sz + R.2.2.1, ?_⟩⟩
    have fA : fr [10, 1, 8, 3, 6, 50, 21, 40, 29, 30, 23, 26, 27] h h2 := (x8'.mono (by decide)).tr (y8'.mono (by decide))
    have x3' : h1.2.1 5 2 = n32 (sz + R.2.2.1) := x3
    have x4' : ∀ m, m < sz + R.2.2.1 → h1.2.1 155 m = n32 (gN g sz R.2.2.2 m) := x4
    refine ⟨a0.fr fA, ⟨by omega, by rw [y8'.ai [3] (by decide) 5 2 rfl]; exact x3', y3⟩, ⟨t, 0, by omega, fun i hi => absurd hi (Nat.not_lt_zero i), x6.fr y8' (by decide), y6⟩, a3.fr fA (by decide), ⟨r, cr_frc x5 (q := 3) rfl (by omega) rc5 y8' (by decide), y5, r3, fun k m hk h1 h2 => r4 k m hk (by omega) h2⟩, ⟨gN g sz R.2.2.2, fun m hm => by rw [y8'.ai [8] (by decide) 155 m rfl]; exact x4' m hm, y4, fun m hm => ?_⟩, a6.fr fA (by cases b <;> decide), a7.fr fA (by cases c <;> decide), ?_, ?_, a10.fr fA (by decide)⟩
    · unfold gN
      by_cases e : m < sz
      · rw [if_pos e]; exact g3 m e
      · rw [if_neg e]
        have := k1 (m - sz) (by omega)
        have p2 : 10 ^ 2 = 100 := rfl
        omega
    · rcases Nat.eq_zero_or_pos R.2.2.1 with e | e
      · rw [e]
        exact (a8.fr (x9 e) (by decide)).fr (y9 e) (by decide)
      · obtain ⟨p1, p2⟩ := x7 e
        obtain ⟨p3, p4⟩ := y7 e
        have p1' : h1.2.1 26 2 = n32 0 := p1
        have p2' : h1.2.1 26 1 = h.2.1 26 1 := p2
        exact ⟨nx, 0, ⟨Nat.zero_le _, pn.2.1, by rw [y8'.ai [6] (by decide) 26 1 rfl, p2']; exact pn.2.2.1, by rw [y8'.ai [6] (by decide) 26 2 rfl]; exact p1', p3⟩, fun i hi => absurd hi (Nat.not_lt_zero i)⟩
    · rcases Nat.eq_zero_or_pos R.2.2.1 with e | e
      · rw [e]
        exact (a9.fr (x9 e) (by decide)).fr (y9 e) (by decide)
      · obtain ⟨p3, p4⟩ := y7 e
        refine ⟨ch + 1, by omega, p4, fun i hi => ?_⟩
        have e1 : h2.2.1 (134 + 7 * i) 2 = h.2.1 (134 + 7 * i) 2 := fA.ai [7] (by decide) _ 2 (by rw [reg_c (by omega), show rc (134 + 7 * i) = 7 from rck (i := 0) hi (by omega)]; rfl)
        have yo' : ∀ a j, 216 ≤ a → a < 219 → h2.2.1 a j = h1.2.1 a j := yo
        have o1 : ∀ j, h2.2.1 216 j = h.2.1 216 j := fun j => by rw [yo' 216 j (by omega) (by omega), x8'.ai [27] (by decide) 216 j rfl]
        have o2 : ∀ j, h2.2.1 217 j = h.2.1 217 j := fun j => by rw [yo' 217 j (by omega) (by omega), x8'.ai [27] (by decide) 217 j rfl]
        have o3 : ∀ j, h2.2.1 218 j = h.2.1 218 j := fun j => by rw [yo' 218 j (by omega) (by omega), x8'.ai [27] (by decide) 218 j rfl]
        rcases c3 i hi with ⟨s1, s2⟩ | ⟨s1, P, ks, kc, s2, s3, s4, s5, s6, s7, s8, s9, s10⟩
        · exact Or.inl ⟨(o1 i).trans s1, e1.trans s2⟩
        · refine Or.inr ⟨(o1 i).trans s1, P, ks, kc, cr_frc s2 (q := 7) (rck (i := 0) hi (by omega)) (by omega) (fun i' hi' => by rw [rck hi hi']; exact (rck (i := 0) hi (by omega)).symm) fA (by decide), e1.trans s3, (o2 i).trans s4, fun j hj => (o3 _).trans (s5 j hj), s6, s7, by omega, by omega, ⟨fun z => by omega, fun z => by omega⟩⟩
  · obtain ⟨⟨v, h1⟩, x1, x2, x3, x4⟩ := X1 q
    have x4' : fr [10, 1] h h1 := x4
    obtain ⟨M1, -⟩ := marM (a0.fr x4') (tm.fr x4' (by decide)) tb hn (by rw [x4'.ai [23] (by decide) 188 3 rfl]; exact z3) z1 (fun m hm => by rw [x4'.ai [29] (by decide) 192 m rfl]; exact g2 m hm) (fun j hj => by rw [x4'.ai [30] (by decide) 193 j rfl]; exact r2 j hj) r4 (by rw [x4'.ai [27] (by decide) 188 4 rfl]; exact c2) R hR
    obtain ⟨⟨v2, h2⟩, y1, y2, y3, y4⟩ := M1 q
    have ev : v = v2 := x2.trans y2.symm
    subst ev
    have fA : fr [10, 1, 50, 21, 40] h h2 := (x4'.mono (by decide)).tr (y4.mono (by decide))
    exact ⟨v, h1, h2, x1, y1, Iv.up (iv.tx (fA.mono (by decide)) (a3.fr fA (by decide)) ⟨t, 0, by omega, fun i hi => absurd hi (Nat.not_lt_zero i), x3.fr y4 (by decide), y3⟩)⟩
