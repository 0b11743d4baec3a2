/-! ===== caravan, count ===== -/
theorem cF_b {w : Wd} {v M : Nat} : ∀ (n s : Nat) (B : Int64 × Nat), s + n ≤ M → B.2 < M → (cF w v n s B).2 < M := by
  intro n
  induction n with
  | zero => exact fun s B hs hb => hb
  | succ n ih =>
    intro s B hs hb
    refine ih (s + 1) _ (by omega) ?_
    unfold pk
    split
    · exact hb
    · show s < M
      omega
theorem MT.mv {w : Wd} {l : List Int64} {h0 h h' : HP} {q : Nat → Nat} {D : Nat} {R : List Nat} (t : MT w l h0 h q D) (f : fr R h h') (d1 : R.all (fun x => (QX ++ QM).contains x) = true) (d2 : [22].all (fun x => !R.contains x) = true) (d3 : [31].all (fun x => !R.contains x) = true) (d4 : R.all (fun x => QM.contains x) = true) : MT w l h0 h' q D := by
  obtain ⟨v, rm, mr, f0, rb⟩ := t
  exact ⟨v.fr f d1, rm.fr f d2, fun j hj => by rw [f.ai [31] d3 194 j rfl]; exact mr j hj, f0.tr (f.mono d4), rb⟩
theorem m_price2 {N m : Nat} {w : Wd} {h0 h : HP} {l : List Int64} {q : Nat → Nat} {D : Nat} (hN : 41 < N) (ok : wOK w) (t : MT w l h0 h q D) (hD : D ≤ 400000) (hm : m < wsz w) : gd (f_X10_priceOf N h 188 194 (n32 m)) (fun p => p.1 = n32 (wP w q m) ∧ MT w l h0 p.2 q D ∧ fr [32] h p.2) := by
  obtain ⟨v, rm, mr, f, rb⟩ := id t
  refine gd_mono (priceOf_m hN (Or.inr rfl) ok.2.2.2.2.2.1 v.1 v.2.2.2.2.2 hm ok.1 v.2.2.2.1 ok.2.2.2.1 mr rb (by omega)) ?_
  rintro ⟨u, h'⟩ ⟨e1, e2⟩
  exact ⟨e1, t.mv e2 (by decide) (by decide) (by decide) (by decide), e2⟩
theorem m_month2 {N : Nat} {w : Wd} {h0 h : HP} {l : List Int64} {q : Nat → Nat} {D : Nat} (hN : 13 < N) (ok : wOK w) (t : MT w l h0 h q D) (hD : D ≤ 400000) : gd (f_X10_monthGoes N h 188 194) (fun h' => MT w l h0 h' (wM w q) (D + 1) ∧ fr [41, 47, 31] h h') := by
  obtain ⟨v, rm, mr, f, rb⟩ := t
  refine gd_mono (month_m hN (Or.inr rfl) ok.1 ok.2.2.2.2.1 rb (by omega) v.1 v.2.1 mr v.2.2.2.2.1) ?_
  rintro h' ⟨e1, e2, e3⟩
  have e2' : fr [41, 47, 31] h h' := e2
  exact ⟨⟨v.fr e2' (by decide), rm.fr e2' (by decide), e1, f.tr (e2'.mono (by decide)), rb.mon⟩, e2'⟩
theorem fill_m {w : Wd} {h0 : HP} {l : List Int64} {x1 : Int32} {k : HP → Option (Int32 × HP)} {Q : Int32 × HP → Prop} (ok : wOK w) (K : ∀ h', MEq w l h0 h' → CV w h' → gd (k h') Q) : ∀ (d m fuel : Nat) (h : HP), m + d = wsz w → d < fuel → MT w l h0 h (wMs w m (wr w)) (wB w + m) → (∀ i, i < m → h.2.1 208 i = n32 (fo w i i)) →
    gd (lp (fun _ _ => none) (f_X10_caravan_B30 1000 188 x1 k) fuel (n32 m) h) Q := by
  have hz := ok.1
  have hB := ok.2.2.2.2.2.2
  intro d
  induction d with
  | zero =>
    intro m fuel h hi hf t p
    obtain ⟨k', rfl⟩ : ∃ k, fuel = k + 1 := ⟨fuel - 1, by omega⟩
    have e1 : wsz w ≤ m := by omega
    have z := t.1.2.1
    simp -implicitDefEqProofs (disch := omega) only [lp_s, f_X10_caravan_B30, gP_p, gP_t, bnd_s, bnd2_s, ltt_s, jn_s, n32_nat, n32_le, n32_lt, n32_eq, n32_add, n32_sub, n32_dec, n32_mul, n32_div, n32_irm, n32_lit, n32_oN, n32_ix, n32_m1, n32_m2, neg_le0, neg_lt0, neg_lt1, neg_le1, n32_min, n32_max, if_true, if_false, Nat.one_ne_zero, gd_some, true_or, or_true, false_or, or_false, z, e1]
    exact K h t.q ⟨t.1.1, z, fun i hi => p i (by omega)⟩
  | succ d ih =>
    intro m fuel h hi hf t p
    obtain ⟨k', rfl⟩ : ∃ k, fuel = k + 1 := ⟨fuel - 1, by omega⟩
    have e1 : ¬ wsz w ≤ m := by omega
    have z := t.1.2.1
    simp -implicitDefEqProofs (disch := omega) only [lp_s, f_X10_caravan_B30, gP_p, gP_t, bnd_s, bnd2_s, ltt_s, jn_s, n32_nat, n32_le, n32_lt, n32_eq, n32_add, n32_sub, n32_dec, n32_mul, n32_div, n32_irm, n32_lit, n32_oN, n32_ix, n32_m1, n32_m2, neg_le0, neg_lt0, neg_lt1, neg_le1, n32_min, n32_max, if_true, if_false, Nat.one_ne_zero, gd_some, true_or, or_true, false_or, or_false, z, e1, t.1.1.mod, gd_bnd2]
    refine gd_mono (m_price2 (by omega) ok t (by omega) (by omega)) ?_
    rintro ⟨u, h1⟩ ⟨e2, t1, f1⟩
    have e2' : u = n32 (fo w m m) := e2
    subst e2'
    have f2 : fr [42] h1 (setI h1 208 m (n32 (fo w m m))) := (fr.rf _ _).sI rfl
    have t2 := t1.mv f2 (by decide) (by decide) (by decide) (by decide)
    simp -implicitDefEqProofs (disch := omega) only [t1.1.1.mod, gP_p, gP_t, bnd_s, bnd2_s, ltt_s, jn_s, n32_nat, n32_le, n32_lt, n32_eq, n32_add, n32_sub, n32_dec, n32_mul, n32_div, n32_irm, n32_lit, n32_oN, n32_ix, n32_m1, n32_m2, neg_le0, neg_lt0, neg_lt1, neg_le1, n32_min, n32_max, if_true, if_false, Nat.one_ne_zero, gd_some, true_or, or_true, false_or, or_false, sI_rK, gd_bnd]
    refine gd_mono (m_month2 (by omega) ok t2 (by omega)) ?_
    rintro h3 ⟨t3, f3⟩
    have em : wM w (wMs w m (wr w)) = wMs w (m + 1) (wr w) := (mMons_s m).symm
    rw [em] at t3
    refine ih (m + 1) k' h3 (by omega) (by omega) t3 (fun i hi => ?_)
    rw [f3.ai [42] (by decide) 208 i rfl]
    by_cases q : i = m
    · rw [q, sI_eq]
    · rw [sI_ne (by omega), f1.ai [42] (by decide) 208 i rfl]
      exact p i (by omega)
theorem ents_m {w : Wd} {h0 : HP} {b : Int64} {ch : Nat} (ok : wOK w) : ∀ (d i fuel : Nat) (h : HP), i + d = wsz w → d < fuel → MEq w (rowD w ch i) h0 h → dgs w h ch → h.2.2.1 188 37 = b →
    gd (lp (fun _ _ => none) (f_X10_caravan_B89 1000 188) fuel (n32 i) h) (MA (rowD w ch (wsz w)) b.toInt32 h0) := by
  have hz := ok.1
  intro d
  induction d with
  | zero =>
    intro i fuel h hi hf e g j
    obtain ⟨k', rfl⟩ : ∃ k, fuel = k + 1 := ⟨fuel - 1, by omega⟩
    have e1 : wsz w ≤ i := by omega
    have ei : i = wsz w := by omega
    have z := e.1.2.1
    simp -implicitDefEqProofs (disch := omega) only [lp_s, f_X10_caravan_B89, gP_p, gP_t, bnd_s, bnd2_s, ltt_s, jn_s, n32_nat, n32_le, n32_lt, n32_eq, n32_add, n32_sub, n32_dec, n32_mul, n32_div, n32_irm, n32_lit, n32_oN, n32_ix, n32_m1, n32_m2, neg_le0, neg_lt0, neg_lt1, neg_le1, n32_min, n32_max, if_true, if_false, Nat.one_ne_zero, gd_some, true_or, or_true, false_or, or_false, z, e1, j]
    rw [ei] at e
    exact ⟨rfl, e.2.1, e.2.2⟩
  | succ d ih =>
    intro i fuel h hi hf e g j
    obtain ⟨k', rfl⟩ : ∃ k, fuel = k + 1 := ⟨fuel - 1, by omega⟩
    have e1 : ¬ wsz w ≤ i := by omega
    have z := e.1.2.1
    have gi := g i (by omega)
    simp -implicitDefEqProofs (disch := omega) only [lp_s, f_X10_caravan_B89, gP_p, gP_t, bnd_s, bnd2_s, ltt_s, jn_s, n32_nat, n32_le, n32_lt, n32_eq, n32_add, n32_sub, n32_dec, n32_mul, n32_div, n32_irm, n32_lit, n32_oN, n32_ix, n32_m1, n32_m2, neg_le0, neg_lt0, neg_lt1, neg_le1, n32_min, n32_max, if_true, if_false, Nat.one_ne_zero, gd_some, true_or, or_true, false_or, or_false, z, e1, e.1.1.mod, gi, gd_bnd]
    refine gd_mono (ent_m e.1.1 e.2.1 (by rw [rowD_l]; omega)) ?_
    rintro h1 ⟨r1, f1⟩
    exact ih (i + 1) k' h1 (by omega) (by omega) ⟨e.1.fr f1 (by decide), by rw [rowD_s]; exact r1, e.2.2.tr (f1.mono (by decide))⟩ (fun x hx => by rw [f1.ai [42] (by decide) 210 x rfl]; exact g x hx) (by rw [f1.aj [42] (by decide) 188 37 rfl]; exact j)
theorem v_pos {v : Nat} (h1 : 1 ≤ v) (h2 : v ≤ 9999) : ¬ lg_cmp (n32 v).toInt64 (-1) ≤ 0 := by
  intro q
  have := (lg_cmp_le _ _).mp q
  rw [Int64.le_iff_toInt_le, Int32.toInt_toInt64, n32_int (by omega)] at this
  have e : (-1 : Int64).toInt = -1 := by decide
  omega

theorem op_caravan {k : Nat} (hk : k < 512) : ∀ (h : HP) (a1 : Int32), Inv k h → ∃ (v : Int32) (h1 h2 : HP), f_X9_caravan 1000 h 0 a1 = some (v, h1) ∧ f_X10_caravan 1000 h1 188 a1 = some (v, h2) ∧ Inv (k + 1) h2 := fun h a1 I => q_op hk (fX := fun h => f_X9_caravan 1000 h 0 a1) (fM := fun h => f_X10_caravan 1000 h 188 a1) (fun w l ok => by
  have hB := ok.2.2.2.2.2.2
  have hz := ok.1
  by_cases c1 : 1 ≤ a1.toInt ∧ a1.toInt ≤ 9999
  · obtain ⟨v, lv, hv, rfl⟩ := n32_of2 (lo := 1) (hi := 9999) c1.1 c1.2
    have xv : f_X9_within (n32 v) (n32 1) (n32 9999) = some (n32 1) := within_y c1
    have mv := in_y (x := n32 v) (lo := 1) (hi := 9999) (a := 1) (b := 9999) rfl rfl c1
    by_cases c9 : wsz w = 0
    · refine ⟨-n32 2, l, fun h x rx => ?_, fun h x rm => ?_⟩
      · have z := x.2.1
        unfold f_X9_caravan
        simp -implicitDefEqProofs (disch := omega) only [x.1.root, gP_p, gP_t, bnd_s, bnd2_s, ltt_s, jn_s, n32_nat, n32_le, n32_lt, n32_eq, n32_add, n32_sub, n32_dec, n32_mul, n32_div, n32_irm, n32_lit, n32_oN, n32_ix, n32_m1, n32_m2, neg_le0, neg_lt0, neg_lt1, neg_le1, n32_min, n32_max, if_true, if_false, Nat.one_ne_zero, gd_some, true_or, or_true, false_or, or_false, xv, z, c9]
        exact fin_x rx (fr.rf _ _)
      · obtain ⟨v1, rm1, f1⟩ := thr0 x rm
        have z := v1.2.1
        have is1 := someM_y (x := n32 v) c1
        unfold f_X10_caravan
        simp -implicitDefEqProofs (disch := omega) only [x.1.mod, gP_p, gP_t, bnd_s, bnd2_s, ltt_s, jn_s, n32_nat, n32_le, n32_lt, n32_eq, n32_add, n32_sub, n32_dec, n32_mul, n32_div, n32_irm, n32_lit, n32_oN, n32_ix, n32_m1, n32_m2, neg_le0, neg_lt0, neg_lt1, neg_le1, n32_min, n32_max, if_true, if_false, Nat.one_ne_zero, gd_some, true_or, or_true, false_or, or_false]
        simp -implicitDefEqProofs (disch := omega) only [gP_p, gP_t, bnd_s, bnd2_s, ltt_s, jn_s, n32_nat, n32_le, n32_lt, n32_eq, n32_add, n32_sub, n32_dec, n32_mul, n32_div, n32_irm, n32_lit, n32_oN, n32_ix, n32_m1, n32_m2, neg_le0, neg_lt0, neg_lt1, neg_le1, n32_min, n32_max, if_true, if_false, Nat.one_ne_zero, gd_some, true_or, or_true, false_or, or_false, is1, z, c9]
        exact fin_m rm1 f1
    · have pb := p3_b (j := wsz w) (by omega)
      have pp := p3_pos (wsz w)
      have eb : (cF w v (p3 (wsz w)) 0 ((-1 : Int64), 0)).2 < 1000 := by
        have := cF_b (w := w) (v := v) (M := 729) (p3 (wsz w)) 0 ((-1 : Int64), 0) (by omega) (by show 0 < 729; omega)
        omega
      refine ⟨(cF w v (p3 (wsz w)) 0 ((-1 : Int64), 0)).1.toInt32, rowD w (cF w v (p3 (wsz w)) 0 ((-1 : Int64), 0)).2 (wsz w), fun h x rx => ?_, fun h x rm => ?_⟩
      · have z := x.2.1
        unfold f_X9_caravan
        simp -implicitDefEqProofs (disch := omega) only [x.1.root, gP_p, gP_t, bnd_s, bnd2_s, ltt_s, jn_s, n32_nat, n32_le, n32_lt, n32_eq, n32_add, n32_sub, n32_dec, n32_mul, n32_div, n32_irm, n32_lit, n32_oN, n32_ix, n32_m1, n32_m2, neg_le0, neg_lt0, neg_lt1, neg_le1, n32_min, n32_max, if_true, if_false, Nat.one_ne_zero, gd_some, true_or, or_true, false_or, or_false, xv, z, c9, gd_bnd]
        refine gd_mono (foresee_x (N := 997) (by omega) ok ⟨x, rx, fr.rf _ _⟩) ?_
        rintro h1 ⟨e1, ff⟩
        obtain ⟨y1, y2, y3⟩ := rowX_0 e1.1.1
        refine plans_x (v := v) ok e1 ff (cF w v (p3 (wsz w)) 0 ((-1 : Int64), 0)) ?_ (p3 (wsz w)) 0 1000 ((-1 : Int64), 0) (by omega) (by omega) rfl
        simp -implicitDefEqProofs (disch := omega) only [e1.1.1.root, gP_p, gP_t, bnd_s, bnd2_s, ltt_s, jn_s, n32_nat, n32_le, n32_lt, n32_eq, n32_add, n32_sub, n32_dec, n32_mul, n32_div, n32_irm, n32_lit, n32_oN, n32_ix, n32_m1, n32_m2, neg_le0, neg_lt0, neg_lt1, neg_le1, n32_min, n32_max, if_true, if_false, Nat.one_ne_zero, gd_some, true_or, or_true, false_or, or_false, y1]
        exact tells_x ok eb (wsz w) 0 1000 _ (by omega) (by omega) ⟨e1.1.fr y3 (by decide), y2, e1.2.2.tr (y3.mono (by decide))⟩
      · obtain ⟨v1, rm1, f1⟩ := thr0 x rm
        have z := v1.2.1
        have is1 := someM_y (x := n32 v) c1
        have key := fun (h2 : HP) (t2 : MT w l h h2 (wr w) (wB w)) => fill_m (x1 := n32 v) (l := l) (h0 := h) (k := fun (h44 : HP) => lt_ (setJ h44 188 37 (-1)) (fun h46 => bnd (f_X10_travels 1000 h46 188 0 ((n32 v).toInt64) 0) (fun h49 => lt_ (setI h49 188 1 0) (fun h53 => lp (fun _ _ => none) (f_X10_caravan_B89 1000 188) 1000 0 h53)))) (Q := MA (rowD w (cF w v (p3 (wsz w)) 0 ((-1 : Int64), 0)).2 (wsz w)) ((cF w v (p3 (wsz w)) 0 ((-1 : Int64), 0)).1.toInt32) h) ok (fun h3 e3 cv => by
          have f4 : fr [42] h3 (setJ h3 188 37 (-1)) := (fr.rf _ _).sJ rfl
          have tm := trav_m (v := v) hz (wsz w) 0 1000 ((-1 : Int64), 0) False (setJ h3 188 37 (-1)) (Nat.le_refl _) (by omega) ⟨cv.1.fr f4, cv.2.1, cv.2.2⟩ (fun i hi => absurd hi (by omega)) sJ_eq (fun q => q.elim)
          rw [Nat.sub_self, cT_F, Nat.zero_mul] at tm
          rw [gd_lt, gd_bnd]
          unfold f_X10_travels
          refine gd_mono tm ?_
          rintro h5 ⟨b1, b2, b3, b4, b5⟩
          have d5 := b4 (Or.inr (v_pos lv hv))
          have f35 : fr [42] h3 h5 := f4.tr b5
          have e5 : MEq w l h h5 := ⟨e3.1.fr f35 (by decide), e3.2.1.fr f35 (by decide), e3.2.2.tr (f35.mono (by decide))⟩
          have e6 := mq_told0 e5
          have f6 : fr [22] h5 (setI h5 188 1 (n32 0)) := (fr.rf _ _).sI rfl
          rw [gd_lt]
          exact ents_m ok (wsz w) 0 1000 _ (by omega) (by omega) e6 (fun i hi => (f6.ai [42] (by decide) 210 i rfl).trans (d5 i hi)) ((f6.aj [42] (by decide) 188 37 rfl).trans b3)) (wsz w) 0 1000 h2 (by omega) (by omega) t2 (fun i hi => absurd hi (by omega))
        unfold f_X10_caravan
        simp -implicitDefEqProofs (disch := omega) only [x.1.mod, gP_p, gP_t, bnd_s, bnd2_s, ltt_s, jn_s, n32_nat, n32_le, n32_lt, n32_eq, n32_add, n32_sub, n32_dec, n32_mul, n32_div, n32_irm, n32_lit, n32_oN, n32_ix, n32_m1, n32_m2, neg_le0, neg_lt0, neg_lt1, neg_le1, n32_min, n32_max, if_true, if_false, Nat.one_ne_zero, gd_some, true_or, or_true, false_or, or_false]
        simp -implicitDefEqProofs (disch := omega) only [gP_p, gP_t, bnd_s, bnd2_s, ltt_s, jn_s, n32_nat, n32_le, n32_lt, n32_eq, n32_add, n32_sub, n32_dec, n32_mul, n32_div, n32_irm, n32_lit, n32_oN, n32_ix, n32_m1, n32_m2, neg_le0, neg_lt0, neg_lt1, neg_le1, n32_min, n32_max, if_true, if_false, Nat.one_ne_zero, gd_some, true_or, or_true, false_or, or_false, is1, z, c9, gd_bnd]
        refine gd_mono (m_copies (by omega) ok v1 rm1 f1) ?_
        intro h2 t2
        have := key h2 t2
        simp -implicitDefEqProofs (disch := omega) only [gP_p, gP_t, bnd_s, bnd2_s, ltt_s, jn_s, n32_nat, n32_le, n32_lt, n32_eq, n32_add, n32_sub, n32_dec, n32_mul, n32_div, n32_irm, n32_lit, n32_oN, n32_ix, n32_m1, n32_m2, neg_le0, neg_lt0, neg_lt1, neg_le1, n32_min, n32_max, if_true, if_false, Nat.one_ne_zero, gd_some, true_or, or_true, false_or, or_false] at this
        exact this
  · have xv : f_X9_within a1 (n32 1) (n32 9999) = some (n32 0) := within_n c1
    have mv := in_n (x := a1) (lo := 1) (hi := 9999) (a := 1) (b := 9999) rfl rfl c1
    refine ⟨-n32 1, l, fun h x rx => ?_, fun h x rm => ?_⟩
    · unfold f_X9_caravan
      simp -implicitDefEqProofs (disch := omega) only [x.1.root, gP_p, gP_t, bnd_s, bnd2_s, ltt_s, jn_s, n32_nat, n32_le, n32_lt, n32_eq, n32_add, n32_sub, n32_dec, n32_mul, n32_div, n32_irm, n32_lit, n32_oN, n32_ix, n32_m1, n32_m2, neg_le0, neg_lt0, neg_lt1, neg_le1, n32_min, n32_max, if_true, if_false, Nat.one_ne_zero, gd_some, true_or, or_true, false_or, or_false, xv]
      exact fin_x rx (fr.rf _ _)
    · obtain ⟨v1, rm1, f1⟩ := thr0 x rm
      unfold f_X10_caravan
      simp -implicitDefEqProofs (disch := omega) only [x.1.mod, gP_p, gP_t, bnd_s, bnd2_s, ltt_s, jn_s, n32_nat, n32_le, n32_lt, n32_eq, n32_add, n32_sub, n32_dec, n32_mul, n32_div, n32_irm, n32_lit, n32_oN, n32_ix, n32_m1, n32_m2, neg_le0, neg_lt0, neg_lt1, neg_le1, n32_min, n32_max, if_true, if_false, Nat.one_ne_zero, gd_some, true_or, or_true, false_or, or_false]
      simp -implicitDefEqProofs (disch := omega) only [gP_p, gP_t, bnd_s, bnd2_s, ltt_s, jn_s, n32_nat, n32_le, n32_lt, n32_eq, n32_add, n32_sub, n32_dec, n32_mul, n32_div, n32_irm, n32_lit, n32_oN, n32_ix, n32_m1, n32_m2, neg_le0, neg_lt0, neg_lt1, neg_le1, n32_min, n32_max, if_true, if_false, Nat.one_ne_zero, gd_some, true_or, or_true, false_or, or_false, f_X10_isSome, v1.1.mod, mv]
      exact fin_m rm1 f1) h I

/-! sums -/
def sumN (f : Nat → Nat) : Nat → Nat
  | 0 => 0
  | n + 1 => sumN f n + f n
theorem sumN_add {f g : Nat → Nat} (n : Nat) : sumN (fun m => f m + g m) n = sumN f n + sumN g n := by
  induction n with
  | zero => rfl
  | succ n ih =>
    show sumN (fun m => f m + g m) n + (f n + g n) = sumN f n + f n + (sumN g n + g n)
    rw [ih]
    omega
theorem sumT_l {N c sz k : Nat} {r : Nat → Nat} {h : HP} (co : CO h c) (z : h.2.1 c 2 = n32 sz) (hz : sz ≤ 6) (cr : CR h c r) (hk : k < 2) : ∀ (d i fuel : Nat), i + d = sz → d < fuel → lp (fun _ _ => none) (f_X0_sumThere_B4 N c (n32 k) h) fuel (n32 (sumN (fun m => r (6 * k + m)) i)) (n32 i) = some (n32 (sumN (fun m => r (6 * k + m)) sz)) := by
  intro d
  induction d with
  | zero =>
    intro i fuel hi hf
    obtain ⟨k', rfl⟩ : ∃ k, fuel = k + 1 := ⟨fuel - 1, by omega⟩
    have e1 : sz ≤ i := by omega
    have ei : i = sz := by omega
    simp -implicitDefEqProofs (disch := omega) only [lp_s, f_X0_sumThere_B4, gP_p, gP_t, bnd_s, bnd2_s, ltt_s, jn_s, n32_nat, n32_le, n32_lt, n32_eq, n32_add, n32_sub, n32_dec, n32_mul, n32_div, n32_irm, n32_lit, n32_oN, n32_ix, n32_m1, n32_m2, neg_le0, neg_lt0, neg_lt1, neg_le1, n32_min, n32_max, if_true, if_false, Nat.one_ne_zero, gd_some, true_or, or_true, false_or, or_false, z, e1]
    rw [ei]
  | succ d ih =>
    intro i fuel hi hf
    obtain ⟨k', rfl⟩ : ∃ k, fuel = k + 1 := ⟨fuel - 1, by omega⟩
    have e1 : ¬ sz ≤ i := by omega
    have v := cr.1 k i hk (by omega)
    have ky := kind_y hk
    obtain ⟨c0, c1, c2, c3, c4, c5, c6, c7, c8, c9⟩ := id co
    have nx := ih (i + 1) k' (by omega) (by omega)
    simp -implicitDefEqProofs (disch := omega) only [lp_s, f_X0_sumThere_B4, gP_p, gP_t, bnd_s, bnd2_s, ltt_s, jn_s, n32_nat, n32_le, n32_lt, n32_eq, n32_add, n32_sub, n32_dec, n32_mul, n32_div, n32_irm, n32_lit, n32_oN, n32_ix, n32_m1, n32_m2, neg_le0, neg_lt0, neg_lt1, neg_le1, n32_min, n32_max, if_true, if_false, Nat.one_ne_zero, gd_some, true_or, or_true, false_or, or_false, z, e1, ky, c1, c3, c5, c7, v]
    exact nx
theorem sumT_x {N c sz k : Nat} {r : Nat → Nat} {h : HP} (hN : 7 < N) (co : CO h c) (z : h.2.1 c 2 = n32 sz) (hz : sz ≤ 6) (cr : CR h c r) (hk : k < 2) : f_X0_sumThere N h c (n32 k) = some (n32 (sumN (fun m => r (6 * k + m)) sz)) := by
  unfold f_X0_sumThere
  rw [gP_p co.1]
  exact sumT_l co z hz cr hk sz 0 N (by omega) (by omega)
theorem sumL_l {N c sz : Nat} {r : Nat → Nat} {h : HP} (co : CO h c) (z : h.2.1 c 2 = n32 sz) (hz : sz ≤ 6) (cr : CR h c r) : ∀ (d i fuel : Nat), i + d = sz → d < fuel → lp (fun _ _ => none) (f_X0_sumLaidBy_B4 N c h) fuel (n32 (sumN (fun m => r (12 + m) + r (18 + m)) i)) (n32 i) = some (n32 (sumN (fun m => r (12 + m) + r (18 + m)) sz)) := by
  intro d
  induction d with
  | zero =>
    intro i fuel hi hf
    obtain ⟨k', rfl⟩ : ∃ k, fuel = k + 1 := ⟨fuel - 1, by omega⟩
    have e1 : sz ≤ i := by omega
    have ei : i = sz := by omega
    simp -implicitDefEqProofs (disch := omega) only [lp_s, f_X0_sumLaidBy_B4, gP_p, gP_t, bnd_s, bnd2_s, ltt_s, jn_s, n32_nat, n32_le, n32_lt, n32_eq, n32_add, n32_sub, n32_dec, n32_mul, n32_div, n32_irm, n32_lit, n32_oN, n32_ix, n32_m1, n32_m2, neg_le0, neg_lt0, neg_lt1, neg_le1, n32_min, n32_max, if_true, if_false, Nat.one_ne_zero, gd_some, true_or, or_true, false_or, or_false, z, e1]
    rw [ei]
  | succ d ih =>
    intro i fuel hi hf
    obtain ⟨k', rfl⟩ : ∃ k, fuel = k + 1 := ⟨fuel - 1, by omega⟩
    have e1 : ¬ sz ≤ i := by omega
    have v0 : h.2.1 (c + 5) i = n32 (r (12 + i)) := by have := cr.2.1 0 i (by omega) (by omega); rw [show 6 * 0 + i = i by omega] at this; exact this
    have v1 : h.2.1 (c + 5 + 1) i = n32 (r (18 + i)) := by have := cr.2.1 1 i (by omega) (by omega); rw [show 12 + (6 * 1 + i) = 18 + i by omega] at this; exact this
    obtain ⟨c0, c1, c2, c3, c4, c5, c6, c7, c8, c9⟩ := id co
    have c40 : rK h (c + 4) 0 102 = some (c + 5) := c4 0 (by omega)
    have c41 := c4 1 (by omega)
    have c80 : lenH h (c + 5) = 6 := c8 0 (by omega)
    have c81 := c8 1 (by omega)
    have nx := ih (i + 1) k' (by omega) (by omega)
    simp -implicitDefEqProofs (disch := omega) only [lp_s, f_X0_sumLaidBy_B4, gP_p, gP_t, bnd_s, bnd2_s, ltt_s, jn_s, n32_nat, n32_le, n32_lt, n32_eq, n32_add, n32_sub, n32_dec, n32_mul, n32_div, n32_irm, n32_lit, n32_oN, n32_ix, n32_m1, n32_m2, neg_le0, neg_lt0, neg_lt1, neg_le1, n32_min, n32_max, if_true, if_false, Nat.one_ne_zero, gd_some, true_or, or_true, false_or, or_false, z, e1, c2, c40, c41, c6, c80, c81, v0, v1]
    exact nx
theorem sumL_x {N c sz : Nat} {r : Nat → Nat} {h : HP} (hN : 7 < N) (co : CO h c) (z : h.2.1 c 2 = n32 sz) (hz : sz ≤ 6) (cr : CR h c r) : f_X0_sumLaidBy N h c = some (n32 (sumN (fun m => r (12 + m)) sz + sumN (fun m => r (18 + m)) sz)) := by
  unfold f_X0_sumLaidBy
  rw [gP_p co.1, ← sumN_add]
  exact sumL_l co z hz cr sz 0 N (by omega) (by omega)
theorem sumO_l {N a sz from_ : Nat} {r : Nat → Nat} {b c : Bool} {h : HP} (ha : a = 193 ∨ a = 194) (s : SH b c h) (z : h.2.1 188 3 = n32 sz) (hz : sz ≤ 6) (mr : MR h a r) (hf : from_ ≤ 18) : ∀ (d i fuel : Nat), i + d = sz → d < fuel → lp (fun _ _ => none) (f_X10_sumOf_B5 N 188 a (n32 from_) h) fuel (n32 (sumN (fun m => r (from_ + m)) i)) (n32 i) = some (n32 (sumN (fun m => r (from_ + m)) sz)) := by
  have hla : lenH h a = 28 := by rcases ha with rfl | rfl <;> simp only [s.mod]
  intro d
  induction d with
  | zero =>
    intro i fuel hi hf
    obtain ⟨k', rfl⟩ : ∃ k, fuel = k + 1 := ⟨fuel - 1, by omega⟩
    have e1 : sz ≤ i := by omega
    have ei : i = sz := by omega
    simp -implicitDefEqProofs (disch := omega) only [lp_s, f_X10_sumOf_B5, gP_p, gP_t, bnd_s, bnd2_s, ltt_s, jn_s, n32_nat, n32_le, n32_lt, n32_eq, n32_add, n32_sub, n32_dec, n32_mul, n32_div, n32_irm, n32_lit, n32_oN, n32_ix, n32_m1, n32_m2, neg_le0, neg_lt0, neg_lt1, neg_le1, n32_min, n32_max, if_true, if_false, Nat.one_ne_zero, gd_some, true_or, or_true, false_or, or_false, z, e1]
    rw [ei]
  | succ d ih =>
    intro i fuel hi hf
    obtain ⟨k', rfl⟩ : ∃ k, fuel = k + 1 := ⟨fuel - 1, by omega⟩
    have e1 : ¬ sz ≤ i := by omega
    have v := mr (from_ + i) (by omega)
    have nx := ih (i + 1) k' (by omega) (by omega)
    simp -implicitDefEqProofs (disch := omega) only [lp_s, f_X10_sumOf_B5, gP_p, gP_t, bnd_s, bnd2_s, ltt_s, jn_s, n32_nat, n32_le, n32_lt, n32_eq, n32_add, n32_sub, n32_dec, n32_mul, n32_div, n32_irm, n32_lit, n32_oN, n32_ix, n32_m1, n32_m2, neg_le0, neg_lt0, neg_lt1, neg_le1, n32_min, n32_max, if_true, if_false, Nat.one_ne_zero, gd_some, true_or, or_true, false_or, or_false, z, e1, hla, v]
    exact nx
theorem sumO_m {N a sz from_ : Nat} {r : Nat → Nat} {b c : Bool} {h : HP} (hN : 7 < N) (ha : a = 193 ∨ a = 194) (s : SH b c h) (z : h.2.1 188 3 = n32 sz) (hz : sz ≤ 6) (mr : MR h a r) (hf : from_ ≤ 18) : f_X10_sumOf N h 188 a (n32 from_) = some (n32 (sumN (fun m => r (from_ + m)) sz)) := by
  have hka : kO h a 102 = true := by rcases ha with rfl | rfl <;> simp only [s.mod]
  unfold f_X10_sumOf
  rw [gP_p (by simp only [s.mod]), gP_p hka]
  exact sumO_l ha s z hz mr hf sz 0 N (by omega) (by omega)
theorem op_count {k : Nat} (hk : k < 512) : ∀ (h : HP) (a1 : Int32), Inv k h → ∃ (v : Int32) (h2 : HP), f_X9_count 200 h 0 a1 = some v ∧ f_X10_count 200 h 188 a1 = some (v, h2) ∧ Inv (k + 1) h2 := by
  intro h a1 I
  obtain ⟨b, c, sz, iv⟩ := I
  obtain ⟨a0, a1', a2, a3, a4, a5, a6, a7, a8, a9, a10⟩ := id iv
  obtain ⟨z1, z2, z3⟩ := a1'
  obtain ⟨r, r1, r2, r3, r4⟩ := a4
  obtain ⟨F, f1, f2, f3⟩ := a6
  obtain ⟨nx, u, pn, pe⟩ := a8
  obtain ⟨p1, p2, p3, p4, p5⟩ := id pn
  obtain ⟨t, tn, t1, t2, t3, t4⟩ := a2
  obtain ⟨l, x1, x2⟩ := a3
  obtain ⟨hn, A, O, h1, h2, h3, h4⟩ := a10
  have f0 : fr [50] h (setI h 188 0 (n32 0)) := (fr.rf _ _).sI rfl
  have s0 := a0.fr f0
  have m0 : MR (setI h 188 0 (n32 0)) 193 r := mR_ne r2 (by omega)
  have zz : (setI h 188 0 (n32 0)).2.1 188 3 = n32 sz := by rw [sI_ne (by omega)]; exact z3
  have co := a0.co CL5
  have e24 := r1.2.2.1
  have e25 := r1.2.2.2.1
  have e26 := r1.2.2.2.2.1
  have e27 := r1.2.2.2.2.2
  have g24 := r2 24 (by omega)
  have g25 := r2 25 (by omega)
  have g26 := r2 26 (by omega)
  have g27 := r2 27 (by omega)
  have b27 := r3.2.2.2.1
  have sx0 : f_X0_sumThere 200 h 5 (n32 0) = some (n32 (sumN (fun m => r (0 + m)) sz)) := sumT_x (k := 0) (by omega) co z2 z1 r1 (by omega)
  have sx1 : f_X0_sumThere 200 h 5 (n32 1) = some (n32 (sumN (fun m => r (6 + m)) sz)) := sumT_x (k := 1) (by omega) co z2 z1 r1 (by omega)
  have sx2 := sumL_x (N := 200) (by omega) co z2 z1 r1
  have sm0 := sumO_m (N := 200) (from_ := 0) (by omega) (Or.inl rfl) s0 zz z1 m0 (by omega)
  have sm1 := sumO_m (N := 200) (from_ := 6) (by omega) (Or.inl rfl) s0 zz z1 m0 (by omega)
  have sm2 := sumO_m (N := 200) (from_ := 12) (by omega) (Or.inl rfl) s0 zz z1 m0 (by omega)
  have sm3 := sumO_m (N := 200) (from_ := 18) (by omega) (Or.inl rfl) s0 zz z1 m0 (by omega)
  have done := Iv.up (iv.q0 (f0.mono (by decide)))
  unfold f_X9_count f_X10_count
  by_cases c0 : a1 = n32 0
  · subst c0
    refine ⟨n32 sz, _, ?_, ?_, done⟩
    · simp -implicitDefEqProofs (disch := omega) only [a0.root, gP_p, gP_t, bnd_s, bnd2_s, ltt_s, jn_s, n32_nat, n32_le, n32_lt, n32_eq, n32_add, n32_sub, n32_dec, n32_mul, n32_div, n32_irm, n32_lit, n32_oN, n32_ix, n32_m1, n32_m2, neg_le0, neg_lt0, neg_lt1, neg_le1, n32_min, n32_max, if_true, if_false, Nat.one_ne_zero, gd_some, true_or, or_true, false_or, or_false, Nat.reduceEqDiff, z2, f1.1, e24, e25, e26, e27, sx0, sx1, sx2, h3.1, p4, x1.2.1, t3.1]
    · simp -implicitDefEqProofs (disch := omega) only [a0.mod, s0.mod, gP_p, gP_t, bnd_s, bnd2_s, ltt_s, jn_s, n32_nat, n32_le, n32_lt, n32_eq, n32_add, n32_sub, n32_dec, n32_mul, n32_div, n32_irm, n32_lit, n32_oN, n32_ix, n32_m1, n32_m2, neg_le0, neg_lt0, neg_lt1, neg_le1, n32_min, n32_max, if_true, if_false, Nat.one_ne_zero, gd_some, true_or, or_true, false_or, or_false, Nat.reduceEqDiff, sI_eq, sI_ne, sI_J, sI_R, sI_kO, sI_rK, sI_len, sJ_eq, sJ_ne, sJ_I, sJ_kO, sJ_rK, sJ_len, z3, f2.1, g24, g25, g26, g27, sm0, sm1, sm2, sm3, h4.1, p5, x2.1, t4.1]
  by_cases c1 : a1 = n32 1
  · subst c1
    refine ⟨n32 F.1, _, ?_, ?_, done⟩
    · simp -implicitDefEqProofs (disch := omega) only [a0.root, gP_p, gP_t, bnd_s, bnd2_s, ltt_s, jn_s, n32_nat, n32_le, n32_lt, n32_eq, n32_add, n32_sub, n32_dec, n32_mul, n32_div, n32_irm, n32_lit, n32_oN, n32_ix, n32_m1, n32_m2, neg_le0, neg_lt0, neg_lt1, neg_le1, n32_min, n32_max, if_true, if_false, Nat.one_ne_zero, gd_some, true_or, or_true, false_or, or_false, Nat.reduceEqDiff, z2, f1.1, e24, e25, e26, e27, sx0, sx1, sx2, h3.1, p4, x1.2.1, t3.1]
    · simp -implicitDefEqProofs (disch := omega) only [a0.mod, s0.mod, gP_p, gP_t, bnd_s, bnd2_s, ltt_s, jn_s, n32_nat, n32_le, n32_lt, n32_eq, n32_add, n32_sub, n32_dec, n32_mul, n32_div, n32_irm, n32_lit, n32_oN, n32_ix, n32_m1, n32_m2, neg_le0, neg_lt0, neg_lt1, neg_le1, n32_min, n32_max, if_true, if_false, Nat.one_ne_zero, gd_some, true_or, or_true, false_or, or_false, Nat.reduceEqDiff, sI_eq, sI_ne, sI_J, sI_R, sI_kO, sI_rK, sI_len, sJ_eq, sJ_ne, sJ_I, sJ_kO, sJ_rK, sJ_len, z3, f2.1, g24, g25, g26, g27, sm0, sm1, sm2, sm3, h4.1, p5, x2.1, t4.1]
  by_cases c2 : a1 = n32 2
  · subst c2
    refine ⟨n32 (r 25), _, ?_, ?_, done⟩
    · simp -implicitDefEqProofs (disch := omega) only [a0.root, gP_p, gP_t, bnd_s, bnd2_s, ltt_s, jn_s, n32_nat, n32_le, n32_lt, n32_eq, n32_add, n32_sub, n32_dec, n32_mul, n32_div, n32_irm, n32_lit, n32_oN, n32_ix, n32_m1, n32_m2, neg_le0, neg_lt0, neg_lt1, neg_le1, n32_min, n32_max, if_true, if_false, Nat.one_ne_zero, gd_some, true_or, or_true, false_or, or_false, Nat.reduceEqDiff, z2, f1.1, e24, e25, e26, e27, sx0, sx1, sx2, h3.1, p4, x1.2.1, t3.1]
    · simp -implicitDefEqProofs (disch := omega) only [a0.mod, s0.mod, gP_p, gP_t, bnd_s, bnd2_s, ltt_s, jn_s, n32_nat, n32_le, n32_lt, n32_eq, n32_add, n32_sub, n32_dec, n32_mul, n32_div, n32_irm, n32_lit, n32_oN, n32_ix, n32_m1, n32_m2, neg_le0, neg_lt0, neg_lt1, neg_le1, n32_min, n32_max, if_true, if_false, Nat.one_ne_zero, gd_some, true_or, or_true, false_or, or_false, Nat.reduceEqDiff, sI_eq, sI_ne, sI_J, sI_R, sI_kO, sI_rK, sI_len, sJ_eq, sJ_ne, sJ_I, sJ_kO, sJ_rK, sJ_len, z3, f2.1, g24, g25, g26, g27, sm0, sm1, sm2, sm3, h4.1, p5, x2.1, t4.1]
  by_cases c3 : a1 = n32 3
  · subst c3
    refine ⟨n32 (r 24), _, ?_, ?_, done⟩
    · simp -implicitDefEqProofs (disch := omega) only [a0.root, gP_p, gP_t, bnd_s, bnd2_s, ltt_s, jn_s, n32_nat, n32_le, n32_lt, n32_eq, n32_add, n32_sub, n32_dec, n32_mul, n32_div, n32_irm, n32_lit, n32_oN, n32_ix, n32_m1, n32_m2, neg_le0, neg_lt0, neg_lt1, neg_le1, n32_min, n32_max, if_true, if_false, Nat.one_ne_zero, gd_some, true_or, or_true, false_or, or_false, Nat.reduceEqDiff, z2, f1.1, e24, e25, e26, e27, sx0, sx1, sx2, h3.1, p4, x1.2.1, t3.1]
    · simp -implicitDefEqProofs (disch := omega) only [a0.mod, s0.mod, gP_p, gP_t, bnd_s, bnd2_s, ltt_s, jn_s, n32_nat, n32_le, n32_lt, n32_eq, n32_add, n32_sub, n32_dec, n32_mul, n32_div, n32_irm, n32_lit, n32_oN, n32_ix, n32_m1, n32_m2, neg_le0, neg_lt0, neg_lt1, neg_le1, n32_min, n32_max, if_true, if_false, Nat.one_ne_zero, gd_some, true_or, or_true, false_or, or_false, Nat.reduceEqDiff, sI_eq, sI_ne, sI_J, sI_R, sI_kO, sI_rK, sI_len, sJ_eq, sJ_ne, sJ_I, sJ_kO, sJ_rK, sJ_len, z3, f2.1, g24, g25, g26, g27, sm0, sm1, sm2, sm3, h4.1, p5, x2.1, t4.1]
  by_cases c4 : a1 = n32 4
  · subst c4
    refine ⟨n32 (r 26), _, ?_, ?_, done⟩
    · simp -implicitDefEqProofs (disch := omega) only [a0.root, gP_p, gP_t, bnd_s, bnd2_s, ltt_s, jn_s, n32_nat, n32_le, n32_lt, n32_eq, n32_add, n32_sub, n32_dec, n32_mul, n32_div, n32_irm, n32_lit, n32_oN, n32_ix, n32_m1, n32_m2, neg_le0, neg_lt0, neg_lt1, neg_le1, n32_min, n32_max, if_true, if_false, Nat.one_ne_zero, gd_some, true_or, or_true, false_or, or_false, Nat.reduceEqDiff, z2, f1.1, e24, e25, e26, e27, sx0, sx1, sx2, h3.1, p4, x1.2.1, t3.1]
    · simp -implicitDefEqProofs (disch := omega) only [a0.mod, s0.mod, gP_p, gP_t, bnd_s, bnd2_s, ltt_s, jn_s, n32_nat, n32_le, n32_lt, n32_eq, n32_add, n32_sub, n32_dec, n32_mul, n32_div, n32_irm, n32_lit, n32_oN, n32_ix, n32_m1, n32_m2, neg_le0, neg_lt0, neg_lt1, neg_le1, n32_min, n32_max, if_true, if_false, Nat.one_ne_zero, gd_some, true_or, or_true, false_or, or_false, Nat.reduceEqDiff, sI_eq, sI_ne, sI_J, sI_R, sI_kO, sI_rK, sI_len, sJ_eq, sJ_ne, sJ_I, sJ_kO, sJ_rK, sJ_len, z3, f2.1, g24, g25, g26, g27, sm0, sm1, sm2, sm3, h4.1, p5, x2.1, t4.1]
  by_cases c5 : a1 = n32 5
  · subst c5
    refine ⟨n32 (r 27), _, ?_, ?_, done⟩
    · rcases (show r 27 = 0 ∨ r 27 = 1 by omega) with q | q
      · rw [q] at e27 ⊢
        simp -implicitDefEqProofs (disch := omega) only [a0.root, gP_p, gP_t, bnd_s, bnd2_s, ltt_s, jn_s, n32_nat, n32_le, n32_lt, n32_eq, n32_add, n32_sub, n32_dec, n32_mul, n32_div, n32_irm, n32_lit, n32_oN, n32_ix, n32_m1, n32_m2, neg_le0, neg_lt0, neg_lt1, neg_le1, n32_min, n32_max, if_true, if_false, Nat.one_ne_zero, gd_some, true_or, or_true, false_or, or_false, Nat.reduceEqDiff, z2, f1.1, e24, e25, e26, e27, sx0, sx1, sx2, h3.1, p4, x1.2.1, t3.1]
      · rw [q] at e27 ⊢
        simp -implicitDefEqProofs (disch := omega) only [a0.root, gP_p, gP_t, bnd_s, bnd2_s, ltt_s, jn_s, n32_nat, n32_le, n32_lt, n32_eq, n32_add, n32_sub, n32_dec, n32_mul, n32_div, n32_irm, n32_lit, n32_oN, n32_ix, n32_m1, n32_m2, neg_le0, neg_lt0, neg_lt1, neg_le1, n32_min, n32_max, if_true, if_false, Nat.one_ne_zero, gd_some, true_or, or_true, false_or, or_false, Nat.reduceEqDiff, z2, f1.1, e24, e25, e26, e27, sx0, sx1, sx2, h3.1, p4, x1.2.1, t3.1]
    · simp -implicitDefEqProofs (disch := omega) only [a0.mod, s0.mod, gP_p, gP_t, bnd_s, bnd2_s, ltt_s, jn_s, n32_nat, n32_le, n32_lt, n32_eq, n32_add, n32_sub, n32_dec, n32_mul, n32_div, n32_irm, n32_lit, n32_oN, n32_ix, n32_m1, n32_m2, neg_le0, neg_lt0, neg_lt1, neg_le1, n32_min, n32_max, if_true, if_false, Nat.one_ne_zero, gd_some, true_or, or_true, false_or, or_false, Nat.reduceEqDiff, sI_eq, sI_ne, sI_J, sI_R, sI_kO, sI_rK, sI_len, sJ_eq, sJ_ne, sJ_I, sJ_kO, sJ_rK, sJ_len, z3, f2.1, g24, g25, g26, g27, sm0, sm1, sm2, sm3, h4.1, p5, x2.1, t4.1]
  by_cases c6 : a1 = n32 6
  · subst c6
    refine ⟨n32 (sumN (fun m => r (0 + m)) sz), _, ?_, ?_, done⟩
    · simp -implicitDefEqProofs (disch := omega) only [a0.root, gP_p, gP_t, bnd_s, bnd2_s, ltt_s, jn_s, n32_nat, n32_le, n32_lt, n32_eq, n32_add, n32_sub, n32_dec, n32_mul, n32_div, n32_irm, n32_lit, n32_oN, n32_ix, n32_m1, n32_m2, neg_le0, neg_lt0, neg_lt1, neg_le1, n32_min, n32_max, if_true, if_false, Nat.one_ne_zero, gd_some, true_or, or_true, false_or, or_false, Nat.reduceEqDiff, z2, f1.1, e24, e25, e26, e27, sx0, sx1, sx2, h3.1, p4, x1.2.1, t3.1]
    · simp -implicitDefEqProofs (disch := omega) only [a0.mod, s0.mod, gP_p, gP_t, bnd_s, bnd2_s, ltt_s, jn_s, n32_nat, n32_le, n32_lt, n32_eq, n32_add, n32_sub, n32_dec, n32_mul, n32_div, n32_irm, n32_lit, n32_oN, n32_ix, n32_m1, n32_m2, neg_le0, neg_lt0, neg_lt1, neg_le1, n32_min, n32_max, if_true, if_false, Nat.one_ne_zero, gd_some, true_or, or_true, false_or, or_false, Nat.reduceEqDiff, sI_eq, sI_ne, sI_J, sI_R, sI_kO, sI_rK, sI_len, sJ_eq, sJ_ne, sJ_I, sJ_kO, sJ_rK, sJ_len, z3, f2.1, g24, g25, g26, g27, sm0, sm1, sm2, sm3, h4.1, p5, x2.1, t4.1]
  by_cases c7 : a1 = n32 7
  · subst c7
    refine ⟨n32 (sumN (fun m => r (6 + m)) sz), _, ?_, ?_, done⟩
    · simp -implicitDefEqProofs (disch := omega) only [a0.root, gP_p, gP_t, bnd_s, bnd2_s, ltt_s, jn_s, n32_nat, n32_le, n32_lt, n32_eq, n32_add, n32_sub, n32_dec, n32_mul, n32_div, n32_irm, n32_lit, n32_oN, n32_ix, n32_m1, n32_m2, neg_le0, neg_lt0, neg_lt1, neg_le1, n32_min, n32_max, if_true, if_false, Nat.one_ne_zero, gd_some, true_or, or_true, false_or, or_false, Nat.reduceEqDiff, z2, f1.1, e24, e25, e26, e27, sx0, sx1, sx2, h3.1, p4, x1.2.1, t3.1]
    · simp -implicitDefEqProofs (disch := omega) only [a0.mod, s0.mod, gP_p, gP_t, bnd_s, bnd2_s, ltt_s, jn_s, n32_nat, n32_le, n32_lt, n32_eq, n32_add, n32_sub, n32_dec, n32_mul, n32_div, n32_irm, n32_lit, n32_oN, n32_ix, n32_m1, n32_m2, neg_le0, neg_lt0, neg_lt1, neg_le1, n32_min, n32_max, if_true, if_false, Nat.one_ne_zero, gd_some, true_or, or_true, false_or, or_false, Nat.reduceEqDiff, sI_eq, sI_ne, sI_J, sI_R, sI_kO, sI_rK, sI_len, sJ_eq, sJ_ne, sJ_I, sJ_kO, sJ_rK, sJ_len, z3, f2.1, g24, g25, g26, g27, sm0, sm1, sm2, sm3, h4.1, p5, x2.1, t4.1]
  by_cases c8 : a1 = n32 8
  · subst c8
    refine ⟨n32 (sumN (fun m => r (12 + m)) sz + sumN (fun m => r (18 + m)) sz), _, ?_, ?_, done⟩
    · simp -implicitDefEqProofs (disch := omega) only [a0.root, gP_p, gP_t, bnd_s, bnd2_s, ltt_s, jn_s, n32_nat, n32_le, n32_lt, n32_eq, n32_add, n32_sub, n32_dec, n32_mul, n32_div, n32_irm, n32_lit, n32_oN, n32_ix, n32_m1, n32_m2, neg_le0, neg_lt0, neg_lt1, neg_le1, n32_min, n32_max, if_true, if_false, Nat.one_ne_zero, gd_some, true_or, or_true, false_or, or_false, Nat.reduceEqDiff, z2, f1.1, e24, e25, e26, e27, sx0, sx1, sx2, h3.1, p4, x1.2.1, t3.1]
    · simp -implicitDefEqProofs (disch := omega) only [a0.mod, s0.mod, gP_p, gP_t, bnd_s, bnd2_s, ltt_s, jn_s, n32_nat, n32_le, n32_lt, n32_eq, n32_add, n32_sub, n32_dec, n32_mul, n32_div, n32_irm, n32_lit, n32_oN, n32_ix, n32_m1, n32_m2, neg_le0, neg_lt0, neg_lt1, neg_le1, n32_min, n32_max, if_true, if_false, Nat.one_ne_zero, gd_some, true_or, or_true, false_or, or_false, Nat.reduceEqDiff, sI_eq, sI_ne, sI_J, sI_R, sI_kO, sI_rK, sI_len, sJ_eq, sJ_ne, sJ_I, sJ_kO, sJ_rK, sJ_len, z3, f2.1, g24, g25, g26, g27, sm0, sm1, sm2, sm3, h4.1, p5, x2.1, t4.1]
  by_cases c9 : a1 = n32 9
  · subst c9
    refine ⟨n32 hn, _, ?_, ?_, done⟩
    · simp -implicitDefEqProofs (disch := omega) only [a0.root, gP_p, gP_t, bnd_s, bnd2_s, ltt_s, jn_s, n32_nat, n32_le, n32_lt, n32_eq, n32_add, n32_sub, n32_dec, n32_mul, n32_div, n32_irm, n32_lit, n32_oN, n32_ix, n32_m1, n32_m2, neg_le0, neg_lt0, neg_lt1, neg_le1, n32_min, n32_max, if_true, if_false, Nat.one_ne_zero, gd_some, true_or, or_true, false_or, or_false, Nat.reduceEqDiff, z2, f1.1, e24, e25, e26, e27, sx0, sx1, sx2, h3.1, p4, x1.2.1, t3.1]
    · simp -implicitDefEqProofs (disch := omega) only [a0.mod, s0.mod, gP_p, gP_t, bnd_s, bnd2_s, ltt_s, jn_s, n32_nat, n32_le, n32_lt, n32_eq, n32_add, n32_sub, n32_dec, n32_mul, n32_div, n32_irm, n32_lit, n32_oN, n32_ix, n32_m1, n32_m2, neg_le0, neg_lt0, neg_lt1, neg_le1, n32_min, n32_max, if_true, if_false, Nat.one_ne_zero, gd_some, true_or, or_true, false_or, or_false, Nat.reduceEqDiff, sI_eq, sI_ne, sI_J, sI_R, sI_kO, sI_rK, sI_len, sJ_eq, sJ_ne, sJ_I, sJ_kO, sJ_rK, sJ_len, z3, f2.1, g24, g25, g26, g27, sm0, sm1, sm2, sm3, h4.1, p5, x2.1, t4.1]
  by_cases c10 : a1 = n32 10
  · subst c10
    refine ⟨n32 u, _, ?_, ?_, done⟩
    · simp -implicitDefEqProofs (disch := omega) only [a0.root, gP_p, gP_t, bnd_s, bnd2_s, ltt_s, jn_s, n32_nat, n32_le, n32_lt, n32_eq, n32_add, n32_sub, n32_dec, n32_mul, n32_div, n32_irm, n32_lit, n32_oN, n32_ix, n32_m1, n32_m2, neg_le0, neg_lt0, neg_lt1, neg_le1, n32_min, n32_max, if_true, if_false, Nat.one_ne_zero, gd_some, true_or, or_true, false_or, or_false, Nat.reduceEqDiff, z2, f1.1, e24, e25, e26, e27, sx0, sx1, sx2, h3.1, p4, x1.2.1, t3.1]
    · simp -implicitDefEqProofs (disch := omega) only [a0.mod, s0.mod, gP_p, gP_t, bnd_s, bnd2_s, ltt_s, jn_s, n32_nat, n32_le, n32_lt, n32_eq, n32_add, n32_sub, n32_dec, n32_mul, n32_div, n32_irm, n32_lit, n32_oN, n32_ix, n32_m1, n32_m2, neg_le0, neg_lt0, neg_lt1, neg_le1, n32_min, n32_max, if_true, if_false, Nat.one_ne_zero, gd_some, true_or, or_true, false_or, or_false, Nat.reduceEqDiff, sI_eq, sI_ne, sI_J, sI_R, sI_kO, sI_rK, sI_len, sJ_eq, sJ_ne, sJ_I, sJ_kO, sJ_rK, sJ_len, z3, f2.1, g24, g25, g26, g27, sm0, sm1, sm2, sm3, h4.1, p5, x2.1, t4.1]
  by_cases c11 : a1 = n32 11
  · subst c11
    refine ⟨n32 l.length, _, ?_, ?_, done⟩
    · simp -implicitDefEqProofs (disch := omega) only [a0.root, gP_p, gP_t, bnd_s, bnd2_s, ltt_s, jn_s, n32_nat, n32_le, n32_lt, n32_eq, n32_add, n32_sub, n32_dec, n32_mul, n32_div, n32_irm, n32_lit, n32_oN, n32_ix, n32_m1, n32_m2, neg_le0, neg_lt0, neg_lt1, neg_le1, n32_min, n32_max, if_true, if_false, Nat.one_ne_zero, gd_some, true_or, or_true, false_or, or_false, Nat.reduceEqDiff, z2, f1.1, e24, e25, e26, e27, sx0, sx1, sx2, h3.1, p4, x1.2.1, t3.1]
    · simp -implicitDefEqProofs (disch := omega) only [a0.mod, s0.mod, gP_p, gP_t, bnd_s, bnd2_s, ltt_s, jn_s, n32_nat, n32_le, n32_lt, n32_eq, n32_add, n32_sub, n32_dec, n32_mul, n32_div, n32_irm, n32_lit, n32_oN, n32_ix, n32_m1, n32_m2, neg_le0, neg_lt0, neg_lt1, neg_le1, n32_min, n32_max, if_true, if_false, Nat.one_ne_zero, gd_some, true_or, or_true, false_or, or_false, Nat.reduceEqDiff, sI_eq, sI_ne, sI_J, sI_R, sI_kO, sI_rK, sI_len, sJ_eq, sJ_ne, sJ_I, sJ_kO, sJ_rK, sJ_len, z3, f2.1, g24, g25, g26, g27, sm0, sm1, sm2, sm3, h4.1, p5, x2.1, t4.1]
  by_cases c12 : a1 = n32 12
  · subst c12
    refine ⟨n32 tn, _, ?_, ?_, done⟩
    · simp -implicitDefEqProofs (disch := omega) only [a0.root, gP_p, gP_t, bnd_s, bnd2_s, ltt_s, jn_s, n32_nat, n32_le, n32_lt, n32_eq, n32_add, n32_sub, n32_dec, n32_mul, n32_div, n32_irm, n32_lit, n32_oN, n32_ix, n32_m1, n32_m2, neg_le0, neg_lt0, neg_lt1, neg_le1, n32_min, n32_max, if_true, if_false, Nat.one_ne_zero, gd_some, true_or, or_true, false_or, or_false, Nat.reduceEqDiff, z2, f1.1, e24, e25, e26, e27, sx0, sx1, sx2, h3.1, p4, x1.2.1, t3.1]
    · simp -implicitDefEqProofs (disch := omega) only [a0.mod, s0.mod, gP_p, gP_t, bnd_s, bnd2_s, ltt_s, jn_s, n32_nat, n32_le, n32_lt, n32_eq, n32_add, n32_sub, n32_dec, n32_mul, n32_div, n32_irm, n32_lit, n32_oN, n32_ix, n32_m1, n32_m2, neg_le0, neg_lt0, neg_lt1, neg_le1, n32_min, n32_max, if_true, if_false, Nat.one_ne_zero, gd_some, true_or, or_true, false_or, or_false, Nat.reduceEqDiff, sI_eq, sI_ne, sI_J, sI_R, sI_kO, sI_rK, sI_len, sJ_eq, sJ_ne, sJ_I, sJ_kO, sJ_rK, sJ_len, z3, f2.1, g24, g25, g26, g27, sm0, sm1, sm2, sm3, h4.1, p5, x2.1, t4.1]
  refine ⟨-n32 100, _, ?_, ?_, done⟩
  · simp -implicitDefEqProofs (disch := omega) only [a0.root, gP_p, gP_t, bnd_s, bnd2_s, ltt_s, jn_s, n32_nat, n32_le, n32_lt, n32_eq, n32_add, n32_sub, n32_dec, n32_mul, n32_div, n32_irm, n32_lit, n32_oN, n32_ix, n32_m1, n32_m2, neg_le0, neg_lt0, neg_lt1, neg_le1, n32_min, n32_max, if_true, if_false, Nat.one_ne_zero, gd_some, true_or, or_true, false_or, or_false, c0, c1, c2, c3, c4, c5, c6, c7, c8, c9, c10, c11, c12]
  · simp -implicitDefEqProofs (disch := omega) only [a0.mod, gP_p, gP_t, bnd_s, bnd2_s, ltt_s, jn_s, n32_nat, n32_le, n32_lt, n32_eq, n32_add, n32_sub, n32_dec, n32_mul, n32_div, n32_irm, n32_lit, n32_oN, n32_ix, n32_m1, n32_m2, neg_le0, neg_lt0, neg_lt1, neg_le1, n32_min, n32_max, if_true, if_false, Nat.one_ne_zero, gd_some, true_or, or_true, false_or, or_false, c0, c1, c2, c3, c4, c5, c6, c7, c8, c9, c10, c11, c12]
