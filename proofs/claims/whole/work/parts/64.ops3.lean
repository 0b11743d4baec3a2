/-! ===== when, buys, best, grows, rises: the operations ===== -/
theorem op_when {k : Nat} (hk : k < 512) : ∀ (h : HP) (a1 a2 : Int32), Inv k h → ∃ (v : Int32) (h1 h2 : HP), f_X9_when 200 h 0 a1 a2 = some (v, h1) ∧ f_X10_when 200 h1 188 a1 a2 = some (v, h2) ∧ Inv (k + 1) h2 := fun h a1 a2 I => q_op hk (fX := fun h => f_X9_when 200 h 0 a1 a2) (fM := fun h => f_X10_when 200 h 188 a1 a2) (fun w l ok => by
  have hB := ok.2.2.2.2.2.2
  have hz := ok.1
  by_cases c1 : 0 ≤ a1.toInt ∧ a1.toInt < (wsz w : Int)
  · obtain ⟨m, hm, rfl⟩ := n32_of c1.1 c1.2
    by_cases c2 : 0 ≤ a2.toInt ∧ a2.toInt ≤ 60
    · obtain ⟨n, ln, hn, rfl⟩ := n32_of2 (lo := 0) (hi := 60) c2.1 c2.2
      have xn : f_X9_within (n32 n) (n32 0) (n32 60) = some (n32 1) := within_y c2
      have mn := in_y (x := n32 n) (lo := 0) (hi := 60) (a := 0) (b := 60) rfl rfl c2
      have b0 := ok.2.1.1 (12 + m) (by omega)
      have b1 := ok.2.1.1 (18 + m) (by omega)
      refine ⟨n32 (whM w m (2 * wr w (12 + m) + wr w (18 + m)) (n + 1) 0 (wr w) 0 0).2, [(xt (whM w m (2 * wr w (12 + m) + wr w (18 + m)) (n + 1) 0 (wr w) 0 0).1).toInt64], fun h x rx => ?_, fun h x rm => ?_⟩
      · have co := x.1.co CL5
        obtain ⟨-, s1, -, -, -, -⟩ := x.2.2.1
        have a0 : h.2.1 10 m = n32 (wr w (12 + m)) := by have := s1 0 m (by omega) (by omega); rw [show 6 * 0 + m = m by omega] at this; exact this
        have a1 : h.2.1 11 m = n32 (wr w (18 + m)) := by have := s1 1 m (by omega) (by omega); rw [show 12 + (6 * 1 + m) = 18 + m by omega] at this; exact this
        have c1 : rK h 5 1 106 = some 9 := co.2.2.1
        have c2 : rK h 9 0 102 = some 10 := co.2.2.2.2.1 0 (by omega)
        have c3 : rK h 9 1 102 = some 11 := co.2.2.2.2.1 1 (by omega)
        have c4 : lenH h 9 = 2 := co.2.2.2.2.2.2.1
        have c5 : lenH h 10 = 6 := co.2.2.2.2.2.2.2.2.1 0 (by omega)
        have c6 : lenH h 11 = 6 := co.2.2.2.2.2.2.2.2.1 1 (by omega)
        unfold f_X9_when
        simp -implicitDefEqProofs (disch := omega) only [x.1.root, gP_p, gP_t, bnd_s, bnd2_s, ltt_s, jn_s, n32_nat, n32_le, n32_lt, n32_eq, n32_add, n32_sub, n32_dec, n32_mul, n32_div, n32_irm, n32_lit, n32_oN, n32_ix, n32_m1, n32_m2, neg_le0, neg_lt0, neg_lt1, neg_le1, n32_min, n32_max, if_true, if_false, Nat.one_ne_zero, gd_some, hasX_y ok x hm, xn, c1, c2, c3, c4, c5, c6, a0, a1, gd_bnd]
        refine gd_mono (x_try (n := 0) (by omega) (by omega) (by omega) ok x rx (fr.rf _ _)) ?_
        intro h2 t2
        exact when_x ok hm (by omega) hn (n + 1) 0 200 h2 (wr w) _ 0 0 (by omega) (by omega) t2 (by omega) (by omega)
      · obtain ⟨v1, rm1, f1⟩ := thr0 x rm
        have a0 := v1.2.2.1 (12 + m) (by omega)
        have a1 : (setI h 188 0 (n32 0)).2.1 193 (12 + (6 + m)) = n32 (wr w (18 + m)) := by rw [v1.2.2.1 (12 + (6 + m)) (by omega), show 12 + (6 + m) = 18 + m by omega]
        unfold f_X10_when
        simp -implicitDefEqProofs (disch := omega) only [x.1.mod, gP_p, gP_t, bnd_s, bnd2_s, ltt_s, jn_s, n32_nat, n32_le, n32_lt, n32_eq, n32_add, n32_sub, n32_dec, n32_mul, n32_div, n32_irm, n32_lit, n32_oN, n32_ix, n32_m1, n32_m2, neg_le0, neg_lt0, neg_lt1, neg_le1, n32_min, n32_max, if_true, if_false, Nat.one_ne_zero, gd_some]
        simp -implicitDefEqProofs (disch := omega) only [v1.1.mod, gP_p, gP_t, bnd_s, bnd2_s, ltt_s, jn_s, n32_nat, n32_le, n32_lt, n32_eq, n32_add, n32_sub, n32_dec, n32_mul, n32_div, n32_irm, n32_lit, n32_oN, n32_ix, n32_m1, n32_m2, neg_le0, neg_lt0, neg_lt1, neg_le1, n32_min, n32_max, if_true, if_false, Nat.one_ne_zero, gd_some, isM_y ok v1.1 v1.2.1 hm, mn, f_X10_at, Nat.mul_zero, Nat.mul_one, Nat.zero_add, a0, a1, gd_bnd]
        refine gd_mono (m_copies (by omega) ok v1 rm1 f1) ?_
        intro h2 t2
        exact when_m ok hm (by omega) hn (n + 1) 0 200 h2 (wr w) _ 0 0 (by omega) (by omega) t2 (by omega) (by omega)
    · have xn : f_X9_within a2 (n32 0) (n32 60) = some (n32 0) := within_n c2
      have mn := in_n (x := a2) (lo := 0) (hi := 60) (a := 0) (b := 60) rfl rfl c2
      refine ⟨-n32 1, l, fun h x rx => ?_, fun h x rm => ?_⟩
      · unfold f_X9_when
        simp -implicitDefEqProofs (disch := omega) only [x.1.root, gP_p, gP_t, bnd_s, bnd2_s, ltt_s, jn_s, n32_nat, n32_le, n32_lt, n32_eq, n32_add, n32_sub, n32_dec, n32_mul, n32_div, n32_irm, n32_lit, n32_oN, n32_ix, n32_m1, n32_m2, neg_le0, neg_lt0, neg_lt1, neg_le1, n32_min, n32_max, if_true, if_false, Nat.one_ne_zero, gd_some, hasX_y ok x hm, xn]
        exact fin_x rx (fr.rf _ _)
      · obtain ⟨v1, rm1, f1⟩ := thr0 x rm
        unfold f_X10_when
        simp -implicitDefEqProofs (disch := omega) only [x.1.mod, gP_p, gP_t, bnd_s, bnd2_s, ltt_s, jn_s, n32_nat, n32_le, n32_lt, n32_eq, n32_add, n32_sub, n32_dec, n32_mul, n32_div, n32_irm, n32_lit, n32_oN, n32_ix, n32_m1, n32_m2, neg_le0, neg_lt0, neg_lt1, neg_le1, n32_min, n32_max, if_true, if_false, Nat.one_ne_zero, gd_some]
        simp -implicitDefEqProofs (disch := omega) only [gP_p, gP_t, bnd_s, bnd2_s, ltt_s, jn_s, n32_nat, n32_le, n32_lt, n32_eq, n32_add, n32_sub, n32_dec, n32_mul, n32_div, n32_irm, n32_lit, n32_oN, n32_ix, n32_m1, n32_m2, neg_le0, neg_lt0, neg_lt1, neg_le1, n32_min, n32_max, if_true, if_false, Nat.one_ne_zero, gd_some, isM_y ok v1.1 v1.2.1 hm, mn]
        exact fin_m rm1 f1
  · skip
    refine ⟨-n32 1, l, fun h x rx => ?_, fun h x rm => ?_⟩
    · unfold f_X9_when
      simp -implicitDefEqProofs (disch := omega) only [x.1.root, gP_p, gP_t, bnd_s, bnd2_s, ltt_s, jn_s, n32_nat, n32_le, n32_lt, n32_eq, n32_add, n32_sub, n32_dec, n32_mul, n32_div, n32_irm, n32_lit, n32_oN, n32_ix, n32_m1, n32_m2, neg_le0, neg_lt0, neg_lt1, neg_le1, n32_min, n32_max, if_true, if_false, Nat.one_ne_zero, gd_some, hasX_n ok x c1]
      exact fin_x rx (fr.rf _ _)
    · obtain ⟨v1, rm1, f1⟩ := thr0 x rm
      unfold f_X10_when
      simp -implicitDefEqProofs (disch := omega) only [x.1.mod, gP_p, gP_t, bnd_s, bnd2_s, ltt_s, jn_s, n32_nat, n32_le, n32_lt, n32_eq, n32_add, n32_sub, n32_dec, n32_mul, n32_div, n32_irm, n32_lit, n32_oN, n32_ix, n32_m1, n32_m2, neg_le0, neg_lt0, neg_lt1, neg_le1, n32_min, n32_max, if_true, if_false, Nat.one_ne_zero, gd_some]
      simp -implicitDefEqProofs (disch := omega) only [gP_p, gP_t, bnd_s, bnd2_s, ltt_s, jn_s, n32_nat, n32_le, n32_lt, n32_eq, n32_add, n32_sub, n32_dec, n32_mul, n32_div, n32_irm, n32_lit, n32_oN, n32_ix, n32_m1, n32_m2, neg_le0, neg_lt0, neg_lt1, neg_le1, n32_min, n32_max, if_true, if_false, Nat.one_ne_zero, gd_some, isM_n ok v1.1 v1.2.1 c1]
      exact fin_m rm1 f1) h I

def XEq (w : Wd) (l : List Int64) (h0 h : HP) : Prop := XV w h ∧ RowX h l ∧ fr QX h0 h
def MEq (w : Wd) (l : List Int64) (h0 h : HP) : Prop := MV w h ∧ RowM h l ∧ fr QM h0 h
theorem XT.q {w : Wd} {l : List Int64} {h0 h : HP} {q : Nat → Nat} {D : Nat} (t : XT w l h0 h q D) : XEq w l h0 h := ⟨t.1, t.2.1, t.2.2.2.2.1⟩
theorem MT.q {w : Wd} {l : List Int64} {h0 h : HP} {q : Nat → Nat} {D : Nat} (t : MT w l h0 h q D) : MEq w l h0 h := ⟨t.1, t.2.1, t.2.2.2.1⟩
theorem x_nowQ {N m : Nat} {w : Wd} {h0 h : HP} {l : List Int64} (hN : 41 < N) (ok : wOK w) (t : XEq w l h0 h) (hm : m < wsz w) : gd (f_X9_priceOf N h 0 5 (n32 m)) (fun p => p.1 = n32 (wP w (wr w) m) ∧ XEq w l h0 p.2) := by
  obtain ⟨v, rx, f⟩ := t
  refine gd_mono (x_now hN ok v hm) ?_
  rintro ⟨u, h'⟩ ⟨e1, e2⟩
  exact ⟨e1, v.fr e2 (by decide), rx.fr e2 (by decide), f.tr (e2.mono (by decide))⟩
theorem m_nowQ {N m : Nat} {w : Wd} {h0 h : HP} {l : List Int64} (hN : 41 < N) (ok : wOK w) (t : MEq w l h0 h) (hm : m < wsz w) : gd (f_X10_priceOf N h 188 193 (n32 m)) (fun p => p.1 = n32 (wP w (wr w) m) ∧ MEq w l h0 p.2) := by
  obtain ⟨v, rm, f⟩ := t
  refine gd_mono (m_now hN ok v hm) ?_
  rintro ⟨u, h'⟩ ⟨e1, e2⟩
  exact ⟨e1, v.fr e2 (by decide), rm.fr e2 (by decide), f.tr (e2.mono (by decide))⟩
theorem xq_tell1 {w : Wd} {l : List Int64} {h0 h : HP} {v : Int64} (t : XEq w l h0 h) : gd (f_X6_tell h 3 v) (fun h' => XEq w [v] h0 h') := by
  refine gd_mono (tell1_x t.1.1) ?_
  rintro h' ⟨e1, e2⟩
  exact ⟨t.1.fr e2 (by decide), e1, t.2.2.tr (e2.mono (by decide))⟩
theorem xq_tell2 {w : Wd} {l : List Int64} {h0 h : HP} {v v' : Int64} (t : XEq w l h0 h) : gd (f_X6_tell_ h 3 v v') (fun h' => XEq w [v, v'] h0 h') := by
  refine gd_mono (tell2_x t.1.1) ?_
  rintro h' ⟨e1, e2⟩
  exact ⟨t.1.fr e2 (by decide), e1, t.2.2.tr (e2.mono (by decide))⟩
theorem mq_told0 {w : Wd} {l : List Int64} {h0 h : HP} (t : MEq w l h0 h) : MEq w [] h0 (setI h 188 1 (n32 0)) := by
  obtain ⟨v, rm, f⟩ := t
  obtain ⟨e1, e2⟩ := rowM_0 (h := h)
  exact ⟨v.fr e2 (by decide), e1, f.tr (e2.mono (by decide))⟩
theorem mq_ent {w : Wd} {l : List Int64} {h0 h : HP} {x : Int64} (t : MEq w l h0 h) (hl : l.length < 6) : gd (f_X10_enters h 188 x) (fun h' => MEq w (l ++ [x]) h0 h') := by
  obtain ⟨v, rm, f⟩ := t
  refine gd_mono (ent_m v.1 rm (by omega)) ?_
  rintro h' ⟨e1, e2⟩
  exact ⟨v.fr e2 (by decide), e1, f.tr (e2.mono (by decide))⟩
/-! what a payment buys -/
noncomputable def gbk (w : Wd) (m v n k : Nat) : Nat := if k = 0 then gf v (wP w (wr w) m) else if k = 1 then gf v (pr (wL w) (askL (n32 0) (n32 0) (n32 (wg w m)) (n32 m) (n32 0) (n32 0))) else if k = 2 then gf v (wP w (wr w) m / 2) else if k = 3 then gf v (wP w (wMs w n (wr w)) m) else gf (v / 2) (wP w (wr w) m)
theorem pr_le {L : List Nat} {a : Nat → Int32} : pr L a ≤ 99999 := clampN_le _
theorem gbk_le {w : Wd} {m v n k : Nat} (hv : v ≤ 9999) : gbk w m v n k ≤ 9999 := by
  have h1 : ∀ a p, a ≤ 9999 → gf a p ≤ 9999 := fun a p ha => by
    unfold gf
    split
    · omega
    · exact Nat.le_trans (Nat.div_le_self _ _) ha
  unfold gbk
  split
  · exact h1 _ _ hv
  · split
    · exact h1 _ _ hv
    · split
      · exact h1 _ _ hv
      · split
        · exact h1 _ _ hv
        · exact h1 _ _ (by omega)
theorem gbk_x {m v n k : Nat} {w : Wd} {h0 h : HP} {l : List Int64} (ok : wOK w) (t : XEq w l h0 h) (hm : m < wsz w) (hv : v ≤ 9999) (hn : n ≤ 60) (hk : k ≤ 4) :
    gd (f_X9_goodsByKind 200 h 0 (n32 k) (n32 m) (n32 v) (n32 n)) (fun p => p.1 = n32 (gbk w m v n k) ∧ XEq w l h0 p.2) := by
  have hz := ok.1
  have hB := ok.2.2.2.2.2.2
  have hp := wP_le (w := w) (q := wr w) (m := m)
  have hp3 := wP_le (w := w) (q := wMs w n (wr w)) (m := m)
  have hk' : k = 0 ∨ k = 1 ∨ k = 2 ∨ k = 3 ∨ k = 4 := by omega
  unfold f_X9_goodsByKind gbk
  rcases hk' with rfl | rfl | rfl | rfl | rfl
  · simp -implicitDefEqProofs (disch := omega) only [t.1.1.root, gP_p, gP_t, bnd_s, bnd2_s, ltt_s, jn_s, n32_nat, n32_le, n32_lt, n32_eq, n32_add, n32_sub, n32_dec, n32_mul, n32_div, n32_irm, n32_lit, n32_oN, n32_ix, n32_m1, n32_m2, neg_le0, neg_lt0, neg_lt1, neg_le1, n32_min, n32_max, if_true, if_false, Nat.one_ne_zero, gd_some, gd_bnd2]
    refine gd_mono (x_nowQ (by omega) ok t hm) ?_
    rintro ⟨u, h1⟩ ⟨e1, t1⟩
    have e1' : u = n32 (wP w (wr w) m) := e1
    subst e1'
    simp -implicitDefEqProofs (disch := omega) only [gP_p, gP_t, bnd_s, bnd2_s, ltt_s, jn_s, n32_nat, n32_le, n32_lt, n32_eq, n32_add, n32_sub, n32_dec, n32_mul, n32_div, n32_irm, n32_lit, n32_oN, n32_ix, n32_m1, n32_m2, neg_le0, neg_lt0, neg_lt1, neg_le1, n32_min, n32_max, if_true, if_false, Nat.one_ne_zero, gd_some, goods_x]
    exact ⟨trivial, t1⟩
  · have ru := t.1.2.2.2.2.2
    have rcv := t.1.1.ruc w.2.1
    have gm := t.1.2.2.2.1 m hm
    have p7 := price7 (N := 200) (o := n32 0) (n := n32 0) (g := n32 (wg w m)) (d := n32 m) (m := n32 0) (hh := n32 0) (by omega) (wr_x ok.2.2.2.2.2.1) (rur_rc w.2.1).1 (rur_rc w.2.1).2.1 rcv ru.1 ru.2
    simp -implicitDefEqProofs (disch := omega) only [t.1.1.root, gP_p, gP_t, bnd_s, bnd2_s, ltt_s, jn_s, n32_nat, n32_le, n32_lt, n32_eq, n32_add, n32_sub, n32_dec, n32_mul, n32_div, n32_irm, n32_lit, n32_oN, n32_ix, n32_m1, n32_m2, neg_le0, neg_lt0, neg_lt1, neg_le1, n32_min, n32_max, if_true, if_false, Nat.one_ne_zero, gd_some, gm, gd_bnd2]
    refine gd_mono p7 ?_
    rintro ⟨u, h1⟩ ⟨e1, f1⟩
    have hle := pr_le (L := wL w) (a := askL (n32 0) (n32 0) (n32 (wg w m)) (n32 m) (n32 0) (n32 0))
    have e1' : u = n32 (pr (wL w) (askL (n32 0) (n32 0) (n32 (wg w m)) (n32 m) (n32 0) (n32 0))) := e1
    subst e1'
    simp -implicitDefEqProofs (disch := omega) only [gP_p, gP_t, bnd_s, bnd2_s, ltt_s, jn_s, n32_nat, n32_le, n32_lt, n32_eq, n32_add, n32_sub, n32_dec, n32_mul, n32_div, n32_irm, n32_lit, n32_oN, n32_ix, n32_m1, n32_m2, neg_le0, neg_lt0, neg_lt1, neg_le1, n32_min, n32_max, if_true, if_false, Nat.one_ne_zero, gd_some, goods_x]
    have f2 := fr_sc f1
    exact ⟨trivial, t.1.fr f2 (by decide), t.2.1.fr f2 (by decide), t.2.2.tr (f2.mono (by decide))⟩
  · simp -implicitDefEqProofs (disch := omega) only [t.1.1.root, gP_p, gP_t, bnd_s, bnd2_s, ltt_s, jn_s, n32_nat, n32_le, n32_lt, n32_eq, n32_add, n32_sub, n32_dec, n32_mul, n32_div, n32_irm, n32_lit, n32_oN, n32_ix, n32_m1, n32_m2, neg_le0, neg_lt0, neg_lt1, neg_le1, n32_min, n32_max, if_true, if_false, Nat.one_ne_zero, gd_some, gd_bnd2, Nat.reduceEqDiff]
    refine gd_mono (x_nowQ (by omega) ok t hm) ?_
    rintro ⟨u, h1⟩ ⟨e1, t1⟩
    have e1' : u = n32 (wP w (wr w) m) := e1
    subst e1'
    simp -implicitDefEqProofs (disch := omega) only [gP_p, gP_t, bnd_s, bnd2_s, ltt_s, jn_s, n32_nat, n32_le, n32_lt, n32_eq, n32_add, n32_sub, n32_dec, n32_mul, n32_div, n32_irm, n32_lit, n32_oN, n32_ix, n32_m1, n32_m2, neg_le0, neg_lt0, neg_lt1, neg_le1, n32_min, n32_max, if_true, if_false, Nat.one_ne_zero, gd_some, goods_x]
    exact ⟨trivial, t1⟩
  · simp -implicitDefEqProofs (disch := omega) only [t.1.1.root, gP_p, gP_t, bnd_s, bnd2_s, ltt_s, jn_s, n32_nat, n32_le, n32_lt, n32_eq, n32_add, n32_sub, n32_dec, n32_mul, n32_div, n32_irm, n32_lit, n32_oN, n32_ix, n32_m1, n32_m2, neg_le0, neg_lt0, neg_lt1, neg_le1, n32_min, n32_max, if_true, if_false, Nat.one_ne_zero, gd_some, gd_bnd, Nat.reduceEqDiff]
    refine gd_mono (x_try (by omega) (by omega) (by omega) ok t.1 t.2.1 t.2.2) ?_
    intro h1 t1
    simp -implicitDefEqProofs (disch := omega) only [t1.1.1.root, gP_p, gP_t, bnd_s, bnd2_s, ltt_s, jn_s, n32_nat, n32_le, n32_lt, n32_eq, n32_add, n32_sub, n32_dec, n32_mul, n32_div, n32_irm, n32_lit, n32_oN, n32_ix, n32_m1, n32_m2, neg_le0, neg_lt0, neg_lt1, neg_le1, n32_min, n32_max, if_true, if_false, Nat.one_ne_zero, gd_some, gd_bnd2]
    refine gd_mono (x_price (by omega) ok t1 (by omega) hm) ?_
    rintro ⟨u, h2⟩ ⟨e2, t2⟩
    have e2' : u = n32 (wP w (wMs w n (wr w)) m) := e2
    subst e2'
    simp -implicitDefEqProofs (disch := omega) only [gP_p, gP_t, bnd_s, bnd2_s, ltt_s, jn_s, n32_nat, n32_le, n32_lt, n32_eq, n32_add, n32_sub, n32_dec, n32_mul, n32_div, n32_irm, n32_lit, n32_oN, n32_ix, n32_m1, n32_m2, neg_le0, neg_lt0, neg_lt1, neg_le1, n32_min, n32_max, if_true, if_false, Nat.one_ne_zero, gd_some, goods_x]
    exact ⟨trivial, t2.q⟩
  · simp -implicitDefEqProofs (disch := omega) only [t.1.1.root, gP_p, gP_t, bnd_s, bnd2_s, ltt_s, jn_s, n32_nat, n32_le, n32_lt, n32_eq, n32_add, n32_sub, n32_dec, n32_mul, n32_div, n32_irm, n32_lit, n32_oN, n32_ix, n32_m1, n32_m2, neg_le0, neg_lt0, neg_lt1, neg_le1, n32_min, n32_max, if_true, if_false, Nat.one_ne_zero, gd_some, gd_bnd2, Nat.reduceEqDiff]
    refine gd_mono (x_nowQ (by omega) ok t hm) ?_
    rintro ⟨u, h1⟩ ⟨e1, t1⟩
    have e1' : u = n32 (wP w (wr w) m) := e1
    subst e1'
    simp -implicitDefEqProofs (disch := omega) only [gP_p, gP_t, bnd_s, bnd2_s, ltt_s, jn_s, n32_nat, n32_le, n32_lt, n32_eq, n32_add, n32_sub, n32_dec, n32_mul, n32_div, n32_irm, n32_lit, n32_oN, n32_ix, n32_m1, n32_m2, neg_le0, neg_lt0, neg_lt1, neg_le1, n32_min, n32_max, if_true, if_false, Nat.one_ne_zero, gd_some, goods_x]
    exact ⟨trivial, t1⟩
theorem gbk_m {m v n k : Nat} {w : Wd} {h0 h : HP} {l : List Int64} (ok : wOK w) (t : MEq w l h0 h) (hm : m < wsz w) (hv : v ≤ 9999) (hn : n ≤ 60) (hk : k ≤ 4) :
    gd (f_X10_boughtBy 200 h 188 (n32 k) (n32 m) (n32 v) (n32 n)) (fun p => p.1 = n32 (gbk w m v n k) ∧ MEq w l h0 p.2) := by
  have hz := ok.1
  have hB := ok.2.2.2.2.2.2
  have hp := wP_le (w := w) (q := wr w) (m := m)
  have hp3 := wP_le (w := w) (q := wMs w n (wr w)) (m := m)
  have hk' : k = 0 ∨ k = 1 ∨ k = 2 ∨ k = 3 ∨ k = 4 := by omega
  unfold f_X10_boughtBy gbk
  rcases hk' with rfl | rfl | rfl | rfl | rfl
  · simp -implicitDefEqProofs (disch := omega) only [t.1.1.mod, gP_p, gP_t, bnd_s, bnd2_s, ltt_s, jn_s, n32_nat, n32_le, n32_lt, n32_eq, n32_add, n32_sub, n32_dec, n32_mul, n32_div, n32_irm, n32_lit, n32_oN, n32_ix, n32_m1, n32_m2, neg_le0, neg_lt0, neg_lt1, neg_le1, n32_min, n32_max, if_true, if_false, Nat.one_ne_zero, gd_some, gd_bnd2]
    refine gd_mono (m_nowQ (by omega) ok t hm) ?_
    rintro ⟨u, h1⟩ ⟨e1, t1⟩
    have e1' : u = n32 (wP w (wr w) m) := e1
    subst e1'
    simp -implicitDefEqProofs (disch := omega) only [gP_p, gP_t, bnd_s, bnd2_s, ltt_s, jn_s, n32_nat, n32_le, n32_lt, n32_eq, n32_add, n32_sub, n32_dec, n32_mul, n32_div, n32_irm, n32_lit, n32_oN, n32_ix, n32_m1, n32_m2, neg_le0, neg_lt0, neg_lt1, neg_le1, n32_min, n32_max, if_true, if_false, Nat.one_ne_zero, gd_some, goods_m]
    exact ⟨trivial, t1⟩
  · have p7 := priceBy_m (N := 200) (o := 0) (n := 0) (mo := 0) (la := 0) (by omega) ok.2.2.2.2.2.1 t.1.1 t.1.2.2.2.2.2 hm hz t.1.2.2.2.1 ok.2.2.2.1 (by omega)
    simp -implicitDefEqProofs (disch := omega) only [t.1.1.mod, gP_p, gP_t, bnd_s, bnd2_s, ltt_s, jn_s, n32_nat, n32_le, n32_lt, n32_eq, n32_add, n32_sub, n32_dec, n32_mul, n32_div, n32_irm, n32_lit, n32_oN, n32_ix, n32_m1, n32_m2, neg_le0, neg_lt0, neg_lt1, neg_le1, n32_min, n32_max, if_true, if_false, Nat.one_ne_zero, gd_some, gd_bnd2]
    refine gd_mono p7 ?_
    rintro ⟨u, h1⟩ ⟨e1, f1⟩
    have hle := pr_le (L := wL w) (a := askL (n32 0) (n32 0) (n32 (wg w m)) (n32 m) (n32 0) (n32 0))
    have e1' : u = n32 (pr (wL w) (askL (n32 0) (n32 0) (n32 (wg w m)) (n32 m) (n32 0) (n32 0))) := e1
    subst e1'
    simp -implicitDefEqProofs (disch := omega) only [gP_p, gP_t, bnd_s, bnd2_s, ltt_s, jn_s, n32_nat, n32_le, n32_lt, n32_eq, n32_add, n32_sub, n32_dec, n32_mul, n32_div, n32_irm, n32_lit, n32_oN, n32_ix, n32_m1, n32_m2, neg_le0, neg_lt0, neg_lt1, neg_le1, n32_min, n32_max, if_true, if_false, Nat.one_ne_zero, gd_some, goods_m]
    exact ⟨trivial, t.1.fr f1 (by decide), t.2.1.fr f1 (by decide), t.2.2.tr (f1.mono (by decide))⟩
  · simp -implicitDefEqProofs (disch := omega) only [t.1.1.mod, gP_p, gP_t, bnd_s, bnd2_s, ltt_s, jn_s, n32_nat, n32_le, n32_lt, n32_eq, n32_add, n32_sub, n32_dec, n32_mul, n32_div, n32_irm, n32_lit, n32_oN, n32_ix, n32_m1, n32_m2, neg_le0, neg_lt0, neg_lt1, neg_le1, n32_min, n32_max, if_true, if_false, Nat.one_ne_zero, gd_some, gd_bnd2, Nat.reduceEqDiff]
    refine gd_mono (m_nowQ (by omega) ok t hm) ?_
    rintro ⟨u, h1⟩ ⟨e1, t1⟩
    have e1' : u = n32 (wP w (wr w) m) := e1
    subst e1'
    simp -implicitDefEqProofs (disch := omega) only [gP_p, gP_t, bnd_s, bnd2_s, ltt_s, jn_s, n32_nat, n32_le, n32_lt, n32_eq, n32_add, n32_sub, n32_dec, n32_mul, n32_div, n32_irm, n32_lit, n32_oN, n32_ix, n32_m1, n32_m2, neg_le0, neg_lt0, neg_lt1, neg_le1, n32_min, n32_max, if_true, if_false, Nat.one_ne_zero, gd_some, goods_m]
    exact ⟨trivial, t1⟩
  · simp -implicitDefEqProofs (disch := omega) only [t.1.1.mod, gP_p, gP_t, bnd_s, bnd2_s, ltt_s, jn_s, n32_nat, n32_le, n32_lt, n32_eq, n32_add, n32_sub, n32_dec, n32_mul, n32_div, n32_irm, n32_lit, n32_oN, n32_ix, n32_m1, n32_m2, neg_le0, neg_lt0, neg_lt1, neg_le1, n32_min, n32_max, if_true, if_false, Nat.one_ne_zero, gd_some, gd_bnd, Nat.reduceEqDiff]
    refine gd_mono (m_copies (by omega) ok t.1 t.2.1 t.2.2) ?_
    intro h1 t1
    simp -implicitDefEqProofs (disch := omega) only [t1.1.1.mod, gP_p, gP_t, bnd_s, bnd2_s, ltt_s, jn_s, n32_nat, n32_le, n32_lt, n32_eq, n32_add, n32_sub, n32_dec, n32_mul, n32_div, n32_irm, n32_lit, n32_oN, n32_ix, n32_m1, n32_m2, neg_le0, neg_lt0, neg_lt1, neg_le1, n32_min, n32_max, if_true, if_false, Nat.one_ne_zero, gd_some, gd_bnd]
    refine gd_mono (m_goes (by omega) (by omega) (by omega) ok t1 (by omega)) ?_
    intro h1 t1
    simp -implicitDefEqProofs (disch := omega) only [t1.1.1.mod, gP_p, gP_t, bnd_s, bnd2_s, ltt_s, jn_s, n32_nat, n32_le, n32_lt, n32_eq, n32_add, n32_sub, n32_dec, n32_mul, n32_div, n32_irm, n32_lit, n32_oN, n32_ix, n32_m1, n32_m2, neg_le0, neg_lt0, neg_lt1, neg_le1, n32_min, n32_max, if_true, if_false, Nat.one_ne_zero, gd_some, gd_bnd2]
    refine gd_mono (m_price (by omega) ok t1 (by omega) hm) ?_
    rintro ⟨u, h2⟩ ⟨e2, t2⟩
    have e2' : u = n32 (wP w (wMs w n (wr w)) m) := e2
    subst e2'
    simp -implicitDefEqProofs (disch := omega) only [gP_p, gP_t, bnd_s, bnd2_s, ltt_s, jn_s, n32_nat, n32_le, n32_lt, n32_eq, n32_add, n32_sub, n32_dec, n32_mul, n32_div, n32_irm, n32_lit, n32_oN, n32_ix, n32_m1, n32_m2, neg_le0, neg_lt0, neg_lt1, neg_le1, n32_min, n32_max, if_true, if_false, Nat.one_ne_zero, gd_some, goods_m]
    exact ⟨trivial, t2.q⟩
  · simp -implicitDefEqProofs (disch := omega) only [t.1.1.mod, gP_p, gP_t, bnd_s, bnd2_s, ltt_s, jn_s, n32_nat, n32_le, n32_lt, n32_eq, n32_add, n32_sub, n32_dec, n32_mul, n32_div, n32_irm, n32_lit, n32_oN, n32_ix, n32_m1, n32_m2, neg_le0, neg_lt0, neg_lt1, neg_le1, n32_min, n32_max, if_true, if_false, Nat.one_ne_zero, gd_some, gd_bnd2, Nat.reduceEqDiff]
    refine gd_mono (m_nowQ (by omega) ok t hm) ?_
    rintro ⟨u, h1⟩ ⟨e1, t1⟩
    have e1' : u = n32 (wP w (wr w) m) := e1
    subst e1'
    simp -implicitDefEqProofs (disch := omega) only [gP_p, gP_t, bnd_s, bnd2_s, ltt_s, jn_s, n32_nat, n32_le, n32_lt, n32_eq, n32_add, n32_sub, n32_dec, n32_mul, n32_div, n32_irm, n32_lit, n32_oN, n32_ix, n32_m1, n32_m2, neg_le0, neg_lt0, neg_lt1, neg_le1, n32_min, n32_max, if_true, if_false, Nat.one_ne_zero, gd_some, goods_m]
    exact ⟨trivial, t1⟩

theorem op_buys {k : Nat} (hk : k < 512) : ∀ (h : HP) (a1 a2 a3 a4 : Int32), Inv k h → ∃ (v : Int32) (h1 h2 : HP), f_X9_buys 200 h 0 a1 a2 a3 a4 = some (v, h1) ∧ f_X10_buys 200 h1 188 a1 a2 a3 a4 = some (v, h2) ∧ Inv (k + 1) h2 := fun h a1 a2 a3 a4 I => q_op hk (fX := fun h => f_X9_buys 200 h 0 a1 a2 a3 a4) (fM := fun h => f_X10_buys 200 h 188 a1 a2 a3 a4) (fun w l ok => by
  have hB := ok.2.2.2.2.2.2
  have hz := ok.1
  by_cases c1 : 0 ≤ a1.toInt ∧ a1.toInt ≤ 4
  · obtain ⟨k0, lk0, hk0, rfl⟩ := n32_of2 (lo := 0) (hi := 4) c1.1 c1.2
    have xk0 : f_X9_within (n32 k0) (n32 0) (n32 4) = some (n32 1) := within_y c1
    have mk0 := in_y (x := n32 k0) (lo := 0) (hi := 4) (a := 0) (b := 4) rfl rfl c1
    by_cases c2 : 0 ≤ a2.toInt ∧ a2.toInt < (wsz w : Int)
    · obtain ⟨m, hm, rfl⟩ := n32_of c2.1 c2.2
      by_cases c3 : 0 ≤ a3.toInt ∧ a3.toInt ≤ 9999
      · obtain ⟨v, lv, hv, rfl⟩ := n32_of2 (lo := 0) (hi := 9999) c3.1 c3.2
        have xv : f_X9_within (n32 v) (n32 0) (n32 9999) = some (n32 1) := within_y c3
        have mv := in_y (x := n32 v) (lo := 0) (hi := 9999) (a := 0) (b := 9999) rfl rfl c3
        by_cases c4 : 0 ≤ a4.toInt ∧ a4.toInt ≤ 60
        · obtain ⟨n, ln, hn, rfl⟩ := n32_of2 (lo := 0) (hi := 60) c4.1 c4.2
          have xn : f_X9_within (n32 n) (n32 0) (n32 60) = some (n32 1) := within_y c4
          have mn := in_y (x := n32 n) (lo := 0) (hi := 60) (a := 0) (b := 60) rfl rfl c4
          refine ⟨n32 (gbk w m v n k0), l, fun h x rx => ?_, fun h x rm => ?_⟩
          · unfold f_X9_buys
            simp -implicitDefEqProofs (disch := omega) only [x.1.root, gP_p, gP_t, bnd_s, bnd2_s, ltt_s, jn_s, n32_nat, n32_le, n32_lt, n32_eq, n32_add, n32_sub, n32_dec, n32_mul, n32_div, n32_irm, n32_lit, n32_oN, n32_ix, n32_m1, n32_m2, neg_le0, neg_lt0, neg_lt1, neg_le1, n32_min, n32_max, if_true, if_false, Nat.one_ne_zero, gd_some, f_X9_maySpend, xk0, hasX_y ok x hm, xv, xn, gd_bnd2]
            refine gd_mono (gbk_x ok ⟨x, rx, fr.rf _ _⟩ hm hv hn hk0) ?_
            rintro ⟨u, h1⟩ ⟨e1, t1⟩
            exact ⟨e1, t1.2.1, t1.2.2⟩
          · obtain ⟨v1, rm1, f1⟩ := thr0 x rm
            unfold f_X10_buys
            simp -implicitDefEqProofs (disch := omega) only [x.1.mod, gP_p, gP_t, bnd_s, bnd2_s, ltt_s, jn_s, n32_nat, n32_le, n32_lt, n32_eq, n32_add, n32_sub, n32_dec, n32_mul, n32_div, n32_irm, n32_lit, n32_oN, n32_ix, n32_m1, n32_m2, neg_le0, neg_lt0, neg_lt1, neg_le1, n32_min, n32_max, if_true, if_false, Nat.one_ne_zero, gd_some]
            simp -implicitDefEqProofs (disch := omega) only [v1.1.mod, gP_p, gP_t, bnd_s, bnd2_s, ltt_s, jn_s, n32_nat, n32_le, n32_lt, n32_eq, n32_add, n32_sub, n32_dec, n32_mul, n32_div, n32_irm, n32_lit, n32_oN, n32_ix, n32_m1, n32_m2, neg_le0, neg_lt0, neg_lt1, neg_le1, n32_min, n32_max, if_true, if_false, Nat.one_ne_zero, gd_some, f_X10_canBuy, mk0, isM_y ok v1.1 v1.2.1 hm, mv, mn, gd_bnd2]
            refine gd_mono (gbk_m ok ⟨v1, rm1, f1⟩ hm hv hn hk0) ?_
            rintro ⟨u, h1⟩ ⟨e1, t1⟩
            exact ⟨e1, t1.2.1, t1.2.2⟩
        · have xn : f_X9_within a4 (n32 0) (n32 60) = some (n32 0) := within_n c4
          have mn := in_n (x := a4) (lo := 0) (hi := 60) (a := 0) (b := 60) rfl rfl c4
          refine ⟨-n32 1, l, fun h x rx => ?_, fun h x rm => ?_⟩
          · unfold f_X9_buys
            simp -implicitDefEqProofs (disch := omega) only [x.1.root, gP_p, gP_t, bnd_s, bnd2_s, ltt_s, jn_s, n32_nat, n32_le, n32_lt, n32_eq, n32_add, n32_sub, n32_dec, n32_mul, n32_div, n32_irm, n32_lit, n32_oN, n32_ix, n32_m1, n32_m2, neg_le0, neg_lt0, neg_lt1, neg_le1, n32_min, n32_max, if_true, if_false, Nat.one_ne_zero, gd_some, f_X9_maySpend, xk0, hasX_y ok x hm, xv, xn]
            exact fin_x rx (fr.rf _ _)
          · obtain ⟨v1, rm1, f1⟩ := thr0 x rm
            unfold f_X10_buys
            simp -implicitDefEqProofs (disch := omega) only [x.1.mod, gP_p, gP_t, bnd_s, bnd2_s, ltt_s, jn_s, n32_nat, n32_le, n32_lt, n32_eq, n32_add, n32_sub, n32_dec, n32_mul, n32_div, n32_irm, n32_lit, n32_oN, n32_ix, n32_m1, n32_m2, neg_le0, neg_lt0, neg_lt1, neg_le1, n32_min, n32_max, if_true, if_false, Nat.one_ne_zero, gd_some]
            simp -implicitDefEqProofs (disch := omega) only [gP_p, gP_t, bnd_s, bnd2_s, ltt_s, jn_s, n32_nat, n32_le, n32_lt, n32_eq, n32_add, n32_sub, n32_dec, n32_mul, n32_div, n32_irm, n32_lit, n32_oN, n32_ix, n32_m1, n32_m2, neg_le0, neg_lt0, neg_lt1, neg_le1, n32_min, n32_max, if_true, if_false, Nat.one_ne_zero, gd_some, f_X10_canBuy, v1.1.mod, mk0, isM_y ok v1.1 v1.2.1 hm, mv, mn]
            exact fin_m rm1 f1
      · have xv : f_X9_within a3 (n32 0) (n32 9999) = some (n32 0) := within_n c3
        have mv := in_n (x := a3) (lo := 0) (hi := 9999) (a := 0) (b := 9999) rfl rfl c3
        refine ⟨-n32 1, l, fun h x rx => ?_, fun h x rm => ?_⟩
        · unfold f_X9_buys
          simp -implicitDefEqProofs (disch := omega) only [x.1.root, gP_p, gP_t, bnd_s, bnd2_s, ltt_s, jn_s, n32_nat, n32_le, n32_lt, n32_eq, n32_add, n32_sub, n32_dec, n32_mul, n32_div, n32_irm, n32_lit, n32_oN, n32_ix, n32_m1, n32_m2, neg_le0, neg_lt0, neg_lt1, neg_le1, n32_min, n32_max, if_true, if_false, Nat.one_ne_zero, gd_some, f_X9_maySpend, xk0, hasX_y ok x hm, xv]
          exact fin_x rx (fr.rf _ _)
        · obtain ⟨v1, rm1, f1⟩ := thr0 x rm
          unfold f_X10_buys
          simp -implicitDefEqProofs (disch := omega) only [x.1.mod, gP_p, gP_t, bnd_s, bnd2_s, ltt_s, jn_s, n32_nat, n32_le, n32_lt, n32_eq, n32_add, n32_sub, n32_dec, n32_mul, n32_div, n32_irm, n32_lit, n32_oN, n32_ix, n32_m1, n32_m2, neg_le0, neg_lt0, neg_lt1, neg_le1, n32_min, n32_max, if_true, if_false, Nat.one_ne_zero, gd_some]
          simp -implicitDefEqProofs (disch := omega) only [gP_p, gP_t, bnd_s, bnd2_s, ltt_s, jn_s, n32_nat, n32_le, n32_lt, n32_eq, n32_add, n32_sub, n32_dec, n32_mul, n32_div, n32_irm, n32_lit, n32_oN, n32_ix, n32_m1, n32_m2, neg_le0, neg_lt0, neg_lt1, neg_le1, n32_min, n32_max, if_true, if_false, Nat.one_ne_zero, gd_some, f_X10_canBuy, v1.1.mod, mk0, isM_y ok v1.1 v1.2.1 hm, mv]
          exact fin_m rm1 f1
    · skip
      refine ⟨-n32 1, l, fun h x rx => ?_, fun h x rm => ?_⟩
      · unfold f_X9_buys
        simp -implicitDefEqProofs (disch := omega) only [x.1.root, gP_p, gP_t, bnd_s, bnd2_s, ltt_s, jn_s, n32_nat, n32_le, n32_lt, n32_eq, n32_add, n32_sub, n32_dec, n32_mul, n32_div, n32_irm, n32_lit, n32_oN, n32_ix, n32_m1, n32_m2, neg_le0, neg_lt0, neg_lt1, neg_le1, n32_min, n32_max, if_true, if_false, Nat.one_ne_zero, gd_some, f_X9_maySpend, xk0, hasX_n ok x c2]
        exact fin_x rx (fr.rf _ _)
      · obtain ⟨v1, rm1, f1⟩ := thr0 x rm
        unfold f_X10_buys
        simp -implicitDefEqProofs (disch := omega) only [x.1.mod, gP_p, gP_t, bnd_s, bnd2_s, ltt_s, jn_s, n32_nat, n32_le, n32_lt, n32_eq, n32_add, n32_sub, n32_dec, n32_mul, n32_div, n32_irm, n32_lit, n32_oN, n32_ix, n32_m1, n32_m2, neg_le0, neg_lt0, neg_lt1, neg_le1, n32_min, n32_max, if_true, if_false, Nat.one_ne_zero, gd_some]
        simp -implicitDefEqProofs (disch := omega) only [gP_p, gP_t, bnd_s, bnd2_s, ltt_s, jn_s, n32_nat, n32_le, n32_lt, n32_eq, n32_add, n32_sub, n32_dec, n32_mul, n32_div, n32_irm, n32_lit, n32_oN, n32_ix, n32_m1, n32_m2, neg_le0, neg_lt0, neg_lt1, neg_le1, n32_min, n32_max, if_true, if_false, Nat.one_ne_zero, gd_some, f_X10_canBuy, v1.1.mod, mk0, isM_n ok v1.1 v1.2.1 c2]
        exact fin_m rm1 f1
  · have xk0 : f_X9_within a1 (n32 0) (n32 4) = some (n32 0) := within_n c1
    have mk0 := in_n (x := a1) (lo := 0) (hi := 4) (a := 0) (b := 4) rfl rfl c1
    refine ⟨-n32 1, l, fun h x rx => ?_, fun h x rm => ?_⟩
    · unfold f_X9_buys
      simp -implicitDefEqProofs (disch := omega) only [x.1.root, gP_p, gP_t, bnd_s, bnd2_s, ltt_s, jn_s, n32_nat, n32_le, n32_lt, n32_eq, n32_add, n32_sub, n32_dec, n32_mul, n32_div, n32_irm, n32_lit, n32_oN, n32_ix, n32_m1, n32_m2, neg_le0, neg_lt0, neg_lt1, neg_le1, n32_min, n32_max, if_true, if_false, Nat.one_ne_zero, gd_some, f_X9_maySpend, xk0]
      exact fin_x rx (fr.rf _ _)
    · obtain ⟨v1, rm1, f1⟩ := thr0 x rm
      unfold f_X10_buys
      simp -implicitDefEqProofs (disch := omega) only [x.1.mod, gP_p, gP_t, bnd_s, bnd2_s, ltt_s, jn_s, n32_nat, n32_le, n32_lt, n32_eq, n32_add, n32_sub, n32_dec, n32_mul, n32_div, n32_irm, n32_lit, n32_oN, n32_ix, n32_m1, n32_m2, neg_le0, neg_lt0, neg_lt1, neg_le1, n32_min, n32_max, if_true, if_false, Nat.one_ne_zero, gd_some]
      simp -implicitDefEqProofs (disch := omega) only [gP_p, gP_t, bnd_s, bnd2_s, ltt_s, jn_s, n32_nat, n32_le, n32_lt, n32_eq, n32_add, n32_sub, n32_dec, n32_mul, n32_div, n32_irm, n32_lit, n32_oN, n32_ix, n32_m1, n32_m2, neg_le0, neg_lt0, neg_lt1, neg_le1, n32_min, n32_max, if_true, if_false, Nat.one_ne_zero, gd_some, f_X10_canBuy, v1.1.mod, mk0]
      exact fin_m rm1 f1) h I

noncomputable def bestM (w : Wd) (m v n : Nat) : Nat → Nat → Nat → Nat → Nat × Nat
  | 0, _, mo, ch => (mo, ch)
  | d + 1, k, mo, ch => if gbk w m v n k + 1 ≤ mo then bestM w m v n d (k + 1) mo ch else bestM w m v n d (k + 1) (gbk w m v n k + 1) (k + 1)
theorem best_x {m v n : Nat} {w : Wd} {h0 : HP} {l : List Int64} (ok : wOK w) (hm : m < wsz w) (hv : v ≤ 9999) (hn : n ≤ 60) : ∀ (d i fuel : Nat) (h : HP) (mo ch : Nat), i + d = 5 → d < fuel → XEq w l h0 h → mo ≤ 10000 →
    gd (lp (fun _ _ _ _ => none) (f_X9_best_B21 200 0 (n32 m) (n32 v) (n32 n) (fun (x16 : Int32) (x17 : Int32) (h18 : HP) => bnd (rK h18 0 1 6) (fun t20 => bnd (f_X6_tell h18 t20 (x16.toInt64)) (fun h25 => some (x17, h25))))) fuel (xt mo) (xt ch) (n32 i) h) (XA [(xt (bestM w m v n d i mo ch).1).toInt64] (xt (bestM w m v n d i mo ch).2) h0) := by
  intro d
  induction d with
  | zero =>
    intro i fuel h mo ch hn hf t hmo
    obtain ⟨k, rfl⟩ : ∃ k, fuel = k + 1 := ⟨fuel - 1, by omega⟩
    have e : 4 < i := by omega
    simp -implicitDefEqProofs (disch := omega) only [lp_s, f_X9_best_B21, gP_p, gP_t, bnd_s, bnd2_s, ltt_s, jn_s, n32_nat, n32_le, n32_lt, n32_eq, n32_add, n32_sub, n32_dec, n32_mul, n32_div, n32_irm, n32_lit, n32_oN, n32_ix, n32_m1, n32_m2, neg_le0, neg_lt0, neg_lt1, neg_le1, n32_min, n32_max, if_true, if_false, Nat.one_ne_zero, gd_some, e, t.1.1.root, gd_bnd]
    refine gd_mono (xq_tell1 t) ?_
    intro h3 t3
    exact ⟨rfl, t3.2.1, t3.2.2⟩
  | succ d ih =>
    intro i fuel h mo ch hi hf t hmo
    obtain ⟨k, rfl⟩ : ∃ k, fuel = k + 1 := ⟨fuel - 1, by omega⟩
    have e : ¬ 4 < i := by omega
    simp -implicitDefEqProofs (disch := omega) only [lp_s, f_X9_best_B21, gP_p, gP_t, bnd_s, bnd2_s, ltt_s, jn_s, n32_nat, n32_le, n32_lt, n32_eq, n32_add, n32_sub, n32_dec, n32_mul, n32_div, n32_irm, n32_lit, n32_oN, n32_ix, n32_m1, n32_m2, neg_le0, neg_lt0, neg_lt1, neg_le1, n32_min, n32_max, if_true, if_false, Nat.one_ne_zero, gd_some, e, t.1.1.root, gd_bnd2]
    refine gd_mono (gbk_x ok t hm hv hn (by omega)) ?_
    rintro ⟨u2, h2⟩ ⟨e2, t2⟩
    have e2' : u2 = n32 (gbk w m v n i) := e2
    subst e2'
    have hg2 := gbk_le (w := w) (m := m) (n := n) (k := i) hv
    unfold bestM
    by_cases q1 : gbk w m v n i + 1 ≤ mo
    · rw [if_pos q1]
      simp -implicitDefEqProofs (disch := omega) only [gP_p, gP_t, bnd_s, bnd2_s, ltt_s, jn_s, n32_nat, n32_le, n32_lt, n32_eq, n32_add, n32_sub, n32_dec, n32_mul, n32_div, n32_irm, n32_lit, n32_oN, n32_ix, n32_m1, n32_m2, neg_le0, neg_lt0, neg_lt1, neg_le1, n32_min, n32_max, if_true, if_false, Nat.one_ne_zero, gd_some, xt_le, q1]
      exact ih (i + 1) k h2 mo ch (by omega) (by omega) t2 hmo
    · rw [if_neg q1]
      simp -implicitDefEqProofs (disch := omega) only [gP_p, gP_t, bnd_s, bnd2_s, ltt_s, jn_s, n32_nat, n32_le, n32_lt, n32_eq, n32_add, n32_sub, n32_dec, n32_mul, n32_div, n32_irm, n32_lit, n32_oN, n32_ix, n32_m1, n32_m2, neg_le0, neg_lt0, neg_lt1, neg_le1, n32_min, n32_max, if_true, if_false, Nat.one_ne_zero, gd_some, xt_le, q1]
      have := ih (i + 1) k h2 (gbk w m v n i + 1) (i + 1) (by omega) (by omega) t2 (by omega)
      rw [xt_s, xt_s] at this
      exact this
theorem best_m {m v n : Nat} {w : Wd} {h0 : HP} {l : List Int64} (ok : wOK w) (hm : m < wsz w) (hv : v ≤ 9999) (hn : n ≤ 60) : ∀ (d i fuel : Nat) (h : HP) (mo ch : Nat), i + d = 5 → d < fuel → MEq w l h0 h → mo ≤ 10000 →
    gd (lp (fun _ _ _ _ => none) (f_X10_best_B26 200 188 (n32 m) (n32 v) (n32 n) (fun (x22 : Int32) (x23 : Int32) (h24 : HP) => lt_ (setI h24 188 1 0) (fun h26 => bnd (f_X10_enters h26 188 (x23.toInt64)) (fun h29 => some (x22, h29))))) fuel (xt ch) (xt mo) (n32 i) h) (MA [(xt (bestM w m v n d i mo ch).1).toInt64] (xt (bestM w m v n d i mo ch).2) h0) := by
  intro d
  induction d with
  | zero =>
    intro i fuel h mo ch hn hf t hmo
    obtain ⟨k, rfl⟩ : ∃ k, fuel = k + 1 := ⟨fuel - 1, by omega⟩
    have e : 4 < i := by omega
    simp -implicitDefEqProofs (disch := omega) only [lp_s, f_X10_best_B26, gP_p, gP_t, bnd_s, bnd2_s, ltt_s, jn_s, n32_nat, n32_le, n32_lt, n32_eq, n32_add, n32_sub, n32_dec, n32_mul, n32_div, n32_irm, n32_lit, n32_oN, n32_ix, n32_m1, n32_m2, neg_le0, neg_lt0, neg_lt1, neg_le1, n32_min, n32_max, if_true, if_false, Nat.one_ne_zero, gd_some, e, t.1.1.mod, gd_bnd]
    refine gd_mono (mq_ent (mq_told0 t) (by show 0 < 6; omega)) ?_
    intro h3 t3
    exact ⟨rfl, t3.2.1, t3.2.2⟩
  | succ d ih =>
    intro i fuel h mo ch hi hf t hmo
    obtain ⟨k, rfl⟩ : ∃ k, fuel = k + 1 := ⟨fuel - 1, by omega⟩
    have e : ¬ 4 < i := by omega
    simp -implicitDefEqProofs (disch := omega) only [lp_s, f_X10_best_B26, gP_p, gP_t, bnd_s, bnd2_s, ltt_s, jn_s, n32_nat, n32_le, n32_lt, n32_eq, n32_add, n32_sub, n32_dec, n32_mul, n32_div, n32_irm, n32_lit, n32_oN, n32_ix, n32_m1, n32_m2, neg_le0, neg_lt0, neg_lt1, neg_le1, n32_min, n32_max, if_true, if_false, Nat.one_ne_zero, gd_some, e, t.1.1.mod, gd_bnd2]
    refine gd_mono (gbk_m ok t hm hv hn (by omega)) ?_
    rintro ⟨u2, h2⟩ ⟨e2, t2⟩
    have e2' : u2 = n32 (gbk w m v n i) := e2
    subst e2'
    have hg2 := gbk_le (w := w) (m := m) (n := n) (k := i) hv
    have goal := fun h1 mo ch t1 hmo => ih (i + 1) k h1 mo ch (by omega) (by omega) t1 hmo
    simp -implicitDefEqProofs (disch := omega) only [gP_p, gP_t, bnd_s, bnd2_s, ltt_s, jn_s, n32_nat, n32_le, n32_lt, n32_eq, n32_add, n32_sub, n32_dec, n32_mul, n32_div, n32_irm, n32_lit, n32_oN, n32_ix, n32_m1, n32_m2, neg_le0, neg_lt0, neg_lt1, neg_le1, n32_min, n32_max, if_true, if_false, Nat.one_ne_zero, gd_some] at goal
    unfold bestM
    by_cases q1 : gbk w m v n i + 1 ≤ mo
    · rw [if_pos q1]
      simp -implicitDefEqProofs (disch := omega) only [gP_p, gP_t, bnd_s, bnd2_s, ltt_s, jn_s, n32_nat, n32_le, n32_lt, n32_eq, n32_add, n32_sub, n32_dec, n32_mul, n32_div, n32_irm, n32_lit, n32_oN, n32_ix, n32_m1, n32_m2, neg_le0, neg_lt0, neg_lt1, neg_le1, n32_min, n32_max, if_true, if_false, Nat.one_ne_zero, gd_some, xt_le, xt_max, q1]
      exact goal h2 mo ch t2 hmo
    · rw [if_neg q1]
      simp -implicitDefEqProofs (disch := omega) only [gP_p, gP_t, bnd_s, bnd2_s, ltt_s, jn_s, n32_nat, n32_le, n32_lt, n32_eq, n32_add, n32_sub, n32_dec, n32_mul, n32_div, n32_irm, n32_lit, n32_oN, n32_ix, n32_m1, n32_m2, neg_le0, neg_lt0, neg_lt1, neg_le1, n32_min, n32_max, if_true, if_false, Nat.one_ne_zero, gd_some, xt_le, xt_max, q1]
      have := goal h2 (gbk w m v n i + 1) (i + 1) t2 (by omega)
      rw [xt_s i] at this
      exact this

theorem op_best {k : Nat} (hk : k < 512) : ∀ (h : HP) (a1 a2 a3 : Int32), Inv k h → ∃ (v : Int32) (h1 h2 : HP), f_X9_best 200 h 0 a1 a2 a3 = some (v, h1) ∧ f_X10_best 200 h1 188 a1 a2 a3 = some (v, h2) ∧ Inv (k + 1) h2 := fun h a1 a2 a3 I => q_op hk (fX := fun h => f_X9_best 200 h 0 a1 a2 a3) (fM := fun h => f_X10_best 200 h 188 a1 a2 a3) (fun w l ok => by
  have hB := ok.2.2.2.2.2.2
  have hz := ok.1
  by_cases c1 : 0 ≤ a1.toInt ∧ a1.toInt < (wsz w : Int)
  · obtain ⟨m, hm, rfl⟩ := n32_of c1.1 c1.2
    by_cases c2 : 0 ≤ a2.toInt ∧ a2.toInt ≤ 9999
    · obtain ⟨v, lv, hv, rfl⟩ := n32_of2 (lo := 0) (hi := 9999) c2.1 c2.2
      have xv : f_X9_within (n32 v) (n32 0) (n32 9999) = some (n32 1) := within_y c2
      have mv := in_y (x := n32 v) (lo := 0) (hi := 9999) (a := 0) (b := 9999) rfl rfl c2
      by_cases c3 : 0 ≤ a3.toInt ∧ a3.toInt ≤ 60
      · obtain ⟨n, ln, hn, rfl⟩ := n32_of2 (lo := 0) (hi := 60) c3.1 c3.2
        have xn : f_X9_within (n32 n) (n32 0) (n32 60) = some (n32 1) := within_y c3
        have mn := in_y (x := n32 n) (lo := 0) (hi := 60) (a := 0) (b := 60) rfl rfl c3
        refine ⟨xt (bestM w m v n 5 0 0 0).2, [(xt (bestM w m v n 5 0 0 0).1).toInt64], fun h x rx => ?_, fun h x rm => ?_⟩
        · unfold f_X9_best
          simp -implicitDefEqProofs (disch := omega) only [x.1.root, gP_p, gP_t, bnd_s, bnd2_s, ltt_s, jn_s, n32_nat, n32_le, n32_lt, n32_eq, n32_add, n32_sub, n32_dec, n32_mul, n32_div, n32_irm, n32_lit, n32_oN, n32_ix, n32_m1, n32_m2, neg_le0, neg_lt0, neg_lt1, neg_le1, n32_min, n32_max, if_true, if_false, Nat.one_ne_zero, gd_some, f_X9_maySpend, hasX_y ok x hm, xv, xn]
          exact best_x ok hm hv hn 5 0 200 h 0 0 (by omega) (by omega) ⟨x, rx, fr.rf _ _⟩ (by omega)
        · obtain ⟨v1, rm1, f1⟩ := thr0 x rm
          unfold f_X10_best
          simp -implicitDefEqProofs (disch := omega) only [x.1.mod, gP_p, gP_t, bnd_s, bnd2_s, ltt_s, jn_s, n32_nat, n32_le, n32_lt, n32_eq, n32_add, n32_sub, n32_dec, n32_mul, n32_div, n32_irm, n32_lit, n32_oN, n32_ix, n32_m1, n32_m2, neg_le0, neg_lt0, neg_lt1, neg_le1, n32_min, n32_max, if_true, if_false, Nat.one_ne_zero, gd_some]
          simp -implicitDefEqProofs (disch := omega) only [v1.1.mod, gP_p, gP_t, bnd_s, bnd2_s, ltt_s, jn_s, n32_nat, n32_le, n32_lt, n32_eq, n32_add, n32_sub, n32_dec, n32_mul, n32_div, n32_irm, n32_lit, n32_oN, n32_ix, n32_m1, n32_m2, neg_le0, neg_lt0, neg_lt1, neg_le1, n32_min, n32_max, if_true, if_false, Nat.one_ne_zero, gd_some, f_X10_canBuy, isM_y ok v1.1 v1.2.1 hm, mv, mn]
          exact best_m ok hm hv hn 5 0 200 _ 0 0 (by omega) (by omega) ⟨v1, rm1, f1⟩ (by omega)
      · have xn : f_X9_within a3 (n32 0) (n32 60) = some (n32 0) := within_n c3
        have mn := in_n (x := a3) (lo := 0) (hi := 60) (a := 0) (b := 60) rfl rfl c3
        refine ⟨-n32 1, l, fun h x rx => ?_, fun h x rm => ?_⟩
        · unfold f_X9_best
          simp -implicitDefEqProofs (disch := omega) only [x.1.root, gP_p, gP_t, bnd_s, bnd2_s, ltt_s, jn_s, n32_nat, n32_le, n32_lt, n32_eq, n32_add, n32_sub, n32_dec, n32_mul, n32_div, n32_irm, n32_lit, n32_oN, n32_ix, n32_m1, n32_m2, neg_le0, neg_lt0, neg_lt1, neg_le1, n32_min, n32_max, if_true, if_false, Nat.one_ne_zero, gd_some, f_X9_maySpend, hasX_y ok x hm, xv, xn]
          exact fin_x rx (fr.rf _ _)
        · obtain ⟨v1, rm1, f1⟩ := thr0 x rm
          unfold f_X10_best
          simp -implicitDefEqProofs (disch := omega) only [x.1.mod, gP_p, gP_t, bnd_s, bnd2_s, ltt_s, jn_s, n32_nat, n32_le, n32_lt, n32_eq, n32_add, n32_sub, n32_dec, n32_mul, n32_div, n32_irm, n32_lit, n32_oN, n32_ix, n32_m1, n32_m2, neg_le0, neg_lt0, neg_lt1, neg_le1, n32_min, n32_max, if_true, if_false, Nat.one_ne_zero, gd_some]
          simp -implicitDefEqProofs (disch := omega) only [gP_p, gP_t, bnd_s, bnd2_s, ltt_s, jn_s, n32_nat, n32_le, n32_lt, n32_eq, n32_add, n32_sub, n32_dec, n32_mul, n32_div, n32_irm, n32_lit, n32_oN, n32_ix, n32_m1, n32_m2, neg_le0, neg_lt0, neg_lt1, neg_le1, n32_min, n32_max, if_true, if_false, Nat.one_ne_zero, gd_some, f_X10_canBuy, v1.1.mod, isM_y ok v1.1 v1.2.1 hm, mv, mn]
          exact fin_m rm1 f1
    · have xv : f_X9_within a2 (n32 0) (n32 9999) = some (n32 0) := within_n c2
      have mv := in_n (x := a2) (lo := 0) (hi := 9999) (a := 0) (b := 9999) rfl rfl c2
      refine ⟨-n32 1, l, fun h x rx => ?_, fun h x rm => ?_⟩
      · unfold f_X9_best
        simp -implicitDefEqProofs (disch := omega) only [x.1.root, gP_p, gP_t, bnd_s, bnd2_s, ltt_s, jn_s, n32_nat, n32_le, n32_lt, n32_eq, n32_add, n32_sub, n32_dec, n32_mul, n32_div, n32_irm, n32_lit, n32_oN, n32_ix, n32_m1, n32_m2, neg_le0, neg_lt0, neg_lt1, neg_le1, n32_min, n32_max, if_true, if_false, Nat.one_ne_zero, gd_some, f_X9_maySpend, hasX_y ok x hm, xv]
        exact fin_x rx (fr.rf _ _)
      · obtain ⟨v1, rm1, f1⟩ := thr0 x rm
        unfold f_X10_best
        simp -implicitDefEqProofs (disch := omega) only [x.1.mod, gP_p, gP_t, bnd_s, bnd2_s, ltt_s, jn_s, n32_nat, n32_le, n32_lt, n32_eq, n32_add, n32_sub, n32_dec, n32_mul, n32_div, n32_irm, n32_lit, n32_oN, n32_ix, n32_m1, n32_m2, neg_le0, neg_lt0, neg_lt1, neg_le1, n32_min, n32_max, if_true, if_false, Nat.one_ne_zero, gd_some]
        simp -implicitDefEqProofs (disch := omega) only [gP_p, gP_t, bnd_s, bnd2_s, ltt_s, jn_s, n32_nat, n32_le, n32_lt, n32_eq, n32_add, n32_sub, n32_dec, n32_mul, n32_div, n32_irm, n32_lit, n32_oN, n32_ix, n32_m1, n32_m2, neg_le0, neg_lt0, neg_lt1, neg_le1, n32_min, n32_max, if_true, if_false, Nat.one_ne_zero, gd_some, f_X10_canBuy, v1.1.mod, isM_y ok v1.1 v1.2.1 hm, mv]
        exact fin_m rm1 f1
  · skip
    refine ⟨-n32 1, l, fun h x rx => ?_, fun h x rm => ?_⟩
    · unfold f_X9_best
      simp -implicitDefEqProofs (disch := omega) only [x.1.root, gP_p, gP_t, bnd_s, bnd2_s, ltt_s, jn_s, n32_nat, n32_le, n32_lt, n32_eq, n32_add, n32_sub, n32_dec, n32_mul, n32_div, n32_irm, n32_lit, n32_oN, n32_ix, n32_m1, n32_m2, neg_le0, neg_lt0, neg_lt1, neg_le1, n32_min, n32_max, if_true, if_false, Nat.one_ne_zero, gd_some, f_X9_maySpend, hasX_n ok x c1]
      exact fin_x rx (fr.rf _ _)
    · obtain ⟨v1, rm1, f1⟩ := thr0 x rm
      unfold f_X10_best
      simp -implicitDefEqProofs (disch := omega) only [x.1.mod, gP_p, gP_t, bnd_s, bnd2_s, ltt_s, jn_s, n32_nat, n32_le, n32_lt, n32_eq, n32_add, n32_sub, n32_dec, n32_mul, n32_div, n32_irm, n32_lit, n32_oN, n32_ix, n32_m1, n32_m2, neg_le0, neg_lt0, neg_lt1, neg_le1, n32_min, n32_max, if_true, if_false, Nat.one_ne_zero, gd_some]
      simp -implicitDefEqProofs (disch := omega) only [gP_p, gP_t, bnd_s, bnd2_s, ltt_s, jn_s, n32_nat, n32_le, n32_lt, n32_eq, n32_add, n32_sub, n32_dec, n32_mul, n32_div, n32_irm, n32_lit, n32_oN, n32_ix, n32_m1, n32_m2, neg_le0, neg_lt0, neg_lt1, neg_le1, n32_min, n32_max, if_true, if_false, Nat.one_ne_zero, gd_some, f_X10_canBuy, v1.1.mod, isM_n ok v1.1 v1.2.1 c1]
      exact fin_m rm1 f1) h I
