/-! ===== a rule's text: the reference's descent ===== -/
theorem str_le : STR (SB + 11) leL := ⟨by decide, by decide +kernel, by decide +kernel⟩
def lvL (k : Nat) : List Nat := if k = 0 then [60, 62, 61] else if k = 1 then [43, 45] else [42, 47]
def lvo (k : Nat) : Nat := if k = 0 then 0 else if k = 1 then 3 else 5
theorem str_lv {k : Nat} (hk : k < 3) : STR (SB + 12 + k) (lvL k) := by
  rcases (show k = 0 ∨ k = 1 ∨ k = 2 by omega) with rfl | rfl | rfl <;> exact ⟨by decide, by decide +kernel, by decide +kernel⟩
theorem lv_all : (List.range 3).all (fun k => (List.range 256).all (fun s => if fi (lvL k) s < (lvL k).length then (opx s == fi (lvL k) s + lvo k && Nat.blt (opx s) 7 && rko (opx s) == k + 1) else (Nat.ble 7 (opx s) || rko (opx s) != k + 1))) = true := by decide +kernel
theorem lv_y {k s : Nat} (hk : k < 3) (hs : s < 256) (h : fi (lvL k) s < (lvL k).length) : opx s = fi (lvL k) s + lvo k ∧ opx s < 7 ∧ rko (opx s) = k + 1 := by
  have h1 := List.all_eq_true.mp (List.all_eq_true.mp lv_all k (List.mem_range.mpr hk)) s (List.mem_range.mpr hs)
  rw [if_pos h] at h1
  simp only [Bool.and_eq_true, beq_iff_eq, Nat.blt_eq] at h1
  exact ⟨h1.1.1, h1.1.2, h1.2⟩
theorem lv_n {k s : Nat} (hk : k < 3) (hs : s < 256) (h : ¬ fi (lvL k) s < (lvL k).length) (h2 : opx s < 7) : rko (opx s) ≠ k + 1 := by
  have h1 := List.all_eq_true.mp (List.all_eq_true.mp lv_all k (List.mem_range.mpr hk)) s (List.mem_range.mpr hs)
  rw [if_neg h, Bool.or_eq_true, Nat.ble_eq, bne_iff_ne] at h1
  exact h1.resolve_left (by omega)
def cdM (c : Nat) : Nat := if c = 2007 then 3000 else c
def CD (h : HP) (L : List Nat) : Prop := h.2.1 188 22 = n32 L.length ∧ ∀ j, j < L.length → h.2.1 199 j = n32 (cdM (L.getD j 0))
theorem codes_m {b c : Bool} {h : HP} {n : Nat} {v : Int32} (s : SH b c h) (z : h.2.1 188 22 = n32 n) (hn : n < 80) : f_X10_codes h 188 v = some (setI (setI h 199 n v) 188 22 (n32 (n + 1))) := by
  unfold f_X10_codes
  simp -implicitDefEqProofs (disch := omega) only [gP_p, gP_t, bnd_s, bnd2_s, ltt_s, jn_s, n32_nat, n32_le, n32_lt, n32_eq, n32_add, n32_sub, n32_dec, n32_mul, n32_div, n32_irm, n32_lit, n32_oN, n32_ix, n32_m1, n32_m2, neg_le0, neg_lt0, neg_lt1, neg_le1, n32_min, n32_max, if_true, if_false, Nat.one_ne_zero, gd_some, true_or, or_true, false_or, or_false, s.mod, z, sI_eq, sI_ne, sI_J, sI_R, sI_kO, sI_rK, sI_len, sJ_eq, sJ_ne, sJ_I, sJ_kO, sJ_rK, sJ_len]
theorem CD.add {h : HP} {L : List Nat} {c : Nat} (d : CD h L) : CD (setI (setI h 199 L.length (n32 (cdM c))) 188 22 (n32 (L.length + 1))) (L ++ [c]) := by
  obtain ⟨d1, d2⟩ := d
  refine ⟨by rw [sI_eq, List.length_append]; rfl, fun j hj => ?_⟩
  rw [List.length_append] at hj
  have hj' : j < L.length + 1 := hj
  rw [sI_ne (by omega)]
  by_cases q : j = L.length
  · rw [q, sI_eq, List.getD_eq_getElem?_getD, List.getElem?_append_right (Nat.le_refl _), Nat.sub_self]
    rfl
  · rw [sI_ne (by omega), d2 j (by omega), List.getD_eq_getElem?_getD, List.getD_eq_getElem?_getD, List.getElem?_append_left (by omega)]
theorem CD.ne {h : HP} {L : List Nat} {a j : Nat} {v : Int32} (d : CD h L) (n1 : ¬ (a = 188 ∧ j = 22)) (n2 : a ≠ 199) : CD (setI h a j v) L := ⟨by rw [sI_ne (by omega)]; exact d.1, fun i hi => by rw [sI_ne (by omega)]; exact d.2 i hi⟩
theorem CD.at {h h' : HP} {L : List Nat} (d : CD h L) (e : ∀ a j, ¬ (a = 188 ∧ j = 13) → h'.2.1 a j = h.2.1 a j) : CD h' L := ⟨by rw [e _ _ (by omega)]; exact d.1, fun i hi => by rw [e _ _ (by omega)]; exact d.2 i hi⟩
def PO (t : Nat → Nat) (E k o p : Nat) (L0 : List Nat) (h0 : HP) (q : Int32 × HP) : Prop := fr [40] h0 q.2 ∧ ((∃ p' L, q.1 = n32 1 ∧ RM q.2 t E p' ∧ q.2.2.1 188 15 = n32 o ∧ CD q.2 (L0 ++ L) ∧ PTx t E k o p p' L) ∨ (∃ p' n, q.1 = n32 0 ∧ RM q.2 t E p' ∧ q.2.2.1 188 22 = n32 n ∧ n + p ≤ L0.length + p' ∧ PF t E k o p p'))
def PR (t : Nat → Nat) (E o p : Nat) (L0 : List Nat) (b c : Bool) (h : HP) : Prop := SH b c h ∧ RM h t E p ∧ h.2.1 188 15 = n32 o ∧ CD h L0 ∧ L0.length ≤ p ∧ p ≤ E
theorem thing_s {t : Nat → Nat} {N E o p : Nat} {L0 : List Nat} {b c : Bool} {h : HP} {rT : HP → Nat → Option (Int32 × HP)} {rK : HP → Nat → Int32 → Option (Int32 × HP)} (hN : 10 < N) (hE : E ≤ 40) (ho : o ≤ 4) (tb : ∀ i, i < E → t i < 256) (pr : PR t E o p L0 b c h) (HT : ∀ h', p < E → PR t E o (p + 1) L0 b c h' → gd (rT h' 188) (PO t E 3 o (p + 1) L0 h')) (HK : ∀ h', p < E → o < 4 → PR t E (o + 1) (p + 1) L0 b c h' → gd (rK h' 188 (n32 0)) (PO t E 0 (o + 1) (p + 1) L0 h')) : gd (f_X10_readsThing_S rT rK N h 188) (PO t E 3 o p L0 h) := by
  obtain ⟨s, r, z15, cd, lp0, hpE⟩ := pr
  unfold f_X10_readsThing_S
  rw [gP_p (by simp only [s.mod]), gd_bnd2]
  refine gd_mono (takes_m (v := 45) s r (by omega) hpE tb (by omega)) ?_
  rintro ⟨w, h1⟩ ⟨w1, w2, w3⟩
  have w1' : w = n32 (if p < E ∧ t p = 45 then 1 else 0) := w1
  have w2' : RM h1 t E (if p < E ∧ t p = 45 then p + 1 else p) := w2
  have w3' : h1 = setI h 188 13 (n32 (if p < E ∧ t p = 45 then p + 1 else p)) := w3
  have f1 : fr [40] h h1 := by rw [w3']; exact (fr.rf _ _).sI rfl
  have s1 := s.fr f1
  have e1 : ∀ a j, ¬ (a = 188 ∧ j = 13) → h1.2.1 a j = h.2.1 a j := fun a j hn => by rw [w3', sI_ne hn]
  have cd1 := cd.at e1
  have z1 : h1.2.1 188 15 = n32 o := (e1 _ _ (by omega)).trans z15
  clear w1 w2 w3 w3'
  by_cases q : p < E ∧ t p = 45
  · rw [if_pos q] at w1' w2'
    subst w1'
    simp -implicitDefEqProofs (disch := omega) only [gP_p, gP_t, bnd_s, bnd2_s, n32_nat, n32_le, n32_lt, n32_eq, n32_add, n32_sub, n32_dec, n32_mul, n32_div, n32_irm, n32_lit, n32_oN, n32_ix, n32_m1, n32_m2, neg_le0, neg_lt0, neg_lt1, neg_le1, n32_min, n32_max, if_true, if_false, Nat.one_ne_zero, true_or, or_true, false_or, or_false, gd_bnd2]
    refine gd_mono (HT h1 q.1 ⟨s1, w2', z1, cd1, by omega, by omega⟩) ?_
    rintro ⟨u, h2⟩ ⟨f2, u2⟩
    have f2' : fr [40] h1 h2 := f2
    have s2 := s1.fr f2'
    rcases u2 with ⟨p', L, a1, a2, a3, a4, a5⟩ | ⟨p', n, a1, a2, a3, a4, a5⟩
    · have a1' : u = n32 1 := a1
      subst a1'
      have l5 := a5.1.2.2.1
      have p5 := a5.1.2.1
      have cm := codes_m (v := n32 3000) s2 a4.1 (by rw [List.length_append]; omega)
      simp -implicitDefEqProofs (disch := omega) only [gP_p, gP_t, bnd_s, bnd2_s, n32_nat, n32_le, n32_lt, n32_eq, n32_add, n32_sub, n32_dec, n32_mul, n32_div, n32_irm, n32_lit, n32_oN, n32_ix, n32_m1, n32_m2, neg_le0, neg_lt0, neg_lt1, neg_le1, n32_min, n32_max, if_true, if_false, Nat.one_ne_zero, true_or, or_true, false_or, or_false, cm, Nat.one_ne_zero]
      refine gd_some.mpr ⟨((f1.tr f2').sI rfl).sI rfl, Or.inl ⟨p', L ++ [2007], rfl, (a2.ne (by omega) (by omega) (by omega)).ne (by omega) (by omega) (by omega), by rw [sI_ne (by omega), sI_ne (by omega)]; exact a3, ?_, P_neg_t q.1 q.2 a5⟩⟩
      have := CD.add (c := 2007) a4
      rw [List.append_assoc] at this
      exact this
    · have a1' : u = n32 0 := a1
      subst a1'
      have p5 := a5.2.1
      have cm := codes_m (v := n32 3000) s2 a3 (by omega)
      simp -implicitDefEqProofs (disch := omega) only [gP_p, gP_t, bnd_s, bnd2_s, n32_nat, n32_le, n32_lt, n32_eq, n32_add, n32_sub, n32_dec, n32_mul, n32_div, n32_irm, n32_lit, n32_oN, n32_ix, n32_m1, n32_m2, neg_le0, neg_lt0, neg_lt1, neg_le1, n32_min, n32_max, if_true, if_false, Nat.one_ne_zero, true_or, or_true, false_or, or_false, cm]
      exact gd_some.mpr ⟨((f1.tr f2').sI rfl).sI rfl, Or.inr ⟨p', n + 1, rfl, (a2.ne (by omega) (by omega) (by omega)).ne (by omega) (by omega) (by omega), sI_eq, by omega, P_neg_f q.1 q.2 a5⟩⟩
  · rw [if_neg q] at w1' w2'
    subst w1'
    have isd := isd_m s1 w2' (by omega) hpE tb
    have dN : dgN t E 3 p = if dgt t E p then dgN t E 2 (p + 1) + 1 else 0 := rfl
    by_cases q2 : dgt t E p
    · rw [if_pos q2] at isd dN
      have dE := dgN_E (t := t) (E := E) 3 p hpE
      have nb := nbr_m (N := N) hN (by omega) (m := 3) (by omega) (by omega) tb hpE s1 w2'
      have nbv : nbV t (dgN t E 3 p) p = n32 (nm t (dgN t E 3 p) p 0) := if_neg (by omega)
      rw [nbv] at nb
      have nl := nm_m (t := t) (E := E) (m := 3) (p := p)
      have b3 : 10 ^ 3 = 1000 := rfl
      simp -implicitDefEqProofs (disch := omega) only [gP_p, gP_t, bnd_s, bnd2_s, n32_nat, n32_le, n32_lt, n32_eq, n32_add, n32_sub, n32_dec, n32_mul, n32_div, n32_irm, n32_lit, n32_oN, n32_ix, n32_m1, n32_m2, neg_le0, neg_lt0, neg_lt1, neg_le1, n32_min, n32_max, if_true, if_false, Nat.one_ne_zero, true_or, or_true, false_or, or_false, isd, gd_bnd2]
      refine gd_mono nb ?_
      rintro ⟨u, h2⟩ ⟨a1, a2, a3, a4⟩
      have a1' : u = n32 (nm t (dgN t E 3 p) p 0) := a1
      subst a1'
      have a4' : fr [40] h1 h2 := a4
      have s2 := s1.fr a4'
      have a3' : ∀ a j, ¬ (a = 188 ∧ j = 13) → h2.2.1 a j = h1.2.1 a j := a3
      have cd2 := cd1.at a3'
      have cm := codes_m (v := n32 (nm t (dgN t E 3 p) p 0)) s2 cd2.1 (by omega)
      have add := CD.add (c := nm t (dgN t E 3 p) p 0) cd2
      have ec : cdM (nm t (dgN t E 3 p) p 0) = nm t (dgN t E 3 p) p 0 := if_neg (by omega)
      rw [ec] at add
      simp -implicitDefEqProofs (disch := omega) only [gP_p, gP_t, bnd_s, bnd2_s, n32_nat, n32_le, n32_lt, n32_eq, n32_add, n32_sub, n32_dec, n32_mul, n32_div, n32_irm, n32_lit, n32_oN, n32_ix, n32_m1, n32_m2, neg_le0, neg_lt0, neg_lt1, neg_le1, n32_min, n32_max, if_true, if_false, Nat.one_ne_zero, true_or, or_true, false_or, or_false, cm]
      exact gd_some.mpr ⟨((f1.tr a4').sI rfl).sI rfl, Or.inl ⟨p + dgN t E 3 p, _, rfl, (RM.ne (h := h2) a2 (by omega) (by omega) (by omega)).ne (by omega) (by omega) (by omega), by rw [sI_ne (by omega), sI_ne (by omega), a3' _ _ (by omega)]; exact z1, add, P_num tb q2.1 (by omega)⟩⟩
    · rw [if_neg q2] at isd dN
      simp -implicitDefEqProofs (disch := omega) only [gP_p, gP_t, bnd_s, bnd2_s, n32_nat, n32_le, n32_lt, n32_eq, n32_add, n32_sub, n32_dec, n32_mul, n32_div, n32_irm, n32_lit, n32_oN, n32_ix, n32_m1, n32_m2, neg_le0, neg_lt0, neg_lt1, neg_le1, n32_min, n32_max, if_true, if_false, Nat.one_ne_zero, true_or, or_true, false_or, or_false, isd, gd_bnd2]
      refine gd_mono (tko_m (N := N) hN str_le s1 w2' (by omega) hpE tb) ?_
      rintro ⟨u, h2⟩ ⟨u1, u2⟩
      have e6 : leL.length = 6 := rfl
      by_cases q3 : p < E ∧ lex (t p) < 6
      · obtain ⟨v1, v2⟩ := u1 q3.1 (by rw [e6]; exact q3.2)
        have v1' : u = n32 (lex (t p)) := v1
        have v2' : h2 = setI h1 188 13 (n32 (p + 1)) := v2
        subst v1'
        have f2 : fr [40] h h2 := by rw [v2']; exact f1.sI rfl
        have s2 : SH b c h2 := s.fr f2
        have r2 : RM h2 t E (p + 1) := by rw [v2']; exact w2'.pos
        have cd2 : CD h2 L0 := by rw [v2']; exact cd1.ne (by omega) (by omega)
        have z2 : h2.2.1 188 15 = n32 o := by rw [v2', sI_ne (by omega)]; exact z1
        clear v1 v2 v2' u1 u2
        have cm := codes_m (v := n32 (1000 + lex (t p))) s2 cd2.1 (by omega)
        have add := CD.add (c := 1000 + lex (t p)) cd2
        have ec : cdM (1000 + lex (t p)) = 1000 + lex (t p) := if_neg (by omega)
        rw [ec] at add
        have l6 : fi leL (t p) < 6 := q3.2
        simp -implicitDefEqProofs (disch := omega) only [gP_p, gP_t, bnd_s, bnd2_s, n32_nat, n32_le, n32_lt, n32_eq, n32_add, n32_sub, n32_dec, n32_mul, n32_div, n32_irm, n32_lit, n32_oN, n32_ix, n32_m1, n32_m2, neg_le0, neg_lt0, neg_lt1, neg_le1, n32_min, n32_max, if_true, if_false, Nat.one_ne_zero, true_or, or_true, false_or, or_false, Nat.not_lt_zero]
        rw [show n32 (1000 + fi leL (t p)) = n32 (1000 + lex (t p)) from rfl, cm]
        exact gd_some.mpr ⟨(f2.sI rfl).sI rfl, Or.inl ⟨p + 1, _, rfl, (r2.ne (by omega) (by omega) (by omega)).ne (by omega) (by omega) (by omega), by rw [sI_ne (by omega), sI_ne (by omega)]; exact z2, add, P_let tb q3.1 q3.2⟩⟩
      · obtain ⟨v1, v2⟩ := u2 (by rw [e6]; exact q3)
        have v1' : u = -n32 1 := v1
        have v2' : h2 = h1 := v2
        subst v1'
        subst v2'
        have lt0 : -n32 1 < n32 0 := by decide
        by_cases q4 : o = 4
        · simp -implicitDefEqProofs (disch := omega) only [gP_p, gP_t, bnd_s, bnd2_s, n32_nat, n32_le, n32_lt, n32_eq, n32_add, n32_sub, n32_dec, n32_mul, n32_div, n32_irm, n32_lit, n32_oN, n32_ix, n32_m1, n32_m2, neg_le0, neg_lt0, neg_lt1, neg_le1, n32_min, n32_max, if_true, if_false, Nat.one_ne_zero, true_or, or_true, false_or, or_false, lt0, z1, q4]
          exact gd_some.mpr ⟨f1, Or.inr ⟨p, L0.length, rfl, w2', cd1.1, by omega, P_bad hpE q (Or.inr rfl) q3 dN⟩⟩
        · have ho4 : o < 4 := by omega
          simp -implicitDefEqProofs (disch := omega) only [gP_p, gP_t, bnd_s, bnd2_s, n32_nat, n32_le, n32_lt, n32_eq, n32_add, n32_sub, n32_dec, n32_mul, n32_div, n32_irm, n32_lit, n32_oN, n32_ix, n32_m1, n32_m2, neg_le0, neg_lt0, neg_lt1, neg_le1, n32_min, n32_max, if_true, if_false, Nat.one_ne_zero, true_or, or_true, false_or, or_false, lt0, z1, q4, gd_bnd2]
          refine gd_mono (takes_m (v := 40) s1 w2' (by omega) hpE tb (by omega)) ?_
          rintro ⟨x, h3⟩ ⟨x1, x2, x3⟩
          have x1' : x = n32 (if p < E ∧ t p = 40 then 1 else 0) := x1
          have x2' : RM h3 t E (if p < E ∧ t p = 40 then p + 1 else p) := x2
          have x3' : h3 = setI h2 188 13 (n32 (if p < E ∧ t p = 40 then p + 1 else p)) := x3
          have f3 : fr [40] h h3 := by rw [x3']; exact f1.sI rfl
          have cd3 : CD h3 L0 := by rw [x3']; exact cd1.ne (by omega) (by omega)
          have z3 : h3.2.1 188 15 = n32 o := by rw [x3', sI_ne (by omega)]; exact z1
          have s3 : SH b c h3 := s.fr f3
          clear x1 x2 x3 x3'
          by_cases q5 : p < E ∧ t p = 40
          · rw [if_pos q5] at x1' x2'
            subst x1'
            have f4 : fr [40] h (setI h3 188 15 (n32 (o + 1))) := f3.sI rfl
            simp -implicitDefEqProofs (disch := omega) only [gP_p, gP_t, bnd_s, bnd2_s, n32_nat, n32_le, n32_lt, n32_eq, n32_add, n32_sub, n32_dec, n32_mul, n32_div, n32_irm, n32_lit, n32_oN, n32_ix, n32_m1, n32_m2, neg_le0, neg_lt0, neg_lt1, neg_le1, n32_min, n32_max, if_true, if_false, Nat.one_ne_zero, true_or, or_true, false_or, or_false, ltt_s, z3, gd_bnd2]
            refine gd_mono (HK _ q5.1 ho4 ⟨s.fr f4, x2'.ne (by omega) (by omega) (by omega), sI_eq, cd3.ne (by omega) (by omega), by omega, by omega⟩) ?_
            rintro ⟨y, h5⟩ ⟨f5, y2⟩
            have f5' : fr [40] h h5 := f4.tr f5
            have s5 := s.fr f5'
            rcases y2 with ⟨p', L, a1, a2, a3, a4, a5⟩ | ⟨p', n, a1, a2, a3, a4, a5⟩
            · have a1' : y = n32 1 := a1
              subst a1'
              have p5 := a5.1.2.1
              have l5 := a5.1.2.2.1
              have g5 := a5.1.1
              simp -implicitDefEqProofs (disch := omega) only [gP_p, gP_t, bnd_s, bnd2_s, n32_nat, n32_le, n32_lt, n32_eq, n32_add, n32_sub, n32_dec, n32_mul, n32_div, n32_irm, n32_lit, n32_oN, n32_ix, n32_m1, n32_m2, neg_le0, neg_lt0, neg_lt1, neg_le1, n32_min, n32_max, if_true, if_false, Nat.one_ne_zero, true_or, or_true, false_or, or_false, Nat.one_ne_zero, gd_bnd2]
              refine gd_mono (takes_m (v := 41) s5 a2 (by omega) p5 tb (by omega)) ?_
              rintro ⟨x, h6⟩ ⟨x1, x2, x3⟩
              have x1' : x = n32 (if p' < E ∧ t p' = 41 then 1 else 0) := x1
              have x2' : RM h6 t E (if p' < E ∧ t p' = 41 then p' + 1 else p') := x2
              have x3' : h6 = setI h5 188 13 (n32 (if p' < E ∧ t p' = 41 then p' + 1 else p')) := x3
              have f6 : fr [40] h h6 := by rw [x3']; exact f5'.sI rfl
              have cd6 : CD h6 (L0 ++ L) := by rw [x3']; exact a4.ne (by omega) (by omega)
              have z6 : h6.2.1 188 15 = n32 (o + 1) := by rw [x3', sI_ne (by omega)]; exact a3
              clear x1 x2 x3 x3'
              by_cases q6 : p' < E ∧ t p' = 41
              · rw [if_pos q6] at x1' x2'
                subst x1'
                simp -implicitDefEqProofs (disch := omega) only [gP_p, gP_t, bnd_s, bnd2_s, ltt_s, jn_s, n32_nat, n32_le, n32_lt, n32_eq, n32_add, n32_sub, n32_dec, n32_mul, n32_div, n32_irm, n32_lit, n32_oN, n32_ix, n32_m1, n32_m2, neg_le0, neg_lt0, neg_lt1, neg_le1, n32_min, n32_max, if_true, if_false, Nat.one_ne_zero, gd_some, true_or, or_true, false_or, or_false, z6, Nat.add_sub_cancel]
                exact ⟨f6.sI rfl, Or.inl ⟨p' + 1, L, rfl, x2'.ne (by omega) (by omega) (by omega), sI_eq, cd6.ne (by omega) (by omega), P_op_t q5.1 q5.2 ho4 a5 q6⟩⟩
              · rw [if_neg q6] at x1' x2'
                subst x1'
                have l6 := cd6.1
                simp -implicitDefEqProofs (disch := omega) only [gP_p, gP_t, bnd_s, bnd2_s, ltt_s, jn_s, n32_nat, n32_le, n32_lt, n32_eq, n32_add, n32_sub, n32_dec, n32_mul, n32_div, n32_irm, n32_lit, n32_oN, n32_ix, n32_m1, n32_m2, neg_le0, neg_lt0, neg_lt1, neg_le1, n32_min, n32_max, if_true, if_false, Nat.one_ne_zero, gd_some, true_or, or_true, false_or, or_false]
                exact ⟨f6, Or.inr ⟨p', (L0 ++ L).length, rfl, x2', l6, by rw [List.length_append]; omega, P_op_e q5.1 q5.2 ho4 a5 q6⟩⟩
            · have a1' : y = n32 0 := a1
              subst a1'
              simp -implicitDefEqProofs (disch := omega) only [gP_p, gP_t, bnd_s, bnd2_s, ltt_s, jn_s, n32_nat, n32_le, n32_lt, n32_eq, n32_add, n32_sub, n32_dec, n32_mul, n32_div, n32_irm, n32_lit, n32_oN, n32_ix, n32_m1, n32_m2, neg_le0, neg_lt0, neg_lt1, neg_le1, n32_min, n32_max, if_true, if_false, Nat.one_ne_zero, gd_some, true_or, or_true, false_or, or_false]
              exact ⟨f5', Or.inr ⟨p', n, rfl, a2, a3, by omega, P_op_f q5.1 q5.2 ho4 a5⟩⟩
          · rw [if_neg q5] at x1' x2'
            subst x1'
            simp -implicitDefEqProofs (disch := omega) only [gP_p, gP_t, bnd_s, bnd2_s, ltt_s, jn_s, n32_nat, n32_le, n32_lt, n32_eq, n32_add, n32_sub, n32_dec, n32_mul, n32_div, n32_irm, n32_lit, n32_oN, n32_ix, n32_m1, n32_m2, neg_le0, neg_lt0, neg_lt1, neg_le1, n32_min, n32_max, if_true, if_false, Nat.one_ne_zero, gd_some, true_or, or_true, false_or, or_false]
            exact ⟨f3, Or.inr ⟨p, L0.length, rfl, x2', cd3.1, by omega, P_bad hpE q (Or.inl q5) q3 dN⟩⟩
theorem b24_e {N k : Nat} {h : HP} {rT : HP → Nat → Option (Int32 × HP)} {rK : HP → Nat → Int32 → Option (Int32 × HP)} {rc : Int32 → HP → Option (Int32 × HP)} (hk : k < 3) : f_X10_readsRank_B24 N rT rK 188 (n32 k) rc (n32 1) h = bnd2 (f_X10_takesOf N h 188 (SB + 12 + k)) (fun v11 h13 => (if n32 0 ≤ v11 then bnd2 (rK h13 188 (n32 (k + 1))) (fun v17 h19 => (if v17 = n32 0 then some (n32 0, h19) else bnd (f_X10_codes h19 188 ((n32 2000 + v11) + n32 (lvo k))) (fun h25 => (if k = 0 then rc (n32 0) h25 else rc (n32 1) h25)))) else some (n32 1, h13))) := by
  unfold f_X10_readsRank_B24
  rcases (show k = 0 ∨ k = 1 ∨ k = 2 by omega) with rfl | rfl | rfl <;> rfl
theorem rk_l {t : Nat → Nat} {N E k o p : Nat} {L0 : List Nat} {b c : Bool} {h : HP} {rT : HP → Nat → Option (Int32 × HP)} {rK : HP → Nat → Int32 → Option (Int32 × HP)} (hN : 10 < N) (hE : E ≤ 40) (ho : o ≤ 4) (tb : ∀ i, i < E → t i < 256) (hk : k < 3) (l0 : L0.length ≤ p) (HK : ∀ p' L h', p < p' → PR t E o p' L b c h' → gd (rK h' 188 (n32 (k + 1))) (PO t E (k + 1) o p' L h')) : ∀ (m fuel : Nat) (h1 : HP) (p1 : Nat) (L1 : List Nat), E - p1 ≤ m → m + 2 < fuel → SH b c h1 → RM h1 t E p1 → h1.2.1 188 15 = n32 o → CD h1 (L0 ++ L1) → fr [40] h h1 → PA t E k o p p1 L1 → gd (lp (fun _ _ => none) (f_X10_readsRank_B24 N rT rK 188 (n32 k)) fuel (n32 1) h1) (PO t E k o p L0 h) := by
  intro m
  induction m with
  | zero =>
    intro fuel h1 p1 L1 hm hf s r z cd f pa
    obtain ⟨k', rfl⟩ : ∃ k, fuel = k + 1 := ⟨fuel - 1, by omega⟩
    obtain ⟨n1, n2, n3, n4⟩ := pa.1
    have nE : ¬ p1 < E := by omega
    rw [lp_s, b24_e hk, gd_bnd2]
    refine gd_mono (tko_m (N := N) hN (str_lv hk) s r (by omega) n2 tb) ?_
    rintro ⟨u, h2⟩ ⟨-, u2⟩
    obtain ⟨v1, v2⟩ := u2 (fun w => nE w.1)
    have v1' : u = -n32 1 := v1
    have v2' : h2 = h1 := v2
    subst v1'
    subst v2'
    have le0 : ¬ n32 0 ≤ -n32 1 := by decide
    show gd (if n32 0 ≤ -n32 1 then _ else some (n32 1, h2)) _
    rw [if_neg le0]
    exact gd_some.mpr ⟨f, Or.inl ⟨p1, L1, rfl, r, z, cd, PA_end hk pa (fun w => absurd w nE)⟩⟩
  | succ m ih =>
    intro fuel h1 p1 L1 hm hf s r z cd f pa
    obtain ⟨k', rfl⟩ : ∃ k, fuel = k + 1 := ⟨fuel - 1, by omega⟩
    obtain ⟨n1, n2, n3, n4⟩ := pa.1
    rw [lp_s, b24_e hk, gd_bnd2]
    refine gd_mono (tko_m (N := N) hN (str_lv hk) s r (by omega) n2 tb) ?_
    rintro ⟨u, h2⟩ ⟨u1, u2⟩
    by_cases q : p1 < E ∧ fi (lvL k) (t p1) < (lvL k).length
    · obtain ⟨v1, v2⟩ := u1 q.1 q.2
      have v1' : u = n32 (fi (lvL k) (t p1)) := v1
      have v2' : h2 = setI h1 188 13 (n32 (p1 + 1)) := v2
      subst v1'
      obtain ⟨o1, o2, o3⟩ := lv_y hk (tb p1 q.1) q.2
      have f2 : fr [40] h h2 := by rw [v2']; exact f.sI rfl
      have s2 : SH b c h2 := by rw [v2']; exact s.fr ((fr.rf [40] _).sI rfl)
      have r2 : RM h2 t E (p1 + 1) := by rw [v2']; exact r.pos
      have cd2 : CD h2 (L0 ++ L1) := by rw [v2']; exact cd.ne (by omega) (by omega)
      have z2 : h2.2.1 188 15 = n32 o := by rw [v2', sI_ne (by omega)]; exact z
      clear v1 v2 v2' u1 u2
      show gd (if n32 0 ≤ n32 (fi (lvL k) (t p1)) then _ else _) _
      rw [if_pos (by rw [n32_le (by omega) (by omega)]; omega), gd_bnd2]
      refine gd_mono (HK (p1 + 1) (L0 ++ L1) h2 (by omega) ⟨s2, r2, z2, cd2, by rw [List.length_append]; omega, by omega⟩) ?_
      rintro ⟨y, h3⟩ ⟨f3, y2⟩
      have f3' : fr [40] h2 h3 := f3
      have s3 := s2.fr f3'
      rcases y2 with ⟨p', L, a1, a2, a3, a4, a5⟩ | ⟨p', n, a1, a2, a3, a4, a5⟩
      · have a1' : y = n32 1 := a1
        subst a1'
        have p5 := a5.1.2.1
        have l5 := a5.1.2.2.1
        have g5 := a5.1.1
        have len : (L0 ++ L1 ++ L).length < 80 := by rw [List.length_append, List.length_append]; omega
        have cm := codes_m (v := n32 (2000 + opx (t p1))) s3 a4.1 len
        have add := CD.add (c := 2000 + opx (t p1)) a4
        have ec : cdM (2000 + opx (t p1)) = 2000 + opx (t p1) := if_neg (by omega)
        rw [ec] at add
        have eL : L0 ++ L1 ++ L ++ [2000 + opx (t p1)] = L0 ++ (L1 ++ L ++ [2000 + opx (t p1)]) := by simp only [List.append_assoc]
        rw [eL] at add
        have ev : (n32 2000 + n32 (fi (lvL k) (t p1))) + n32 (lvo k) = n32 (2000 + opx (t p1)) := by rw [n32_add, n32_add, o1, Nat.add_assoc]
        show gd (if n32 1 = n32 0 then _ else bnd (f_X10_codes h3 188 ((n32 2000 + n32 (fi (lvL k) (t p1))) + n32 (lvo k))) _) _
        rw [if_neg (by decide), ev, cm, bnd_s]
        have f4 : fr [40] h (setI (setI h3 199 (L0 ++ L1 ++ L).length (n32 (2000 + opx (t p1)))) 188 22 (n32 ((L0 ++ L1 ++ L).length + 1))) := ((f2.tr f3').sI rfl).sI rfl
        have r4 : RM (setI (setI h3 199 (L0 ++ L1 ++ L).length (n32 (2000 + opx (t p1)))) 188 22 (n32 ((L0 ++ L1 ++ L).length + 1))) t E p' := (RM.ne (h := h3) a2 (by omega) (by omega) (by omega)).ne (by omega) (by omega) (by omega)
        have z4 : (setI (setI h3 199 (L0 ++ L1 ++ L).length (n32 (2000 + opx (t p1)))) 188 22 (n32 ((L0 ++ L1 ++ L).length + 1))).2.1 188 15 = n32 o := by rw [sI_ne (by omega), sI_ne (by omega)]; exact a3
        by_cases k0 : k = 0
        · subst k0
          rw [if_pos rfl]
          obtain ⟨k2, rfl⟩ : ∃ k, k' = k + 1 := ⟨k' - 1, by omega⟩
          rw [lp_s, f_X10_readsRank_B24]
          rw [if_pos (by decide)]
          exact gd_some.mpr ⟨f4, Or.inl ⟨p', _, rfl, r4, z4, add, PA_cmp tb pa q.1 o2 o3 a5⟩⟩
        · rw [if_neg k0]
          exact ih k' _ p' (L1 ++ L ++ [2000 + opx (t p1)]) (by omega) (by omega) (s3.fr (((fr.rf [40] _).sI rfl).sI rfl)) r4 z4 add f4 (PA_more tb (by omega) hk pa q.1 o2 o3 a5)
      · have a1' : y = n32 0 := a1
        subst a1'
        show gd (if n32 0 = n32 0 then some (n32 0, h3) else _) _
        rw [if_pos rfl]
        refine gd_some.mpr ⟨f2.tr f3', Or.inr ⟨p', n, rfl, a2, a3, ?_, PA_fail tb hk pa q.1 o2 o3 a5⟩⟩
        rw [List.length_append] at a4
        omega
    · obtain ⟨v1, v2⟩ := u2 q
      have v1' : u = -n32 1 := v1
      have v2' : h2 = h1 := v2
      subst v1'
      subst v2'
      have le0 : ¬ n32 0 ≤ -n32 1 := by decide
      show gd (if n32 0 ≤ -n32 1 then _ else some (n32 1, h2)) _
      rw [if_neg le0]
      exact gd_some.mpr ⟨f, Or.inl ⟨p1, L1, rfl, r, z, cd, PA_end hk pa (fun w w2 => lv_n hk (tb p1 w) (fun w3 => q ⟨w, w3⟩) w2)⟩⟩
theorem rank_s {t : Nat → Nat} {N E k o p : Nat} {L0 : List Nat} {b c : Bool} {h : HP} {rT : HP → Nat → Option (Int32 × HP)} {rK : HP → Nat → Int32 → Option (Int32 × HP)} (hN : 50 < N) (hE : E ≤ 40) (ho : o ≤ 4) (tb : ∀ i, i < E → t i < 256) (hk : k < 3) (pr : PR t E o p L0 b c h) (HK : ∀ p' L h', p ≤ p' → PR t E o p' L b c h' → gd (rK h' 188 (n32 (k + 1))) (PO t E (k + 1) o p' L h')) : gd (f_X10_readsRank_S rT rK N h 188 (n32 k)) (PO t E k o p L0 h) := by
  obtain ⟨s, r, z15, cd, lp0, hpE⟩ := id pr
  have k3 : ¬ k = 3 := by omega
  unfold f_X10_readsRank_S
  simp -implicitDefEqProofs (disch := omega) only [gP_p, gP_t, bnd_s, bnd2_s, n32_nat, n32_le, n32_lt, n32_eq, n32_add, n32_sub, n32_dec, n32_mul, n32_div, n32_irm, n32_lit, n32_oN, n32_ix, n32_m1, n32_m2, neg_le0, neg_lt0, neg_lt1, neg_le1, n32_min, n32_max, if_true, if_false, Nat.one_ne_zero, true_or, or_true, false_or, or_false, s.mod, k3, gd_bnd2]
  refine gd_mono (HK p L0 h (Nat.le_refl _) pr) ?_
  rintro ⟨y, h3⟩ ⟨f3, y2⟩
  have f3' : fr [40] h h3 := f3
  have s3 := s.fr f3'
  rcases y2 with ⟨p', L, a1, a2, a3, a4, a5⟩ | ⟨p', n, a1, a2, a3, a4, a5⟩
  · have a1' : y = n32 1 := a1
    subst a1'
    simp -implicitDefEqProofs (disch := omega) only [gP_p, gP_t, bnd_s, bnd2_s, n32_nat, n32_le, n32_lt, n32_eq, n32_add, n32_sub, n32_dec, n32_mul, n32_div, n32_irm, n32_lit, n32_oN, n32_ix, n32_m1, n32_m2, neg_le0, neg_lt0, neg_lt1, neg_le1, n32_min, n32_max, if_true, if_false, Nat.one_ne_zero, true_or, or_true, false_or, or_false, Nat.one_ne_zero]
    exact rk_l (by omega) hE ho tb hk lp0 (fun p' L h' hp => HK p' L h' (by omega)) 40 N h3 p' L (by omega) (by omega) s3 a2 a3 a4 f3' (PA_st hk a5)
  · have a1' : y = n32 0 := a1
    subst a1'
    simp -implicitDefEqProofs (disch := omega) only [gP_p, gP_t, bnd_s, bnd2_s, n32_nat, n32_le, n32_lt, n32_eq, n32_add, n32_sub, n32_dec, n32_mul, n32_div, n32_irm, n32_lit, n32_oN, n32_ix, n32_m1, n32_m2, neg_le0, neg_lt0, neg_lt1, neg_le1, n32_min, n32_max, if_true, if_false, Nat.one_ne_zero, true_or, or_true, false_or, or_false]
    exact gd_some.mpr ⟨f3', Or.inr ⟨p', n, rfl, a2, a3, a4, PF_st hk a5⟩⟩
theorem rank3_s {t : Nat → Nat} {N E o p : Nat} {L0 : List Nat} {b c : Bool} {h : HP} {rT : HP → Nat → Option (Int32 × HP)} {rK : HP → Nat → Int32 → Option (Int32 × HP)} (pr : PR t E o p L0 b c h) (HT : gd (rT h 188) (PO t E 3 o p L0 h)) : gd (f_X10_readsRank_S rT rK N h 188 (n32 3)) (PO t E 3 o p L0 h) := by
  have s := pr.1
  unfold f_X10_readsRank_S
  simp -implicitDefEqProofs (disch := omega) only [gP_p, gP_t, bnd_s, bnd2_s, n32_nat, n32_le, n32_lt, n32_eq, n32_add, n32_sub, n32_dec, n32_mul, n32_div, n32_irm, n32_lit, n32_oN, n32_ix, n32_m1, n32_m2, neg_le0, neg_lt0, neg_lt1, neg_le1, n32_min, n32_max, if_true, if_false, Nat.one_ne_zero, true_or, or_true, false_or, or_false, s.mod, gd_bnd2]
  refine gd_mono HT ?_
  rintro ⟨y, h3⟩ hy
  have y1 : y = n32 0 ∨ y = n32 1 := by
    rcases hy.2 with ⟨p', L, a1, -⟩ | ⟨p', n, a1, -⟩
    · exact Or.inr a1
    · exact Or.inl a1
  rw [gP_p (by exact y1)]
  exact gd_some.mpr hy
theorem desc_m {t : Nat → Nat} {N E : Nat} {b c : Bool} (hN : 50 < N) (hE : E ≤ 40) (tb : ∀ i, i < E → t i < 256) : ∀ F, (∀ o p L0 h, o ≤ 4 → PR t E o p L0 b c h → 6 * (4 - o) + (E - p) < F → gd ((f_X10_readsThing_G N F).1 h 188) (PO t E 3 o p L0 h)) ∧ (∀ k o p L0 h, k ≤ 3 → o ≤ 4 → PR t E o p L0 b c h → 6 * (4 - o) + (4 - k) + (E - p) < F → gd ((f_X10_readsThing_G N F).2 h 188 (n32 k)) (PO t E k o p L0 h)) := by
  intro F
  induction F with
  | zero => exact ⟨fun o p L0 h _ _ z => by omega, fun k o p L0 h _ _ _ z => by omega⟩
  | succ F ih =>
    obtain ⟨i1, i2⟩ := ih
    refine ⟨fun o p L0 h ho pr hf => ?_, fun k o p L0 h hk ho pr hf => ?_⟩
    · show gd (f_X10_readsThing_S (f_X10_readsThing_G N F).1 (f_X10_readsThing_G N F).2 N h 188) _
      exact thing_s (by omega) hE ho tb pr (fun h' hp pr' => i1 o (p + 1) L0 h' ho pr' (by omega)) (fun h' hp ho' pr' => i2 0 (o + 1) (p + 1) L0 h' (by omega) (by omega) pr' (by omega))
    · show gd (f_X10_readsRank_S (f_X10_readsThing_G N F).1 (f_X10_readsThing_G N F).2 N h 188 (n32 k)) _
      by_cases q : k = 3
      · subst q
        exact rank3_s pr (i1 o p L0 h ho pr (by omega))
      · exact rank_s hN hE ho tb (by omega) pr (fun p' L h' hp pr' => i2 (k + 1) o p' L h' (by omega) ho pr' (by omega))
