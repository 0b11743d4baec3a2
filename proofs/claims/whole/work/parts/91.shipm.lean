/-! ===== ships: the reference's reading ===== -/
def LD (h : HP) (i : Nat) (K S : Nat → Nat) : Prop := h.2.1 188 18 = n32 i ∧ ∀ j, j < i → h.2.1 196 j = n32 (K j) ∧ h.2.1 197 j = n32 (S j)
theorem fi_on (s : Nat) : fi [111, 110] s = if s = 111 then 0 else if s = 110 then 1 else 2 := by
  show (if 111 = s then 0 else if 110 = s then 1 else 2) = _
  by_cases q : s = 111
  · rw [if_pos q, if_pos q.symm]
  · rw [if_neg q, if_neg (fun z => q z.symm)]
    by_cases q2 : s = 110
    · rw [if_pos q2, if_pos q2.symm]
    · rw [if_neg q2, if_neg (fun z => q2 z.symm)]
theorem rl8 {N : Nat} {b c : Bool} {h : HP} (s : SH b c h) (z : h.2.1 188 18 = n32 8) : f_X10_readsLoad N h 188 = some (n32 0, h) := by
  unfold f_X10_readsLoad
  simp -implicitDefEqProofs (disch := omega) only [gP_p, gP_t, bnd_s, bnd2_s, n32_nat, n32_le, n32_lt, n32_eq, n32_add, n32_sub, n32_dec, n32_mul, n32_div, n32_irm, n32_lit, n32_oN, n32_ix, n32_m1, n32_m2, neg_le0, neg_lt0, neg_lt1, neg_le1, n32_min, n32_max, if_true, if_false, Nat.one_ne_zero, true_or, or_true, false_or, or_false, s.mod, z]
/-- a sign that begins no LOAD -/
theorem rlB {t : Nat → Nat} {N E p i : Nat} {b c : Bool} {h : HP} (hN : 10 < N) (hE : E ≤ 80) (tb : ∀ i, i < E → t i < 256) (hp : p ≤ E) (s : SH b c h) (r : RM h t E p) (z : h.2.1 188 18 = n32 i) (hi : i < 8) (n1 : ¬ (p < E ∧ t p = 46)) (n2 : ¬ (p < E ∧ fi [111, 110] (t p) < [111, 110].length)) : gd (f_X10_readsLoad N h 188) (fun q => q.1 = n32 0 ∧ RM q.2 t E p ∧ fr [40] h q.2) := by
  have i8 : ¬ i = 8 := by omega
  have f1 : fr [40] h (setI h 197 i (n32 0)) := (fr.rf _ _).sI rfl
  have s1 := s.fr f1
  have r1 : RM (setI h 197 i (n32 0)) t E p := r.ne (by omega) (by omega) (by omega)
  unfold f_X10_readsLoad
  simp -implicitDefEqProofs (disch := omega) only [gP_p, gP_t, bnd_s, bnd2_s, n32_nat, n32_le, n32_lt, n32_eq, n32_add, n32_sub, n32_dec, n32_mul, n32_div, n32_irm, n32_lit, n32_oN, n32_ix, n32_m1, n32_m2, neg_le0, neg_lt0, neg_lt1, neg_le1, n32_min, n32_max, if_true, if_false, Nat.one_ne_zero, true_or, or_true, false_or, or_false, s.mod, z, i8]
  simp -implicitDefEqProofs (disch := omega) only [ltt_s, gP_p, gP_t, bnd_s, bnd2_s, n32_nat, n32_le, n32_lt, n32_eq, n32_add, n32_sub, n32_dec, n32_mul, n32_div, n32_irm, n32_lit, n32_oN, n32_ix, n32_m1, n32_m2, neg_le0, neg_lt0, neg_lt1, neg_le1, n32_min, n32_max, if_true, if_false, Nat.one_ne_zero, true_or, or_true, false_or, or_false, s.mod, s1.mod, gd_bnd2]
  refine gd_mono (takes_m s1 r1 hE hp tb (show 46 < 256 by omega)) ?_
  rintro ⟨w, h2⟩ ⟨w1, w2, w3⟩
  have w1' : w = n32 0 := (show w = n32 (if p < E ∧ t p = 46 then 1 else 0) from w1).trans (by rw [if_neg n1])
  have w2' : RM h2 t E (if p < E ∧ t p = 46 then p + 1 else p) := w2
  rw [if_neg n1] at w2'
  subst w1'
  have w3' : h2 = setI (setI h 197 i (n32 0)) 188 13 (n32 (if p < E ∧ t p = 46 then p + 1 else p)) := w3
  have f2 : fr [40] h h2 := by rw [w3']; exact f1.sI rfl
  have s2 := s.fr f2
  have z2 : h2.2.1 188 18 = n32 i := by rw [w3', sI_ne (by omega), sI_ne (by omega)]; exact z
  simp -implicitDefEqProofs (disch := omega) only [gP_p, gP_t, bnd_s, bnd2_s, n32_nat, n32_le, n32_lt, n32_eq, n32_add, n32_sub, n32_dec, n32_mul, n32_div, n32_irm, n32_lit, n32_oN, n32_ix, n32_m1, n32_m2, neg_le0, neg_lt0, neg_lt1, neg_le1, n32_min, n32_max, if_true, if_false, Nat.one_ne_zero, true_or, or_true, false_or, or_false, gd_bnd2, jn_s]
  refine gd_mono (tko_m (N := N) hN str_on s2 w2' hE hp tb) ?_
  rintro ⟨w, h3⟩ ⟨-, k2⟩
  obtain ⟨k3, k4⟩ := k2 n2
  have k3' : w = -n32 1 := k3
  have k4' : h3 = h2 := k4
  subst k3'
  subst k4'
  have lt0 : -n32 1 < n32 0 := by decide
  simp -implicitDefEqProofs (disch := omega) only [gP_p, gP_t, bnd_s, bnd2_s, ltt_s, jn_s, n32_nat, n32_le, n32_lt, n32_eq, n32_add, n32_sub, n32_dec, n32_mul, n32_div, n32_irm, n32_lit, n32_oN, n32_ix, n32_m1, n32_m2, neg_le0, neg_lt0, neg_lt1, neg_le1, n32_min, n32_max, if_true, if_false, Nat.one_ne_zero, gd_some, true_or, or_true, false_or, or_false, s2.mod, z2, sI_eq, sI_ne, sI_J, sI_R, sI_kO, sI_rK, sI_len, sJ_eq, sJ_ne, sJ_I, sJ_kO, sJ_rK, sJ_len, lt0]
  exact ⟨trivial, (w2'.ne (by omega) (by omega) (by omega)).ne (by omega) (by omega) (by omega), (f2.sI rfl).sI rfl⟩
theorem rlD {t : Nat → Nat} {N E p i : Nat} {K S : Nat → Nat} {b c : Bool} {h : HP} (hN : 10 < N) (hE : E ≤ 80) (tb : ∀ i, i < E → t i < 256) (hp : p < E) (s : SH b c h) (r : RM h t E p) (ld : LD h i K S) (hi : i < 8) (n1 : t p = 46) : gd (f_X10_readsLoad N h 188) (fun q => q.1 = n32 1 ∧ RM q.2 t E (p + 1) ∧ LD q.2 (i + 1) (up K i 2) (up S i 0) ∧ fr [40] h q.2) := by
  have z := ld.1
  have i8 : ¬ i = 8 := by omega
  have f1 : fr [40] h (setI h 197 i (n32 0)) := (fr.rf _ _).sI rfl
  have s1 := s.fr f1
  have r1 : RM (setI h 197 i (n32 0)) t E p := r.ne (by omega) (by omega) (by omega)
  unfold f_X10_readsLoad
  simp -implicitDefEqProofs (disch := omega) only [gP_p, gP_t, bnd_s, bnd2_s, n32_nat, n32_le, n32_lt, n32_eq, n32_add, n32_sub, n32_dec, n32_mul, n32_div, n32_irm, n32_lit, n32_oN, n32_ix, n32_m1, n32_m2, neg_le0, neg_lt0, neg_lt1, neg_le1, n32_min, n32_max, if_true, if_false, Nat.one_ne_zero, true_or, or_true, false_or, or_false, s.mod, z, i8]
  simp -implicitDefEqProofs (disch := omega) only [ltt_s, gP_p, gP_t, bnd_s, bnd2_s, n32_nat, n32_le, n32_lt, n32_eq, n32_add, n32_sub, n32_dec, n32_mul, n32_div, n32_irm, n32_lit, n32_oN, n32_ix, n32_m1, n32_m2, neg_le0, neg_lt0, neg_lt1, neg_le1, n32_min, n32_max, if_true, if_false, Nat.one_ne_zero, true_or, or_true, false_or, or_false, s.mod, s1.mod, gd_bnd2]
  refine gd_mono (takes_m s1 r1 hE (by omega) tb (show 46 < 256 by omega)) ?_
  rintro ⟨w, h2⟩ ⟨w1, w2, w3⟩
  have w1' : w = n32 1 := (show w = n32 (if p < E ∧ t p = 46 then 1 else 0) from w1).trans (by rw [if_pos ⟨hp, n1⟩])
  have w2' : RM h2 t E (if p < E ∧ t p = 46 then p + 1 else p) := w2
  rw [if_pos ⟨hp, n1⟩] at w2'
  subst w1'
  have w3' : h2 = setI (setI h 197 i (n32 0)) 188 13 (n32 (if p < E ∧ t p = 46 then p + 1 else p)) := w3
  have f2 : fr [40] h h2 := by rw [w3']; exact f1.sI rfl
  have s2 := s.fr f2
  have z2 : h2.2.1 188 18 = n32 i := by rw [w3', sI_ne (by omega), sI_ne (by omega)]; exact z
  have v2 : h2.2.1 197 i = n32 0 := by rw [w3', sI_ne (by omega), sI_eq]
  have o2 : ∀ j, j < i → h2.2.1 196 j = n32 (K j) ∧ h2.2.1 197 j = n32 (S j) := fun j hj => by
    rw [w3', sI_ne (by omega), sI_ne (by omega), sI_ne (by omega), sI_ne (by omega)]
    exact ld.2 j hj
  simp -implicitDefEqProofs (disch := omega) only [gP_p, gP_t, bnd_s, bnd2_s, n32_nat, n32_le, n32_lt, n32_eq, n32_add, n32_sub, n32_dec, n32_mul, n32_div, n32_irm, n32_lit, n32_oN, n32_ix, n32_m1, n32_m2, neg_le0, neg_lt0, neg_lt1, neg_le1, n32_min, n32_max, if_true, if_false, Nat.one_ne_zero, true_or, or_true, false_or, or_false, jn_s]
  simp -implicitDefEqProofs (disch := omega) only [gP_p, gP_t, bnd_s, bnd2_s, ltt_s, jn_s, n32_nat, n32_le, n32_lt, n32_eq, n32_add, n32_sub, n32_dec, n32_mul, n32_div, n32_irm, n32_lit, n32_oN, n32_ix, n32_m1, n32_m2, neg_le0, neg_lt0, neg_lt1, neg_le1, n32_min, n32_max, if_true, if_false, Nat.one_ne_zero, gd_some, true_or, or_true, false_or, or_false, s2.mod, z2, sI_eq, sI_ne, sI_J, sI_R, sI_kO, sI_rK, sI_len, sJ_eq, sJ_ne, sJ_I, sJ_kO, sJ_rK, sJ_len, v2, Nat.not_lt_zero]
  refine gd_some.mpr ⟨rfl, (w2'.ne (by omega) (by omega) (by omega)).ne (by omega) (by omega) (by omega), ⟨sI_eq, fun j hj => by
    by_cases e : j = i
    · subst e
      rw [sI_ne (by omega), sI_eq, up_eq, sI_ne (by omega), sI_ne (by omega), up_eq]
      exact ⟨rfl, v2⟩
    · rw [sI_ne (by omega), sI_ne (by omega), up_ne e, sI_ne (by omega), sI_ne (by omega), up_ne e]
      exact o2 j (by omega)⟩, (f2.sI rfl).sI rfl⟩
theorem rlN {t : Nat → Nat} {N E p i a : Nat} {K S : Nat → Nat} {b c : Bool} {h : HP} (hN : 10 < N) (hE : E ≤ 80) (tb : ∀ i, i < E → t i < 256) (hp : p < E) (s : SH b c h) (r : RM h t E p) (ld : LD h i K S) (hi : i < 8) (n1 : ¬ t p = 46) (n2 : fi [111, 110] (t p) = a) (ha : a ≤ 1) : gd (f_X10_readsLoad N h 188) (fun q => (dgN t E 3 (p + 1) = 0 → q.1 = n32 0 ∧ RM q.2 t E (p + 1)) ∧ (dgN t E 3 (p + 1) ≠ 0 → q.1 = n32 1 ∧ RM q.2 t E (p + 1 + dgN t E 3 (p + 1)) ∧ LD q.2 (i + 1) (up K i a) (up S i (nm t (dgN t E 3 (p + 1)) (p + 1) 0))) ∧ fr [40] h q.2) := by
  have z := ld.1
  have i8 : ¬ i = 8 := by omega
  have n1' : ¬ (p < E ∧ t p = 46) := fun z => n1 z.2
  have f1 : fr [40] h (setI h 197 i (n32 0)) := (fr.rf _ _).sI rfl
  have s1 := s.fr f1
  have r1 : RM (setI h 197 i (n32 0)) t E p := r.ne (by omega) (by omega) (by omega)
  unfold f_X10_readsLoad
  simp -implicitDefEqProofs (disch := omega) only [gP_p, gP_t, bnd_s, bnd2_s, n32_nat, n32_le, n32_lt, n32_eq, n32_add, n32_sub, n32_dec, n32_mul, n32_div, n32_irm, n32_lit, n32_oN, n32_ix, n32_m1, n32_m2, neg_le0, neg_lt0, neg_lt1, neg_le1, n32_min, n32_max, if_true, if_false, Nat.one_ne_zero, true_or, or_true, false_or, or_false, s.mod, z, i8]
  simp -implicitDefEqProofs (disch := omega) only [ltt_s, gP_p, gP_t, bnd_s, bnd2_s, n32_nat, n32_le, n32_lt, n32_eq, n32_add, n32_sub, n32_dec, n32_mul, n32_div, n32_irm, n32_lit, n32_oN, n32_ix, n32_m1, n32_m2, neg_le0, neg_lt0, neg_lt1, neg_le1, n32_min, n32_max, if_true, if_false, Nat.one_ne_zero, true_or, or_true, false_or, or_false, s.mod, s1.mod, gd_bnd2]
  refine gd_mono (takes_m s1 r1 hE (by omega) tb (show 46 < 256 by omega)) ?_
  rintro ⟨w, h2⟩ ⟨w1, w2, w3⟩
  have w1' : w = n32 0 := (show w = n32 (if p < E ∧ t p = 46 then 1 else 0) from w1).trans (by rw [if_neg n1'])
  have w2' : RM h2 t E (if p < E ∧ t p = 46 then p + 1 else p) := w2
  rw [if_neg n1'] at w2'
  subst w1'
  have w3' : h2 = setI (setI h 197 i (n32 0)) 188 13 (n32 (if p < E ∧ t p = 46 then p + 1 else p)) := w3
  have f2 : fr [40] h h2 := by rw [w3']; exact f1.sI rfl
  have s2 := s.fr f2
  have z2 : h2.2.1 188 18 = n32 i := by rw [w3', sI_ne (by omega), sI_ne (by omega)]; exact z
  have o2 : ∀ j, j < i → h2.2.1 196 j = n32 (K j) ∧ h2.2.1 197 j = n32 (S j) := fun j hj => by
    rw [w3', sI_ne (by omega), sI_ne (by omega), sI_ne (by omega), sI_ne (by omega)]
    exact ld.2 j hj
  simp -implicitDefEqProofs (disch := omega) only [gP_p, gP_t, bnd_s, bnd2_s, n32_nat, n32_le, n32_lt, n32_eq, n32_add, n32_sub, n32_dec, n32_mul, n32_div, n32_irm, n32_lit, n32_oN, n32_ix, n32_m1, n32_m2, neg_le0, neg_lt0, neg_lt1, neg_le1, n32_min, n32_max, if_true, if_false, Nat.one_ne_zero, true_or, or_true, false_or, or_false, gd_bnd2, jn_s]
  refine gd_mono (tko_m (N := N) hN str_on s2 w2' hE (by omega) tb) ?_
  rintro ⟨w, h3⟩ ⟨k1, -⟩
  obtain ⟨k3, k4⟩ := k1 hp (by rw [n2]; show a < 2; omega)
  have k3' : w = n32 a := (show w = n32 (fi [111, 110] (t p)) from k3).trans (by rw [n2])
  have k4' : h3 = setI h2 188 13 (n32 (p + 1)) := k4
  subst k3'
  have r3 : RM h3 t E (p + 1) := by rw [k4']; exact w2'.pos
  have f3 : fr [40] h h3 := by rw [k4']; exact f2.sI rfl
  have s3 := s.fr f3
  have z3 : h3.2.1 188 18 = n32 i := by rw [k4', sI_ne (by omega)]; exact z2
  have o3 : ∀ j, j < i → h3.2.1 196 j = n32 (K j) ∧ h3.2.1 197 j = n32 (S j) := fun j hj => by
    rw [k4', sI_ne (by omega), sI_ne (by omega)]
    exact o2 j hj
  clear w3 w3' k4 k4' k3 w1 w2
  have f4 : fr [40] h3 (setI h3 196 i (n32 a)) := (fr.rf _ _).sI rfl
  have s4 := s3.fr f4
  have r4 : RM (setI h3 196 i (n32 a)) t E (p + 1) := r3.ne (by omega) (by omega) (by omega)
  have nb := nbr_m (N := N) hN hE (m := 3) (by omega) (by omega) tb (show p + 1 ≤ E by omega) s4 r4
  have fin : gd (bnd (rK (setI h3 196 i (n32 a)) 188 17 102) (fun t58 => bnd2 (f_X10_number N (setI h3 196 i (n32 a)) 188 (n32 3)) (fun v63 h65 => gP (ixd (n32 i) (lenH h65 t58) = true) (lt_ (setI h65 t58 (n32 i).toNatClampNeg v63) (fun h69 => lt_ (setI h69 188 18 ((h69.2.1 188 18) + n32 1)) (fun h40 => bnd (rK h40 188 16 102) (fun t43 => gP (ixd (n32 i) (lenH h40 t43) = true) ((if (h40.2.1 t43 (n32 i).toNatClampNeg) < n32 0 then some (n32 0, h40) else bnd (rK h40 188 17 102) (fun t50 => gP (ixd (n32 i) (lenH h40 t50) = true) ((if (h40.2.1 t50 (n32 i).toNatClampNeg) < n32 0 then some (n32 0, h40) else some (n32 1, h40))))))))))))) (fun q => (dgN t E 3 (p + 1) = 0 → q.1 = n32 0 ∧ RM q.2 t E (p + 1)) ∧ (dgN t E 3 (p + 1) ≠ 0 → q.1 = n32 1 ∧ RM q.2 t E (p + 1 + dgN t E 3 (p + 1)) ∧ LD q.2 (i + 1) (up K i a) (up S i (nm t (dgN t E 3 (p + 1)) (p + 1) 0))) ∧ fr [40] h q.2) := by
    simp -implicitDefEqProofs (disch := omega) only [gP_p, gP_t, bnd_s, bnd2_s, n32_nat, n32_le, n32_lt, n32_eq, n32_add, n32_sub, n32_dec, n32_mul, n32_div, n32_irm, n32_lit, n32_oN, n32_ix, n32_m1, n32_m2, neg_le0, neg_lt0, neg_lt1, neg_le1, n32_min, n32_max, if_true, if_false, Nat.one_ne_zero, true_or, or_true, false_or, or_false, s4.mod, gd_bnd2]
    refine gd_mono nb ?_
    rintro ⟨u, h5⟩ ⟨e1, e2, e3, e4⟩
    have e1' : u = nbV t (dgN t E 3 (p + 1)) (p + 1) := e1
    have e2' : RM h5 t E (p + 1 + dgN t E 3 (p + 1)) := e2
    have e3' : ∀ a' j, ¬ (a' = 188 ∧ j = 13) → h5.2.1 a' j = (setI h3 196 i (n32 a)).2.1 a' j := e3
    have s5 := s4.fr e4
    have z5 : h5.2.1 188 18 = n32 i := by rw [e3' _ _ (by omega), sI_ne (by omega)]; exact z3
    have v5 : h5.2.1 196 i = n32 a := by rw [e3' _ _ (by omega), sI_eq]
    have f5 : fr [40] h h5 := (f3.tr f4).tr e4
    have b2 := nm_m (t := t) (E := E) (m := 3) (p := p + 1)
    have b3 : 10 ^ 3 = 1000 := rfl
    unfold nbV at e1'
    by_cases q5 : dgN t E 3 (p + 1) = 0
    · rw [if_pos q5] at e1'
      subst e1'
      rw [q5] at e2'
      have lt0 : -n32 1 < n32 0 := by decide
      simp -implicitDefEqProofs (disch := omega) only [gP_p, gP_t, bnd_s, bnd2_s, ltt_s, jn_s, n32_nat, n32_le, n32_lt, n32_eq, n32_add, n32_sub, n32_dec, n32_mul, n32_div, n32_irm, n32_lit, n32_oN, n32_ix, n32_m1, n32_m2, neg_le0, neg_lt0, neg_lt1, neg_le1, n32_min, n32_max, if_true, if_false, Nat.one_ne_zero, gd_some, true_or, or_true, false_or, or_false, s5.mod, z5, sI_eq, sI_ne, sI_J, sI_R, sI_kO, sI_rK, sI_len, sJ_eq, sJ_ne, sJ_I, sJ_kO, sJ_rK, sJ_len, v5, Nat.not_lt_zero, lt0]
      exact ⟨fun _ => ⟨trivial, (e2'.ne (by omega) (by omega) (by omega)).ne (by omega) (by omega) (by omega)⟩, fun z => absurd q5 z, (f5.sI rfl).sI rfl⟩
    · rw [if_neg q5] at e1'
      subst e1'
      simp -implicitDefEqProofs (disch := omega) only [gP_p, gP_t, bnd_s, bnd2_s, ltt_s, jn_s, n32_nat, n32_le, n32_lt, n32_eq, n32_add, n32_sub, n32_dec, n32_mul, n32_div, n32_irm, n32_lit, n32_oN, n32_ix, n32_m1, n32_m2, neg_le0, neg_lt0, neg_lt1, neg_le1, n32_min, n32_max, if_true, if_false, Nat.one_ne_zero, gd_some, true_or, or_true, false_or, or_false, s5.mod, z5, sI_eq, sI_ne, sI_J, sI_R, sI_kO, sI_rK, sI_len, sJ_eq, sJ_ne, sJ_I, sJ_kO, sJ_rK, sJ_len, v5, Nat.not_lt_zero]
      exact ⟨fun z => absurd z q5, fun _ => ⟨trivial, (e2'.ne (by omega) (by omega) (by omega)).ne (by omega) (by omega) (by omega), sI_eq, fun j hj => by
        by_cases e : j = i
        · subst e
          rw [sI_ne (by omega), sI_ne (by omega), sI_ne (by omega), sI_eq, up_eq, up_eq]
          exact ⟨v5, rfl⟩
        · rw [sI_ne (by omega), sI_ne (by omega), sI_ne (by omega), sI_ne (by omega), up_ne e, up_ne e, e3' _ _ (by omega), e3' _ _ (by omega), sI_ne (by omega), sI_ne (by omega)]
          exact o3 j (by omega)⟩, (f5.sI rfl).sI rfl⟩
  rcases (show a = 0 ∨ a = 1 by omega) with rfl | rfl
  · simp -implicitDefEqProofs (disch := omega) only [gP_p, gP_t, bnd_s, bnd2_s, n32_nat, n32_le, n32_lt, n32_eq, n32_add, n32_sub, n32_dec, n32_mul, n32_div, n32_irm, n32_lit, n32_oN, n32_ix, n32_m1, n32_m2, neg_le0, neg_lt0, neg_lt1, neg_le1, n32_min, n32_max, if_true, if_false, Nat.one_ne_zero, true_or, or_true, false_or, or_false, s3.mod, z3, ltt_s, s4.mod, sI_eq, jn_s]
    simp -implicitDefEqProofs (disch := omega) only [gP_p, gP_t, bnd_s, bnd2_s, n32_nat, n32_le, n32_lt, n32_eq, n32_add, n32_sub, n32_dec, n32_mul, n32_div, n32_irm, n32_lit, n32_oN, n32_ix, n32_m1, n32_m2, neg_le0, neg_lt0, neg_lt1, neg_le1, n32_min, n32_max, if_true, if_false, Nat.one_ne_zero, true_or, or_true, false_or, or_false, s4.mod, ltt_s] at fin
    exact fin
  · simp -implicitDefEqProofs (disch := omega) only [gP_p, gP_t, bnd_s, bnd2_s, n32_nat, n32_le, n32_lt, n32_eq, n32_add, n32_sub, n32_dec, n32_mul, n32_div, n32_irm, n32_lit, n32_oN, n32_ix, n32_m1, n32_m2, neg_le0, neg_lt0, neg_lt1, neg_le1, n32_min, n32_max, if_true, if_false, Nat.one_ne_zero, true_or, or_true, false_or, or_false, s3.mod, z3, ltt_s, s4.mod, sI_eq, jn_s]
    simp -implicitDefEqProofs (disch := omega) only [gP_p, gP_t, bnd_s, bnd2_s, n32_nat, n32_le, n32_lt, n32_eq, n32_add, n32_sub, n32_dec, n32_mul, n32_div, n32_irm, n32_lit, n32_oN, n32_ix, n32_m1, n32_m2, neg_le0, neg_lt0, neg_lt1, neg_le1, n32_min, n32_max, if_true, if_false, Nat.one_ne_zero, true_or, or_true, false_or, or_false, s4.mod, ltt_s] at fin
    exact fin
