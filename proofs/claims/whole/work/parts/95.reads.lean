/-! ===== year: the reference reads its text ===== -/
def rtC (N : Nat) (x0 : Nat) (v1 : Int32) (t99 : Nat) (v104 : Int32) (h106 : HP) : Option (Int32 × HP) :=
  gP (ixd v1 (lenH h106 t99) = true) (lt_ (setI h106 t99 v1.toNatClampNeg v104) (fun h110 => bnd (rK h110 x0 32 102) (fun t113 => bnd (rK h110 x0 31 102) (fun t118 => gP (ixd v1 (lenH h110 t118) = true) (jn (fun (y125 : Int32) (h126 : HP) => gP (ixd v1 (lenH h126 t113) = true) (lt_ (setI h126 t113 v1.toNatClampNeg y125) (fun h129 => bnd (rK h129 x0 32 102) (fun t132 => gP (ixd v1 (lenH h129 t132) = true) ((if (h129.2.1 t132 v1.toNatClampNeg) < 0 then some (0, h129) else some (1, h129))))))) (fun k124 => (if 0 ≤ (h110.2.1 t118 v1.toNatClampNeg) then bnd2 (f_X10_digitIn h110 x0 1 9) (fun v140 h142 => k124 v140 h142) else k124 (-1) h110)))))))
def rtB (N : Nat) (x0 : Nat) (v1 : Int32) (t42 : Nat) (v47 : Int32) (h49 : HP) : Option (Int32 × HP) :=
  gP (ixd v1 (lenH h49 t42) = true) (lt_ (setI h49 t42 v1.toNatClampNeg v47) (fun h53 => bnd (rK h53 x0 30 102) (fun t56 => gP (ixd v1 (lenH h53 t56) = true) (jn (bnd (rK h53 x0 30 102) (fun t63 => gP (ixd v1 (lenH h53 t63) = true) ((if (h53.2.1 t63 v1.toNatClampNeg) < 0 then some (0, h53) else some (1, h53))))) (fun k62 => (if (h53.2.1 t56 v1.toNatClampNeg) < 0 then k62 else bnd (rK h53 x0 29 102) (fun t71 => gP (ixd v1 (lenH h53 t71) = true) ((if (h53.2.1 t71 v1.toNatClampNeg) = 0 then k62 else bnd (rK h53 x0 29 102) (fun t78 => gP (ixd v1 (lenH h53 t78) = true) ((if (h53.2.1 t78 v1.toNatClampNeg) = 2 then k62 else bnd (rK h53 x0 29 102) (fun t85 => gP (ixd v1 (lenH h53 t85) = true) ((if (h53.2.1 t85 v1.toNatClampNeg) = 4 then k62 else bnd (rK h53 x0 29 102) (fun t92 => gP (ixd v1 (lenH h53 t92) = true) ((if (h53.2.1 t92 v1.toNatClampNeg) = 1 then bnd (rK h53 x0 31 102) (fun t145 => bnd2 (f_X10_digitIn h53 x0 1 9) (fun v150 h152 => gP (ixd v1 (lenH h152 t145) = true) (lt_ (setI h152 t145 v1.toNatClampNeg v150) (fun h156 => bnd (rK h156 x0 31 102) (fun t159 => gP (ixd v1 (lenH h156 t159) = true) ((if (h156.2.1 t159 v1.toNatClampNeg) < 0 then some (0, h156) else some (1, h156)))))))) else bnd (rK h53 x0 31 102) (fun t99 => bnd2 (f_X10_takesOf N h53 x0 (SB + 10)) (fun v104 h106 => rtC N x0 v1 t99 v104 h106))))))))))))))))))))
def rtA (N : Nat) (x0 : Nat) (v1 : Int32) (t3 : Nat) (v8 : Int32) (h10 : HP) : Option (Int32 × HP) :=
  gP (ixd v1 (lenH h10 t3) = true) (lt_ (setI h10 t3 v1.toNatClampNeg v8) (fun h14 => lt_ (setI h14 x0 33 ((h14.2.1 x0 33) + 1)) (fun h17 => bnd (rK h17 x0 29 102) (fun t20 => gP (ixd v1 (lenH h17 t20) = true) (jn (bnd (rK h17 x0 29 102) (fun t27 => gP (ixd v1 (lenH h17 t27) = true) ((if (h17.2.1 t27 v1.toNatClampNeg) < 0 then some (0, h17) else some (1, h17))))) (fun k26 => (if (h17.2.1 t20 v1.toNatClampNeg) < 0 then k26 else bnd (rK h17 x0 29 102) (fun t35 => gP (ixd v1 (lenH h17 t35) = true) ((if (h17.2.1 t35 v1.toNatClampNeg) = 3 then k26 else bnd (rK h17 x0 30 102) (fun t42 => bnd2 (f_X10_number N h17 x0 1) (fun v47 h49 => rtB N x0 v1 t42 v47 h49))))))))))))
theorem rt_e (N : Nat) (h : HP) (x0 : Nat) : f_X10_readsAct N h x0 = gP (kO h x0 10 = true) (lt_ ((h.2.1 x0 33)) (fun v1 => bnd (rK h x0 29 102) (fun t3 => bnd2 (f_X10_takesOf N h x0 (SB + 15)) (fun v8 h10 => rtA N x0 v1 t3 v8 h10)))) := rfl

theorem s48_all : (List.range 256).all (fun v => decide ((n32 v - n32 48).toInt = (v : Int) - 48)) = true := by decide +kernel
theorem s48 {v : Nat} (hv : v < 256) : (n32 v - n32 48).toInt = (v : Int) - 48 := of_decide_eq_true (List.all_eq_true.mp s48_all v (List.mem_range.mpr hv))
theorem sg48 {t : Nat → Nat} {E p : Nat} : sg t E p 48 ↔ dgt t E p := by
  show (p < E ∧ (Nat.ble 48 (t p) && Nat.ble (t p) 57) = true) ↔ _
  rw [Bool.and_eq_true, Nat.ble_eq, Nat.ble_eq]
theorem sg49 {t : Nat → Nat} {E p : Nat} : sg t E p 49 ↔ (p < E ∧ 49 ≤ t p ∧ t p ≤ 57) := by
  show (p < E ∧ (Nat.ble 49 (t p) && Nat.ble (t p) 57) = true) ↔ _
  rw [Bool.and_eq_true, Nat.ble_eq, Nat.ble_eq]
theorem sg107 {t : Nat → Nat} {E p : Nat} : sg t E p 107 ↔ (p < E ∧ (t p = 111 ∨ t p = 110)) := by
  show (p < E ∧ (t p == 111 || t p == 110) = true) ↔ _
  rw [Bool.or_eq_true, beq_iff_eq, beq_iff_eq]
theorem dgi_m {t : Nat → Nat} {E p : Nat} {b c : Bool} {h : HP} (s : SH b c h) (r : RM h t E p) (hE : E ≤ 80) (hp : p ≤ E) (tb : ∀ i, i < E → t i < 256) : f_X10_digitIn h 188 (n32 1) (n32 9) = if sg t E p 49 then some (n32 (t p - 48), setI h 188 13 (n32 (p + 1))) else some (-n32 1, h) := by
  obtain ⟨r1, r2, r3⟩ := r
  unfold f_X10_digitIn
  by_cases q : p < E
  · have q' : ¬ E ≤ p := by omega
    have v := r3 p q
    have vb := tb p q
    have e48 := s48 vb
    by_cases q2 : 49 ≤ t p ∧ t p ≤ 57
    · have m1 : f_X10_in (n32 (t p) - n32 48).toInt64 (n32 1).toInt64 (n32 9).toInt64 = some (n32 1) := in_y (a := 1) (b := 9) rfl rfl (by rw [e48]; omega)
      have e49 : 48 ≤ t p := by omega
      rw [if_pos (sg49.mpr ⟨q, q2⟩)]
      rw [n32_sub e49] at m1
      simp -implicitDefEqProofs (disch := omega) only [gP_p, gP_t, bnd_s, bnd2_s, ltt_s, jn_s, n32_nat, n32_le, n32_lt, n32_eq, n32_add, n32_sub, n32_dec, n32_mul, n32_div, n32_irm, n32_lit, n32_oN, n32_ix, n32_m1, n32_m2, neg_le0, neg_lt0, neg_lt1, neg_le1, n32_min, n32_max, if_true, if_false, Nat.one_ne_zero, gd_some, true_or, or_true, false_or, or_false, s.mod, r1, r2, q', v, m1, sI_eq, sI_ne, sI_J, sI_R, sI_kO, sI_rK, sI_len, sJ_eq, sJ_ne, sJ_I, sJ_kO, sJ_rK, sJ_len, Nat.add_sub_cancel]
    · have m1 : f_X10_in (n32 (t p) - n32 48).toInt64 (n32 1).toInt64 (n32 9).toInt64 = some (n32 0) := in_n (a := 1) (b := 9) rfl rfl (by rw [e48]; omega)
      rw [if_neg (fun z => q2 (sg49.mp z).2)]
      simp -implicitDefEqProofs (disch := omega) only [gP_p, gP_t, bnd_s, n32_lit, n32_le, n32_ix, n32_nat, if_false, s.mod, r1, r2, q', v, m1, if_true]
  · have q' : E ≤ p := by omega
    rw [if_neg (show ¬ sg t E p 49 from fun z => q z.1)]
    simp -implicitDefEqProofs (disch := omega) only [gP_p, gP_t, bnd_s, bnd2_s, ltt_s, jn_s, n32_nat, n32_le, n32_lt, n32_eq, n32_add, n32_sub, n32_dec, n32_mul, n32_div, n32_irm, n32_lit, n32_oN, n32_ix, n32_m1, n32_m2, neg_le0, neg_lt0, neg_lt1, neg_le1, n32_min, n32_max, if_true, if_false, Nat.one_ne_zero, gd_some, true_or, or_true, false_or, or_false, s.mod, r1, r2, q']
def oY (i : Nat) (h h' : HP) : Prop := ∀ a j, j < i → 204 ≤ a → a < 208 → h'.2.1 a j = h.2.1 a j
theorem oY.rf (i : Nat) (h : HP) : oY i h h := fun _ _ _ _ _ => rfl
theorem oY.sI {i a j : Nat} {h h' : HP} {v : Int32} (o : oY i h h') (d : ¬ (204 ≤ a ∧ a < 208 ∧ j < i)) : oY i h (setI h' a j v) := fun x y h1 h2 h3 => by
  rw [sI_ne (by omega)]
  exact o x y h1 h2 h3
theorem oY.tr {i : Nat} {h h1 h2 : HP} (o : oY i h h1) (o2 : oY i h1 h2) : oY i h h2 := fun x y a1 a2 a3 => (o2 x y a1 a2 a3).trans (o x y a1 a2 a3)
theorem rtA_7 {t : Nat → Nat} {N E p i : Nat} {b c : Bool} {h : HP} (s : SH b c h) (r : RM h t E p) (z : h.2.1 188 33 = n32 i) (hi : i < 60) : gd (rtA N 188 (n32 i) 204 (-n32 1) h) (fun q => q.1 = n32 0 ∧ RM q.2 t E p ∧ fr [40, 33] h q.2) := by
  have lt0 : -n32 1 < n32 0 := by decide
  unfold rtA
  simp -implicitDefEqProofs (disch := omega) only [gP_p, gP_t, bnd_s, bnd2_s, n32_nat, n32_le, n32_lt, n32_eq, n32_add, n32_sub, n32_dec, n32_mul, n32_div, n32_irm, n32_lit, n32_oN, n32_ix, n32_m1, n32_m2, neg_le0, neg_lt0, neg_lt1, neg_le1, n32_min, n32_max, if_true, if_false, Nat.one_ne_zero, true_or, or_true, false_or, or_false, ltt_s, s.mod, z, sI_eq, sI_ne, sI_J, sI_R, sI_kO, sI_rK, sI_len, sJ_eq, sJ_ne, sJ_I, sJ_kO, sJ_rK, sJ_len, lt0]
  simp -implicitDefEqProofs (disch := omega) only [gP_p, gP_t, bnd_s, bnd2_s, ltt_s, jn_s, n32_nat, n32_le, n32_lt, n32_eq, n32_add, n32_sub, n32_dec, n32_mul, n32_div, n32_irm, n32_lit, n32_oN, n32_ix, n32_m1, n32_m2, neg_le0, neg_lt0, neg_lt1, neg_le1, n32_min, n32_max, if_true, if_false, Nat.one_ne_zero, gd_some, true_or, or_true, false_or, or_false, s.mod, z, sI_eq, sI_ne, sI_J, sI_R, sI_kO, sI_rK, sI_len, sJ_eq, sJ_ne, sJ_I, sJ_kO, sJ_rK, sJ_len, lt0]
  exact ⟨trivial, (r.ne (by omega) (by omega) (by omega)).ne (by omega) (by omega) (by omega), ((fr.rf _ _).sI rfl).sI rfl⟩
theorem rtA_3 {t : Nat → Nat} {N E p i : Nat} {b c : Bool} {h : HP} (s : SH b c h) (r : RM h t E p) (z : h.2.1 188 33 = n32 i) (hi : i < 60) : gd (rtA N 188 (n32 i) 204 (n32 3) h) (fun q => q.1 = n32 1 ∧ RM q.2 t E p ∧ q.2.2.1 188 33 = n32 (i + 1) ∧ q.2.2.1 204 i = n32 3 ∧ oY i h q.2 ∧ fr [40, 33] h q.2) := by
  unfold rtA
  simp -implicitDefEqProofs (disch := omega) only [gP_p, gP_t, bnd_s, bnd2_s, n32_nat, n32_le, n32_lt, n32_eq, n32_add, n32_sub, n32_dec, n32_mul, n32_div, n32_irm, n32_lit, n32_oN, n32_ix, n32_m1, n32_m2, neg_le0, neg_lt0, neg_lt1, neg_le1, n32_min, n32_max, if_true, if_false, Nat.one_ne_zero, true_or, or_true, false_or, or_false, ltt_s, s.mod, z, sI_eq, sI_ne, sI_J, sI_R, sI_kO, sI_rK, sI_len, sJ_eq, sJ_ne, sJ_I, sJ_kO, sJ_rK, sJ_len, Nat.not_lt_zero]
  simp -implicitDefEqProofs (disch := omega) only [gP_p, gP_t, bnd_s, bnd2_s, ltt_s, jn_s, n32_nat, n32_le, n32_lt, n32_eq, n32_add, n32_sub, n32_dec, n32_mul, n32_div, n32_irm, n32_lit, n32_oN, n32_ix, n32_m1, n32_m2, neg_le0, neg_lt0, neg_lt1, neg_le1, n32_min, n32_max, if_true, if_false, Nat.one_ne_zero, gd_some, true_or, or_true, false_or, or_false, s.mod, z, sI_eq, sI_ne, sI_J, sI_R, sI_kO, sI_rK, sI_len, sJ_eq, sJ_ne, sJ_I, sJ_kO, sJ_rK, sJ_len, Nat.not_lt_zero]
  exact ⟨trivial, (r.ne (by omega) (by omega) (by omega)).ne (by omega) (by omega) (by omega), trivial, trivial, ((oY.rf _ _).sI (by omega)).sI (by omega), ((fr.rf _ _).sI rfl).sI rfl⟩
theorem rtA_n {N i k : Nat} {b c : Bool} {h : HP} {Q : Int32 × HP → Prop} (s : SH b c h) (z : h.2.1 188 33 = n32 i) (hi : i < 60) (hk : k < 7) (k3 : ¬ k = 3) (K : gd (bnd2 (f_X10_number N (setI (setI h 204 i (n32 k)) 188 33 (n32 (i + 1))) 188 (n32 1)) (fun v h' => rtB N 188 (n32 i) 205 v h')) Q) : gd (rtA N 188 (n32 i) 204 (n32 k) h) Q := by
  unfold rtA
  simp -implicitDefEqProofs (disch := omega) only [gP_p, gP_t, bnd_s, bnd2_s, n32_nat, n32_le, n32_lt, n32_eq, n32_add, n32_sub, n32_dec, n32_mul, n32_div, n32_irm, n32_lit, n32_oN, n32_ix, n32_m1, n32_m2, neg_le0, neg_lt0, neg_lt1, neg_le1, n32_min, n32_max, if_true, if_false, Nat.one_ne_zero, true_or, or_true, false_or, or_false, ltt_s, s.mod, z, sI_eq, sI_ne, sI_J, sI_R, sI_kO, sI_rK, sI_len, sJ_eq, sJ_ne, sJ_I, sJ_kO, sJ_rK, sJ_len, Nat.not_lt_zero, k3]
  exact K
theorem rtB_m {N i : Nat} {b c : Bool} {h : HP} (s : SH b c h) (hi : i < 60) : rtB N 188 (n32 i) 205 (-n32 1) h = some (n32 0, setI h 205 i (-n32 1)) := by
  have lt0 : -n32 1 < n32 0 := by decide
  unfold rtB
  simp -implicitDefEqProofs (disch := omega) only [gP_p, gP_t, bnd_s, bnd2_s, n32_nat, n32_le, n32_lt, n32_eq, n32_add, n32_sub, n32_dec, n32_mul, n32_div, n32_irm, n32_lit, n32_oN, n32_ix, n32_m1, n32_m2, neg_le0, neg_lt0, neg_lt1, neg_le1, n32_min, n32_max, if_true, if_false, Nat.one_ne_zero, true_or, or_true, false_or, or_false, ltt_s, s.mod, sI_eq, sI_ne, sI_J, sI_R, sI_kO, sI_rK, sI_len, sJ_eq, sJ_ne, sJ_I, sJ_kO, sJ_rK, sJ_len, lt0]
  simp -implicitDefEqProofs (disch := omega) only [gP_p, gP_t, bnd_s, bnd2_s, ltt_s, jn_s, n32_nat, n32_le, n32_lt, n32_eq, n32_add, n32_sub, n32_dec, n32_mul, n32_div, n32_irm, n32_lit, n32_oN, n32_ix, n32_m1, n32_m2, neg_le0, neg_lt0, neg_lt1, neg_le1, n32_min, n32_max, if_true, if_false, Nat.one_ne_zero, gd_some, true_or, or_true, false_or, or_false, s.mod, sI_eq, sI_ne, sI_J, sI_R, sI_kO, sI_rK, sI_len, sJ_eq, sJ_ne, sJ_I, sJ_kO, sJ_rK, sJ_len, lt0]
theorem rtB_2 {N i k d : Nat} {b c : Bool} {h : HP} (s : SH b c h) (hi : i < 60) (hd : d < 10) (hk : k = 0 ∨ k = 2 ∨ k = 4) (z : h.2.1 204 i = n32 k) : rtB N 188 (n32 i) 205 (n32 d) h = some (n32 1, setI h 205 i (n32 d)) := by
  unfold rtB
  rcases hk with rfl | rfl | rfl
  · simp -implicitDefEqProofs (disch := omega) only [gP_p, gP_t, bnd_s, bnd2_s, n32_nat, n32_le, n32_lt, n32_eq, n32_add, n32_sub, n32_dec, n32_mul, n32_div, n32_irm, n32_lit, n32_oN, n32_ix, n32_m1, n32_m2, neg_le0, neg_lt0, neg_lt1, neg_le1, n32_min, n32_max, if_true, if_false, Nat.one_ne_zero, true_or, or_true, false_or, or_false, ltt_s, s.mod, z, sI_eq, sI_ne, sI_J, sI_R, sI_kO, sI_rK, sI_len, sJ_eq, sJ_ne, sJ_I, sJ_kO, sJ_rK, sJ_len, Nat.not_lt_zero]
    simp -implicitDefEqProofs (disch := omega) only [gP_p, gP_t, bnd_s, bnd2_s, ltt_s, jn_s, n32_nat, n32_le, n32_lt, n32_eq, n32_add, n32_sub, n32_dec, n32_mul, n32_div, n32_irm, n32_lit, n32_oN, n32_ix, n32_m1, n32_m2, neg_le0, neg_lt0, neg_lt1, neg_le1, n32_min, n32_max, if_true, if_false, Nat.one_ne_zero, gd_some, true_or, or_true, false_or, or_false, s.mod, sI_eq, sI_ne, sI_J, sI_R, sI_kO, sI_rK, sI_len, sJ_eq, sJ_ne, sJ_I, sJ_kO, sJ_rK, sJ_len, Nat.not_lt_zero]
  · simp -implicitDefEqProofs (disch := omega) only [gP_p, gP_t, bnd_s, bnd2_s, n32_nat, n32_le, n32_lt, n32_eq, n32_add, n32_sub, n32_dec, n32_mul, n32_div, n32_irm, n32_lit, n32_oN, n32_ix, n32_m1, n32_m2, neg_le0, neg_lt0, neg_lt1, neg_le1, n32_min, n32_max, if_true, if_false, Nat.one_ne_zero, true_or, or_true, false_or, or_false, ltt_s, s.mod, z, sI_eq, sI_ne, sI_J, sI_R, sI_kO, sI_rK, sI_len, sJ_eq, sJ_ne, sJ_I, sJ_kO, sJ_rK, sJ_len, Nat.not_lt_zero, show ¬ (2 = 0) by decide]
    simp -implicitDefEqProofs (disch := omega) only [gP_p, gP_t, bnd_s, bnd2_s, ltt_s, jn_s, n32_nat, n32_le, n32_lt, n32_eq, n32_add, n32_sub, n32_dec, n32_mul, n32_div, n32_irm, n32_lit, n32_oN, n32_ix, n32_m1, n32_m2, neg_le0, neg_lt0, neg_lt1, neg_le1, n32_min, n32_max, if_true, if_false, Nat.one_ne_zero, gd_some, true_or, or_true, false_or, or_false, s.mod, sI_eq, sI_ne, sI_J, sI_R, sI_kO, sI_rK, sI_len, sJ_eq, sJ_ne, sJ_I, sJ_kO, sJ_rK, sJ_len, Nat.not_lt_zero]
  · simp -implicitDefEqProofs (disch := omega) only [gP_p, gP_t, bnd_s, bnd2_s, n32_nat, n32_le, n32_lt, n32_eq, n32_add, n32_sub, n32_dec, n32_mul, n32_div, n32_irm, n32_lit, n32_oN, n32_ix, n32_m1, n32_m2, neg_le0, neg_lt0, neg_lt1, neg_le1, n32_min, n32_max, if_true, if_false, Nat.one_ne_zero, true_or, or_true, false_or, or_false, ltt_s, s.mod, z, sI_eq, sI_ne, sI_J, sI_R, sI_kO, sI_rK, sI_len, sJ_eq, sJ_ne, sJ_I, sJ_kO, sJ_rK, sJ_len, Nat.not_lt_zero, show ¬ (4 = 0) by decide, show ¬ (4 = 2) by decide]
    simp -implicitDefEqProofs (disch := omega) only [gP_p, gP_t, bnd_s, bnd2_s, ltt_s, jn_s, n32_nat, n32_le, n32_lt, n32_eq, n32_add, n32_sub, n32_dec, n32_mul, n32_div, n32_irm, n32_lit, n32_oN, n32_ix, n32_m1, n32_m2, neg_le0, neg_lt0, neg_lt1, neg_le1, n32_min, n32_max, if_true, if_false, Nat.one_ne_zero, gd_some, true_or, or_true, false_or, or_false, s.mod, sI_eq, sI_ne, sI_J, sI_R, sI_kO, sI_rK, sI_len, sJ_eq, sJ_ne, sJ_I, sJ_kO, sJ_rK, sJ_len, Nat.not_lt_zero]
theorem rtB_1 {t : Nat → Nat} {N i d E p : Nat} {b c : Bool} {h : HP} (s : SH b c h) (r : RM h t E p) (hE : E ≤ 80) (hp : p ≤ E) (tb : ∀ i, i < E → t i < 256) (hi : i < 60) (hd : d < 10) (z : h.2.1 204 i = n32 1) : rtB N 188 (n32 i) 205 (n32 d) h = if sg t E p 49 then some (n32 1, setI (setI (setI h 205 i (n32 d)) 188 13 (n32 (p + 1))) 206 i (n32 (t p - 48))) else some (n32 0, setI (setI h 205 i (n32 d)) 206 i (-n32 1)) := by
  have f1 : fr [33] h (setI h 205 i (n32 d)) := (fr.rf _ _).sI rfl
  have s1 := s.fr f1
  have r1 : RM (setI h 205 i (n32 d)) t E p := r.ne (by omega) (by omega) (by omega)
  have di := dgi_m s1 r1 hE hp tb
  have lt0 : -n32 1 < n32 0 := by decide
  unfold rtB
  simp -implicitDefEqProofs (disch := omega) only [gP_p, gP_t, bnd_s, bnd2_s, n32_nat, n32_le, n32_lt, n32_eq, n32_add, n32_sub, n32_dec, n32_mul, n32_div, n32_irm, n32_lit, n32_oN, n32_ix, n32_m1, n32_m2, neg_le0, neg_lt0, neg_lt1, neg_le1, n32_min, n32_max, if_true, if_false, Nat.one_ne_zero, true_or, or_true, false_or, or_false, ltt_s, s.mod, z, sI_eq, sI_ne, sI_J, sI_R, sI_kO, sI_rK, sI_len, sJ_eq, sJ_ne, sJ_I, sJ_kO, sJ_rK, sJ_len, Nat.not_lt_zero, show ¬ (1 = 0) by decide, show ¬ (1 = 2) by decide, show ¬ (1 = 4) by decide]
  rw [jn_s]
  by_cases q : sg t E p 49
  · have bq := (sg49.mp q).2
    rw [if_pos q] at di
    rw [if_pos q, di]
    simp -implicitDefEqProofs (disch := omega) only [gP_p, gP_t, bnd_s, bnd2_s, ltt_s, jn_s, n32_nat, n32_le, n32_lt, n32_eq, n32_add, n32_sub, n32_dec, n32_mul, n32_div, n32_irm, n32_lit, n32_oN, n32_ix, n32_m1, n32_m2, neg_le0, neg_lt0, neg_lt1, neg_le1, n32_min, n32_max, if_true, if_false, Nat.one_ne_zero, gd_some, true_or, or_true, false_or, or_false, s.mod, sI_eq, sI_ne, sI_J, sI_R, sI_kO, sI_rK, sI_len, sJ_eq, sJ_ne, sJ_I, sJ_kO, sJ_rK, sJ_len, Nat.not_lt_zero]
  · rw [if_neg q] at di
    rw [if_neg q, di]
    simp -implicitDefEqProofs (disch := omega) only [gP_p, gP_t, bnd_s, bnd2_s, ltt_s, jn_s, n32_nat, n32_le, n32_lt, n32_eq, n32_add, n32_sub, n32_dec, n32_mul, n32_div, n32_irm, n32_lit, n32_oN, n32_ix, n32_m1, n32_m2, neg_le0, neg_lt0, neg_lt1, neg_le1, n32_min, n32_max, if_true, if_false, Nat.one_ne_zero, gd_some, true_or, or_true, false_or, or_false, s.mod, sI_eq, sI_ne, sI_J, sI_R, sI_kO, sI_rK, sI_len, sJ_eq, sJ_ne, sJ_I, sJ_kO, sJ_rK, sJ_len, lt0]
theorem rtB_4 {N i k d : Nat} {b c : Bool} {h : HP} {Q : Int32 × HP → Prop} (s : SH b c h) (hi : i < 60) (hd : d < 10) (hk : k = 5 ∨ k = 6) (z : h.2.1 204 i = n32 k) (K : gd (bnd2 (f_X10_takesOf N (setI h 205 i (n32 d)) 188 (SB + 10)) (fun v h' => rtC N 188 (n32 i) 206 v h')) Q) : gd (rtB N 188 (n32 i) 205 (n32 d) h) Q := by
  unfold rtB
  rcases hk with rfl | rfl
  · simp -implicitDefEqProofs (disch := omega) only [gP_p, gP_t, bnd_s, bnd2_s, n32_nat, n32_le, n32_lt, n32_eq, n32_add, n32_sub, n32_dec, n32_mul, n32_div, n32_irm, n32_lit, n32_oN, n32_ix, n32_m1, n32_m2, neg_le0, neg_lt0, neg_lt1, neg_le1, n32_min, n32_max, if_true, if_false, Nat.one_ne_zero, true_or, or_true, false_or, or_false, ltt_s, s.mod, z, sI_eq, sI_ne, sI_J, sI_R, sI_kO, sI_rK, sI_len, sJ_eq, sJ_ne, sJ_I, sJ_kO, sJ_rK, sJ_len, Nat.not_lt_zero, show ¬ (5 = 0) by decide, show ¬ (5 = 2) by decide, show ¬ (5 = 4) by decide, show ¬ (5 = 1) by decide]
    exact K
  · simp -implicitDefEqProofs (disch := omega) only [gP_p, gP_t, bnd_s, bnd2_s, n32_nat, n32_le, n32_lt, n32_eq, n32_add, n32_sub, n32_dec, n32_mul, n32_div, n32_irm, n32_lit, n32_oN, n32_ix, n32_m1, n32_m2, neg_le0, neg_lt0, neg_lt1, neg_le1, n32_min, n32_max, if_true, if_false, Nat.one_ne_zero, true_or, or_true, false_or, or_false, ltt_s, s.mod, z, sI_eq, sI_ne, sI_J, sI_R, sI_kO, sI_rK, sI_len, sJ_eq, sJ_ne, sJ_I, sJ_kO, sJ_rK, sJ_len, Nat.not_lt_zero, show ¬ (6 = 0) by decide, show ¬ (6 = 2) by decide, show ¬ (6 = 4) by decide, show ¬ (6 = 1) by decide]
    exact K
theorem rtC_m {N i : Nat} {b c : Bool} {h : HP} (s : SH b c h) (hi : i < 60) : rtC N 188 (n32 i) 206 (-n32 1) h = some (n32 0, setI (setI h 206 i (-n32 1)) 207 i (-n32 1)) := by
  have lt0 : -n32 1 < n32 0 := by decide
  have le0 : ¬ n32 0 ≤ -n32 1 := by decide
  unfold rtC
  simp -implicitDefEqProofs (disch := omega) only [gP_p, gP_t, bnd_s, bnd2_s, n32_nat, n32_le, n32_lt, n32_eq, n32_add, n32_sub, n32_dec, n32_mul, n32_div, n32_irm, n32_lit, n32_oN, n32_ix, n32_m1, n32_m2, neg_le0, neg_lt0, neg_lt1, neg_le1, n32_min, n32_max, if_true, if_false, Nat.one_ne_zero, true_or, or_true, false_or, or_false, ltt_s, s.mod, sI_eq, sI_ne, sI_J, sI_R, sI_kO, sI_rK, sI_len, sJ_eq, sJ_ne, sJ_I, sJ_kO, sJ_rK, sJ_len, le0]
  simp -implicitDefEqProofs (disch := omega) only [gP_p, gP_t, bnd_s, bnd2_s, ltt_s, jn_s, n32_nat, n32_le, n32_lt, n32_eq, n32_add, n32_sub, n32_dec, n32_mul, n32_div, n32_irm, n32_lit, n32_oN, n32_ix, n32_m1, n32_m2, neg_le0, neg_lt0, neg_lt1, neg_le1, n32_min, n32_max, if_true, if_false, Nat.one_ne_zero, gd_some, true_or, or_true, false_or, or_false, s.mod, sI_eq, sI_ne, sI_J, sI_R, sI_kO, sI_rK, sI_len, sJ_eq, sJ_ne, sJ_I, sJ_kO, sJ_rK, sJ_len, lt0]
theorem rtC_y {t : Nat → Nat} {N i e E p : Nat} {b c : Bool} {h : HP} (s : SH b c h) (r : RM h t E p) (hE : E ≤ 80) (hp : p ≤ E) (tb : ∀ i, i < E → t i < 256) (hi : i < 60) (he : e ≤ 1) : rtC N 188 (n32 i) 206 (n32 e) h = if sg t E p 49 then some (n32 1, setI (setI (setI h 206 i (n32 e)) 188 13 (n32 (p + 1))) 207 i (n32 (t p - 48))) else some (n32 0, setI (setI h 206 i (n32 e)) 207 i (-n32 1)) := by
  have f1 : fr [33] h (setI h 206 i (n32 e)) := (fr.rf _ _).sI rfl
  have s1 := s.fr f1
  have r1 : RM (setI h 206 i (n32 e)) t E p := r.ne (by omega) (by omega) (by omega)
  have di := dgi_m s1 r1 hE hp tb
  have lt0 : -n32 1 < n32 0 := by decide
  unfold rtC
  simp -implicitDefEqProofs (disch := omega) only [gP_p, gP_t, bnd_s, bnd2_s, n32_nat, n32_le, n32_lt, n32_eq, n32_add, n32_sub, n32_dec, n32_mul, n32_div, n32_irm, n32_lit, n32_oN, n32_ix, n32_m1, n32_m2, neg_le0, neg_lt0, neg_lt1, neg_le1, n32_min, n32_max, if_true, if_false, Nat.one_ne_zero, true_or, or_true, false_or, or_false, ltt_s, s.mod, sI_eq, sI_ne, sI_J, sI_R, sI_kO, sI_rK, sI_len, sJ_eq, sJ_ne, sJ_I, sJ_kO, sJ_rK, sJ_len, Nat.zero_le]
  by_cases q : sg t E p 49
  · have bq := (sg49.mp q).2
    rw [if_pos q] at di
    rw [if_pos q, di]
    simp -implicitDefEqProofs (disch := omega) only [gP_p, gP_t, bnd_s, bnd2_s, ltt_s, jn_s, n32_nat, n32_le, n32_lt, n32_eq, n32_add, n32_sub, n32_dec, n32_mul, n32_div, n32_irm, n32_lit, n32_oN, n32_ix, n32_m1, n32_m2, neg_le0, neg_lt0, neg_lt1, neg_le1, n32_min, n32_max, if_true, if_false, Nat.one_ne_zero, gd_some, true_or, or_true, false_or, or_false, s.mod, sI_eq, sI_ne, sI_J, sI_R, sI_kO, sI_rK, sI_len, sJ_eq, sJ_ne, sJ_I, sJ_kO, sJ_rK, sJ_len, Nat.not_lt_zero]
  · rw [if_neg q] at di
    rw [if_neg q, di]
    simp -implicitDefEqProofs (disch := omega) only [gP_p, gP_t, bnd_s, bnd2_s, ltt_s, jn_s, n32_nat, n32_le, n32_lt, n32_eq, n32_add, n32_sub, n32_dec, n32_mul, n32_div, n32_irm, n32_lit, n32_oN, n32_ix, n32_m1, n32_m2, neg_le0, neg_lt0, neg_lt1, neg_le1, n32_min, n32_max, if_true, if_false, Nat.one_ne_zero, gd_some, true_or, or_true, false_or, or_false, s.mod, sI_eq, sI_ne, sI_J, sI_R, sI_kO, sI_rK, sI_len, sJ_eq, sJ_ne, sJ_I, sJ_kO, sJ_rK, sJ_len, lt0]
theorem kd_all : (List.range 256).all (fun v => Nat.ble 7 (kd v) || sgB ((shp (kd v)).getD 0 0) v) = true := by decide +kernel
theorem kd_sg {v : Nat} (hv : v < 256) (hk : kd v < 7) : sgB ((shp (kd v)).getD 0 0) v = true := by
  have h1 := List.all_eq_true.mp kd_all v (List.mem_range.mpr hv)
  rw [Bool.or_eq_true, Nat.ble_eq] at h1
  exact h1.resolve_left (by omega)
theorem gs_2 {t : Nat → Nat} {E k p : Nat} (hk : k = 0 ∨ k = 2 ∨ k = 4) (h0 : sg t E (p + 0) ((shp k).getD 0 0)) : gs t E k p = if sg t E (p + 1) 48 then 2 else 1 := by
  rcases hk with rfl | rfl | rfl
  · exact if_pos h0
  · exact if_pos h0
  · exact if_pos h0
theorem gs_3 {t : Nat → Nat} {E p : Nat} (h0 : sg t E (p + 0) ((shp 3).getD 0 0)) : gs t E 3 p = 1 := if_pos h0
theorem gs_1 {t : Nat → Nat} {E p : Nat} (h0 : sg t E (p + 0) ((shp 1).getD 0 0)) : gs t E 1 p = if sg t E (p + 1) 48 then (if sg t E (p + 2) 49 then 3 else 2) else 1 := if_pos h0
theorem gs_4 {t : Nat → Nat} {E k p : Nat} (hk : k = 5 ∨ k = 6) (h0 : sg t E (p + 0) ((shp k).getD 0 0)) : gs t E k p = if sg t E (p + 1) 48 then (if sg t E (p + 2) 107 then (if sg t E (p + 3) 49 then 4 else 3) else 2) else 1 := by
  rcases hk with rfl | rfl
  · exact if_pos h0
  · exact if_pos h0
def YC (t : Nat → Nat) (h : HP) (j : Nat) : Prop := h.2.1 204 j = n32 (ka t j) ∧ (ka t j ≠ 3 → h.2.1 205 j = n32 (t (AP t j + 1) - 48)) ∧ (ka t j = 1 → h.2.1 206 j = n32 (t (AP t j + 2) - 48)) ∧ (5 ≤ ka t j → h.2.1 206 j = n32 (if t (AP t j + 2) = 111 then 0 else 1) ∧ h.2.1 207 j = n32 (t (AP t j + 3) - 48))
def YV (t : Nat → Nat) (h : HP) (i : Nat) : Prop := h.2.1 188 33 = n32 i ∧ ∀ j, j < i → YC t h j
theorem YC.oY {t : Nat → Nat} {i j : Nat} {h h' : HP} (y : YC t h j) (o : oY i h h') (hj : j < i) : YC t h' j := by
  obtain ⟨y1, y2, y3, y4⟩ := y
  refine ⟨(o 204 j hj (by omega) (by omega)).trans y1, fun z => (o 205 j hj (by omega) (by omega)).trans (y2 z), fun z => (o 206 j hj (by omega) (by omega)).trans (y3 z), fun z => ⟨(o 206 j hj (by omega) (by omega)).trans (y4 z).1, (o 207 j hj (by omega) (by omega)).trans (y4 z).2⟩⟩
theorem YV.s {t : Nat → Nat} {i : Nat} {h h' : HP} (y : YV t h i) (o : oY i h h') (z : h'.2.1 188 33 = n32 (i + 1)) (n : YC t h' i) : YV t h' (i + 1) := ⟨z, fun j hj => by
  by_cases e : j = i
  · rw [e]; exact n
  · exact (y.2 j (by omega)).oY o (by omega)⟩
theorem ract {t : Nat → Nat} {N E i : Nat} {b c : Bool} {h : HP} (hN : 10 < N) (hE : E ≤ 80) (tb : ∀ i, i < E → t i < 256) (hi : i < 60) (hp : AP t i < E) (s : SH b c h) (r : RM h t E (AP t i)) (y : YV t h i) : gd (f_X10_readsAct N h 188) (fun q => fr [40, 33] h q.2 ∧ (ka t i < 7 ∧ gs t E (ka t i) (AP t i) = al (ka t i) → q.1 = n32 1 ∧ RM q.2 t E (AP t (i + 1)) ∧ YV t q.2 (i + 1)) ∧ (¬ (ka t i < 7 ∧ gs t E (ka t i) (AP t i) = al (ka t i)) → q.1 = n32 0 ∧ RM q.2 t E (AP t i + gs t E (ka t i) (AP t i)))) := by
  have z := y.1
  have k8 : ka t i < 8 := kd_lt
  have e7 : kdL.length = 7 := rfl
  have ek : fi kdL (t (AP t i)) = ka t i := rfl
  rw [rt_e]
  simp -implicitDefEqProofs (disch := omega) only [gP_p, gP_t, bnd_s, bnd2_s, n32_nat, n32_le, n32_lt, n32_eq, n32_add, n32_sub, n32_dec, n32_mul, n32_div, n32_irm, n32_lit, n32_oN, n32_ix, n32_m1, n32_m2, neg_le0, neg_lt0, neg_lt1, neg_le1, n32_min, n32_max, if_true, if_false, Nat.one_ne_zero, true_or, or_true, false_or, or_false, ltt_s, s.mod, z, gd_bnd2]
  refine gd_mono (tko_m (N := N) hN str_kd s r hE (by omega) tb) ?_
  rintro ⟨w, h1⟩ ⟨w1, w2⟩
  by_cases k7 : ka t i < 7
  · obtain ⟨v1, v2⟩ := w1 hp (by rw [ek, e7]; exact k7)
    have v1' : w = n32 (ka t i) := v1
    have v2' : h1 = setI h 188 13 (n32 (AP t i + 1)) := v2
    have f1 : fr [40, 33] h h1 := by rw [v2']; exact (fr.rf _ _).sI rfl
    have s1 := s.fr f1
    have r1 : RM h1 t E (AP t i + 1) := by rw [v2']; exact r.pos
    have z1 : h1.2.1 188 33 = n32 i := by rw [v2', sI_ne (by omega)]; exact z
    have o1 : oY i h h1 := by rw [v2']; exact (oY.rf _ _).sI (by omega)
    subst v1'
    clear v1 v2 v2' w1 w2
    have h0 : sg t E (AP t i + 0) ((shp (ka t i)).getD 0 0) := ⟨hp, kd_sg (tb _ hp) k7⟩
    have h0' := h0
    show gd (rtA N 188 (n32 i) 204 (n32 (ka t i)) h1) _
    by_cases k3 : ka t i = 3
    · rw [k3] at h0
      have g := gs_3 h0
      have ea : al 3 = 1 := rfl
      have en : AP t (i + 1) = AP t i + 1 := by rw [AP_s, k3]; rfl
      rw [k3]
      refine gd_mono (rtA_3 s1 r1 z1 hi) ?_
      rintro ⟨u, h2⟩ ⟨u1, u2, u3, u4, u5, u6⟩
      have u4' : h2.2.1 204 i = n32 3 := u4
      refine ⟨f1.tr u6, fun _ => ⟨u1, by rw [en]; exact u2, y.s (o1.tr u5) u3 ⟨by rw [k3]; exact u4', fun z => absurd k3 z, fun z => by omega, fun z => by omega⟩⟩, fun z => absurd ⟨by omega, by rw [g, ea]⟩ z⟩
    · refine rtA_n s1 z1 hi k7 k3 ?_
      have f2 : fr [40, 33] h1 (setI (setI h1 204 i (n32 (ka t i))) 188 33 (n32 (i + 1))) := ((fr.rf _ _).sI rfl).sI rfl
      have s2 := s1.fr f2
      have r2 : RM (setI (setI h1 204 i (n32 (ka t i))) 188 33 (n32 (i + 1))) t E (AP t i + 1) := (r1.ne (by omega) (by omega) (by omega)).ne (by omega) (by omega) (by omega)
      have nb := nbr_m (N := N) hN hE (m := 1) (by omega) (by omega) tb (show AP t i + 1 ≤ E by omega) s2 r2
      rw [gd_bnd2]
      refine gd_mono nb ?_
      rintro ⟨w, h3⟩ ⟨a1, a2, a3, a4⟩
      have a3' : ∀ a j, ¬ (a = 188 ∧ j = 13) → h3.2.1 a j = (setI (setI h1 204 i (n32 (ka t i))) 188 33 (n32 (i + 1))).2.1 a j := a3
      have a4' : fr [40] (setI (setI h1 204 i (n32 (ka t i))) 188 33 (n32 (i + 1))) h3 := a4
      have s3 := s2.fr a4'
      have f3 : fr [40, 33] h h3 := (f1.tr f2).tr (a4'.mono (by decide))
      have o3 : oY i h h3 := o1.tr (fun x j b1 b2 b3 => by rw [a3' x j (by omega), sI_ne (by omega), sI_ne (by omega)])
      have z3 : h3.2.1 188 33 = n32 (i + 1) := by rw [a3' _ _ (by omega), sI_eq]
      have c3 : h3.2.1 204 i = n32 (ka t i) := by rw [a3' _ _ (by omega), sI_ne (by omega), sI_eq]
      have ed : dgN t E 1 (AP t i + 1) = if dgt t E (AP t i + 1) then 1 else 0 := rfl
      have a1' : w = nbV t (dgN t E 1 (AP t i + 1)) (AP t i + 1) := a1
      have a2' : RM h3 t E (AP t i + 1 + dgN t E 1 (AP t i + 1)) := a2
      clear a1 a2 a3 a3' a4 a4' nb
      by_cases q : dgt t E (AP t i + 1)
      · have q48 : sg t E (AP t i + 1) 48 := sg48.mpr q
        rw [if_pos q] at ed
        rw [ed] at a1' a2'
        have ev : nbV t 1 (AP t i + 1) = n32 (t (AP t i + 1) - 48) := by
          unfold nbV
          rw [if_neg (by omega)]
          show n32 (10 * 0 + t (AP t i + 1) - 48) = _
          rw [Nat.mul_zero, Nat.zero_add]
        rw [ev] at a1'
        subst a1'
        have d10 : t (AP t i + 1) - 48 < 10 := by have := q.2; omega
        have f4 : fr [40, 33] h3 (setI h3 205 i (n32 (t (AP t i + 1) - 48))) := (fr.rf _ _).sI rfl
        have s4 := s3.fr f4
        have r4 : RM (setI h3 205 i (n32 (t (AP t i + 1) - 48))) t E (AP t i + 1 + 1) := a2'.ne (by omega) (by omega) (by omega)
        have o4 : oY i h (setI h3 205 i (n32 (t (AP t i + 1) - 48))) := o3.sI (by omega)
        by_cases kk : ka t i = 0 ∨ ka t i = 2 ∨ ka t i = 4
        · have g := gs_2 kk h0
          rw [if_pos q48] at g
          have ea : al (ka t i) = 2 := by rcases kk with e | e | e <;> rw [e] <;> rfl
          have en : AP t (i + 1) = AP t i + 1 + 1 := by rw [AP_s, ea]
          have br := rtB_2 (N := N) s3 hi d10 kk c3
          show gd (rtB N 188 (n32 i) 205 (n32 (t (AP t i + 1) - 48)) h3) _
          rw [br]
          refine gd_some.mpr ⟨f3.tr f4, fun _ => ⟨rfl, by rw [en]; exact r4, y.s o4 (by rw [sI_ne (by omega)]; exact z3) ⟨by rw [sI_ne (by omega)]; exact c3, fun _ => sI_eq, fun z => by omega, fun z => by omega⟩⟩, fun z => absurd ⟨k7, by rw [g, ea]⟩ z⟩
        · by_cases k1 : ka t i = 1
          · rw [k1] at h0
            have g := gs_1 h0
            rw [if_pos q48] at g
            have ea : al 1 = 3 := rfl
            rw [k1] at c3
            have br := rtB_1 (N := N) (d := t (AP t i + 1) - 48) s3 a2' hE (by have := q.1; omega) tb hi d10 c3
            show gd (rtB N 188 (n32 i) 205 (n32 (t (AP t i + 1) - 48)) h3) _
            rw [br]
            by_cases q2 : sg t E (AP t i + 1 + 1) 49
            · rw [if_pos q2] at g
              rw [if_pos q2]
              have en : AP t (i + 1) = AP t i + 1 + 1 + 1 := by rw [AP_s, k1]; rfl
              refine gd_some.mpr ⟨((f3.tr f4).sI rfl).sI rfl, fun _ => ⟨rfl, by rw [en]; exact r4.pos.ne (by omega) (by omega) (by omega), y.s ((o4.sI (by omega)).sI (by omega)) (by rw [sI_ne (by omega), sI_ne (by omega), sI_ne (by omega)]; exact z3) ⟨by rw [k1, sI_ne (by omega), sI_ne (by omega), sI_ne (by omega)]; exact c3, fun _ => by rw [sI_ne (by omega), sI_ne (by omega), sI_eq], fun _ => sI_eq, fun z => by omega⟩⟩, fun z => absurd ⟨k7, by rw [k1, g, ea]⟩ z⟩
            · rw [if_neg q2] at g
              rw [if_neg q2]
              refine gd_some.mpr ⟨(f3.tr f4).sI rfl, fun z => absurd z.2 (by rw [k1, g, ea]; omega), fun _ => ⟨rfl, by rw [k1, g]; exact r4.ne (by omega) (by omega) (by omega)⟩⟩
          · have k56 : ka t i = 5 ∨ ka t i = 6 := by omega
            have g := gs_4 k56 h0
            rw [if_pos q48] at g
            have ea : al (ka t i) = 4 := by rcases k56 with e | e <;> rw [e] <;> rfl
            show gd (rtB N 188 (n32 i) 205 (n32 (t (AP t i + 1) - 48)) h3) _
            refine rtB_4 s3 hi d10 k56 c3 ?_
            rw [gd_bnd2]
            refine gd_mono (tko_m (N := N) hN str_on s4 r4 hE (by have := q.1; omega) tb) ?_
            rintro ⟨w, h5⟩ ⟨w1, w2⟩
            have fo := fi_on (t (AP t i + 1 + 1))
            have e2 : [111, 110].length = 2 := rfl
            by_cases q2 : sg t E (AP t i + 2) 107
            · have q2' : sg t E (AP t i + 1 + 1) 107 := q2
              obtain ⟨q3, q4⟩ := sg107.mp q2'
              rw [if_pos q2] at g
              have ef : fi [111, 110] (t (AP t i + 1 + 1)) = if t (AP t i + 1 + 1) = 111 then 0 else 1 := by
                rw [fo]
                rcases q4 with q4 | q4
                · rw [if_pos q4, if_pos q4]
                · have q5 : ¬ t (AP t i + 1 + 1) = 111 := by omega
                  rw [if_neg q5, if_pos q4, if_neg q5]
              have ef2 : fi [111, 110] (t (AP t i + 1 + 1)) ≤ 1 := by rw [ef]; split <;> omega
              obtain ⟨v1, v2⟩ := w1 q3 (by rw [e2]; omega)
              have v1' : w = n32 (fi [111, 110] (t (AP t i + 1 + 1))) := v1
              have v2' : h5 = setI (setI h3 205 i (n32 (t (AP t i + 1) - 48))) 188 13 (n32 (AP t i + 1 + 1 + 1)) := v2
              rw [ef] at v1' ef2
              have f5 : fr [40, 33] h h5 := by rw [v2']; exact (f3.tr f4).sI rfl
              have s5 : SH b c h5 := s.fr f5
              have r5 : RM h5 t E (AP t i + 1 + 1 + 1) := by rw [v2']; exact r4.pos
              have o5 : oY i h h5 := by rw [v2']; exact o4.sI (by omega)
              have z5 : h5.2.1 188 33 = n32 (i + 1) := by rw [v2', sI_ne (by omega), sI_ne (by omega)]; exact z3
              have c5 : h5.2.1 204 i = n32 (ka t i) := by rw [v2', sI_ne (by omega), sI_ne (by omega)]; exact c3
              have x5 : h5.2.1 205 i = n32 (t (AP t i + 1) - 48) := by rw [v2', sI_ne (by omega), sI_eq]
              subst v1'
              clear v1 v2 v2' w1 w2
              have br := rtC_y (N := N) s5 r5 hE (by omega) tb hi ef2
              show gd (rtC N 188 (n32 i) 206 (n32 (if t (AP t i + 1 + 1) = 111 then 0 else 1)) h5) _
              rw [br]
              by_cases q6 : sg t E (AP t i + 1 + 1 + 1) 49
              · have q6' : sg t E (AP t i + 3) 49 := q6
                rw [if_pos q6'] at g
                rw [if_pos q6]
                have en : AP t (i + 1) = AP t i + 1 + 1 + 1 + 1 := by rw [AP_s, ea]
                refine gd_some.mpr ⟨((f5.sI rfl).sI rfl).sI rfl, fun _ => ⟨rfl, by rw [en]; exact ((r5.ne (by omega) (by omega) (by omega)).pos).ne (by omega) (by omega) (by omega), y.s (((o5.sI (by omega)).sI (by omega)).sI (by omega)) (by rw [sI_ne (by omega), sI_ne (by omega), sI_ne (by omega)]; exact z5) ⟨by rw [sI_ne (by omega), sI_ne (by omega), sI_ne (by omega)]; exact c5, fun _ => by rw [sI_ne (by omega), sI_ne (by omega), sI_ne (by omega)]; exact x5, fun z => by omega, fun _ => ⟨by rw [sI_ne (by omega), sI_ne (by omega), sI_eq], sI_eq⟩⟩⟩, fun z => absurd ⟨k7, by rw [g, ea]⟩ z⟩
              · have q6' : ¬ sg t E (AP t i + 3) 49 := q6
                rw [if_neg q6'] at g
                rw [if_neg q6]
                refine gd_some.mpr ⟨(f5.sI rfl).sI rfl, fun z => absurd z.2 (by rw [g, ea]; omega), fun _ => ⟨rfl, by rw [g]; exact (r5.ne (by omega) (by omega) (by omega)).ne (by omega) (by omega) (by omega)⟩⟩
            · rw [if_neg q2] at g
              have q2' : ¬ sg t E (AP t i + 1 + 1) 107 := q2
              obtain ⟨v1, v2⟩ := w2 (fun z => q2' (sg107.mpr ⟨z.1, by
                have z2 : fi [111, 110] (t (AP t i + 1 + 1)) < 2 := z.2
                rw [fo] at z2
                by_cases a : t (AP t i + 1 + 1) = 111
                · exact Or.inl a
                · by_cases b : t (AP t i + 1 + 1) = 110
                  · exact Or.inr b
                  · rw [if_neg a, if_neg b] at z2; omega⟩))
              have v1' : w = -n32 1 := v1
              have v2' : h5 = setI h3 205 i (n32 (t (AP t i + 1) - 48)) := v2
              subst v1'
              subst v2'
              have br := rtC_m (N := N) s4 hi
              show gd (rtC N 188 (n32 i) 206 (-n32 1) (setI h3 205 i (n32 (t (AP t i + 1) - 48)))) _
              rw [br]
              refine gd_some.mpr ⟨((f3.tr f4).sI rfl).sI rfl, fun z => absurd z.2 (by rw [g, ea]; omega), fun _ => ⟨rfl, by rw [g]; exact (r4.ne (by omega) (by omega) (by omega)).ne (by omega) (by omega) (by omega)⟩⟩
      · have q48 : ¬ sg t E (AP t i + 1) 48 := fun z => q (sg48.mp z)
        rw [if_neg q] at ed
        rw [ed] at a1' a2'
        have ev : nbV t 0 (AP t i + 1) = -n32 1 := if_pos rfl
        rw [ev] at a1'
        subst a1'
        have g1 : gs t E (ka t i) (AP t i) = 1 ∧ 1 < al (ka t i) := by
          rcases (show (ka t i = 0 ∨ ka t i = 2 ∨ ka t i = 4) ∨ ka t i = 1 ∨ (ka t i = 5 ∨ ka t i = 6) by omega) with kk | kk | kk
          · have g := gs_2 kk h0
            rw [if_neg q48] at g
            exact ⟨g, by rcases kk with e | e | e <;> rw [e] <;> decide⟩
          · rw [kk] at h0
            have g := gs_1 h0
            rw [if_neg q48] at g
            rw [kk]
            exact ⟨g, by decide⟩
          · have g := gs_4 kk h0
            rw [if_neg q48] at g
            exact ⟨g, by rcases kk with e | e <;> rw [e] <;> decide⟩
        have br := rtB_m (N := N) s3 hi
        show gd (rtB N 188 (n32 i) 205 (-n32 1) h3) _
        rw [br]
        refine gd_some.mpr ⟨f3.sI rfl, fun z => absurd z.2 (by omega), fun _ => ⟨rfl, by rw [g1.1]; exact a2'.ne (by omega) (by omega) (by omega)⟩⟩
  · have k7' : ka t i = 7 := by omega
    obtain ⟨v1, v2⟩ := w2 (fun z => k7 (by have := z.2; rw [ek, e7] at this; exact this))
    have v1' : w = -n32 1 := v1
    have v2' : h1 = h := v2
    subst v1'
    subst v2'
    have g : gs t E (ka t i) (AP t i) = 0 := by rw [k7']; rfl
    rw [g]
    show gd (rtA N 188 (n32 i) 204 (-n32 1) h1) _
    refine gd_mono (rtA_7 s r z hi) ?_
    rintro ⟨u, h2⟩ ⟨u1, u2, u3⟩
    exact ⟨u3, fun z => absurd z.1 k7, fun _ => ⟨u1, u2⟩⟩
