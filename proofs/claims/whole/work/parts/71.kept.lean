/-! ===== undo, keep, again ===== -/
theorem rp_back {nx u i : Nat} (hn : nx < 15) (hu : u ≤ 15) (hi : i < u) : rp (if nx = 0 then 14 else nx - 1) (u - 1) i = rp nx u i := by
  unfold rp
  split <;> omega
theorem rp_top {nx u : Nat} (hn : nx < 15) (hu : u ≤ 15) (h1 : 1 ≤ u) : rp nx u (u - 1) = (if nx = 0 then 14 else nx - 1) := by
  unfold rp
  split <;> omega
theorem undo_l {N u : Nat} {b c : Bool} {P : Nat → Nat} (hu : u ≤ 15) (h0 : HP) : ∀ (d i fuel : Nat) (h : HP), i + d = 28 → d < fuel → SH b c h → h.2.1 188 25 = n32 u → (∀ j, j < 28 → h.2.1 202 (28 * u + j) = n32 (P j)) → (∀ j, j < i → h.2.1 193 j = n32 (P j)) → fr [30] h0 h →
    gd (lp (fun _ _ => none) (f_X10_undo_B26 N 188) fuel (n32 i) h) (fun p => p.1 = n32 u ∧ MR p.2 193 P ∧ fr [30] h0 p.2) := by
  intro d
  induction d with
  | zero =>
    intro i fuel h hi hf s e o n f
    obtain ⟨k, rfl⟩ : ∃ k, fuel = k + 1 := ⟨fuel - 1, by omega⟩
    simp -implicitDefEqProofs (disch := omega) only [lp_s, f_X10_undo_B26, gP_p, gP_t, bnd_s, bnd2_s, ltt_s, jn_s, n32_nat, n32_le, n32_lt, n32_eq, n32_add, n32_sub, n32_dec, n32_mul, n32_div, n32_irm, n32_lit, n32_oN, n32_ix, n32_m1, n32_m2, neg_le0, neg_lt0, neg_lt1, neg_le1, n32_min, n32_max, if_true, if_false, Nat.one_ne_zero, gd_some, true_or, or_true, false_or, or_false]
    rw [if_pos (by omega), gd_some]
    exact ⟨e, fun j hj => n j (by omega), f⟩
  | succ d ih =>
    intro i fuel h hi hf s e o n f
    obtain ⟨k, rfl⟩ : ∃ k, fuel = k + 1 := ⟨fuel - 1, by omega⟩
    have ni : ¬ 28 ≤ i := by omega
    have v := o i (by omega)
    simp -implicitDefEqProofs (disch := omega) only [lp_s, f_X10_undo_B26, gP_p, gP_t, bnd_s, bnd2_s, ltt_s, jn_s, n32_nat, n32_le, n32_lt, n32_eq, n32_add, n32_sub, n32_dec, n32_mul, n32_div, n32_irm, n32_lit, n32_oN, n32_ix, n32_m1, n32_m2, neg_le0, neg_lt0, neg_lt1, neg_le1, n32_min, n32_max, if_true, if_false, Nat.one_ne_zero, gd_some, true_or, or_true, false_or, or_false, s.mod, v, e, ni]
    refine ih (i + 1) k _ (by omega) (by omega) (s.sm ⟨rfl, rfl⟩) (by rw [sI_ne (by omega)]; exact e) (fun j hj => by rw [sI_ne (by omega)]; exact o j hj) (fun j hj => ?_) (f.sI rfl)
    by_cases q : j = i
    · rw [q, sI_eq]
    · rw [sI_ne (by omega)]
      exact n j (by omega)
theorem op_undo {k : Nat} (hk : k < 512) : ∀ (h : HP), Inv k h → ∃ (v : Int32) (h1 h2 : HP), f_X9_undo 200 h 0 = some (v, h1) ∧ f_X10_undo 200 h1 188 = some (v, h2) ∧ Inv (k + 1) h2 := by
  intro h I
  obtain ⟨b, c, sz, iv⟩ := I
  obtain ⟨a0, a1', a2, a3, a4, a5, a6, a7, a8, a9, a10⟩ := id iv
  obtain ⟨z1, z2, z3⟩ := a1'
  obtain ⟨r, r1, r2, r3, r4⟩ := a4
  obtain ⟨nx, u, pn, pe⟩ := a8
  obtain ⟨p1, p2, p3, p4, p5⟩ := id pn
  have hB : 300 * k ≤ 300 * (k + 1) := by omega
  by_cases qu : u = 0
  · have th : fr [50] h (setI h 188 0 (n32 0)) := (fr.rf _ _).sI rfl
    refine ⟨-n32 1, h, setI h 188 0 (n32 0), ?_, ?_, ?_⟩
    · unfold f_X9_undo f_X5_giveBack
      simp -implicitDefEqProofs (disch := omega) only [a0.root, gP_p, gP_t, bnd_s, bnd2_s, ltt_s, jn_s, n32_nat, n32_le, n32_lt, n32_eq, n32_add, n32_sub, n32_dec, n32_mul, n32_div, n32_irm, n32_lit, n32_oN, n32_ix, n32_m1, n32_m2, neg_le0, neg_lt0, neg_lt1, neg_le1, n32_min, n32_max, if_true, if_false, Nat.one_ne_zero, gd_some, true_or, or_true, false_or, or_false, p4, qu]
    · unfold f_X10_undo
      simp -implicitDefEqProofs (disch := omega) only [a0.mod, gP_p, gP_t, bnd_s, bnd2_s, ltt_s, jn_s, n32_nat, n32_le, n32_lt, n32_eq, n32_add, n32_sub, n32_dec, n32_mul, n32_div, n32_irm, n32_lit, n32_oN, n32_ix, n32_m1, n32_m2, neg_le0, neg_lt0, neg_lt1, neg_le1, n32_min, n32_max, if_true, if_false, Nat.one_ne_zero, gd_some, true_or, or_true, false_or, or_false, sI_eq, sI_ne, sI_J, sI_R, sI_kO, sI_rK, sI_len, sJ_eq, sJ_ne, sJ_I, sJ_kO, sJ_rK, sJ_len, p5, qu]
    · exact Iv.up (iv.q0 (th.mono (by decide)))
  · obtain ⟨P, e1, e2, e3, e4, e5⟩ := pe (u - 1) (by omega)
    rw [rp_top p2 p1 (by omega)] at e1 e2
    have hp : (if nx = 0 then 14 else nx - 1) < 15 := by split <;> omega
    have XX : gd (f_X9_undo 200 h 0) (fun p => p.1 = n32 (u - 1) ∧ CR p.2 5 P ∧ p.2.2.1 5 2 = n32 sz ∧ p.2.2.1 26 1 = n32 (if nx = 0 then 14 else nx - 1) ∧ p.2.2.1 26 2 = n32 (u - 1) ∧ (∀ q, q < 15 → ∀ i j, i < 7 → p.2.2.1 (28 + 7 * q + i) j = h.2.1 (28 + 7 * q + i) j) ∧ fr [3, 6] h p.2) := by
      obtain ⟨k1, k2⟩ := a0.past hp
      have step : ∀ y, y = (if nx = 0 then 14 else nx - 1) → gd (f_X0_become 200 (setI (setI h 26 1 (n32 y)) 26 2 (n32 (u - 1))) 5 (28 + 7 * y)) (fun h' => CR h' 5 P ∧ h'.2.1 5 2 = n32 sz ∧ h'.2.1 26 1 = n32 y ∧ h'.2.1 26 2 = n32 (u - 1) ∧ (∀ q, q < 15 → ∀ i j, i < 7 → h'.2.1 (28 + 7 * q + i) j = h.2.1 (28 + 7 * q + i) j) ∧ fr [3, 6] h h') := fun y hy => by
        subst hy
        have f1 : fr [6] h (setI (setI h 26 1 (n32 (if nx = 0 then 14 else nx - 1))) 26 2 (n32 (u - 1))) := ((fr.rf _ _).sI rfl).sI rfl
        have s1 := a0.fr f1
        have cc : CR (setI (setI h 26 1 (n32 (if nx = 0 then 14 else nx - 1))) 26 2 (n32 (u - 1))) (28 + 7 * (if nx = 0 then 14 else nx - 1)) P := e1.same fun i hi => funext fun j => by rw [sI_ne (by omega), sI_ne (by omega)]
        refine gd_mono (become_y (N := 197) (s1.co CL5) (s1.co k2) (by omega) cc e4.2.2.2.1) ?_
        rintro h' ⟨c1, c2, c3, c4⟩
        have c3' : fr [3] _ h' := c3
        refine ⟨c1, by rw [c2, sI_ne (by omega), sI_ne (by omega)]; exact e2, by rw [c4 26 1 (by omega), sI_ne (by omega), sI_eq], by rw [c4 26 2 (by omega), sI_eq], fun q hq i j hi => by rw [c4 _ j (by omega), sI_ne (by omega), sI_ne (by omega)], (f1.mono (by decide)).tr (c3'.mono (by decide))⟩
      have nz : ¬ n32 u = n32 0 := by rw [n32_eq (by omega) (by omega)]; exact qu
      unfold f_X9_undo f_X5_giveBack
      by_cases qn : nx = 0
      · rw [if_pos qn] at step hp k1 k2 ⊢
        have step' := step 14 rfl
        simp -implicitDefEqProofs (disch := omega) only [a0.root, gP_p, gP_t, bnd_s, bnd2_s, ltt_s, jn_s, n32_nat, n32_le, n32_lt, n32_eq, n32_add, n32_sub, n32_dec, n32_mul, n32_div, n32_irm, n32_lit, n32_oN, n32_ix, n32_m1, n32_m2, neg_le0, neg_lt0, neg_lt1, neg_le1, n32_min, n32_max, if_true, if_false, Nat.one_ne_zero, gd_some, true_or, or_true, false_or, or_false, p3, p4, qu, qn, sI_eq, sI_ne, sI_J, sI_R, sI_kO, sI_rK, sI_len, sJ_eq, sJ_ne, sJ_I, sJ_kO, sJ_rK, sJ_len, k1, gd_bnd, gd_bnd2]
        refine gd_mono step' ?_
        rintro h' ⟨c1, c2, c3, c4, c5, c6⟩
        simp -implicitDefEqProofs (disch := omega) only [(a0.fr c6).root, gP_p, gP_t, bnd_s, bnd2_s, ltt_s, jn_s, n32_nat, n32_le, n32_lt, n32_eq, n32_add, n32_sub, n32_dec, n32_mul, n32_div, n32_irm, n32_lit, n32_oN, n32_ix, n32_m1, n32_m2, neg_le0, neg_lt0, neg_lt1, neg_le1, n32_min, n32_max, if_true, if_false, Nat.one_ne_zero, gd_some, true_or, or_true, false_or, or_false, c4, Nat.one_ne_zero]
        exact ⟨trivial, c1, c2, c3, trivial, c5, c6⟩
      · rw [if_neg qn] at step hp k1 k2 ⊢
        have step' := step (nx - 1) rfl
        simp -implicitDefEqProofs (disch := omega) only [a0.root, gP_p, gP_t, bnd_s, bnd2_s, ltt_s, jn_s, n32_nat, n32_le, n32_lt, n32_eq, n32_add, n32_sub, n32_dec, n32_mul, n32_div, n32_irm, n32_lit, n32_oN, n32_ix, n32_m1, n32_m2, neg_le0, neg_lt0, neg_lt1, neg_le1, n32_min, n32_max, if_true, if_false, Nat.one_ne_zero, gd_some, true_or, or_true, false_or, or_false, p3, p4, qu, qn, sI_eq, sI_ne, sI_J, sI_R, sI_kO, sI_rK, sI_len, sJ_eq, sJ_ne, sJ_I, sJ_kO, sJ_rK, sJ_len, k1, gd_bnd, gd_bnd2]
        refine gd_mono step' ?_
        rintro h' ⟨c1, c2, c3, c4, c5, c6⟩
        simp -implicitDefEqProofs (disch := omega) only [(a0.fr c6).root, gP_p, gP_t, bnd_s, bnd2_s, ltt_s, jn_s, n32_nat, n32_le, n32_lt, n32_eq, n32_add, n32_sub, n32_dec, n32_mul, n32_div, n32_irm, n32_lit, n32_oN, n32_ix, n32_m1, n32_m2, neg_le0, neg_lt0, neg_lt1, neg_le1, n32_min, n32_max, if_true, if_false, Nat.one_ne_zero, gd_some, true_or, or_true, false_or, or_false, c4, Nat.one_ne_zero]
        exact ⟨trivial, c1, c2, c3, trivial, c5, c6⟩
    obtain ⟨⟨v, h1⟩, q1, q2, q3, q4, q5, q6, q7, q8⟩ := XX
    have m25 : h1.2.1 188 25 = n32 u := by rw [q8.ai [26] (by decide) 188 25 rfl]; exact p5
    have MM : gd (f_X10_undo 200 h1 188) (fun p => p.1 = n32 (u - 1) ∧ MR p.2 193 P ∧ p.2.2.1 188 25 = n32 (u - 1) ∧ (∀ x, p.2.2.1 202 x = h1.2.1 202 x) ∧ fr [26, 30, 50] h1 p.2) := by
      have s1 := a0.fr q8
      have f2 : fr [26, 50] h1 (setI (setI h1 188 0 (n32 0)) 188 25 (n32 (u - 1))) := ((fr.rf _ _).sI rfl).sI rfl
      unfold f_X10_undo
      simp -implicitDefEqProofs (disch := omega) only [s1.mod, gP_p, gP_t, bnd_s, bnd2_s, ltt_s, jn_s, n32_nat, n32_le, n32_lt, n32_eq, n32_add, n32_sub, n32_dec, n32_mul, n32_div, n32_irm, n32_lit, n32_oN, n32_ix, n32_m1, n32_m2, neg_le0, neg_lt0, neg_lt1, neg_le1, n32_min, n32_max, if_true, if_false, Nat.one_ne_zero, gd_some, true_or, or_true, false_or, or_false, sI_eq, sI_ne, sI_J, sI_R, sI_kO, sI_rK, sI_len, sJ_eq, sJ_ne, sJ_I, sJ_kO, sJ_rK, sJ_len, m25, qu]
      refine gd_mono (undo_l (b := b) (c := c) (u := u - 1) (P := P) (by omega) (setI (setI h1 188 0 (n32 0)) 188 25 (n32 (u - 1))) 28 0 200 _ (by omega) (by omega) (s1.fr f2) (by rw [sI_eq]) (fun j hj => by rw [sI_ne (by omega), sI_ne (by omega), q8.ai [26] (by decide) 202 _ rfl]; exact e3 j hj) (fun j hj => absurd hj (by omega)) (fr.rf _ _)) ?_
      rintro ⟨v2, h2⟩ ⟨t1, t2, t3⟩
      exact ⟨t1, t2, by rw [t3.ai [26] (by decide) 188 25 rfl, sI_eq], fun x => by rw [t3.ai [26] (by decide) 202 x rfl, sI_ne (by omega), sI_ne (by omega)], (f2.mono (by decide)).tr (t3.mono (by decide))⟩
    obtain ⟨⟨v2, h2⟩, t1, t2, t3, t4, t5, t6⟩ := MM
    have ev : v = v2 := q2.trans t2.symm
    subst ev
    refine ⟨_, h1, h2, q1, t1, b, c, sz, iv.st hB ((q8.mono (by decide)).tr (t6.mono (by decide))) (by rw [t6.ai [3] (by decide) 5 2 rfl]; exact q4) ((a3.fr q8 (by decide)).fr t6 (by decide)) ⟨P, cr_frc q3 rfl (by omega) rc5 t6 (by decide), t3, e4.mo hB, e5⟩ ?_⟩
    have ex : ∀ a j, reg a j = 6 → h2.2.1 a j = h1.2.1 a j := fun a j e => t6.ai [6] (by decide) a j (by rw [e]; rfl)
    refine ⟨(if nx = 0 then 14 else nx - 1), u - 1, ⟨by omega, hp, (ex 26 1 rfl).trans q5, (ex 26 2 rfl).trans q6, t4⟩, fun i hi => ?_⟩
    obtain ⟨P', b1, b2, b3, b4, b5⟩ := pe i (by omega)
    refine ⟨P', ?_⟩
    unfold PaE
    rw [rp_back p2 p1 (by omega)]
    have hp' : rp nx u i < 15 := rp_lt
    have e' : ∀ k j, k < 7 → h2.2.1 (28 + 7 * rp nx u i + k) j = h.2.1 (28 + 7 * rp nx u i + k) j := fun k j hk => by
      rw [ex _ _ (by rw [reg_c (by omega), rcp hp' hk])]
      exact q7 _ hp' k j hk
    exact ⟨b1.same fun k hk => funext fun j => e' k j hk, (e' 0 2 (by omega)).trans b2, fun j hj => by rw [t5, q8.ai [26] (by decide) 202 _ rfl]; exact b3 j hj, b4.mo hB, b5⟩
theorem keep_l {N i0 : Nat} {b c : Bool} {r : Nat → Nat} (hi0 : i0 < 3) (h0 : HP) : ∀ (d i fuel : Nat) (h : HP), i + d = 28 → d < fuel → SH b c h → MR h 193 r → (∀ j, j < i → h.2.1 218 (28 * i0 + j) = n32 (r j)) → (∀ x, (x < 28 * i0 ∨ 28 * i0 + 28 ≤ x) → h.2.1 218 x = h0.2.1 218 x) → h.2.1 188 4 = h0.2.1 188 4 → (∀ x, h.2.1 216 x = h0.2.1 216 x ∧ h.2.1 217 x = h0.2.1 217 x) → fr [27] h0 h →
    gd (lp (fun _ _ => none) (f_X10_keep_B38 N 188 (n32 i0)) fuel (n32 i) h) (fun p => p.1 = n32 1 ∧ (∀ j, j < 28 → p.2.2.1 218 (28 * i0 + j) = n32 (r j)) ∧ (∀ x, (x < 28 * i0 ∨ 28 * i0 + 28 ≤ x) → p.2.2.1 218 x = h0.2.1 218 x) ∧ p.2.2.1 188 4 = h0.2.1 188 4 ∧ (∀ x, p.2.2.1 216 x = h0.2.1 216 x ∧ p.2.2.1 217 x = h0.2.1 217 x) ∧ fr [27] h0 p.2) := by
  intro d
  induction d with
  | zero =>
    intro i fuel h hi hf s m n o e g f
    obtain ⟨k, rfl⟩ : ∃ k, fuel = k + 1 := ⟨fuel - 1, by omega⟩
    simp -implicitDefEqProofs (disch := omega) only [lp_s, f_X10_keep_B38, gP_p, gP_t, bnd_s, bnd2_s, ltt_s, jn_s, n32_nat, n32_le, n32_lt, n32_eq, n32_add, n32_sub, n32_dec, n32_mul, n32_div, n32_irm, n32_lit, n32_oN, n32_ix, n32_m1, n32_m2, neg_le0, neg_lt0, neg_lt1, neg_le1, n32_min, n32_max, if_true, if_false, Nat.one_ne_zero, gd_some, true_or, or_true, false_or, or_false]
    rw [if_pos (by omega), gd_some]
    exact ⟨rfl, fun j hj => n j (by omega), o, e, g, f⟩
  | succ d ih =>
    intro i fuel h hi hf s m n o e g f
    obtain ⟨k, rfl⟩ : ∃ k, fuel = k + 1 := ⟨fuel - 1, by omega⟩
    have ni : ¬ 28 ≤ i := by omega
    have v := m i (by omega)
    simp -implicitDefEqProofs (disch := omega) only [lp_s, f_X10_keep_B38, gP_p, gP_t, bnd_s, bnd2_s, ltt_s, jn_s, n32_nat, n32_le, n32_lt, n32_eq, n32_add, n32_sub, n32_dec, n32_mul, n32_div, n32_irm, n32_lit, n32_oN, n32_ix, n32_m1, n32_m2, neg_le0, neg_lt0, neg_lt1, neg_le1, n32_min, n32_max, if_true, if_false, Nat.one_ne_zero, gd_some, true_or, or_true, false_or, or_false, s.mod, v, ni]
    refine ih (i + 1) k _ (by omega) (by omega) (s.sm ⟨rfl, rfl⟩) (mR_ne m (by omega)) (fun j hj => ?_) (fun x hx => by rw [sI_ne (by omega)]; exact o x hx) (by rw [sI_ne (by omega)]; exact e) (fun x => ⟨by rw [sI_ne (by omega)]; exact (g x).1, by rw [sI_ne (by omega)]; exact (g x).2⟩) (f.sI rfl)
    by_cases q : j = i
    · rw [q, sI_eq]
    · rw [sI_ne (by omega)]
      exact n j (by omega)
theorem Iv.kp {B B' : Nat} {b c : Bool} {sz : Nat} {h h' : HP} (s : Iv B b c sz h) (hB : B ≤ B') (f : fr [3, 30, 6, 26, 7, 27, 50] h h') (z : h'.2.1 5 2 = n32 sz) (co : Coa B' sz h') (pa : Pas B' sz h') (ke : Kep B' sz h') : Iv B' b c sz h' := by
  obtain ⟨a0, a1, a2, a3, a4, a5, a6, a7, a8, a9, a10⟩ := s
  obtain ⟨z1, z2, z3⟩ := a1
  exact ⟨a0.fr f, ⟨z1, z, by rw [f.ai [23] (by decide) 188 3 rfl]; exact z3⟩, a2.fr f (by decide), a3.fr f (by decide), co, a5.fr f (by decide), a6.fr f (by cases b <;> decide), a7.fr f (by cases c <;> decide), pa, ke, a10.fr f (by decide)⟩
theorem op_keep {k : Nat} (hk : k < 512) : ∀ (h : HP) (a1 : Int32), Inv k h → ∃ (v : Int32) (h1 h2 : HP), f_X9_keep 200 h 0 a1 = some (v, h1) ∧ f_X10_keep 200 h1 188 a1 = some (v, h2) ∧ Inv (k + 1) h2 := by
  intro h a1 I
  obtain ⟨b, c, sz, iv⟩ := I
  obtain ⟨a0, a1', a2, a3, a4, a5, a6, a7, a8, a9, a10⟩ := id iv
  obtain ⟨z1, z2, z3⟩ := a1'
  obtain ⟨r, r1, r2, r3, r4⟩ := id a4
  obtain ⟨ch, k1, k2, k3⟩ := a9
  have hB : 300 * k ≤ 300 * (k + 1) := by omega
  have th : fr [50] h (setI h 188 0 (n32 0)) := (fr.rf _ _).sI rfl
  by_cases q : 0 ≤ a1.toInt ∧ a1.toInt ≤ 2
  · obtain ⟨i, -, hi, rfl⟩ := n32_of2 (lo := 0) (hi := 2) q.1 q.2
    have hi3 : i < 3 := by omega
    have wy : f_X9_within (n32 i) (n32 0) (n32 2) = some (n32 1) := within_y q
    have iy := in_y (x := n32 i) (lo := 0) (hi := 2) (a := 0) (b := 2) rfl rfl q
    obtain ⟨y1, y2⟩ := a0.kept hi3
    have XX : gd (f_X9_keep 200 h 0 (n32 i)) (fun p => p.1 = n32 1 ∧ CR p.2 (134 + 7 * i) r ∧ p.2.2.1 (134 + 7 * i) 2 = n32 sz ∧ fr [7] h p.2 ∧ ∀ a j, (a < 134 + 7 * i ∨ 134 + 7 * i + 6 < a) → p.2.2.1 a j = h.2.1 a j) := by
      unfold f_X9_keep
      simp -implicitDefEqProofs (disch := omega) only [a0.root, gP_p, gP_t, bnd_s, bnd2_s, ltt_s, jn_s, n32_nat, n32_le, n32_lt, n32_eq, n32_add, n32_sub, n32_dec, n32_mul, n32_div, n32_irm, n32_lit, n32_oN, n32_ix, n32_m1, n32_m2, neg_le0, neg_lt0, neg_lt1, neg_le1, n32_min, n32_max, if_true, if_false, Nat.one_ne_zero, gd_some, true_or, or_true, false_or, or_false, wy, y1, gd_bnd, Nat.reduceSub]
      refine gd_mono (become_y (N := 197) (a0.co y2) (a0.co CL5) (by omega) r1 r3.2.2.2.1) ?_
      rintro h1 ⟨c1, c2, c3, c4⟩
      exact ⟨trivial, c1, c2.trans z2, c3.mono (by rw [show rc (134 + 7 * i) = 7 from rck (i := 0) hi3 (by omega)]; rfl), c4⟩
    obtain ⟨⟨v, h1⟩, q1, q2, q3, q4, q5, q6⟩ := XX
    have s1 := a0.fr q5
    have r2' : MR h1 193 r := fun j hj => by rw [q5.ai [30] (by decide) 193 j rfl]; exact r2 j hj
    have k2' : h1.2.1 188 4 = n32 ch := by rw [q5.ai [27] (by decide) 188 4 rfl]; exact k2
    have zb1 : zb (n32 1) = n32 1 := by decide
    have MM : gd (f_X10_keep 200 h1 188 (n32 i)) (fun p => p.1 = n32 1 ∧ (∀ j, j < 28 → p.2.2.1 218 (28 * i + j) = n32 (r j)) ∧ (∀ x, (x < 28 * i ∨ 28 * i + 28 ≤ x) → p.2.2.1 218 x = h1.2.1 218 x) ∧ p.2.2.1 188 4 = n32 ch ∧ p.2.2.1 216 i = n32 1 ∧ p.2.2.1 217 i = n32 ch ∧ (∀ x, x ≠ i → p.2.2.1 216 x = h1.2.1 216 x ∧ p.2.2.1 217 x = h1.2.1 217 x) ∧ fr [27, 50] h1 p.2) := by
      have f2 : fr [27, 50] h1 (setI (setI (setI h1 188 0 (n32 0)) 216 i (n32 1)) 217 i (n32 ch)) := (((fr.rf _ _).sI rfl).sI rfl).sI rfl
      unfold f_X10_keep
      simp -implicitDefEqProofs (disch := omega) only [s1.mod, gP_p, gP_t, bnd_s, bnd2_s, ltt_s, jn_s, n32_nat, n32_le, n32_lt, n32_eq, n32_add, n32_sub, n32_dec, n32_mul, n32_div, n32_irm, n32_lit, n32_oN, n32_ix, n32_m1, n32_m2, neg_le0, neg_lt0, neg_lt1, neg_le1, n32_min, n32_max, if_true, if_false, Nat.one_ne_zero, gd_some, true_or, or_true, false_or, or_false, iy, zb1, sI_eq, sI_ne, sI_J, sI_R, sI_kO, sI_rK, sI_len, sJ_eq, sJ_ne, sJ_I, sJ_kO, sJ_rK, sJ_len, k2']
      refine gd_mono (keep_l (b := b) (c := c) hi3 (setI (setI (setI h1 188 0 (n32 0)) 216 i (n32 1)) 217 i (n32 ch)) 28 0 200 _ (by omega) (by omega) (s1.fr f2) (fun j hj => by rw [sI_ne (by omega), sI_ne (by omega), sI_ne (by omega)]; exact r2' j hj) (fun j hj => absurd hj (by omega)) (fun x hx => rfl) rfl (fun x => ⟨rfl, rfl⟩) (fr.rf _ _)) ?_
      rintro ⟨v2, h2⟩ ⟨t1, t2, t3, t4, t5, t6⟩
      refine ⟨t1, t2, fun x hx => by rw [t3 x hx, sI_ne (by omega), sI_ne (by omega), sI_ne (by omega)], ?_, ?_, ?_, fun x hx => ⟨?_, ?_⟩, f2.tr (t6.mono (by decide))⟩
      · show h2.2.1 188 4 = _
        rw [t4, sI_ne (by omega), sI_ne (by omega), sI_ne (by omega)]
        exact k2'
      · show h2.2.1 216 i = _
        rw [(t5 i).1, sI_ne (by omega), sI_eq]
      · show h2.2.1 217 i = _
        rw [(t5 i).2, sI_eq]
      · show h2.2.1 216 x = _
        rw [(t5 x).1, sI_ne (by omega), sI_ne (by omega), sI_ne (by omega)]
      · show h2.2.1 217 x = _
        rw [(t5 x).2, sI_ne (by omega), sI_ne (by omega), sI_ne (by omega)]
    obtain ⟨⟨v2, h2⟩, t1, t2, t3, t4, t5, t6, t7, t8, t9⟩ := MM
    have ev : v = v2 := q2.trans t2.symm
    subst ev
    have f12 : fr [3, 30, 6, 26, 7, 27, 50] h h2 := (q5.mono (by decide)).tr (t9.mono (by decide))
    have fc : fr [7, 27, 50] h h2 := (q5.mono (by decide)).tr (t9.mono (by decide))
    refine ⟨_, h1, h2, q1, t1, b, c, sz, iv.kp hB f12 (by rw [fc.ai [3] (by decide) 5 2 rfl]; exact z2) ((a4.fr fc (by decide)).mo hB) ((a8.fr fc (by decide)).mo hB) ⟨ch, k1, t5, fun i' hi' => ?_⟩⟩
    have e7 : ∀ a j, reg a j = 7 → h2.2.1 a j = h1.2.1 a j := fun a j e => t9.ai [7] (by decide) a j (by rw [e]; rfl)
    by_cases qi : i' = i
    · subst qi
      refine Or.inr ⟨t6, r, sz, ch, q3.same fun i hi => funext fun j => e7 _ j (by rw [reg_c (by omega), rck hi' hi]), (e7 _ 2 (by rw [reg_c (by omega)]; exact rck (i := 0) hi' (by omega))).trans q4, t7, t3, r3.mo hB, r4, Nat.le_refl _, Nat.le_refl _, ⟨fun _ => rfl, fun _ => rfl⟩⟩
    · have ea : ∀ i j, i < 7 → h2.2.1 (134 + 7 * i' + i) j = h.2.1 (134 + 7 * i' + i) j := fun ii j hii => by
        rw [e7 _ j (by rw [reg_c (by omega), rck hi' hii])]
        exact q6 _ j (by omega)
      have eb : h2.2.1 216 i' = h.2.1 216 i' := ((t8 i' qi).1).trans (q5.ai [27] (by decide) 216 i' rfl)
      have ec : h2.2.1 217 i' = h.2.1 217 i' := ((t8 i' qi).2).trans (q5.ai [27] (by decide) 217 i' rfl)
      rcases k3 i' hi' with ⟨s1', s2'⟩ | ⟨s1', P, ks, kc, s2', s3', s4', s5', s6', s7'⟩
      · exact Or.inl ⟨eb.trans s1', (ea 0 2 (by omega)).trans s2'⟩
      · exact Or.inr ⟨eb.trans s1', P, ks, kc, s2'.same fun i hi => funext fun j => ea i j hi, (ea 0 2 (by omega)).trans s3', ec.trans s4', fun j hj => by rw [t4 _ (by omega), q5.ai [27] (by decide) 218 _ rfl]; exact s5' j hj, s6'.mo hB, s7'⟩
  · have wn : f_X9_within a1 (n32 0) (n32 2) = some (n32 0) := within_n q
    have inn := in_n (x := a1) (lo := 0) (hi := 2) (a := 0) (b := 2) rfl rfl q
    refine ⟨n32 0, h, setI h 188 0 (n32 0), ?_, ?_, ?_⟩
    · unfold f_X9_keep
      simp -implicitDefEqProofs (disch := omega) only [a0.root, gP_p, gP_t, bnd_s, bnd2_s, ltt_s, jn_s, n32_nat, n32_le, n32_lt, n32_eq, n32_add, n32_sub, n32_dec, n32_mul, n32_div, n32_irm, n32_lit, n32_oN, n32_ix, n32_m1, n32_m2, neg_le0, neg_lt0, neg_lt1, neg_le1, n32_min, n32_max, if_true, if_false, Nat.one_ne_zero, gd_some, true_or, or_true, false_or, or_false, wn, Nat.reduceSub]
    · unfold f_X10_keep
      simp -implicitDefEqProofs (disch := omega) only [a0.mod, gP_p, gP_t, bnd_s, bnd2_s, ltt_s, jn_s, n32_nat, n32_le, n32_lt, n32_eq, n32_add, n32_sub, n32_dec, n32_mul, n32_div, n32_irm, n32_lit, n32_oN, n32_ix, n32_m1, n32_m2, neg_le0, neg_lt0, neg_lt1, neg_le1, n32_min, n32_max, if_true, if_false, Nat.one_ne_zero, gd_some, true_or, or_true, false_or, or_false, inn]
    · exact Iv.up (iv.q0 (th.mono (by decide)))
theorem again_l {N i0 : Nat} {b c : Bool} {P : Nat → Nat} (hi0 : i0 < 3) (h0 : HP) : ∀ (d i fuel : Nat) (h : HP), i + d = 28 → d < fuel → SH b c h → (∀ j, j < 28 → h.2.1 218 (28 * i0 + j) = n32 (P j)) → (∀ j, j < i → h.2.1 193 j = n32 (P j)) → fr [30] h0 h →
    gd (lp (fun _ _ => none) (f_X10_again_B43 N 188 (n32 i0)) fuel (n32 i) h) (fun p => p.1 = n32 1 ∧ MR p.2 193 P ∧ p.2.2.1 188 25 = n32 0 ∧ fr [26, 30] h0 p.2) := by
  intro d
  induction d with
  | zero =>
    intro i fuel h hi hf s o n f
    obtain ⟨k, rfl⟩ : ∃ k, fuel = k + 1 := ⟨fuel - 1, by omega⟩
    simp -implicitDefEqProofs (disch := omega) only [lp_s, f_X10_again_B43, gP_p, gP_t, bnd_s, bnd2_s, ltt_s, jn_s, n32_nat, n32_le, n32_lt, n32_eq, n32_add, n32_sub, n32_dec, n32_mul, n32_div, n32_irm, n32_lit, n32_oN, n32_ix, n32_m1, n32_m2, neg_le0, neg_lt0, neg_lt1, neg_le1, n32_min, n32_max, if_true, if_false, Nat.one_ne_zero, gd_some, true_or, or_true, false_or, or_false]
    rw [if_pos (by omega), gd_some]
    exact ⟨rfl, fun j hj => by rw [sI_ne (by omega)]; exact n j (by omega), by rw [sI_eq], (f.mono (by decide)).sI rfl⟩
  | succ d ih =>
    intro i fuel h hi hf s o n f
    obtain ⟨k, rfl⟩ : ∃ k, fuel = k + 1 := ⟨fuel - 1, by omega⟩
    have ni : ¬ 28 ≤ i := by omega
    have v := o i (by omega)
    simp -implicitDefEqProofs (disch := omega) only [lp_s, f_X10_again_B43, gP_p, gP_t, bnd_s, bnd2_s, ltt_s, jn_s, n32_nat, n32_le, n32_lt, n32_eq, n32_add, n32_sub, n32_dec, n32_mul, n32_div, n32_irm, n32_lit, n32_oN, n32_ix, n32_m1, n32_m2, neg_le0, neg_lt0, neg_lt1, neg_le1, n32_min, n32_max, if_true, if_false, Nat.one_ne_zero, gd_some, true_or, or_true, false_or, or_false, s.mod, v, ni]
    refine ih (i + 1) k _ (by omega) (by omega) (s.sm ⟨rfl, rfl⟩) (fun j hj => by rw [sI_ne (by omega)]; exact o j hj) (fun j hj => ?_) (f.sI rfl)
    by_cases q : j = i
    · rw [q, sI_eq]
    · rw [sI_ne (by omega)]
      exact n j (by omega)
theorem op_again {k : Nat} (hk : k < 512) : ∀ (h : HP) (a1 : Int32), Inv k h → ∃ (v : Int32) (h1 h2 : HP), f_X9_again 200 h 0 a1 = some (v, h1) ∧ f_X10_again 200 h1 188 a1 = some (v, h2) ∧ Inv (k + 1) h2 := by
  intro h a1 I
  obtain ⟨b, c, sz, iv⟩ := I
  obtain ⟨a0, a1', a2, a3, a4, a5, a6, a7, a8, a9, a10⟩ := id iv
  obtain ⟨z1, z2, z3⟩ := a1'
  obtain ⟨ch, k1, k2, k3⟩ := id a9
  have hB : 300 * k ≤ 300 * (k + 1) := by omega
  have th : fr [50] h (setI h 188 0 (n32 0)) := (fr.rf _ _).sI rfl
  have no := Iv.up (k := k) (iv.q0 (th.mono (by decide)))
  by_cases q : 0 ≤ a1.toInt ∧ a1.toInt ≤ 2
  · obtain ⟨i, -, hi, rfl⟩ := n32_of2 (lo := 0) (hi := 2) q.1 q.2
    have hi3 : i < 3 := by omega
    have wy : f_X9_within (n32 i) (n32 0) (n32 2) = some (n32 1) := within_y q
    have iy := in_y (x := n32 i) (lo := 0) (hi := 2) (a := 0) (b := 2) rfl rfl q
    obtain ⟨y1, y2⟩ := a0.kept hi3
    rcases k3 i hi3 with ⟨s1, s2⟩ | ⟨s1, P, ks, kc, s2, s3, s4, s5, s6, s7, s8, s9, s10⟩
    · refine ⟨n32 0, h, setI h 188 0 (n32 0), ?_, ?_, no⟩
      · unfold f_X9_again
        simp -implicitDefEqProofs (disch := omega) only [a0.root, gP_p, gP_t, bnd_s, bnd2_s, ltt_s, jn_s, n32_nat, n32_le, n32_lt, n32_eq, n32_add, n32_sub, n32_dec, n32_mul, n32_div, n32_irm, n32_lit, n32_oN, n32_ix, n32_m1, n32_m2, neg_le0, neg_lt0, neg_lt1, neg_le1, n32_min, n32_max, if_true, if_false, Nat.one_ne_zero, gd_some, true_or, or_true, false_or, or_false, wy, y1, Nat.reduceSub, s2, z2]
      · unfold f_X10_again
        simp -implicitDefEqProofs (disch := omega) only [a0.mod, gP_p, gP_t, bnd_s, bnd2_s, ltt_s, jn_s, n32_nat, n32_le, n32_lt, n32_eq, n32_add, n32_sub, n32_dec, n32_mul, n32_div, n32_irm, n32_lit, n32_oN, n32_ix, n32_m1, n32_m2, neg_le0, neg_lt0, neg_lt1, neg_le1, n32_min, n32_max, if_true, if_false, Nat.one_ne_zero, gd_some, true_or, or_true, false_or, or_false, iy, sI_eq, sI_ne, sI_J, sI_R, sI_kO, sI_rK, sI_len, sJ_eq, sJ_ne, sJ_I, sJ_kO, sJ_rK, sJ_len, s1]
    · by_cases qs : ks = sz
      · have qc : kc = ch := s10.mpr qs
        have XX : gd (f_X9_again 200 h 0 (n32 i)) (fun p => p.1 = n32 1 ∧ CR p.2 5 P ∧ p.2.2.1 5 2 = n32 sz ∧ p.2.2.1 26 2 = n32 0 ∧ p.2.2.1 26 1 = h.2.1 26 1 ∧ fr [3, 6] h p.2) := by
          unfold f_X9_again
          simp -implicitDefEqProofs (disch := omega) only [a0.root, gP_p, gP_t, bnd_s, bnd2_s, ltt_s, jn_s, n32_nat, n32_le, n32_lt, n32_eq, n32_add, n32_sub, n32_dec, n32_mul, n32_div, n32_irm, n32_lit, n32_oN, n32_ix, n32_m1, n32_m2, neg_le0, neg_lt0, neg_lt1, neg_le1, n32_min, n32_max, if_true, if_false, Nat.one_ne_zero, gd_some, true_or, or_true, false_or, or_false, wy, y1, gd_bnd, Nat.reduceSub, s3, z2, qs]
          refine gd_mono (become_y (N := 197) (a0.co CL5) (a0.co y2) (by omega) s2 s6.2.2.2.1) ?_
          rintro h1 ⟨c1, c2, c3, c4⟩
          have c3' : fr [3] h h1 := c3
          simp -implicitDefEqProofs (disch := omega) only [(a0.fr c3').root, gP_p, gP_t, bnd_s, bnd2_s, ltt_s, jn_s, n32_nat, n32_le, n32_lt, n32_eq, n32_add, n32_sub, n32_dec, n32_mul, n32_div, n32_irm, n32_lit, n32_oN, n32_ix, n32_m1, n32_m2, neg_le0, neg_lt0, neg_lt1, neg_le1, n32_min, n32_max, if_true, if_false, Nat.one_ne_zero, gd_some, true_or, or_true, false_or, or_false, f_X5_clear]
          refine ⟨trivial, cr_frc c1 rfl (by omega) rc5 ((fr.rf [6] h1).sI rfl) (by decide), by rw [sI_ne (by omega), c2, s3, qs], by rw [sI_eq], by rw [sI_ne (by omega)]; exact c4 26 1 (by omega), (c3'.mono (by decide)).sI rfl⟩
        obtain ⟨⟨v, h1⟩, q1, q2, q3, q4, q5, q5', q6⟩ := XX
        have t0 := a0.fr q6
        have k2' : h1.2.1 188 4 = n32 ch := by rw [q6.ai [27] (by decide) 188 4 rfl]; exact k2
        have s1' : h1.2.1 216 i = n32 1 := by rw [q6.ai [27] (by decide) 216 i rfl]; exact s1
        have s4' : h1.2.1 217 i = n32 ch := by rw [q6.ai [27] (by decide) 217 i rfl, s4, qc]
        have MM : gd (f_X10_again 200 h1 188 (n32 i)) (fun p => p.1 = n32 1 ∧ MR p.2 193 P ∧ p.2.2.1 188 25 = n32 0 ∧ fr [26, 30, 50] h1 p.2) := by
          have f2 : fr [50] h1 (setI h1 188 0 (n32 0)) := (fr.rf _ _).sI rfl
          unfold f_X10_again
          simp -implicitDefEqProofs (disch := omega) only [t0.mod, gP_p, gP_t, bnd_s, bnd2_s, ltt_s, jn_s, n32_nat, n32_le, n32_lt, n32_eq, n32_add, n32_sub, n32_dec, n32_mul, n32_div, n32_irm, n32_lit, n32_oN, n32_ix, n32_m1, n32_m2, neg_le0, neg_lt0, neg_lt1, neg_le1, n32_min, n32_max, if_true, if_false, Nat.one_ne_zero, gd_some, true_or, or_true, false_or, or_false, iy, sI_eq, sI_ne, sI_J, sI_R, sI_kO, sI_rK, sI_len, sJ_eq, sJ_ne, sJ_I, sJ_kO, sJ_rK, sJ_len, k2', s1', s4']
          refine gd_mono (again_l (b := b) (c := c) (P := P) hi3 (setI h1 188 0 (n32 0)) 28 0 200 _ (by omega) (by omega) (t0.fr f2) (fun j hj => by rw [sI_ne (by omega), q6.ai [27] (by decide) 218 _ rfl]; exact s5 j hj) (fun j hj => absurd hj (by omega)) (fr.rf _ _)) ?_
          rintro ⟨v2, h2⟩ ⟨t1, t2, t3, t4⟩
          exact ⟨t1, t2, t3, (f2.mono (by decide)).tr (t4.mono (by decide))⟩
        obtain ⟨⟨v2, h2⟩, t1, t2, t3, t4, t5⟩ := MM
        have ev : v = v2 := q2.trans t2.symm
        subst ev
        have f12 : fr [3, 30, 6, 26, 7, 27, 50] h h2 := (q6.mono (by decide)).tr (t5.mono (by decide))
        have fc : fr [3, 6, 26, 30, 50] h h2 := (q6.mono (by decide)).tr (t5.mono (by decide))
        obtain ⟨nx, u, pn, pe⟩ := a8
        rw [qs] at s7
        refine ⟨_, h1, h2, q1, t1, b, c, sz, iv.kp hB f12 (by rw [t5.ai [3] (by decide) 5 2 rfl]; exact q4) ⟨P, cr_frc q3 rfl (by omega) rc5 t5 (by decide), t3, s6.mo hB, s7⟩ ⟨nx, 0, ⟨by omega, pn.2.1, ?_, ?_, t4⟩, fun i hi => absurd hi (Nat.not_lt_zero i)⟩ ((a9.fr fc (by decide)).mo hB)⟩
        · rw [t5.ai [6] (by decide) 26 1 rfl]
          exact q5'.trans pn.2.2.1
        · rw [t5.ai [6] (by decide) 26 2 rfl]
          exact q5
      · have qc : ¬ kc = ch := fun z => qs (s10.mp z)
        refine ⟨n32 0, h, setI h 188 0 (n32 0), ?_, ?_, no⟩
        · unfold f_X9_again
          simp -implicitDefEqProofs (disch := omega) only [a0.root, gP_p, gP_t, bnd_s, bnd2_s, ltt_s, jn_s, n32_nat, n32_le, n32_lt, n32_eq, n32_add, n32_sub, n32_dec, n32_mul, n32_div, n32_irm, n32_lit, n32_oN, n32_ix, n32_m1, n32_m2, neg_le0, neg_lt0, neg_lt1, neg_le1, n32_min, n32_max, if_true, if_false, Nat.one_ne_zero, gd_some, true_or, or_true, false_or, or_false, wy, y1, Nat.reduceSub, s3, z2, qs]
        · unfold f_X10_again
          simp -implicitDefEqProofs (disch := omega) only [a0.mod, gP_p, gP_t, bnd_s, bnd2_s, ltt_s, jn_s, n32_nat, n32_le, n32_lt, n32_eq, n32_add, n32_sub, n32_dec, n32_mul, n32_div, n32_irm, n32_lit, n32_oN, n32_ix, n32_m1, n32_m2, neg_le0, neg_lt0, neg_lt1, neg_le1, n32_min, n32_max, if_true, if_false, Nat.one_ne_zero, gd_some, true_or, or_true, false_or, or_false, iy, sI_eq, sI_ne, sI_J, sI_R, sI_kO, sI_rK, sI_len, sJ_eq, sJ_ne, sJ_I, sJ_kO, sJ_rK, sJ_len, s1, s4, k2, qc]
  · have wn : f_X9_within a1 (n32 0) (n32 2) = some (n32 0) := within_n q
    have inn := in_n (x := a1) (lo := 0) (hi := 2) (a := 0) (b := 2) rfl rfl q
    refine ⟨n32 0, h, setI h 188 0 (n32 0), ?_, ?_, no⟩
    · unfold f_X9_again
      simp -implicitDefEqProofs (disch := omega) only [a0.root, gP_p, gP_t, bnd_s, bnd2_s, ltt_s, jn_s, n32_nat, n32_le, n32_lt, n32_eq, n32_add, n32_sub, n32_dec, n32_mul, n32_div, n32_irm, n32_lit, n32_oN, n32_ix, n32_m1, n32_m2, neg_le0, neg_lt0, neg_lt1, neg_le1, n32_min, n32_max, if_true, if_false, Nat.one_ne_zero, gd_some, true_or, or_true, false_or, or_false, wn, Nat.reduceSub]
    · unfold f_X10_again
      simp -implicitDefEqProofs (disch := omega) only [a0.mod, gP_p, gP_t, bnd_s, bnd2_s, ltt_s, jn_s, n32_nat, n32_le, n32_lt, n32_eq, n32_add, n32_sub, n32_dec, n32_mul, n32_div, n32_irm, n32_lit, n32_oN, n32_ix, n32_m1, n32_m2, neg_le0, neg_lt0, neg_lt1, neg_le1, n32_min, n32_max, if_true, if_false, Nat.one_ne_zero, gd_some, true_or, or_true, false_or, or_false, inn]
