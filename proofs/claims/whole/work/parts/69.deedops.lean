/-! ===== deeds: the operations ===== -/
theorem Iv.st {B B' : Nat} {b c : Bool} {sz : Nat} {h h' : HP} (s : Iv B b c sz h) (hB : B ≤ B') (f : fr [2, 22, 3, 30, 6, 26, 4, 5, 9, 10, 13, 17, 19, 31, 32, 33, 40, 41, 42, 43, 44, 45, 46, 47, 50] h h') (z : h'.2.1 5 2 = n32 sz) (rw' : Row h') (co : Coa B' sz h') (pa : Pas B' sz h') : Iv B' b c sz h' := by
  obtain ⟨a0, a1, a2, a3, a4, a5, a6, a7, a8, a9, a10⟩ := s
  obtain ⟨z1, z2, z3⟩ := a1
  exact ⟨a0.fr f, ⟨z1, z, by rw [f.ai [23] (by decide) 188 3 rfl]; exact z3⟩, a2.fr f (by decide), rw', co, a5.fr f (by decide), a6.fr f (by cases b <;> decide), a7.fr f (by cases c <;> decide), pa, (a9.fr f (by decide)).mo hB, a10.fr f (by decide)⟩
theorem neg_c {a : Int32} : (a < n32 0) = ¬ (n32 0 ≤ a) := propext Int32.not_le.symm
/-- a deed on both sides, with an answer; below 0 nothing is put by -/
def DX (a : Int32 × (Nat → Nat)) (h : HP) (nx u sz : Nat) (r : Nat → Nat) : Int32 × HP → Prop := fun p => p.1 = a.1 ∧ CR p.2 5 a.2 ∧ p.2.2.1 5 2 = n32 sz ∧ fr [3, 4, 6] h p.2 ∧ (n32 0 ≤ a.1 → PuX h p.2 nx u sz r) ∧ (¬ n32 0 ≤ a.1 → fr [3, 4] h p.2)
def DM (a : Int32 × (Nat → Nat)) (h : HP) (u : Nat) (r : Nat → Nat) : Int32 × HP → Prop := fun p => p.1 = a.1 ∧ MR p.2 193 a.2 ∧ fr [26, 30, 50] h p.2 ∧ (n32 0 ≤ a.1 → PuM h p.2 u r) ∧ (¬ n32 0 ≤ a.1 → p.2.2.1 188 25 = n32 u ∧ ∀ x, x < 28 * u → p.2.2.1 202 x = h.2.1 202 x)
theorem pas_keep {B B' sz nx u : Nat} {h h2 : HP} (hB : B ≤ B') (pn : PaN h nx u) (pe : ∀ i, i < u → ∃ P, PaE B sz nx u h i P) (ex : ∀ a j, reg a j = 6 → h2.2.1 a j = h.2.1 a j) (e : h2.2.1 188 25 = n32 u) (em : ∀ x, x < 28 * u → h2.2.1 202 x = h.2.1 202 x) : Pas B' sz h2 := by
  obtain ⟨p1, p2, p3, p4, p5⟩ := pn
  refine ⟨nx, u, ⟨p1, p2, (ex 26 1 rfl).trans p3, (ex 26 2 rfl).trans p4, e⟩, fun i hi => ?_⟩
  obtain ⟨P, a1, a2, a3, a4, a5⟩ := pe i hi
  have hp : rp nx u i < 15 := rp_lt
  have e' : ∀ k j, k < 7 → h2.2.1 (28 + 7 * rp nx u i + k) j = h.2.1 (28 + 7 * rp nx u i + k) j := fun k j hk => ex _ _ (by rw [reg_c (by omega), rcp hp hk])
  exact ⟨P, a1.same fun k hk => funext fun j => e' k j hk, (e' 0 2 (by omega)).trans a2, fun j hj => by rw [em _ (by omega)]; exact a3 j hj, a4.mo hB, a5⟩
theorem d_op {k : Nat} {fX fM : HP → Option (Int32 × HP)} (act : Nat → (Nat → Nat) → Int32 × (Nat → Nat)) (okA : ∀ sz r B, sz ≤ 6 → RBm B r → ZB sz r → RBm B (act sz r).2 ∧ ZB sz (act sz r).2)
    (HX : ∀ b c sz r B nx u h, SH b c h → sz ≤ 6 → h.2.1 5 2 = n32 sz → CR h 5 r → RBm B r → nx < 15 → u ≤ 15 → h.2.1 26 1 = n32 nx → h.2.1 26 2 = n32 u → gd (fX h) (DX (act sz r) h nx u sz r))
    (HM : ∀ b c sz r B u h, SH b c h → sz ≤ 6 → h.2.1 188 3 = n32 sz → MR h 193 r → RBm B r → u ≤ 15 → h.2.1 188 25 = n32 u → gd (fM h) (DM (act sz r) h u r)) (h : HP) (I : Inv k h) :
    ∃ (v : Int32) (h1 h2 : HP), fX h = some (v, h1) ∧ fM h1 = some (v, h2) ∧ Inv (k + 1) h2 := by
  obtain ⟨b, c, sz, iv⟩ := I
  obtain ⟨a0, a1, a2, a3, a4, a5, a6, a7, a8, a9, a10⟩ := id iv
  obtain ⟨z1, z2, z3⟩ := a1
  obtain ⟨r, r1, r2, r3, r4⟩ := a4
  obtain ⟨nx, u, pn, pe⟩ := a8
  obtain ⟨p1, p2, p3, p4, p5⟩ := id pn
  obtain ⟨⟨v, h1⟩, q1, q2, q3, q4, q5, q6, q7⟩ := HX b c sz r _ nx u h a0 z1 z2 r1 r3 p2 p1 p3 p4
  have m1 : MR h1 193 r := fun j hj => by rw [q5.ai [30] (by decide) 193 j rfl]; exact r2 j hj
  have e1 : h1.2.1 188 3 = n32 sz := by rw [q5.ai [23] (by decide) 188 3 rfl]; exact z3
  have e2 : h1.2.1 188 25 = n32 u := by rw [q5.ai [26] (by decide) 188 25 rfl]; exact p5
  obtain ⟨⟨v2, h2⟩, t1, t2, t3, t4, t5, t6⟩ := HM b c sz r _ u h1 (a0.fr q5) z1 e1 m1 r3 p1 e2
  have ev : v = (act sz r).1 := q2
  have ev2 : v2 = (act sz r).1 := t2
  subst ev
  refine ⟨_, h1, h2, q1, by rw [t1, ev2], b, c, sz, ?_⟩
  have hB : 300 * k ≤ 300 * (k + 1) := by omega
  obtain ⟨o1, o2⟩ := okA sz r (300 * k) z1 r3 r4
  have em : ∀ j, h1.2.1 202 j = h.2.1 202 j := fun j => q5.ai [26] (by decide) 202 j rfl
  refine iv.st hB ((q5.mono (by decide)).tr (t4.mono (by decide))) (by rw [t4.ai [3] (by decide) 5 2 rfl]; exact q4) ((a3.fr q5 (by decide)).fr t4 (by decide)) ⟨_, cr_frc q3 rfl (by omega) rc5 t4 (by decide), t3, o1.mo hB, o2⟩ ?_
  have ex : ∀ a j, reg a j = 6 → h2.2.1 a j = h1.2.1 a j := fun a j e => t4.ai [6] (by decide) a j (by rw [e]; rfl)
  by_cases g : n32 0 ≤ (act sz r).1
  · exact pas_push hB pn pe (r3.mo hB) r4 (q6 g) ex em (t5 g)
  · refine pas_keep hB pn pe (fun a j e => ?_) (t6 g).1 (fun x hx => by rw [(t6 g).2 x hx, em])
    rw [ex a j e]
    exact (q7 g).ai [6] (by decide) a j (by rw [e]; rfl)
/-- the program's way -/
theorem way_x {b c : Bool} {sz nx u B : Nat} {r : Nat → Nat} {h : HP} {deed : HP → Option (Int32 × HP)} {a : Int32 × (Nat → Nat)} (s : SH b c h) (hz : sz ≤ 6) (z : h.2.1 5 2 = n32 sz) (cr : CR h 5 r) (rb : RBm B r) (hn : nx < 15) (hu : u ≤ 15) (e1 : h.2.1 26 1 = n32 nx) (e2 : h.2.1 26 2 = n32 u)
    (hd : ∀ h1, SH b c h1 → h1.2.1 5 2 = n32 sz → CR h1 5 r → gd (deed h1) (XD h1 5 sz a)) :
    gd (bnd (f_X0_become 1000 h 12 5) (fun h11 => bnd2 (deed h11) (fun v20 h22 => bnd2 (f_X9_remembered 1000 h22 0 v20) (fun v25 h27 => some (v25, h27))))) (DX a h nx u sz r) := by
  rw [gd_bnd]
  refine gd_mono (become_y (N := 997) (s.co (show CL.contains 12 = true by decide)) (s.co CL5) (by omega) cr rb.2.2.2.1) ?_
  rintro h1 ⟨c1, c2, c3, -⟩
  have f1 : fr [4] h h1 := c3
  have s1 := s.fr f1
  rw [gd_bnd2]
  refine gd_mono (hd h1 s1 (by rw [f1.ai [3] (by decide) 5 2 rfl]; exact z) (cr_frc cr rfl (by omega) rc5 f1 (by decide))) ?_
  rintro ⟨v, h2⟩ ⟨d1, d2, d3, d4⟩
  have d1' : v = a.1 := d1
  subst d1'
  have f2 : fr [3] h1 h2 := d4
  have f12 : fr [3, 4] h h2 := (f1.mono (by decide)).tr (f2.mono (by decide))
  have s2 := s1.fr f2
  unfold f_X9_remembered
  by_cases g : n32 0 ≤ a.1
  · have g' : ¬ a.1 < n32 0 := by rw [neg_c]; exact fun z => z g
    simp -implicitDefEqProofs (disch := omega) only [s2.root, gP_p, gP_t, bnd_s, bnd2_s, ltt_s, jn_s, n32_nat, n32_le, n32_lt, n32_eq, n32_add, n32_sub, n32_dec, n32_mul, n32_div, n32_irm, n32_lit, n32_oN, n32_ix, n32_m1, n32_m2, neg_le0, neg_lt0, neg_lt1, neg_le1, n32_min, n32_max, if_true, if_false, Nat.one_ne_zero, gd_some, true_or, or_true, false_or, or_false, g', gd_bnd2, gd_bnd]
    refine gd_mono (put_x (N := 997) s2 hn hu (by rw [f12.ai [6] (by decide) 26 1 rfl]; exact e1) (by rw [f12.ai [6] (by decide) 26 2 rfl]; exact e2) (cr_frc c1 (q := 4) rfl (by omega) (fun i hi => by
      match i, hi with
      | 0, _ => rfl
      | 1, _ => rfl
      | 2, _ => rfl
      | 3, _ => rfl
      | 4, _ => rfl
      | 5, _ => rfl
      | 6, _ => rfl) f2 (by decide)) (by rw [f2.ai [4] (by decide) 12 2 rfl, c2]; exact z) rb.2.2.2.1) ?_
    rintro h3 ⟨⟨x1, x2, x3, x4, x5⟩, f3⟩
    refine ⟨rfl, cr_frc d2 rfl (by omega) rc5 f3 (by decide), by rw [f3.ai [3] (by decide) 5 2 rfl]; exact d3, (f12.mono (by decide)).tr (f3.mono (by decide)), fun _ => ⟨x1, x2, x3, x4, fun p hp hne i j hi => ?_⟩, fun z => absurd g z⟩
    rw [x5 p hp hne i j hi]
    exact f12.ai [6] (by decide) _ j (by rw [reg_c (by omega), rcp hp hi]; rfl)
  · have g' : a.1 < n32 0 := by rw [neg_c]; exact g
    simp -implicitDefEqProofs (disch := omega) only [s2.root, gP_p, gP_t, bnd_s, bnd2_s, ltt_s, jn_s, n32_nat, n32_le, n32_lt, n32_eq, n32_add, n32_sub, n32_dec, n32_mul, n32_div, n32_irm, n32_lit, n32_oN, n32_ix, n32_m1, n32_m2, neg_le0, neg_lt0, neg_lt1, neg_le1, n32_min, n32_max, if_true, if_false, Nat.one_ne_zero, gd_some, true_or, or_true, false_or, or_false, g', gd_bnd2]
    exact ⟨rfl, d2, d3, f12.mono (by decide), fun z => absurd z g, fun _ => f12⟩
/-- the reference's way -/
theorem way_m {b c : Bool} {sz u B : Nat} {r : Nat → Nat} {h : HP} {deed : HP → Option (Int32 × HP)} {a : Int32 × (Nat → Nat)} (s : SH b c h) (z : h.2.1 188 3 = n32 sz) (mr : MR h 193 r) (rb : RBm B r) (hu : u ≤ 15) (e : h.2.1 188 25 = n32 u)
    (hd : ∀ h1, SH b c h1 → h1.2.1 188 3 = n32 sz → MR h1 193 r → gd (deed h1) (MD h1 193 a)) :
    gd (bnd (f_X10_putsBy 1000 (setI h 188 0 (n32 0)) 188) (fun h4 => bnd2 (deed h4) (fun v8 h10 => bnd2 (f_X10_counted 1000 h10 188 v8) (fun v13 h15 => some (v13, h15))))) (DM a h u r) := by
  have f0 : fr [50] h (setI h 188 0 (n32 0)) := (fr.rf _ _).sI rfl
  rw [gd_bnd]
  refine gd_mono (puts_m (by omega) hu (s.fr f0) (fun j hj => by rw [f0.ai [30] (by decide) 193 j rfl]; exact mr j hj) (by rw [f0.ai [26] (by decide) 188 25 rfl]; exact e)) ?_
  rintro h1 ⟨p1, p2, p3, f1⟩
  have f01 : fr [26, 50] h h1 := (f0.mono (by decide)).tr (f1.mono (by decide))
  have s1 := s.fr f01
  rw [gd_bnd2]
  refine gd_mono (hd h1 s1 (by rw [f01.ai [23] (by decide) 188 3 rfl]; exact z) (fun j hj => by rw [f01.ai [30] (by decide) 193 j rfl]; exact mr j hj)) ?_
  rintro ⟨v, h2⟩ ⟨d1, d2, d3⟩
  have d1' : v = a.1 := d1
  subst d1'
  have f2 : fr [30] h1 h2 := d3
  have s2 := s1.fr f2
  have u2 : h2.2.1 188 25 = n32 u := by rw [f2.ai [26] (by decide) 188 25 rfl]; exact p1
  have o2 : ∀ x, x < 28 * u → h2.2.1 202 x = h.2.1 202 x := fun x hx => by rw [f2.ai [26] (by decide) 202 x rfl, p2 x hx, sI_ne (by omega)]
  have n2 : ∀ j, j < 28 → h2.2.1 202 (28 * u + j) = n32 (r j) := fun j hj => by rw [f2.ai [26] (by decide) 202 _ rfl]; exact p3 j hj
  have f02 : fr [26, 30, 50] h h2 := (f01.mono (by decide)).tr (f2.mono (by decide))
  unfold f_X10_counted
  by_cases g : n32 0 ≤ a.1
  · simp -implicitDefEqProofs (disch := omega) only [s2.mod, gP_p, gP_t, bnd_s, bnd2_s, ltt_s, jn_s, n32_nat, n32_le, n32_lt, n32_eq, n32_add, n32_sub, n32_dec, n32_mul, n32_div, n32_irm, n32_lit, n32_oN, n32_ix, n32_m1, n32_m2, neg_le0, neg_lt0, neg_lt1, neg_le1, n32_min, n32_max, if_true, if_false, Nat.one_ne_zero, gd_some, true_or, or_true, false_or, or_false, g, gd_bnd2]
    refine gd_mono (adds_m h hu s2 u2 o2 n2) ?_
    rintro ⟨v3, h3⟩ ⟨g1, g2, g3⟩
    exact ⟨g1, fun j hj => by rw [g3.ai [30] (by decide) 193 j rfl]; exact d2 j hj, f02.tr (g3.mono (by decide)), fun _ => g2, fun z => absurd g z⟩
  · simp -implicitDefEqProofs (disch := omega) only [s2.mod, gP_p, gP_t, bnd_s, bnd2_s, ltt_s, jn_s, n32_nat, n32_le, n32_lt, n32_eq, n32_add, n32_sub, n32_dec, n32_mul, n32_div, n32_irm, n32_lit, n32_oN, n32_ix, n32_m1, n32_m2, neg_le0, neg_lt0, neg_lt1, neg_le1, n32_min, n32_max, if_true, if_false, Nat.one_ne_zero, gd_some, true_or, or_true, false_or, or_false, g, gd_bnd2]
    exact ⟨rfl, d2, f02, fun z => absurd z g, fun _ => ⟨u2, o2⟩⟩
theorem bnd_bnd2 {α β : Type} {o : Option Nat} {f : Nat → Option (α × HP)} {g : α → HP → Option β} : bnd o (fun t => bnd2 (f t) g) = bnd2 (bnd o f) g := by
  cases o <;> rfl
theorem op_lays {k : Nat} (hk : k < 512) : ∀ (h : HP) (a1 a2 a3 : Int32), Inv k h → ∃ (v : Int32) (h1 h2 : HP), f_X9_lays 1000 h 0 a1 a2 a3 = some (v, h1) ∧ f_X10_lays 1000 h1 188 a1 a2 a3 = some (v, h2) ∧ Inv (k + 1) h2 := fun h a1 a2 a3 I => d_op (fX := fun h => f_X9_lays 1000 h 0 a1 a2 a3) (fM := fun h => f_X10_lays 1000 h 188 a1 a2 a3) (fun sz r => aLay sz a1 a2 a3 r) (fun sz r B hz rb zb => ok_lay hz rb zb) (fun b c sz r B nx u h s hz z cr rb hn hu e1 e2 => by
    have key := way_x (deed := fun h11 => bnd (rK h11 0 2 0) (fun t => f_X0_layBy h11 t a1 a2 a3)) (a := aLay sz a1 a2 a3 r) s hz z cr rb hn hu e1 e2 (fun h1 s1 z1 cr1 => by
      simp -implicitDefEqProofs (disch := omega) only [s1.root, bnd_s]
      exact lay_x (s1.co CL5) z1 hz cr1 rb)
    unfold f_X9_lays
    simp -implicitDefEqProofs (disch := omega) only [s.root, gP_p, gP_t, bnd_s, bnd2_s, ltt_s, jn_s, n32_nat, n32_le, n32_lt, n32_eq, n32_add, n32_sub, n32_dec, n32_mul, n32_div, n32_irm, n32_lit, n32_oN, n32_ix, n32_m1, n32_m2, neg_le0, neg_lt0, neg_lt1, neg_le1, n32_min, n32_max, if_true, if_false, Nat.one_ne_zero, gd_some, true_or, or_true, false_or, or_false]
    simp only [bnd_bnd2]
    exact key) (fun b c sz r B u h s hz z mr rb hu e => by
    have key := way_m (deed := fun h11 => f_X10_laysBy h11 188 a1 a2 a3) (a := aLay sz a1 a2 a3 r) s z mr rb hu e (fun h1 s1 z1 mr1 => by
      exact lay_m s1 z1 hz mr1 rb)
    unfold f_X10_lays
    simp -implicitDefEqProofs (disch := omega) only [s.mod, gP_p, gP_t, bnd_s, bnd2_s, ltt_s, jn_s, n32_nat, n32_le, n32_lt, n32_eq, n32_add, n32_sub, n32_dec, n32_mul, n32_div, n32_irm, n32_lit, n32_oN, n32_ix, n32_m1, n32_m2, neg_le0, neg_lt0, neg_lt1, neg_le1, n32_min, n32_max, if_true, if_false, Nat.one_ne_zero, gd_some, true_or, or_true, false_or, or_false]
    exact key) h I
theorem op_spends {k : Nat} (hk : k < 512) : ∀ (h : HP) (a1 a2 a3 : Int32), Inv k h → ∃ (v : Int32) (h1 h2 : HP), f_X9_spends 1000 h 0 a1 a2 a3 = some (v, h1) ∧ f_X10_spends 1000 h1 188 a1 a2 a3 = some (v, h2) ∧ Inv (k + 1) h2 := fun h a1 a2 a3 I => d_op (fX := fun h => f_X9_spends 1000 h 0 a1 a2 a3) (fM := fun h => f_X10_spends 1000 h 188 a1 a2 a3) (fun sz r => aSpd sz a1 a2 a3 r) (fun sz r B hz rb zb => ok_spd hz rb zb) (fun b c sz r B nx u h s hz z cr rb hn hu e1 e2 => by
    have key := way_x (deed := fun h11 => bnd (rK h11 0 2 0) (fun t => f_X0_spend h11 t a1 a2 a3)) (a := aSpd sz a1 a2 a3 r) s hz z cr rb hn hu e1 e2 (fun h1 s1 z1 cr1 => by
      simp -implicitDefEqProofs (disch := omega) only [s1.root, bnd_s]
      exact spd_x (s1.co CL5) z1 hz cr1 rb)
    unfold f_X9_spends
    simp -implicitDefEqProofs (disch := omega) only [s.root, gP_p, gP_t, bnd_s, bnd2_s, ltt_s, jn_s, n32_nat, n32_le, n32_lt, n32_eq, n32_add, n32_sub, n32_dec, n32_mul, n32_div, n32_irm, n32_lit, n32_oN, n32_ix, n32_m1, n32_m2, neg_le0, neg_lt0, neg_lt1, neg_le1, n32_min, n32_max, if_true, if_false, Nat.one_ne_zero, gd_some, true_or, or_true, false_or, or_false]
    simp only [bnd_bnd2]
    exact key) (fun b c sz r B u h s hz z mr rb hu e => by
    have key := way_m (deed := fun h11 => f_X10_spendsOf h11 188 a1 a2 a3) (a := aSpd sz a1 a2 a3 r) s z mr rb hu e (fun h1 s1 z1 mr1 => by
      exact spd_m s1 z1 hz mr1 rb)
    unfold f_X10_spends
    simp -implicitDefEqProofs (disch := omega) only [s.mod, gP_p, gP_t, bnd_s, bnd2_s, ltt_s, jn_s, n32_nat, n32_le, n32_lt, n32_eq, n32_add, n32_sub, n32_dec, n32_mul, n32_div, n32_irm, n32_lit, n32_oN, n32_ix, n32_m1, n32_m2, neg_le0, neg_lt0, neg_lt1, neg_le1, n32_min, n32_max, if_true, if_false, Nat.one_ne_zero, gd_some, true_or, or_true, false_or, or_false]
    exact key) h I
theorem op_taxes {k : Nat} (hk : k < 512) : ∀ (h : HP) (a1 a2 : Int32), Inv k h → ∃ (v : Int32) (h1 h2 : HP), f_X9_taxes 1000 h 0 a1 a2 = some (v, h1) ∧ f_X10_taxes 1000 h1 188 a1 a2 = some (v, h2) ∧ Inv (k + 1) h2 := fun h a1 a2 I => d_op (fX := fun h => f_X9_taxes 1000 h 0 a1 a2) (fM := fun h => f_X10_taxes 1000 h 188 a1 a2) (fun sz r => aTax sz a1 a2 r) (fun sz r B hz rb zb => ok_tax hz rb zb) (fun b c sz r B nx u h s hz z cr rb hn hu e1 e2 => by
    have key := way_x (deed := fun h11 => bnd (rK h11 0 2 0) (fun t => f_X0_tax 1000 h11 t a1 a2)) (a := aTax sz a1 a2 r) s hz z cr rb hn hu e1 e2 (fun h1 s1 z1 cr1 => by
      simp -implicitDefEqProofs (disch := omega) only [s1.root, bnd_s]
      exact tax_x (N := 997) (s1.co CL5) z1 hz cr1 rb)
    unfold f_X9_taxes
    simp -implicitDefEqProofs (disch := omega) only [s.root, gP_p, gP_t, bnd_s, bnd2_s, ltt_s, jn_s, n32_nat, n32_le, n32_lt, n32_eq, n32_add, n32_sub, n32_dec, n32_mul, n32_div, n32_irm, n32_lit, n32_oN, n32_ix, n32_m1, n32_m2, neg_le0, neg_lt0, neg_lt1, neg_le1, n32_min, n32_max, if_true, if_false, Nat.one_ne_zero, gd_some, true_or, or_true, false_or, or_false]
    simp only [bnd_bnd2]
    exact key) (fun b c sz r B u h s hz z mr rb hu e => by
    have key := way_m (deed := fun h11 => bnd (rK h11 188 9 102) (fun t => f_X10_taxesOf 1000 h11 188 t a1 a2)) (a := aTax sz a1 a2 r) s z mr rb hu e (fun h1 s1 z1 mr1 => by
      simp -implicitDefEqProofs (disch := omega) only [s1.mod, bnd_s]
      exact tax_m (N := 997) (Or.inl rfl) s1 z1 hz mr1 rb)
    unfold f_X10_taxes
    simp -implicitDefEqProofs (disch := omega) only [s.mod, gP_p, gP_t, bnd_s, bnd2_s, ltt_s, jn_s, n32_nat, n32_le, n32_lt, n32_eq, n32_add, n32_sub, n32_dec, n32_mul, n32_div, n32_irm, n32_lit, n32_oN, n32_ix, n32_m1, n32_m2, neg_le0, neg_lt0, neg_lt1, neg_le1, n32_min, n32_max, if_true, if_false, Nat.one_ne_zero, gd_some, true_or, or_true, false_or, or_false]
    simp only [bnd_bnd2]
    exact key) h I
theorem op_burns {k : Nat} (hk : k < 512) : ∀ (h : HP) (a1 : Int32), Inv k h → ∃ (v : Int32) (h1 h2 : HP), f_X9_burns 1000 h 0 a1 = some (v, h1) ∧ f_X10_burns 1000 h1 188 a1 = some (v, h2) ∧ Inv (k + 1) h2 := fun h a1 I => d_op (fX := fun h => f_X9_burns 1000 h 0 a1) (fM := fun h => f_X10_burns 1000 h 188 a1) (fun sz r => aBurn sz a1 r) (fun sz r B hz rb zb => ok_burn hz rb zb) (fun b c sz r B nx u h s hz z cr rb hn hu e1 e2 => by
    have key := way_x (deed := fun h11 => bnd (rK h11 0 2 0) (fun t => f_X0_burn h11 t a1)) (a := aBurn sz a1 r) s hz z cr rb hn hu e1 e2 (fun h1 s1 z1 cr1 => by
      simp -implicitDefEqProofs (disch := omega) only [s1.root, bnd_s]
      exact burn_x (s1.co CL5) z1 hz cr1 rb)
    unfold f_X9_burns
    simp -implicitDefEqProofs (disch := omega) only [s.root, gP_p, gP_t, bnd_s, bnd2_s, ltt_s, jn_s, n32_nat, n32_le, n32_lt, n32_eq, n32_add, n32_sub, n32_dec, n32_mul, n32_div, n32_irm, n32_lit, n32_oN, n32_ix, n32_m1, n32_m2, neg_le0, neg_lt0, neg_lt1, neg_le1, n32_min, n32_max, if_true, if_false, Nat.one_ne_zero, gd_some, true_or, or_true, false_or, or_false]
    simp only [bnd_bnd2]
    exact key) (fun b c sz r B u h s hz z mr rb hu e => by
    have key := way_m (deed := fun h11 => f_X10_burnsAt h11 188 a1) (a := aBurn sz a1 r) s z mr rb hu e (fun h1 s1 z1 mr1 => by
      exact burn_m s1 z1 hz mr1 rb)
    unfold f_X10_burns
    simp -implicitDefEqProofs (disch := omega) only [s.mod, gP_p, gP_t, bnd_s, bnd2_s, ltt_s, jn_s, n32_nat, n32_le, n32_lt, n32_eq, n32_add, n32_sub, n32_dec, n32_mul, n32_div, n32_irm, n32_lit, n32_oN, n32_ix, n32_m1, n32_m2, neg_le0, neg_lt0, neg_lt1, neg_le1, n32_min, n32_max, if_true, if_false, Nat.one_ne_zero, gd_some, true_or, or_true, false_or, or_false]
    exact key) h I
theorem op_flow {k : Nat} (hk : k < 512) : ∀ (h : HP) (a1 : Int32), Inv k h → ∃ (v : Int32) (h1 h2 : HP), f_X9_flow 1000 h 0 a1 = some (v, h1) ∧ f_X10_flow 1000 h1 188 a1 = some (v, h2) ∧ Inv (k + 1) h2 := fun h a1 I => d_op (fX := fun h => f_X9_flow 1000 h 0 a1) (fM := fun h => f_X10_flow 1000 h 188 a1) (fun sz r => aFlow a1 r) (fun sz r B hz rb zb => ok_flow rb zb) (fun b c sz r B nx u h s hz z cr rb hn hu e1 e2 => by
    have key := way_x (deed := fun h11 => bnd (rK h11 0 2 0) (fun t => f_X0_setFlow h11 t a1)) (a := aFlow a1 r) s hz z cr rb hn hu e1 e2 (fun h1 s1 z1 cr1 => by
      simp -implicitDefEqProofs (disch := omega) only [s1.root, bnd_s]
      exact flow_x (s1.co CL5) z1 cr1)
    unfold f_X9_flow
    simp -implicitDefEqProofs (disch := omega) only [s.root, gP_p, gP_t, bnd_s, bnd2_s, ltt_s, jn_s, n32_nat, n32_le, n32_lt, n32_eq, n32_add, n32_sub, n32_dec, n32_mul, n32_div, n32_irm, n32_lit, n32_oN, n32_ix, n32_m1, n32_m2, neg_le0, neg_lt0, neg_lt1, neg_le1, n32_min, n32_max, if_true, if_false, Nat.one_ne_zero, gd_some, true_or, or_true, false_or, or_false]
    simp only [bnd_bnd2]
    exact key) (fun b c sz r B u h s hz z mr rb hu e => by
    have key := way_m (deed := fun h11 => f_X10_flowsBy h11 188 a1) (a := aFlow a1 r) s z mr rb hu e (fun h1 s1 z1 mr1 => by
      exact flow_m s1 mr1)
    unfold f_X10_flow
    simp -implicitDefEqProofs (disch := omega) only [s.mod, gP_p, gP_t, bnd_s, bnd2_s, ltt_s, jn_s, n32_nat, n32_le, n32_lt, n32_eq, n32_add, n32_sub, n32_dec, n32_mul, n32_div, n32_irm, n32_lit, n32_oN, n32_ix, n32_m1, n32_m2, neg_le0, neg_lt0, neg_lt1, neg_le1, n32_min, n32_max, if_true, if_false, Nat.one_ne_zero, gd_some, true_or, or_true, false_or, or_false]
    exact key) h I
theorem op_port {k : Nat} (hk : k < 512) : ∀ (h : HP), Inv k h → ∃ (v : Int32) (h1 h2 : HP), f_X9_port 1000 h 0 = some (v, h1) ∧ f_X10_port 1000 h1 188 = some (v, h2) ∧ Inv (k + 1) h2 := fun h I => d_op (fX := fun h => f_X9_port 1000 h 0) (fM := fun h => f_X10_port 1000 h 188) (fun sz r => mPort r) (fun sz r B hz rb zb => ok_port rb zb) (fun b c sz r B nx u h s hz z cr rb hn hu e1 e2 => by
    have key := way_x (deed := fun h11 => bnd (rK h11 0 2 0) (fun t => f_X0_turnPort h11 t)) (a := mPort r) s hz z cr rb hn hu e1 e2 (fun h1 s1 z1 cr1 => by
      simp -implicitDefEqProofs (disch := omega) only [s1.root, bnd_s]
      exact port_x (s1.co CL5) z1 cr1 rb)
    unfold f_X9_port
    simp -implicitDefEqProofs (disch := omega) only [s.root, gP_p, gP_t, bnd_s, bnd2_s, ltt_s, jn_s, n32_nat, n32_le, n32_lt, n32_eq, n32_add, n32_sub, n32_dec, n32_mul, n32_div, n32_irm, n32_lit, n32_oN, n32_ix, n32_m1, n32_m2, neg_le0, neg_lt0, neg_lt1, neg_le1, n32_min, n32_max, if_true, if_false, Nat.one_ne_zero, gd_some, true_or, or_true, false_or, or_false]
    simp only [bnd_bnd2]
    exact key) (fun b c sz r B u h s hz z mr rb hu e => by
    have f0 : fr [50] h (setI h 188 0 (n32 0)) := (fr.rf _ _).sI rfl
    have b27 := rb.2.2.2.1
    unfold f_X10_port
    simp -implicitDefEqProofs (disch := omega) only [s.mod, gP_p, gP_t, bnd_s, bnd2_s, ltt_s, jn_s, n32_nat, n32_le, n32_lt, n32_eq, n32_add, n32_sub, n32_dec, n32_mul, n32_div, n32_irm, n32_lit, n32_oN, n32_ix, n32_m1, n32_m2, neg_le0, neg_lt0, neg_lt1, neg_le1, n32_min, n32_max, if_true, if_false, Nat.one_ne_zero, gd_some, true_or, or_true, false_or, or_false, gd_bnd]
    refine gd_mono (puts_m (by omega) hu (s.fr f0) (fun j hj => by rw [f0.ai [30] (by decide) 193 j rfl]; exact mr j hj) (by rw [f0.ai [26] (by decide) 188 25 rfl]; exact e)) ?_
    rintro h1 ⟨p1, p2, p3, f1⟩
    have f01 : fr [26, 50] h h1 := (f0.mono (by decide)).tr (f1.mono (by decide))
    have s1 := s.fr f01
    have m1 : MR h1 193 r := fun j hj => by rw [f01.ai [30] (by decide) 193 j rfl]; exact mr j hj
    have m27 := m1 27 (by omega)
    have f2 : fr [30] h1 (setI h1 193 27 (n32 (1 - r 27))) := (fr.rf _ _).sI rfl
    have f02 : fr [26, 30, 50] h (setI h1 193 27 (n32 (1 - r 27))) := (f01.mono (by decide)).tr (f2.mono (by decide))
    simp -implicitDefEqProofs (disch := omega) only [s1.mod, gP_p, gP_t, bnd_s, bnd2_s, ltt_s, jn_s, n32_nat, n32_le, n32_lt, n32_eq, n32_add, n32_sub, n32_dec, n32_mul, n32_div, n32_irm, n32_lit, n32_oN, n32_ix, n32_m1, n32_m2, neg_le0, neg_lt0, neg_lt1, neg_le1, n32_min, n32_max, if_true, if_false, Nat.one_ne_zero, gd_some, true_or, or_true, false_or, or_false, m27, sI_eq, sI_ne, sI_J, sI_R, sI_kO, sI_rK, sI_len, sJ_eq, sJ_ne, sJ_I, sJ_kO, sJ_rK, sJ_len, gd_bnd2]
    refine gd_mono (adds_m h hu (s1.fr f2) (by rw [f2.ai [26] (by decide) 188 25 rfl]; exact p1) (fun x hx => by rw [f2.ai [26] (by decide) 202 x rfl, p2 x hx, sI_ne (by omega)]) (fun j hj => by rw [f2.ai [26] (by decide) 202 _ rfl]; exact p3 j hj)) ?_
    rintro ⟨v3, h3⟩ ⟨g1, g2, g3⟩
    have pos : n32 0 ≤ (mPort r).1 := by
      show n32 0 ≤ n32 (1 - r 27)
      rw [n32_le (by omega) (by omega)]
      omega
    have mm : MR (setI h1 193 27 (n32 (1 - r 27))) 193 (mPort r).2 := mR_set m1
    exact ⟨g1, fun j hj => by rw [g3.ai [30] (by decide) 193 j rfl]; exact mm j hj, f02.tr (g3.mono (by decide)), fun _ => g2, fun z => absurd pos z⟩) h I
theorem op_brings {k : Nat} (hk : k < 512) : ∀ (h : HP) (a1 a2 a3 : Int32), Inv k h → ∃ (v : Int32) (h1 h2 : HP), f_X9_brings 1000 h 0 a1 a2 a3 = some (v, h1) ∧ f_X10_brings 1000 h1 188 a1 a2 a3 = some (v, h2) ∧ Inv (k + 1) h2 := fun h a1 a2 a3 I => d_op (fX := fun h => f_X9_brings 1000 h 0 a1 a2 a3) (fM := fun h => f_X10_brings 1000 h 188 a1 a2 a3) (fun sz r => aBring sz a1 a2 a3 r) (fun sz r B hz rb zb => ok_bring hz rb zb) (fun b c sz r B nx u h s hz z cr rb hn hu e1 e2 => by
    have key := way_x (deed := fun h11 => bnd (rK h11 0 2 0) (fun t => f_X0_bring h11 t a1 a2 a3)) (a := aBring sz a1 a2 a3 r) s hz z cr rb hn hu e1 e2 (fun h1 s1 z1 cr1 => by
      simp -implicitDefEqProofs (disch := omega) only [s1.root, bnd_s]
      exact bring_x (s1.co CL5) z1 hz cr1 rb)
    unfold f_X9_brings
    simp -implicitDefEqProofs (disch := omega) only [s.root, gP_p, gP_t, bnd_s, bnd2_s, ltt_s, jn_s, n32_nat, n32_le, n32_lt, n32_eq, n32_add, n32_sub, n32_dec, n32_mul, n32_div, n32_irm, n32_lit, n32_oN, n32_ix, n32_m1, n32_m2, neg_le0, neg_lt0, neg_lt1, neg_le1, n32_min, n32_max, if_true, if_false, Nat.one_ne_zero, gd_some, true_or, or_true, false_or, or_false]
    simp only [bnd_bnd2]
    exact key) (fun b c sz r B u h s hz z mr rb hu e => by
    have f0 : fr [50] h (setI h 188 0 (n32 0)) := (fr.rf _ _).sI rfl
    have z0 : (setI h 188 0 (n32 0)).2.1 188 3 = n32 sz := by rw [sI_ne (by omega)]; exact z
    have bad : ¬ mayP sz a1 a2 a3 → DM (aBring sz a1 a2 a3 r) h u r (-n32 1, setI h 188 0 (n32 0)) := fun q => by
      unfold aBring
      rw [aIf_n q]
      exact ⟨rfl, fun j hj => by rw [sI_ne (by omega)]; exact mr j hj, f0.mono (by decide), fun g => absurd (show n32 0 ≤ -n32 1 from g) (by decide), fun _ => ⟨by rw [sI_ne (by omega)]; exact e, fun x hx => by rw [sI_ne (by omega)]⟩⟩
    unfold f_X10_brings
    simp -implicitDefEqProofs (disch := omega) only [s.mod, gP_p, gP_t, bnd_s, bnd2_s, ltt_s, jn_s, n32_nat, n32_le, n32_lt, n32_eq, n32_add, n32_sub, n32_dec, n32_mul, n32_div, n32_irm, n32_lit, n32_oN, n32_ix, n32_m1, n32_m2, neg_le0, neg_lt0, neg_lt1, neg_le1, n32_min, n32_max, if_true, if_false, Nat.one_ne_zero, gd_some, true_or, or_true, false_or, or_false]
    by_cases q1 : 0 ≤ a1.toInt ∧ a1.toInt < (sz : Int)
    · by_cases q2 : 0 ≤ a2.toInt ∧ a2.toInt ≤ 1
      · by_cases q3 : 1 ≤ a3.toInt ∧ a3.toInt ≤ 9999
        · obtain ⟨m, kk, n, hm, hkk, hn1, hn2, e1, e2, e3, e4, e5, e6⟩ := may_nat (sz := sz) (x1 := a1) (x2 := a2) (x3 := a3) ⟨q1, q2, q3⟩ hz
          unfold aBring
          rw [aIf_y ⟨q1, q2, q3⟩, e4, e5, e6]
          have h2 := kindM_y q2
          have h3 := someM_y q3
          subst e1
          subst e2
          subst e3
          simp -implicitDefEqProofs (disch := omega) only [gP_p, gP_t, bnd_s, bnd2_s, ltt_s, jn_s, n32_nat, n32_le, n32_lt, n32_eq, n32_add, n32_sub, n32_dec, n32_mul, n32_div, n32_irm, n32_lit, n32_oN, n32_ix, n32_m1, n32_m2, neg_le0, neg_lt0, neg_lt1, neg_le1, n32_min, n32_max, if_true, if_false, Nat.one_ne_zero, gd_some, true_or, or_true, false_or, or_false, isMz_y (s.fr f0) z0 hz hm, h2, h3, gd_bnd]
          refine gd_mono (puts_m (by omega) hu (s.fr f0) (fun j hj => by rw [f0.ai [30] (by decide) 193 j rfl]; exact mr j hj) (by rw [f0.ai [26] (by decide) 188 25 rfl]; exact e)) ?_
          rintro h1 ⟨p1, p2, p3, f1⟩
          have f01 : fr [26, 50] h h1 := (f0.mono (by decide)).tr (f1.mono (by decide))
          have s1 := s.fr f01
          have m1 : MR h1 193 r := fun j hj => by rw [f01.ai [30] (by decide) 193 j rfl]; exact mr j hj
          have mj := m1 (6 * kk + m) (by omega)
          have bj := rb.1 (6 * kk + m) (by omega)
          have f2 : fr [30] h1 (setI h1 193 (6 * kk + m) (n32 (min 99999 (r (6 * kk + m) + n)))) := (fr.rf _ _).sI rfl
          have f02 : fr [26, 30, 50] h (setI h1 193 (6 * kk + m) (n32 (min 99999 (r (6 * kk + m) + n)))) := (f01.mono (by decide)).tr (f2.mono (by decide))
          simp -implicitDefEqProofs (disch := omega) only [s1.mod, gP_p, gP_t, bnd_s, bnd2_s, ltt_s, jn_s, n32_nat, n32_le, n32_lt, n32_eq, n32_add, n32_sub, n32_dec, n32_mul, n32_div, n32_irm, n32_lit, n32_oN, n32_ix, n32_m1, n32_m2, neg_le0, neg_lt0, neg_lt1, neg_le1, n32_min, n32_max, if_true, if_false, Nat.one_ne_zero, gd_some, true_or, or_true, false_or, or_false, f_X10_at, mj, sI_eq, sI_ne, sI_J, sI_R, sI_kO, sI_rK, sI_len, sJ_eq, sJ_ne, sJ_I, sJ_kO, sJ_rK, sJ_len, gd_bnd2]
          refine gd_mono (adds_m h hu (s1.fr f2) (by rw [f2.ai [26] (by decide) 188 25 rfl]; exact p1) (fun x hx => by rw [f2.ai [26] (by decide) 202 x rfl, p2 x hx, sI_ne (by omega)]) (fun j hj => by rw [f2.ai [26] (by decide) 202 _ rfl]; exact p3 j hj)) ?_
          rintro ⟨v3, h3⟩ ⟨g1, g2, g3⟩
          have pos : n32 0 ≤ (mBring m kk n r).1 := by
            show n32 0 ≤ n32 (min 99999 (r (6 * kk + m) + n))
            rw [n32_le (by omega) (by omega)]
            omega
          have mm : MR (setI h1 193 (6 * kk + m) (n32 (min 99999 (r (6 * kk + m) + n)))) 193 (mBring m kk n r).2 := mR_set m1
          exact ⟨g1, fun j hj => by rw [g3.ai [30] (by decide) 193 j rfl]; exact mm j hj, f02.tr (g3.mono (by decide)), fun _ => g2, fun z => absurd pos z⟩
        · obtain ⟨m, hm, rfl⟩ := n32_of q1.1 q1.2
          simp -implicitDefEqProofs (disch := omega) only [gP_p, gP_t, bnd_s, bnd2_s, ltt_s, jn_s, n32_nat, n32_le, n32_lt, n32_eq, n32_add, n32_sub, n32_dec, n32_mul, n32_div, n32_irm, n32_lit, n32_oN, n32_ix, n32_m1, n32_m2, neg_le0, neg_lt0, neg_lt1, neg_le1, n32_min, n32_max, if_true, if_false, Nat.one_ne_zero, gd_some, true_or, or_true, false_or, or_false, isMz_y (s.fr f0) z0 hz hm, kindM_y q2, someM_n q3]
          exact bad (fun a => q3 a.2.2)
      · obtain ⟨m, hm, rfl⟩ := n32_of q1.1 q1.2
        simp -implicitDefEqProofs (disch := omega) only [gP_p, gP_t, bnd_s, bnd2_s, ltt_s, jn_s, n32_nat, n32_le, n32_lt, n32_eq, n32_add, n32_sub, n32_dec, n32_mul, n32_div, n32_irm, n32_lit, n32_oN, n32_ix, n32_m1, n32_m2, neg_le0, neg_lt0, neg_lt1, neg_le1, n32_min, n32_max, if_true, if_false, Nat.one_ne_zero, gd_some, true_or, or_true, false_or, or_false, isMz_y (s.fr f0) z0 hz hm, kindM_n q2]
        exact bad (fun a => q2 a.2.1)
    · simp -implicitDefEqProofs (disch := omega) only [gP_p, gP_t, bnd_s, bnd2_s, ltt_s, jn_s, n32_nat, n32_le, n32_lt, n32_eq, n32_add, n32_sub, n32_dec, n32_mul, n32_div, n32_irm, n32_lit, n32_oN, n32_ix, n32_m1, n32_m2, neg_le0, neg_lt0, neg_lt1, neg_le1, n32_min, n32_max, if_true, if_false, Nat.one_ne_zero, gd_some, true_or, or_true, false_or, or_false, isMz_n (s.fr f0) z0 hz q1]
      exact bad (fun a => q1 a.1)) h I
