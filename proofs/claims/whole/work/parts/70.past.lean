/-! ===== months, undo, keep, again ===== -/
theorem op_months {k : Nat} (hk : k < 512) : ∀ (h : HP) (a1 : Int32), Inv k h → ∃ (v : Int32) (h1 h2 : HP), f_X9_months 1000 h 0 a1 = some (v, h1) ∧ f_X10_months 1000 h1 188 a1 = some (v, h2) ∧ Inv (k + 1) h2 := by
  intro h a1 I
  obtain ⟨b, c, sz, iv⟩ := I
  obtain ⟨a0, a1', a2, a3, a4, a5, a6, a7, a8, a9, a10⟩ := id iv
  obtain ⟨z1, z2, z3⟩ := a1'
  obtain ⟨r, r1, r2, r3, r4⟩ := a4
  obtain ⟨g, g1, g2, g3⟩ := a5
  obtain ⟨F, f1, f2, f3⟩ := a6
  obtain ⟨L, l1, l2, l3⟩ := a7
  obtain ⟨nx, u, pn, pe⟩ := a8
  obtain ⟨p1, p2, p3, p4, p5⟩ := id pn
  have hB : 300 * k ≤ 300 * (k + 1) := by omega
  have th : fr [50] h (setI h 188 0 (n32 0)) := (fr.rf _ _).sI rfl
  by_cases q : 0 ≤ a1.toInt ∧ a1.toInt ≤ 60
  · obtain ⟨n, -, hn, rfl⟩ := n32_of2 (lo := 0) (hi := 60) q.1 q.2
    have wy : f_X9_within (n32 n) (n32 0) (n32 60) = some (n32 1) := within_y q
    have iy := in_y (x := n32 n) (lo := 0) (hi := 60) (a := 0) (b := 60) rfl rfl q
    have okw : wOK (b, c, sz, mMons sz F n r, g, F, L, 300 * k + n) := ⟨z1, r3.mons n, r4.mons n, g3, f3, l3, by show 300 * k + n ≤ 200000; omega⟩
    have hl := lds_le (sz := sz) f3 n (r := r)
    have X : ∃ (l' : List Int64), gd (f_X9_months 1000 h 0 (n32 n)) (fun p => p.1 = (if sz = 0 then n32 0 else n32 (prc L g (mMons sz F n r) 0)) ∧ CR p.2 5 (mMons sz F n r) ∧ p.2.2.1 5 2 = n32 sz ∧ PuX h p.2 nx u sz r ∧ RowX p.2 l' ∧ fr [2, 3, 4, 6, 17, 19] h p.2) ∧
        (∀ h1, SH b c h1 → h1.2.1 188 3 = n32 sz → MR h1 193 r → h1.2.1 188 25 = n32 u → MF h1 F → GM h1 sz g → RuM h1 L → gd (f_X10_months 1000 h1 188 (n32 n)) (fun p => p.1 = (if sz = 0 then n32 0 else n32 (prc L g (mMons sz F n r) 0)) ∧ MR p.2 193 (mMons sz F n r) ∧ PuM h1 p.2 u r ∧ RowM p.2 l' ∧ fr [22, 26, 30, 32, 41, 47, 50] h1 p.2)) := by
      refine ⟨[(n32 (mLds sz F n r)).toInt64, if sz = 0 then 0 else (n32 (prc L g (mMons sz F n r) (sz - 1))).toInt64], ?_, ?_⟩
      · obtain ⟨e1, e2, e3, e4, e5, e6, e7⟩ := fl_rc b
        unfold f_X9_months
        simp -implicitDefEqProofs (disch := omega) only [a0.root, gP_p, gP_t, bnd_s, bnd2_s, ltt_s, jn_s, n32_nat, n32_le, n32_lt, n32_eq, n32_add, n32_sub, n32_dec, n32_mul, n32_div, n32_irm, n32_lit, n32_oN, n32_ix, n32_m1, n32_m2, neg_le0, neg_lt0, neg_lt1, neg_le1, n32_min, n32_max, if_true, if_false, Nat.one_ne_zero, gd_some, true_or, or_true, false_or, or_false, wy, gd_bnd]
        refine gd_mono (become_y (N := 997) (a0.co (show CL.contains 12 = true by decide)) (a0.co CL5) (by omega) r1 r3.2.2.2.1) ?_
        rintro h1 ⟨c1, c2, c3, -⟩
        have c3' : fr [4] h h1 := c3
        have s1 := a0.fr c3'
        simp -implicitDefEqProofs (disch := omega) only [s1.root, gP_p, gP_t, bnd_s, bnd2_s, ltt_s, jn_s, n32_nat, n32_le, n32_lt, n32_eq, n32_add, n32_sub, n32_dec, n32_mul, n32_div, n32_irm, n32_lit, n32_oN, n32_ix, n32_m1, n32_m2, neg_le0, neg_lt0, neg_lt1, neg_le1, n32_min, n32_max, if_true, if_false, Nat.one_ne_zero, gd_some, true_or, or_true, false_or, or_false, gd_bnd2]
        refine gd_mono (pass_y (n := n) (by omega) (by omega) z1 f3 (by omega) e5 e6 e7 e4 (s1.co CL5) (s1.flc b) (by rw [c3'.ai [3] (by decide) 5 2 rfl]; exact z2) (cr_frc r1 rfl (by omega) rc5 c3' (by decide)) (f1.fr c3' (by cases b <;> decide)) r3 (by omega)) ?_
        rintro ⟨v2, h2⟩ ⟨d1, d2, d3, d4⟩
        have d1' : v2 = n32 (mLds sz F n r) := d1
        subst d1'
        have d3' : fr [3] h1 h2 := d3
        have f12 : fr [3, 4] h h2 := (c3'.mono (by decide)).tr (d3'.mono (by decide))
        have s2 := a0.fr f12
        simp -implicitDefEqProofs (disch := omega) only [s2.root, gP_p, gP_t, bnd_s, bnd2_s, ltt_s, jn_s, n32_nat, n32_le, n32_lt, n32_eq, n32_add, n32_sub, n32_dec, n32_mul, n32_div, n32_irm, n32_lit, n32_oN, n32_ix, n32_m1, n32_m2, neg_le0, neg_lt0, neg_lt1, neg_le1, n32_min, n32_max, if_true, if_false, Nat.one_ne_zero, gd_some, true_or, or_true, false_or, or_false, gd_bnd]
        refine gd_mono (put_x (N := 997) s2 p2 p1 (by rw [f12.ai [6] (by decide) 26 1 rfl]; exact p3) (by rw [f12.ai [6] (by decide) 26 2 rfl]; exact p4) (cr_frc c1 (q := 4) rfl (by omega) (fun i hi => by
          match i, hi with
          | 0, _ => rfl
          | 1, _ => rfl
          | 2, _ => rfl
          | 3, _ => rfl
          | 4, _ => rfl
          | 5, _ => rfl
          | 6, _ => rfl) d3' (by decide)) (by rw [d3'.ai [4] (by decide) 12 2 rfl, c2]; exact z2) r3.2.2.2.1) ?_
        rintro h3 ⟨⟨x1, x2, x3, x4, x5⟩, f3'⟩
        have f13 : fr [3, 4, 6] h h3 := (f12.mono (by decide)).tr (f3'.mono (by decide))
        have s3 := a0.fr f13
        have pux : PuX h h3 nx u sz r := ⟨x1, x2, x3, x4, fun p hp hne i j hi => by
          rw [x5 p hp hne i j hi]
          exact f12.ai [6] (by decide) _ j (by rw [reg_c (by omega), rcp hp hi]; rfl)⟩
        have cr3 := cr_frc d2 rfl (by omega) rc5 f3' (by decide)
        have z3' : h3.2.1 5 2 = n32 sz := by rw [f3'.ai [3] (by decide) 5 2 rfl]; exact d4
        have xv3 : XV (b, c, sz, mMons sz F n r, g, F, L, 300 * k + n) h3 := ⟨s3, z3', cr3, fun m hm => by rw [f13.ai [8] (by decide) 155 m rfl]; exact g1 m hm, f1.fr f13 (by cases b <;> decide), l1.fr f13 (by cases c <;> decide)⟩
        have pk : ∀ h4, fr [2, 17, 19] h3 h4 → PuX h h4 nx u sz r ∧ CR h4 5 (mMons sz F n r) ∧ h4.2.1 5 2 = n32 sz := fun h4 f4 => by
          have e6' : ∀ a j, reg a j = 6 → h4.2.1 a j = h3.2.1 a j := fun a j e => f4.ai [6] (by decide) a j (by rw [e]; rfl)
          obtain ⟨y1, y2, y3, y4, y5⟩ := pux
          exact ⟨⟨(e6' 26 1 rfl).trans y1, (e6' 26 2 rfl).trans y2, y3.same fun i hi => funext fun j => e6' _ j (by rw [reg_c (by omega), rcp p2 hi]), (e6' _ 2 (by rw [reg_c (by omega)]; exact rcp (i := 0) p2 (by omega))).trans y4, fun p hp hne i j hi => by rw [e6' _ j (by rw [reg_c (by omega), rcp hp hi])]; exact y5 p hp hne i j hi⟩, cr_frc cr3 rfl (by omega) rc5 f4 (by decide), by rw [f4.ai [3] (by decide) 5 2 rfl]; exact z3'⟩
        by_cases qz : sz = 0
        · rw [if_pos qz, if_pos qz]
          simp -implicitDefEqProofs (disch := omega) only [s3.root, gP_p, gP_t, bnd_s, bnd2_s, ltt_s, jn_s, n32_nat, n32_le, n32_lt, n32_eq, n32_add, n32_sub, n32_dec, n32_mul, n32_div, n32_irm, n32_lit, n32_oN, n32_ix, n32_m1, n32_m2, neg_le0, neg_lt0, neg_lt1, neg_le1, n32_min, n32_max, if_true, if_false, Nat.one_ne_zero, gd_some, true_or, or_true, false_or, or_false, z3', qz, gd_bnd]
          refine gd_mono (tell2_x s3) ?_
          rintro h4 ⟨t1, t2⟩
          obtain ⟨k1, k2, k3⟩ := pk h4 (t2.mono (by decide))
          rw [qz] at k1 k2 k3
          exact ⟨trivial, k2, k3, k1, t1, (f13.mono (by decide)).tr (t2.mono (by decide))⟩
        · rw [if_neg qz, if_neg qz]
          simp -implicitDefEqProofs (disch := omega) only [s3.root, gP_p, gP_t, bnd_s, bnd2_s, ltt_s, jn_s, n32_nat, n32_le, n32_lt, n32_eq, n32_add, n32_sub, n32_dec, n32_mul, n32_div, n32_irm, n32_lit, n32_oN, n32_ix, n32_m1, n32_m2, neg_le0, neg_lt0, neg_lt1, neg_le1, n32_min, n32_max, if_true, if_false, Nat.one_ne_zero, gd_some, true_or, or_true, false_or, or_false, z3', qz, gd_bnd2, gd_bnd]
          refine gd_mono (x_now (m := sz - 1) (by omega) okw xv3 (by show sz - 1 < sz; omega)) ?_
          rintro ⟨v4, h4⟩ ⟨t1, t2⟩
          have t1' : v4 = n32 (prc L g (mMons sz F n r) (sz - 1)) := t1
          subst t1'
          refine gd_mono (tell2_x (s3.fr t2)) ?_
          rintro h5 ⟨u1, u2⟩
          have f35 : fr [2, 17, 19] h3 h5 := (t2.mono (by decide)).tr (u2.mono (by decide))
          simp -implicitDefEqProofs (disch := omega) only [(s3.fr f35).root, gP_p, gP_t, bnd_s, bnd2_s, ltt_s, jn_s, n32_nat, n32_le, n32_lt, n32_eq, n32_add, n32_sub, n32_dec, n32_mul, n32_div, n32_irm, n32_lit, n32_oN, n32_ix, n32_m1, n32_m2, neg_le0, neg_lt0, neg_lt1, neg_le1, n32_min, n32_max, if_true, if_false, Nat.one_ne_zero, gd_some, true_or, or_true, false_or, or_false, gd_bnd2]
          refine gd_mono (x_now (m := 0) (by omega) okw (xv3.fr f35 (by decide)) (by show 0 < sz; omega)) ?_
          rintro ⟨v6, h6⟩ ⟨w1, w2⟩
          have f36 : fr [2, 17, 19] h3 h6 := f35.tr (w2.mono (by decide))
          obtain ⟨k1, k2, k3⟩ := pk h6 f36
          exact ⟨w1, k2, k3, k1, u1.fr w2 (by decide), (f13.mono (by decide)).tr (f36.mono (by decide))⟩
      · intro h1 s0 zz mm e25 mf gm ru
        have f0 : fr [50] h1 (setI h1 188 0 (n32 0)) := (fr.rf _ _).sI rfl
        unfold f_X10_months
        simp -implicitDefEqProofs (disch := omega) only [s0.mod, gP_p, gP_t, bnd_s, bnd2_s, ltt_s, jn_s, n32_nat, n32_le, n32_lt, n32_eq, n32_add, n32_sub, n32_dec, n32_mul, n32_div, n32_irm, n32_lit, n32_oN, n32_ix, n32_m1, n32_m2, neg_le0, neg_lt0, neg_lt1, neg_le1, n32_min, n32_max, if_true, if_false, Nat.one_ne_zero, gd_some, true_or, or_true, false_or, or_false, iy, gd_bnd]
        refine gd_mono (puts_m (by omega) p1 (s0.fr f0) (fun j hj => by rw [f0.ai [30] (by decide) 193 j rfl]; exact mm j hj) (by rw [f0.ai [26] (by decide) 188 25 rfl]; exact e25)) ?_
        rintro h2 ⟨o1, o2, o3, f2'⟩
        have f4 : fr [41] h2 (setI h2 188 27 (n32 0)) := (fr.rf _ _).sI rfl
        have f03 : fr [26, 41, 50] h1 (setI h2 188 27 (n32 0)) := ((f0.mono (by decide)).tr (f2'.mono (by decide))).tr (f4.mono (by decide))
        have s3 := s0.fr f03
        simp -implicitDefEqProofs (disch := omega) only [s3.mod, gP_p, gP_t, bnd_s, bnd2_s, ltt_s, jn_s, n32_nat, n32_le, n32_lt, n32_eq, n32_add, n32_sub, n32_dec, n32_mul, n32_div, n32_irm, n32_lit, n32_oN, n32_ix, n32_m1, n32_m2, neg_le0, neg_lt0, neg_lt1, neg_le1, n32_min, n32_max, if_true, if_false, Nat.one_ne_zero, gd_some, true_or, or_true, false_or, or_false, gd_bnd]
        refine gd_mono (goes_y (n := n) (F := F) (r := r) (by omega) (by omega) (Or.inl rfl) z1 f3 (by omega) r3 (by omega) s3 (by rw [f03.ai [23] (by decide) 188 3 rfl]; exact zz) (fun j hj => by rw [f03.ai [30] (by decide) 193 j rfl]; exact mm j hj) (mf.fr f03 (by decide))) ?_
        rintro h5 ⟨m5, f5, l5⟩
        have f5' : fr [41, 47, 30] (setI h2 188 27 (n32 0)) h5 := f5
        rw [sI_eq, n32_add, Nat.zero_add] at l5
        have f05 : fr [26, 30, 41, 47, 50] h1 h5 := (f03.mono (by decide)).tr (f5'.mono (by decide))
        obtain ⟨rm0, f6⟩ := rowM_0 (h := h5)
        have s6 := (s0.fr f05).fr f6
        have l6 : (setI h5 188 1 (n32 0)).2.1 188 27 = n32 (mLds sz F n r) := by rw [sI_ne (by omega)]; exact l5
        simp -implicitDefEqProofs (disch := omega) only [s6.mod, gP_p, gP_t, bnd_s, bnd2_s, ltt_s, jn_s, n32_nat, n32_le, n32_lt, n32_eq, n32_add, n32_sub, n32_dec, n32_mul, n32_div, n32_irm, n32_lit, n32_oN, n32_ix, n32_m1, n32_m2, neg_le0, neg_lt0, neg_lt1, neg_le1, n32_min, n32_max, if_true, if_false, Nat.one_ne_zero, gd_some, true_or, or_true, false_or, or_false, l6, gd_bnd]
        refine gd_mono (ent_m s6 rm0 (by show 0 < 24; omega)) ?_
        rintro h7 ⟨rm7, f7⟩
        have f07 : fr [22, 26, 30, 41, 47, 50] h1 h7 := ((f05.mono (by decide)).tr (f6.mono (by decide))).tr (f7.mono (by decide))
        have s7 := s0.fr f07
        have z7 : h7.2.1 188 3 = n32 sz := by rw [f07.ai [23] (by decide) 188 3 rfl]; exact zz
        have f57 : fr [22] h5 h7 := f6.tr f7
        have m7 : MR h7 193 (mMons sz F n r) := fun j hj => by rw [f57.ai [30] (by decide) 193 j rfl]; exact m5 j hj
        have mv7 : MV (b, c, sz, mMons sz F n r, g, F, L, 300 * k + n) h7 := ⟨s7, z7, m7, fun m hm => by rw [f07.ai [29] (by decide) 192 m rfl]; exact gm m hm, mf.fr f07 (by decide), ru.fr f07 (by decide)⟩
        have f57b : fr [22, 30, 41, 47, 50] h2 h7 := ((f4.mono (by decide)).tr (f5'.mono (by decide))).tr (f57.mono (by decide))
        have last : ∀ h8 x l, fr [22, 32] h7 h8 → RowM h8 l → gd (f_X10_adds 1000 h8 188 x) (fun p => p.1 = x ∧ MR p.2 193 (mMons sz F n r) ∧ PuM h1 p.2 u r ∧ RowM p.2 l ∧ fr [22, 26, 30, 32, 41, 47, 50] h1 p.2) := fun h8 x l f8 rm8 => by
          have f28 : fr [22, 30, 32, 41, 47, 50] h2 h8 := (f57b.mono (by decide)).tr (f8.mono (by decide))
          refine gd_mono (adds_m h1 p1 (s7.fr f8) (by rw [f28.ai [26] (by decide) 188 25 rfl]; exact o1) (fun x hx => by rw [f28.ai [26] (by decide) 202 x rfl, o2 x hx, sI_ne (by omega)]) (fun j hj => by rw [f28.ai [26] (by decide) 202 _ rfl]; exact o3 j hj)) ?_
          rintro ⟨v9, h9⟩ ⟨i1, i2, i3⟩
          exact ⟨i1, fun j hj => by rw [i3.ai [30] (by decide) 193 j rfl, f8.ai [30] (by decide) 193 j rfl]; exact m7 j hj, i2, rm8.fr i3 (by decide), ((f07.mono (by decide)).tr (f8.mono (by decide))).tr (i3.mono (by decide))⟩
        by_cases qz : sz = 0
        · rw [if_pos qz, if_pos qz]
          have z7' : h7.2.1 188 3 = n32 0 := by rw [z7, qz]
          simp -implicitDefEqProofs (disch := omega) only [s7.mod, gP_p, gP_t, bnd_s, bnd2_s, ltt_s, jn_s, n32_nat, n32_le, n32_lt, n32_eq, n32_add, n32_sub, n32_dec, n32_mul, n32_div, n32_irm, n32_lit, n32_oN, n32_ix, n32_m1, n32_m2, neg_le0, neg_lt0, neg_lt1, neg_le1, n32_min, n32_max, if_true, if_false, Nat.one_ne_zero, gd_some, true_or, or_true, false_or, or_false, z7', gd_bnd]
          refine gd_mono (ent_m s7 rm7 (by show 1 < 24; omega)) ?_
          rintro h8 ⟨rm8, f8⟩
          have z8 : h8.2.1 188 3 = n32 0 := by rw [f8.ai [23] (by decide) 188 3 rfl]; exact z7'
          simp -implicitDefEqProofs (disch := omega) only [(s7.fr f8).mod, gP_p, gP_t, bnd_s, bnd2_s, ltt_s, jn_s, n32_nat, n32_le, n32_lt, n32_eq, n32_add, n32_sub, n32_dec, n32_mul, n32_div, n32_irm, n32_lit, n32_oN, n32_ix, n32_m1, n32_m2, neg_le0, neg_lt0, neg_lt1, neg_le1, n32_min, n32_max, if_true, if_false, Nat.one_ne_zero, gd_some, true_or, or_true, false_or, or_false, z8, gd_bnd2]
          exact last h8 _ _ (f8.mono (by decide)) rm8
        · rw [if_neg qz, if_neg qz]
          simp -implicitDefEqProofs (disch := omega) only [s7.mod, gP_p, gP_t, bnd_s, bnd2_s, ltt_s, jn_s, n32_nat, n32_le, n32_lt, n32_eq, n32_add, n32_sub, n32_dec, n32_mul, n32_div, n32_irm, n32_lit, n32_oN, n32_ix, n32_m1, n32_m2, neg_le0, neg_lt0, neg_lt1, neg_le1, n32_min, n32_max, if_true, if_false, Nat.one_ne_zero, gd_some, true_or, or_true, false_or, or_false, z7, qz, gd_bnd, gd_bnd2]
          refine gd_mono (m_now (m := sz - 1) (by omega) okw mv7 (by show sz - 1 < sz; omega)) ?_
          rintro ⟨v8, h8⟩ ⟨t1, t2⟩
          have t1' : v8 = n32 (prc L g (mMons sz F n r) (sz - 1)) := t1
          subst t1'
          refine gd_mono (ent_m (s7.fr t2) (rm7.fr t2 (by decide)) (by show 1 < 24; omega)) ?_
          rintro h9 ⟨rm9, f9⟩
          have f79 : fr [22, 32] h7 h9 := (t2.mono (by decide)).tr (f9.mono (by decide))
          have z9 : h9.2.1 188 3 = n32 sz := by rw [f79.ai [23] (by decide) 188 3 rfl]; exact z7
          simp -implicitDefEqProofs (disch := omega) only [(s7.fr f79).mod, gP_p, gP_t, bnd_s, bnd2_s, ltt_s, jn_s, n32_nat, n32_le, n32_lt, n32_eq, n32_add, n32_sub, n32_dec, n32_mul, n32_div, n32_irm, n32_lit, n32_oN, n32_ix, n32_m1, n32_m2, neg_le0, neg_lt0, neg_lt1, neg_le1, n32_min, n32_max, if_true, if_false, Nat.one_ne_zero, gd_some, true_or, or_true, false_or, or_false, z9, qz, gd_bnd2]
          refine gd_mono (m_now (m := 0) (by omega) okw (mv7.fr f79 (by decide)) (by show 0 < sz; omega)) ?_
          rintro ⟨v10, h10⟩ ⟨w1, w2⟩
          have w1' : v10 = n32 (prc L g (mMons sz F n r) 0) := w1
          subst w1'
          exact last h10 _ _ (f79.tr (w2.mono (by decide))) (rm9.fr w2 (by decide))
    obtain ⟨l', X1, X2⟩ := X
    obtain ⟨⟨v, h1⟩, q1, q2, q3, q4, q5, q6, q7⟩ := X1
    obtain ⟨⟨v2, h2⟩, t1, t2, t3, t4, t5, t6⟩ := X2 h1 (a0.fr q7) (by rw [q7.ai [23] (by decide) 188 3 rfl]; exact z3) (fun j hj => by rw [q7.ai [30] (by decide) 193 j rfl]; exact r2 j hj) (by rw [q7.ai [26] (by decide) 188 25 rfl]; exact p5) (f2.fr q7 (by decide)) (fun m hm => by rw [q7.ai [29] (by decide) 192 m rfl]; exact g2 m hm) (l2.fr q7 (by decide))
    have ev : v = v2 := q2.trans t2.symm
    subst ev
    refine ⟨_, h1, h2, q1, t1, b, c, sz, iv.st hB ((q7.mono (by decide)).tr (t6.mono (by decide))) (by rw [t6.ai [3] (by decide) 5 2 rfl]; exact q4) ⟨l', q6.fr t6 (by decide), t5⟩ ⟨_, cr_frc q3 rfl (by omega) rc5 t6 (by decide), t3, (r3.mons n).mo (by omega), r4.mons n⟩ ?_⟩
    exact pas_push hB pn pe (r3.mo hB) r4 q5 (fun a j e => t6.ai [6] (by decide) a j (by rw [e]; rfl)) (fun j => q7.ai [26] (by decide) 202 j rfl) t4
  · have wn : f_X9_within a1 (n32 0) (n32 60) = some (n32 0) := within_n q
    have inn := in_n (x := a1) (lo := 0) (hi := 60) (a := 0) (b := 60) rfl rfl q
    refine ⟨-n32 1, h, setI h 188 0 (n32 0), ?_, ?_, ?_⟩
    · unfold f_X9_months
      simp -implicitDefEqProofs (disch := omega) only [a0.root, gP_p, gP_t, bnd_s, bnd2_s, ltt_s, jn_s, n32_nat, n32_le, n32_lt, n32_eq, n32_add, n32_sub, n32_dec, n32_mul, n32_div, n32_irm, n32_lit, n32_oN, n32_ix, n32_m1, n32_m2, neg_le0, neg_lt0, neg_lt1, neg_le1, n32_min, n32_max, if_true, if_false, Nat.one_ne_zero, gd_some, true_or, or_true, false_or, or_false, wn]
    · unfold f_X10_months
      simp -implicitDefEqProofs (disch := omega) only [a0.mod, gP_p, gP_t, bnd_s, bnd2_s, ltt_s, jn_s, n32_nat, n32_le, n32_lt, n32_eq, n32_add, n32_sub, n32_dec, n32_mul, n32_div, n32_irm, n32_lit, n32_oN, n32_ix, n32_m1, n32_m2, neg_le0, neg_lt0, neg_lt1, neg_le1, n32_min, n32_max, if_true, if_false, Nat.one_ne_zero, gd_some, true_or, or_true, false_or, or_false, inn]
    · exact Iv.up (iv.q0 (th.mono (by decide)))
