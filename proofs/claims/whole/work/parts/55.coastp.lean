/-! ===== a coast's methods: drift, pass, deeds ===== -/
def xt (t : Nat) : Int32 := n32 t - n32 1
theorem xt_neg {sz : Nat} : xt sz + -n32 1 = n32 sz - n32 2 := by
  unfold xt
  rw [← Int32.sub_eq_add_neg, Int32.sub_sub, n32_add]
theorem xt_s (t : Nat) : xt (t + 1) = n32 t := n32_sub (by omega)
theorem xt_lt : ((xt 0) < n32 0) = True := eq_true (by decide)
theorem drift_loop {N c sz k : Nat} {r : Nat → Nat} (hk : k < 2) (hz : sz ≤ 6) {B : Nat} (rb : RBm B r) : ∀ (t : Nat) (fuel : Nat) (h : HP), t < sz → t < fuel → CO h c → h.2.1 c 2 = n32 sz → CR h c (dRow sz k r t) →
    gd (lp (fun _ _ => none) (f_X0_drift_B7 N c (n32 k)) fuel (xt t) h) (fun h' => CR h' c (mDr sz k r) ∧ fr [rc c] h h' ∧ h'.2.1 c 2 = n32 sz) := by
  obtain ⟨rb1, rb2, rb3, rb4, rb5⟩ := rb
  intro t
  induction t with
  | zero =>
    intro fuel h ht hf co z s
    obtain ⟨n, rfl⟩ : ∃ n, fuel = n + 1 := ⟨fuel - 1, by omega⟩
    simp only [lp_s, f_X0_drift_B7, n32_nat, n32_le, n32_lt, n32_eq, n32_add, n32_sub, n32_dec, n32_mul, n32_div, n32_irm, n32_lit, n32_ix, n32_m1, n32_m2, neg_le0, neg_lt0, neg_lt1, neg_le1, n32_min, n32_max, xt_lt, if_true, gd_some]
    exact ⟨s.ext fun j hj => (dRow_0 rb1 hk j).symm, fr.rf _ _, z⟩
  | succ t ih =>
    intro fuel h ht hf co z s
    obtain ⟨n, rfl⟩ : ∃ n, fuel = n + 1 := ⟨fuel - 1, by omega⟩
    have co' := co
    obtain ⟨c0, c1, c2, c3, c4, c5, c6, c7, c8, c9⟩ := co
    obtain ⟨s0, s1, s2, s3, s4, s5⟩ := id s
    have v0 := s0 k t hk (by omega)
    have v1 := s0 k (t + 1) hk (by omega)
    have d0 : dRow sz k r (t + 1) (6 * k + t) = r (6 * k + t) := by
      unfold dRow
      rw [if_pos (by omega), if_neg (by omega), if_neg (by omega)]
    have d1 : dRow sz k r (t + 1) (6 * k + (t + 1)) = r (6 * k + (t + 1)) - flw sz r (6 * k + (t + 1)) := by
      unfold dRow
      rw [if_pos (by omega), if_neg (by omega), if_pos rfl]
    have d2 : dRow sz k r (t + 1) 24 = r 24 := by
      unfold dRow
      rw [if_neg (by omega)]
    rw [d0] at v0
    rw [d1] at v1
    rw [d2] at s2
    have b0 := rb1 (6 * k + t) (by omega)
    have b1 := rb1 (6 * k + (t + 1)) (by omega)
    have b2 : r (6 * k + t) * r 24 ≤ 99999 * 9 := Nat.mul_le_mul b0 rb2
    have b3 : flw sz r (6 * k + t) = r (6 * k + t) * r 24 / 10 := by
      unfold flw
      rw [if_pos (by omega)]
    have b4 := flw_le (sz := sz) (j := 6 * k + t) rb2
    rw [xt_s]
    have f1 : fr [rc c] h (setI h (c + 2 + k) t (n32 (r (6 * k + t) - flw sz r (6 * k + t)))) := by
      refine (fr.rf _ _).sI ?_
      rw [show c + 2 + k = c + (2 + k) by omega]
      exact co'.in1 (by omega)
    have sA : CR (setI h (c + 2 + k) t (n32 (r (6 * k + t) - flw sz r (6 * k + t)))) c _ := s.set hk (by omega)
    have vA : (setI h (c + 2 + k) t (n32 (r (6 * k + t) - flw sz r (6 * k + t)))).2.1 (c + 2 + k) (t + 1) = n32 (r (6 * k + (t + 1)) - flw sz r (6 * k + (t + 1))) := by
      rw [sI_ne (by omega)]
      exact v1
    have zA : (setI h (c + 2 + k) t (n32 (r (6 * k + t) - flw sz r (6 * k + t)))).2.1 c 2 = n32 sz := by
      rw [sI_ne (by omega)]
      exact z
    have ay := add_y (n := flw sz r (6 * k + t)) (co'.fr f1) zA hz (by omega) hk vA (by omega)
    simp (disch := omega) only [lp_s, f_X0_drift_B7, n32_nat, n32_le, n32_lt, n32_eq, n32_add, n32_sub, n32_dec, n32_mul, n32_div, n32_irm, n32_lit, n32_ix, n32_m1, n32_m2, neg_le0, neg_lt0, neg_lt1, neg_le1, n32_min, n32_max, gP_p, gd_bnd, gd_gP, gd_lt, gd_bnd2, Nat.not_lt_zero, if_false, c1, bnd_s, c3, c5, c7, gd_some, true_and, v0, s2, sI_eq, sI_ne, sI_J, sI_R, sI_kO, sI_rK, sI_len, sJ_eq, sJ_ne, sJ_I, sJ_kO, sJ_rK, sJ_len, ← b3, ay]
    have hx : n32 t + -n32 1 = xt t := by unfold xt; rw [Int32.sub_eq_add_neg]
    rw [hx]
    refine gd_mono (ih n _ (by omega) (by omega) ((co'.fr f1).sm ⟨rfl, rfl⟩) ?_ ((sA.set hk (by omega)).ext fun j hj => (dRow_s hk (by omega) hz j).symm)) ?_
    · rw [sI_ne (by omega)]
      exact zA
    · rintro h2 ⟨e1, e2, e3⟩
      refine ⟨e1, (f1.sI ?_).tr e2, e3⟩
      rw [show c + 2 + k = c + (2 + k) by omega]
      exact co'.in1 (by omega)
theorem drift_y {N : Nat} {h : HP} {c sz k : Nat} {r : Nat → Nat} (hN : 6 < N) (hk : k < 2) (co : CO h c) (z : h.2.1 c 2 = n32 sz) (hz : sz ≤ 6) (s : CR h c r) {B : Nat} (rb : RBm B r) :
    gd (f_X0_drift N h c (n32 k)) (fun h' => CR h' c (mDr sz k r) ∧ fr [rc c] h h' ∧ h'.2.1 c 2 = n32 sz) := by
  unfold f_X0_drift
  rw [gP_p co.1, z, gd_lt]
  by_cases h1 : 1 ≤ sz
  · have e : n32 sz - 2 = xt (sz - 1) := by
      unfold xt
      rw [n32_lit, show n32 2 = n32 1 + n32 1 from rfl, ← Int32.sub_sub, n32_sub h1]
    rw [e]
    exact drift_loop hk hz rb (sz - 1) N h (by omega) (by omega) co z (s.ext fun j hj => dRow_hi rb.1 hk h1 j)
  · have e0 : sz = 0 := by omega
    subst e0
    obtain ⟨n, rfl⟩ : ∃ n, N = n + 1 := ⟨N - 1, by omega⟩
    rw [lp_s]
    unfold f_X0_drift_B7
    rw [if_pos (by decide), gd_some]
    exact ⟨s.ext fun j hj => mDr_0 rb.1 hk j, fr.rf _ _, z⟩
theorem pass_loop {N c f sz n : Nat} {F : Fle} (hN : 6 < N) (hz : sz ≤ 6) (fb : FB F) (hn : n < 1000) (hfc : rc f ≠ rc c) (hfc1 : rc (f + 1) ≠ rc c) (hfc2 : rc (f + 2) ≠ rc c) (hf : f + 2 < 188) : ∀ (d i acc fuel : Nat) (h : HP) (r : Nat → Nat) (B : Nat), i + d = n → d < fuel → acc + 9990 * d < 2147483648 → CO h c → FLc h f → h.2.1 c 2 = n32 sz → CR h c r → FR h f F → RBm B r → B + d < 2147483648 →
    gd (lp (fun _ _ _ => none) (f_X0_pass_B5 N c f (n32 n)) fuel (n32 acc) (n32 i) h) (fun q => q.1 = n32 (acc + mLds sz F d r) ∧ CR q.2 c (mMons sz F d r) ∧ fr [rc c] h q.2 ∧ q.2.2.1 c 2 = n32 sz) := by
  intro d
  induction d with
  | zero =>
    intro i acc fuel h r B hi hfu ha co fc z s fs rb hB
    obtain ⟨m, rfl⟩ : ∃ m, fuel = m + 1 := ⟨fuel - 1, by omega⟩
    simp (disch := omega) only [lp_s, f_X0_pass_B5, n32_nat, n32_le, n32_lt, n32_eq, n32_add, n32_sub, n32_dec, n32_mul, n32_div, n32_irm, n32_lit, n32_ix, n32_m1, n32_m2, neg_le0, neg_lt0, neg_lt1, neg_le1, n32_min, n32_max]
    rw [if_pos (by omega), gd_some]
    exact ⟨rfl, s, fr.rf _ _, z⟩
  | succ d ih =>
    intro i acc fuel h r B hi hfu ha co fc z s fs rb hB
    obtain ⟨m, rfl⟩ : ∃ m, fuel = m + 1 := ⟨fuel - 1, by omega⟩
    have hl := land_le (sz := sz) (r := r) fb
    simp (disch := omega) only [lp_s, f_X0_pass_B5, n32_nat, n32_le, n32_lt, n32_eq, n32_add, n32_sub, n32_dec, n32_mul, n32_div, n32_irm, n32_lit, n32_ix, n32_m1, n32_m2, neg_le0, neg_lt0, neg_lt1, neg_le1, n32_min, n32_max]
    rw [if_neg (by omega), gd_bnd2]
    refine gd_mono (land_y co fc z hz s fs fb rb (by omega)) ?_
    rintro ⟨v1, h1⟩ ⟨q1, q2, q3, z1⟩
    have q1' : v1 = n32 (mLanded sz F r) := q1
    subst q1'
    simp only [gd_lt, gd_bnd]
    refine gd_mono (drift_y hN (k := 0) (by omega) (co.fr q3) z1 hz q2 rb.land) ?_
    rintro h2 ⟨e2, f2, z2⟩
    refine gd_mono (drift_y hN (k := 1) (by omega) ((co.fr q3).fr f2) z2 hz e2 (rb.land.dr (by omega))) ?_
    rintro h3 ⟨e3, f3, z3⟩
    have co3 := ((co.fr q3).fr f2).fr f3
    have f03 : fr [rc c] h h3 := (q3.tr f2).tr f3
    obtain ⟨t0, t1, t2, t3, t4, t5⟩ := id e3
    have t3' : h3.2.1 c 4 = n32 (r 25) := by
      rw [t3]
      have a1 : mDr sz 1 (mDr sz 0 (mLand sz F r)) 25 = mLand sz F r 25 := by
        unfold mDr
        rw [if_neg (by omega), if_neg (by omega)]
      rw [a1]
      by_cases q : lndP sz F r
      · rw [mLand_y q, up_ne]
        have := q.2.2
        unfold lndJ
        omega
      · rw [mLand_n q]
    simp (disch := omega) only [t3', n32_nat, n32_le, n32_lt, n32_eq, n32_add, n32_sub, n32_dec, n32_mul, n32_div, n32_irm, n32_lit, n32_ix, n32_m1, n32_m2, neg_le0, neg_lt0, neg_lt1, neg_le1, n32_min, n32_max]
    have f4 : fr [rc c] h (setI h3 c 4 (n32 (r 25 + 1))) := f03.sI (co.in1 (i := 0) (by omega))
    have ffr : ∀ a, rc a ≠ rc c → a < 188 → (setI h3 c 4 (n32 (r 25 + 1))).2.1 a = h.2.1 a := fun a ha hlt => by
      funext j
      refine f4.I a j ?_
      rw [reg_c (by omega)]
      simpa using ha
    refine gd_mono (ih (i + 1) (acc + mLanded sz F r) m (setI h3 c 4 (n32 (r 25 + 1))) (mMon sz F r) (B + 1) (by omega) (by omega) (by omega) (co.fr f4) (fc.sm f4.1) (by rw [sI_ne (by omega)]; exact z3) (e3.setS (by omega) (by omega)) ⟨by rw [ffr f hfc (by omega)]; exact fs.1, by rw [ffr (f + 1) hfc1 (by omega), ffr (f + 2) hfc2 (by omega)]; exact fs.2⟩ rb.mon (by omega)) ?_
    rintro ⟨v5, h5⟩ ⟨g1, g2, g3, g4⟩
    refine ⟨?_, g2, f4.tr g3, g4⟩
    rw [g1, Nat.add_assoc]
    rfl
theorem pass_y {N c f sz n : Nat} {F : Fle} {h : HP} {r : Nat → Nat} {B : Nat} (hN : 6 < N) (hNn : n < N) (hz : sz ≤ 6) (fb : FB F) (hn : n < 1000) (hfc : rc f ≠ rc c) (hfc1 : rc (f + 1) ≠ rc c) (hfc2 : rc (f + 2) ≠ rc c) (hf : f + 2 < 188) (co : CO h c) (fc : FLc h f) (z : h.2.1 c 2 = n32 sz) (s : CR h c r) (fs : FR h f F) (rb : RBm B r) (hB : B ≤ 1000000) :
    gd (f_X0_pass N h c f (n32 n)) (fun q => q.1 = n32 (mLds sz F n r) ∧ CR q.2 c (mMons sz F n r) ∧ fr [rc c] h q.2 ∧ q.2.2.1 c 2 = n32 sz) := by
  unfold f_X0_pass
  rw [gP_p co.1, gP_p fc.1]
  refine gd_mono (pass_loop hN hz fb hn hfc hfc1 hfc2 hf n 0 0 N h r B (by omega) hNn (by omega) co fc z s fs rb (by omega)) ?_
  rintro ⟨v5, h5⟩ ⟨g1, g2, g3, g4⟩
  exact ⟨by rw [g1, Nat.zero_add], g2, g3, g4⟩
