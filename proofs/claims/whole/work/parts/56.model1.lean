/-! ===== the reference: months ===== -/
def MR (h : HP) (a : Nat) (r : Nat → Nat) : Prop := ∀ j, j < 28 → h.2.1 a j = n32 (r j)
def MF (h : HP) (F : Fle) : Prop := h.2.1 188 5 = n32 F.1 ∧ ∀ i, i < F.1 → h.2.1 190 i = (if F.2.1 i = 2 then -n32 1 else n32 (F.2.1 i)) ∧ h.2.1 191 i = n32 (F.2.2 i)
theorem n32_s1 {s i : Nat} (hs : s < 2147483648) (hi : i < 2147483648) : (n32 s - n32 1 ≤ n32 i) = (s ≤ i + 1) := by
  have e : (n32 s - n32 1).toInt = (s : Int) - 1 := by
    rw [Int32.toInt_sub, n32_int hs, n32_int (by omega), Int.bmod_eq_of_le (by omega) (by omega)]
    rfl
  rw [Int32.le_iff_toInt_le, e, n32_int hi]
  exact propext ⟨fun q => by omega, fun q => by omega⟩
theorem mR_ne {h : HP} {a x j : Nat} {v : Int32} {r : Nat → Nat} (s : MR h a r) (n : a ≠ x) : MR (setI h x j v) a r := fun i hi => by
  rw [sI_ne (fun q => n q.1)]
  exact s i hi
theorem mR_set {h : HP} {a j v : Nat} {r : Nat → Nat} (s : MR h a r) : MR (setI h a j (n32 v)) a (up r j v) := fun i hi => by
  by_cases q : i = j
  · subst q
    rw [sI_eq, up_eq]
  · rw [sI_ne (fun z => q z.2), up_ne q]
    exact s i hi
theorem MR.ext {h : HP} {a : Nat} {r r' : Nat → Nat} (s : MR h a r) (e : ∀ j, j < 28 → r' j = r j) : MR h a r' := fun j hj => by rw [e j hj]; exact s j hj
theorem MR.fr {h h' : HP} {a : Nat} {r : Nat → Nat} {R : List Nat} (s : MR h a r) (f : fr R h h') (ha : a ≠ 188) (g : R.contains (rc a) = false) : MR h' a r := fun j hj => by
  rw [f.I a j (by rw [reg_c ha]; exact g)]
  exact s j hj
theorem mgF {N a sz : Nat} {r : Nat → Nat} {b c : Bool} {k : HP → Option HP} {Q : HP → Prop} (ha : a = 193 ∨ a = 194) (hz : sz ≤ 6) {B : Nat} (rb : RBm B r) (h0 : HP) (K : ∀ h', SH b c h' → h'.2.1 188 3 = n32 sz → MR h' a r → (∀ j, j < 12 → h'.2.1 203 j = n32 (flw sz r j)) → fr [47] h0 h' → gd (k h') Q) :
    ∀ (d i fuel : Nat) (h : HP), i + d = 12 → d < fuel → SH b c h → h.2.1 188 3 = n32 sz → MR h a r → (∀ j, j < i → h.2.1 203 j = n32 (flw sz r j)) → fr [47] h0 h → gd (lp (fun _ _ => none) (f_X10_monthGoes_B84 N 188 a k) fuel (n32 i) h) Q := by
  intro d
  induction d with
  | zero =>
    intro i fuel h hi hf s z m fl f
    obtain ⟨n, rfl⟩ : ∃ n, fuel = n + 1 := ⟨fuel - 1, by omega⟩
    have e : i = 12 := by omega
    subst e
    simp (disch := omega) only [lp_s, f_X10_monthGoes_B84, n32_nat, n32_le, n32_lt, n32_eq, n32_add, n32_sub, n32_dec, n32_mul, n32_div, n32_irm, n32_lit, n32_ix, n32_m1, n32_m2, neg_le0, neg_lt0, neg_lt1, neg_le1, n32_min, n32_max, if_true, Nat.le_refl]
    exact K h s z m fl f
  | succ d ih =>
    intro i fuel h hi hf s z m fl f
    obtain ⟨n, rfl⟩ : ∃ n, fuel = n + 1 := ⟨fuel - 1, by omega⟩
    have hla : lenH h a = 28 := by rcases ha with rfl | rfl <;> simp only [s.mod]
    have m24 := m 24 (by omega)
    have mi := m i (by omega)
    have b0 := rb.1 i (by omega)
    have b2 : r i * r 24 ≤ 99999 * 9 := Nat.mul_le_mul b0 rb.2.1
    simp (disch := omega) only [lp_s, f_X10_monthGoes_B84, n32_nat, n32_le, n32_lt, n32_eq, n32_add, n32_sub, n32_dec, n32_mul, n32_div, n32_irm, n32_lit, n32_ix, n32_m1, n32_m2, neg_le0, neg_lt0, neg_lt1, neg_le1, n32_min, n32_max, s.mod, bnd_s, gP_p, ltt_s, z, n32_s1, hla, m24, mi]
    rw [if_neg (by omega)]
    by_cases q : sz ≤ i % 6 + 1
    · rw [if_pos q]
      refine ih (i + 1) n _ (by omega) (by omega) (s.sm ⟨rfl, rfl⟩) (by rw [sI_ne (by omega)]; exact z) (mR_ne m (by omega)) (fun j hj => ?_) (f.sI rfl)
      by_cases e : j = i
      · subst e
        rw [sI_eq]
        unfold flw
        rw [if_neg (by omega)]
      · rw [sI_ne (by omega)]
        exact fl j (by omega)
    · rw [if_neg q]
      refine ih (i + 1) n _ (by omega) (by omega) (s.sm ⟨rfl, rfl⟩) (by rw [sI_ne (by omega)]; exact z) (mR_ne m (by omega)) (fun j hj => ?_) (f.sI rfl)
      by_cases e : j = i
      · subst e
        rw [sI_eq]
        unfold flw
        rw [if_pos (by omega)]
      · rw [sI_ne (by omega)]
        exact fl j (by omega)
theorem mgR {N a sz : Nat} {r : Nat → Nat} {b c : Bool} {k : HP → Option HP} {Q : HP → Prop} (ha : a = 193 ∨ a = 194) (hz : sz ≤ 6) {B : Nat} (rb : RBm B r) (h0 : HP) (K : ∀ h', SH b c h' → MR h' a (fun j => if j < 12 then fin sz r j else r j) → fr [rc a] h0 h' → gd (k h') Q) :
    ∀ (d i fuel : Nat) (h : HP), i + d = 12 → d < fuel → SH b c h → MR h a (fun j => if j < i then fin sz r j else r j) → (∀ j, j < 12 → h.2.1 203 j = n32 (flw sz r j)) → fr [rc a] h0 h → gd (lp (fun _ _ => none) (f_X10_monthGoes_B132 N 188 a k) fuel (n32 i) h) Q := by
  intro d
  induction d with
  | zero =>
    intro i fuel h hi hf s m fl f
    obtain ⟨n, rfl⟩ : ∃ n, fuel = n + 1 := ⟨fuel - 1, by omega⟩
    have e : i = 12 := by omega
    subst e
    simp (disch := omega) only [lp_s, f_X10_monthGoes_B132, n32_nat, n32_le, n32_lt, n32_eq, n32_add, n32_sub, n32_dec, n32_mul, n32_div, n32_irm, n32_lit, n32_ix, n32_m1, n32_m2, neg_le0, neg_lt0, neg_lt1, neg_le1, n32_min, n32_max, if_true, Nat.le_refl]
    exact K h s m f
  | succ d ih =>
    intro i fuel h hi hf s m fl f
    obtain ⟨n, rfl⟩ : ∃ n, fuel = n + 1 := ⟨fuel - 1, by omega⟩
    have hla : lenH h a = 28 := by rcases ha with rfl | rfl <;> simp only [s.mod]
    have mi : h.2.1 a i = n32 (r i) := by
      exact (m i (by omega)).trans (congrArg n32 (if_neg (by omega)))
    have b0 := rb.1 i (by omega)
    have b4 := flw_le (sz := sz) (j := i) rb.2.1
    have fi := fl i (by omega)
    have hra : reg a i = rc a := reg_c (by omega)
    have key : ∀ v, v = fin sz r i → MR (setI h a i (n32 v)) a (fun j => if j < i + 1 then fin sz r j else r j) := fun v hv => by
      refine (mR_set m).ext fun j hj => ?_
      by_cases e : j = i
      · subst e
        rw [up_eq, if_pos (by omega), hv]
      · rw [up_ne e]
        by_cases e2 : j < i
        · rw [if_pos e2, if_pos (by omega)]
        · rw [if_neg e2, if_neg (by omega)]
    have fl2 : ∀ v, ∀ j, j < 12 → (setI h a i v).2.1 203 j = n32 (flw sz r j) := fun v j hj => by
      rw [sI_ne (by omega)]
      exact fl j hj
    by_cases q : i % 6 = 0
    · simp (disch := omega) only [lp_s, f_X10_monthGoes_B132, n32_nat, n32_le, n32_lt, n32_eq, n32_add, n32_sub, n32_dec, n32_mul, n32_div, n32_irm, n32_lit, n32_ix, n32_m1, n32_m2, neg_le0, neg_lt0, neg_lt1, neg_le1, n32_min, n32_max, s.mod, bnd_s, gP_p, ltt_s, jn_s, hla, mi, fi]
      rw [if_neg (by omega), if_pos (by omega)]
      refine ih (i + 1) n _ (by omega) (by omega) (s.sm ⟨rfl, rfl⟩) (key _ ?_) (fl2 _) (f.sI (by rw [hra]; simp))
      unfold fin
      rw [if_pos q]
    · have fi1 := fl (i - 1) (by omega)
      have b5 : flw sz r (i - 1) ≤ r (i - 1) := flw_le rb.2.1
      have b6 := rb.1 (i - 1) (by omega)
      simp (disch := omega) only [lp_s, f_X10_monthGoes_B132, n32_nat, n32_le, n32_lt, n32_eq, n32_add, n32_sub, n32_dec, n32_mul, n32_div, n32_irm, n32_lit, n32_ix, n32_m1, n32_m2, neg_le0, neg_lt0, neg_lt1, neg_le1, n32_min, n32_max, s.mod, bnd_s, gP_p, ltt_s, jn_s, hla, mi, fi, fi1]
      rw [if_neg (by omega), if_neg (by omega)]
      refine ih (i + 1) n _ (by omega) (by omega) (s.sm ⟨rfl, rfl⟩) (key _ ?_) (fl2 _) (f.sI (by rw [hra]; simp))
      unfold fin
      rw [if_neg q]
theorem dr_both {sz : Nat} {r : Nat → Nat} (j : Nat) : mDr sz 1 (mDr sz 0 r) j = if j < 12 then fin sz r j else r j := by
  have e24 : mDr sz 0 r 24 = r 24 := by unfold mDr; rw [if_neg (by omega)]
  by_cases h1 : j < 6
  · rw [if_pos (by omega)]
    unfold mDr
    rw [if_neg (by omega), if_pos (by omega)]
  · have e : ∀ i, 6 ≤ i → mDr sz 0 r i = r i := fun i hi => by unfold mDr; rw [if_neg (by omega)]
    by_cases h2 : j < 12
    · rw [if_pos h2]
      have e2 : mDr sz 1 (mDr sz 0 r) j = fin sz (mDr sz 0 r) j := by
        show (if 6 * 1 ≤ j ∧ j < 6 * 1 + 6 then fin sz (mDr sz 0 r) j else mDr sz 0 r j) = _
        rw [if_pos (by omega)]
      rw [e2]
      unfold fin
      have e3 : ∀ i, 6 ≤ i → flw sz (mDr sz 0 r) i = flw sz r i := fun i hi => by
        unfold flw
        rw [e i hi, e24]
      rw [e j (by omega), e3 j (by omega)]
      by_cases q : j % 6 = 0
      · rw [if_pos q, if_pos q]
      · rw [if_neg q, if_neg q, e3 (j - 1) (by omega)]
    · rw [if_neg h2]
      have e2 : mDr sz 1 (mDr sz 0 r) j = mDr sz 0 r j := by
        show (if 6 * 1 ≤ j ∧ j < 6 * 1 + 6 then fin sz (mDr sz 0 r) j else mDr sz 0 r j) = _
        rw [if_neg (by omega)]
      rw [e2, e j (by omega)]
theorem month_m {N a sz : Nat} {F : Fle} {h : HP} {r : Nat → Nat} {b c : Bool} {B : Nat} (hN : 13 < N) (ha : a = 193 ∨ a = 194) (hz : sz ≤ 6) (fb : FB F) (rb : RBm B r) (hB : B < 2147483647) (s : SH b c h) (z : h.2.1 188 3 = n32 sz) (m : MR h a r) (mf : MF h F) :
    gd (f_X10_monthGoes N h 188 a) (fun h' => MR h' a (mMon sz F r) ∧ fr [41, 47, rc a] h h' ∧ h'.2.1 188 27 = h.2.1 188 27 + n32 (mLanded sz F r)) := by
  obtain ⟨fb1, fb2, fb3⟩ := fb
  have hi : r 25 % F.1 < F.1 := Nat.mod_lt _ fb1
  obtain ⟨mf1, mf2⟩ := mf
  obtain ⟨k1, k2⟩ := mf2 _ hi
  have hb := fb3 _ hi
  have hka : kO h a 102 = true := by rcases ha with rfl | rfl <;> simp only [s.mod]
  have hla : lenH h a = 28 := by rcases ha with rfl | rfl <;> simp only [s.mod]
  have m25 := m 25 (by omega)
  have m27 := m 27 (by omega)
  have r25 := rb.2.2.2.2
  have r27 := rb.2.2.2.1
  have fin' : ∀ (h2 : HP) (r1 : Nat → Nat), SH b c h2 → h2.2.1 188 3 = n32 sz → MR h2 a r1 → RBm B r1 → r1 25 = r 25 → fr [41, 47, rc a] h h2 → (∀ j, j < 28 → mMon sz F r j = up (fun j => if j < 12 then fin sz r1 j else r1 j) 25 (r 25 + 1) j) →
      gd (lp (fun _ _ => none) (f_X10_monthGoes_B84 N 188 a (fun (h30 : HP) => lp (fun _ _ => none) (f_X10_monthGoes_B132 N 188 a (fun (h58 : HP) => gP (25 < lenH h58 a) (gP (25 < lenH h58 a) (some (setI h58 a 25 ((h58.2.1 a 25) + n32 1)))))) N (n32 0) h30)) N (n32 0) h2) (fun h' => MR h' a (mMon sz F r) ∧ fr [41, 47, rc a] h h' ∧ h'.2.1 188 27 = h2.2.1 188 27) := by
    intro h2 r1 s2 z2 m2 rb2 e25 f2 hm
    refine mgF ha hz rb2 h2 ?_ 12 0 N h2 (by omega) (by omega) s2 z2 m2 (fun j hj => absurd hj (by omega)) (fr.rf _ _)
    intro h3 s3 z3 m3 fl3 f3
    refine mgR ha hz rb2 h3 ?_ 12 0 N h3 (by omega) (by omega) s3 (m3.ext fun j hj => by rw [if_neg (by omega)]) fl3 (fr.rf _ _)
    intro h4 s4 m4 f4
    have hla4 : lenH h4 a = 28 := by rcases ha with rfl | rfl <;> simp only [s4.mod]
    have m425 : h4.2.1 a 25 = n32 (r 25) := by
      exact (m4 25 (by omega)).trans (congrArg n32 ((if_neg (by omega)).trans e25))
    simp (disch := omega) only [n32_nat, n32_le, n32_lt, n32_eq, n32_add, n32_sub, n32_dec, n32_mul, n32_div, n32_irm, n32_lit, n32_ix, n32_m1, n32_m2, neg_le0, neg_lt0, neg_lt1, neg_le1, n32_min, n32_max, hla4, gP_p, ltt_s, gd_some, m425]
    refine ⟨(mR_set m4).ext hm, ?_, ?_⟩
    · refine ((f2.tr (f3.mono (by simp))).tr (f4.mono (by simp))).sI ?_
      rw [reg_c (by omega)]
      simp
    · rw [sI_ne (by omega), f4.I 188 27 (by rcases ha with rfl | rfl <;> decide), f3.I 188 27 (by decide)]
  have fr0 : fr [41, 47, rc a] h h := fr.rf _ _
  have none' : ¬ lndP sz F r → gd (lp (fun _ _ => none) (f_X10_monthGoes_B84 N 188 a (fun (h30 : HP) => lp (fun _ _ => none) (f_X10_monthGoes_B132 N 188 a (fun (h58 : HP) => gP (25 < lenH h58 a) (gP (25 < lenH h58 a) (some (setI h58 a 25 ((h58.2.1 a 25) + n32 1)))))) N (n32 0) h30)) N (n32 0) h) (fun h' => MR h' a (mMon sz F r) ∧ fr [41, 47, rc a] h h' ∧ h'.2.1 188 27 = h.2.1 188 27 + n32 (mLanded sz F r)) := fun hn => by
    refine gd_mono (fin' h r s z m rb rfl fr0 (fun j hj => ?_)) ?_
    · unfold mMon
      rw [mLand_n hn]
      by_cases e : j = 25
      · rw [e, up_eq, up_eq]
      · rw [up_ne e, up_ne e, dr_both]
    · rintro h' ⟨g1, g2, g3⟩
      refine ⟨g1, g2, ?_⟩
      rw [g3, mLanded_n hn]
      exact (Int32.add_zero _).symm
  unfold f_X10_monthGoes
  simp (disch := omega) only [gP_p, gP_t, s.mod, hka, hla, n32_nat, n32_le, n32_lt, n32_eq, n32_add, n32_sub, n32_dec, n32_mul, n32_div, n32_irm, n32_lit, n32_ix, n32_m1, n32_m2, neg_le0, neg_lt0, neg_lt1, neg_le1, n32_min, n32_max, mf1, m25, m27, z, ltt_s, jn_s, bnd_s, k1]
  by_cases q1 : r 27 = 0
  · rw [if_pos q1]
    by_cases q2 : sz = 0
    · rw [if_pos (by omega)]
      exact none' (fun q => by have := q.2.1; omega)
    · rw [if_neg (by omega)]
      by_cases q3 : F.2.1 (r 25 % F.1) = 2
      · rw [if_pos q3, if_pos (by decide)]
        exact none' (fun q => by have := q.2.2; omega)
      · have hl : lndP sz F r := ⟨q1, by omega, by omega⟩
        have hj : lndJ F r = 6 * F.2.1 (r 25 % F.1) := rfl
        have mj := m (6 * F.2.1 (r 25 % F.1)) (by omega)
        have bj := rb.1 (6 * F.2.1 (r 25 % F.1)) (by omega)
        simp (disch := omega) only [if_neg q3, n32_nat, n32_le, n32_lt, n32_eq, n32_add, n32_sub, n32_dec, n32_mul, n32_div, n32_irm, n32_lit, n32_ix, n32_m1, n32_m2, neg_le0, neg_lt0, neg_lt1, neg_le1, n32_min, n32_max, Nat.not_lt_zero, if_false, f_X10_at, bnd_s, gP_p, gP_t, mj, k2, Nat.add_zero, sI_eq, sI_ne, sI_J, sI_R, sI_kO, sI_rK, sI_len, sJ_eq, sJ_ne, sJ_I, sJ_kO, sJ_rK, sJ_len, hla]
        refine gd_mono (fin' _ (mLand sz F r) (s.sm ⟨rfl, rfl⟩) (by rw [sI_ne (by omega), sI_ne (by omega)]; exact z) ?_ rb.land ?_ ?_ (fun j hj => ?_)) ?_
        · rw [mLand_y hl]
          exact mR_ne (mR_set m) (by omega)
        · rw [mLand_y hl, up_ne (by omega)]
        · refine (fr0.sI ?_).sI ?_
          · rw [reg_c (by omega)]
            simp
          · exact (show [41, 47, rc a].contains 41 = true from rfl)
        · unfold mMon
          by_cases e : j = 25
          · rw [e, up_eq, up_eq]
          · rw [up_ne e, up_ne e, dr_both]
        · rintro h' ⟨g1, g2, g3⟩
          refine ⟨g1, g2, ?_⟩
          rw [g3, mLanded_y hl, sI_eq]
          congr 1
  · rw [if_neg q1]
    exact none' (fun q => q1 q.1)
theorem goesOn_m {N a sz n : Nat} {F : Fle} {b c : Bool} (hN : 13 < N) (ha : a = 193 ∨ a = 194) (hz : sz ≤ 6) (fb : FB F) (hn : n < 1000) : ∀ (d i fuel : Nat) (h : HP) (r : Nat → Nat) (B : Nat), i + d = n → d < fuel → B + d < 2147483647 → RBm B r → SH b c h → h.2.1 188 3 = n32 sz → MR h a r → MF h F →
    gd (lp (fun _ _ => none) (f_X10_goesOn_B2 N 188 a (n32 n)) fuel (n32 i) h) (fun h' => MR h' a (mMons sz F d r) ∧ fr [41, 47, rc a] h h' ∧ h'.2.1 188 27 = h.2.1 188 27 + n32 (mLds sz F d r)) := by
  intro d
  induction d with
  | zero =>
    intro i fuel h r B hi hf hB rb s z m mf
    obtain ⟨k, rfl⟩ : ∃ k, fuel = k + 1 := ⟨fuel - 1, by omega⟩
    simp (disch := omega) only [lp_s, f_X10_goesOn_B2, n32_nat, n32_le, n32_lt, n32_eq, n32_add, n32_sub, n32_dec, n32_mul, n32_div, n32_irm, n32_lit, n32_ix, n32_m1, n32_m2, neg_le0, neg_lt0, neg_lt1, neg_le1, n32_min, n32_max]
    rw [if_pos (by omega), gd_some]
    exact ⟨m, fr.rf _ _, (Int32.add_zero _).symm⟩
  | succ d ih =>
    intro i fuel h r B hi hf hB rb s z m mf
    obtain ⟨k, rfl⟩ : ∃ k, fuel = k + 1 := ⟨fuel - 1, by omega⟩
    simp (disch := omega) only [lp_s, f_X10_goesOn_B2, n32_nat, n32_le, n32_lt, n32_eq, n32_add, n32_sub, n32_dec, n32_mul, n32_div, n32_irm, n32_lit, n32_ix, n32_m1, n32_m2, neg_le0, neg_lt0, neg_lt1, neg_le1, n32_min, n32_max]
    rw [if_neg (by omega), gd_bnd]
    refine gd_mono (month_m hN ha hz fb rb (by omega) s z m mf) ?_
    rintro h1 ⟨m1, f1, l1⟩
    have ra : [41, 47, rc a].contains 24 = false ∧ [41, 47, rc a].contains 23 = false := by rcases ha with rfl | rfl <;> decide
    have ef : ∀ x j, reg x j = 24 → h1.2.1 x j = h.2.1 x j := fun x j e => f1.I x j (by rw [e]; exact ra.1)
    have mf1 : MF h1 F := by
      refine ⟨by rw [ef 188 5 rfl]; exact mf.1, fun i hi => ?_⟩
      rw [ef 190 i rfl, ef 191 i rfl]
      exact mf.2 i hi
    simp only [gd_lt]
    refine gd_mono (ih (i + 1) k h1 (mMon sz F r) (B + 1) (by omega) (by omega) (by omega) rb.mon (s.fr f1) (by rw [f1.I 188 3 ra.2]; exact z) m1 mf1) ?_
    rintro h2 ⟨m2, f2, l2⟩
    refine ⟨m2, f1.tr f2, ?_⟩
    rw [l2, l1, Int32.add_assoc, n32_add]
    rfl
theorem goes_y {N a sz n : Nat} {F : Fle} {b c : Bool} {h : HP} {r : Nat → Nat} {B : Nat} (hN : 13 < N) (hNn : n < N) (ha : a = 193 ∨ a = 194) (hz : sz ≤ 6) (fb : FB F) (hn : n < 1000) (rb : RBm B r) (hB : B ≤ 1000000) (s : SH b c h) (z : h.2.1 188 3 = n32 sz) (m : MR h a r) (mf : MF h F) :
    gd (f_X10_goesOn N h 188 a (n32 n)) (fun h' => MR h' a (mMons sz F n r) ∧ fr [41, 47, rc a] h h' ∧ h'.2.1 188 27 = h.2.1 188 27 + n32 (mLds sz F n r)) := by
  have hka : kO h a 102 = true := by rcases ha with rfl | rfl <;> simp only [s.mod]
  unfold f_X10_goesOn
  rw [gP_p (by simp only [s.mod]), gP_p hka]
  exact goesOn_m hN ha hz fb hn n 0 N h r B (by omega) hNn (by omega) rb s z m mf
theorem copies_m {N : Nat} {b c : Bool} {r : Nat → Nat} (h0 : HP) : ∀ (d i fuel : Nat) (h : HP), i + d = 28 → d < fuel → SH b c h → MR h 193 r → (∀ j, j < i → h.2.1 194 j = n32 (r j)) → fr [31] h0 h →
    gd (lp (fun _ _ => none) (f_X10_copies_B2 N 188) fuel (n32 i) h) (fun h' => MR h' 194 r ∧ fr [31] h0 h') := by
  intro d
  induction d with
  | zero =>
    intro i fuel h hi hf s m m2 f
    obtain ⟨k, rfl⟩ : ∃ k, fuel = k + 1 := ⟨fuel - 1, by omega⟩
    simp (disch := omega) only [lp_s, f_X10_copies_B2, n32_nat, n32_le, n32_lt, n32_eq, n32_add, n32_sub, n32_dec, n32_mul, n32_div, n32_irm, n32_lit, n32_ix, n32_m1, n32_m2, neg_le0, neg_lt0, neg_lt1, neg_le1, n32_min, n32_max]
    rw [if_pos (by omega), gd_some]
    exact ⟨fun j hj => m2 j (by omega), f⟩
  | succ d ih =>
    intro i fuel h hi hf s m m2 f
    obtain ⟨k, rfl⟩ : ∃ k, fuel = k + 1 := ⟨fuel - 1, by omega⟩
    have mi := m i (by omega)
    simp (disch := omega) only [lp_s, f_X10_copies_B2, n32_nat, n32_le, n32_lt, n32_eq, n32_add, n32_sub, n32_dec, n32_mul, n32_div, n32_irm, n32_lit, n32_ix, n32_m1, n32_m2, neg_le0, neg_lt0, neg_lt1, neg_le1, n32_min, n32_max, s.mod, bnd_s, gP_p, ltt_s, mi]
    rw [if_neg (by omega)]
    refine ih (i + 1) k _ (by omega) (by omega) (s.sm ⟨rfl, rfl⟩) (mR_ne m (by omega)) (fun j hj => ?_) (f.sI rfl)
    by_cases e : j = i
    · rw [e, sI_eq]
    · rw [sI_ne (by omega)]
      exact m2 j (by omega)
theorem copies_y {N : Nat} {b c : Bool} {r : Nat → Nat} {h : HP} (hN : 28 < N) (s : SH b c h) (m : MR h 193 r) : gd (f_X10_copies N h 188) (fun h' => MR h' 194 r ∧ fr [31] h h') := by
  unfold f_X10_copies
  rw [gP_p (by simp only [s.mod])]
  exact copies_m h 28 0 N h (by omega) hN s m (fun j hj => absurd hj (by omega)) (fr.rf _ _)
