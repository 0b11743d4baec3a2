/-! ===== a coast: what its methods do to its row ===== -/
def up (r : Nat → Nat) (j v : Nat) : Nat → Nat := fun i => if i = j then v else r i
theorem up_eq {r : Nat → Nat} {j v : Nat} : up r j v j = v := if_pos rfl
theorem up_ne {r : Nat → Nat} {i j v : Nat} (h : i ≠ j) : up r j v i = r i := if_neg h
def CR (h : HP) (c : Nat) (r : Nat → Nat) : Prop := (∀ k m, k < 2 → m < 6 → h.2.1 (c + 2 + k) m = n32 (r (6 * k + m))) ∧ (∀ k m, k < 2 → m < 6 → h.2.1 (c + 5 + k) m = n32 (r (12 + (6 * k + m)))) ∧ h.2.1 c 3 = n32 (r 24) ∧ h.2.1 c 4 = n32 (r 25) ∧ h.2.1 c 5 = n32 (r 26) ∧ h.2.1 c 6 = n32 (r 27)
def RB (r : Nat → Nat) : Prop := (∀ j, j < 24 → r j ≤ 99999) ∧ r 24 ≤ 9 ∧ r 26 ≤ 999999 ∧ r 27 ≤ 1 ∧ r 25 ≤ 1000000
theorem CR.ext {h : HP} {c : Nat} {r r' : Nat → Nat} (s : CR h c r) (e : ∀ j, j < 28 → r' j = r j) : CR h c r' := by
  obtain ⟨s0, s1, s2, s3, s4, s5⟩ := s
  refine ⟨fun k m hk hm => ?_, fun k m hk hm => ?_, ?_, ?_, ?_, ?_⟩
  · rw [e _ (by omega)]; exact s0 k m hk hm
  · rw [e _ (by omega)]; exact s1 k m hk hm
  · rw [e _ (by omega)]; exact s2
  · rw [e _ (by omega)]; exact s3
  · rw [e _ (by omega)]; exact s4
  · rw [e _ (by omega)]; exact s5
theorem CR.same {h h' : HP} {c : Nat} {r : Nat → Nat} (s : CR h c r) (e : ∀ i, i < 7 → h'.2.1 (c + i) = h.2.1 (c + i)) : CR h' c r := by
  obtain ⟨s0, s1, s2, s3, s4, s5⟩ := s
  have e0 : h'.2.1 c = h.2.1 c := e 0 (by omega)
  refine ⟨fun k m hk hm => ?_, fun k m hk hm => ?_, ?_, ?_, ?_, ?_⟩
  · rw [show c + 2 + k = c + (2 + k) by omega, e (2 + k) (by omega), show c + (2 + k) = c + 2 + k by omega]; exact s0 k m hk hm
  · rw [show c + 5 + k = c + (5 + k) by omega, e (5 + k) (by omega), show c + (5 + k) = c + 5 + k by omega]; exact s1 k m hk hm
  · rw [e0]; exact s2
  · rw [e0]; exact s3
  · rw [e0]; exact s4
  · rw [e0]; exact s5
theorem CR.fr {h h' : HP} {c : Nat} {r : Nat → Nat} {R : List Nat} (s : CR h c r) (co : CO h c) (f : fr R h h') (g : R.contains (rc c) = false) : CR h' c r :=
  s.same fun i hi => funext fun j => f.I (c + i) j (by rw [co.cr hi]; exact g)
theorem CR.set {h : HP} {c k m v : Nat} {r : Nat → Nat} (s : CR h c r) (hk : k < 2) (hm : m < 6) : CR (setI h (c + 2 + k) m (n32 v)) c (up r (6 * k + m) v) := by
  obtain ⟨s0, s1, s2, s3, s4, s5⟩ := s
  refine ⟨fun k' m' hk' hm' => ?_, fun k' m' hk' hm' => ?_, ?_, ?_, ?_, ?_⟩
  · by_cases q : k' = k ∧ m' = m
    · rw [q.1, q.2, sI_eq, up_eq]
    · rw [sI_ne (by omega), up_ne (by omega)]; exact s0 k' m' hk' hm'
  · rw [sI_ne (by omega), up_ne (by omega)]; exact s1 k' m' hk' hm'
  · rw [sI_ne (by omega), up_ne (by omega)]; exact s2
  · rw [sI_ne (by omega), up_ne (by omega)]; exact s3
  · rw [sI_ne (by omega), up_ne (by omega)]; exact s4
  · rw [sI_ne (by omega), up_ne (by omega)]; exact s5
theorem CR.setL {h : HP} {c k m v : Nat} {r : Nat → Nat} (s : CR h c r) (hk : k < 2) (hm : m < 6) : CR (setI h (c + 5 + k) m (n32 v)) c (up r (12 + (6 * k + m)) v) := by
  obtain ⟨s0, s1, s2, s3, s4, s5⟩ := s
  refine ⟨fun k' m' hk' hm' => ?_, fun k' m' hk' hm' => ?_, ?_, ?_, ?_, ?_⟩
  · rw [sI_ne (by omega), up_ne (by omega)]; exact s0 k' m' hk' hm'
  · by_cases q : k' = k ∧ m' = m
    · rw [q.1, q.2, sI_eq, up_eq]
    · rw [sI_ne (by omega), up_ne (by omega)]; exact s1 k' m' hk' hm'
  · rw [sI_ne (by omega), up_ne (by omega)]; exact s2
  · rw [sI_ne (by omega), up_ne (by omega)]; exact s3
  · rw [sI_ne (by omega), up_ne (by omega)]; exact s4
  · rw [sI_ne (by omega), up_ne (by omega)]; exact s5
theorem CR.setS {h : HP} {c j v : Nat} {r : Nat → Nat} (s : CR h c r) (hj : 3 ≤ j) (hj2 : j ≤ 6) : CR (setI h c j (n32 v)) c (up r (21 + j) v) := by
  obtain ⟨s0, s1, s2, s3, s4, s5⟩ := s
  refine ⟨fun k' m' hk' hm' => ?_, fun k' m' hk' hm' => ?_, ?_, ?_, ?_, ?_⟩
  · rw [sI_ne (by omega), up_ne (by omega)]; exact s0 k' m' hk' hm'
  · rw [sI_ne (by omega), up_ne (by omega)]; exact s1 k' m' hk' hm'
  · by_cases q : 3 = j
    · subst q; rw [sI_eq, up_eq]
    · rw [sI_ne (by omega), up_ne (by omega)]; exact s2
  · by_cases q : 4 = j
    · subst q; rw [sI_eq, up_eq]
    · rw [sI_ne (by omega), up_ne (by omega)]; exact s3
  · by_cases q : 5 = j
    · subst q; rw [sI_eq, up_eq]
    · rw [sI_ne (by omega), up_ne (by omega)]; exact s4
  · by_cases q : 6 = j
    · subst q; rw [sI_eq, up_eq]
    · rw [sI_ne (by omega), up_ne (by omega)]; exact s5
theorem CO.fr {h h' : HP} {c : Nat} {R : List Nat} (s : CO h c) (e : fr R h h') : CO h' c := s.sm e.1
theorem CO.in1 {h : HP} {c : Nat} (s : CO h c) {i j : Nat} (hi : i < 7) : [rc c].contains (reg (c + i) j) = true := by
  rw [s.cr hi]; simp
/-! has, isKind, mayMove -/
theorem has_y {h : HP} {c sz m : Nat} (co : CO h c) (z : h.2.1 c 2 = n32 sz) (hz : sz ≤ 6) (hm : m < sz) : f_X0_has h c (n32 m) = some (n32 1) := by
  unfold f_X0_has
  rw [gP_p co.1, z]
  simp (disch := omega) only [n32_nat, n32_le, n32_lt, n32_eq, n32_add, n32_sub, n32_dec, n32_mul, n32_div, n32_irm, n32_lit, n32_ix, n32_m1, n32_m2, neg_le0, neg_lt0, neg_lt1, neg_le1, n32_min, n32_max]
  rw [if_neg (by omega), if_neg (by omega)]
theorem has_n {h : HP} {c sz : Nat} {x : Int32} (co : CO h c) (z : h.2.1 c 2 = n32 sz) (hz : sz ≤ 6) (hx : ¬ (0 ≤ x.toInt ∧ x.toInt < (sz : Int))) : f_X0_has h c x = some (n32 0) := by
  unfold f_X0_has
  rw [gP_p co.1, z]
  by_cases q : x < 0
  · rw [if_pos q]; rfl
  · rw [if_neg q, if_pos]
    · rfl
    · rw [Int32.lt_iff_toInt_lt] at q
      rw [Int32.le_iff_toInt_le, n32_int (by omega)]
      have e0 : (0 : Int32).toInt = 0 := by decide
      omega
theorem kind_y {k : Nat} (hk : k < 2) : f_X9_isKind (n32 k) = some (n32 1) := by
  unfold f_X9_isKind
  simp (disch := omega) only [n32_nat, n32_le, n32_lt, n32_eq, n32_add, n32_sub, n32_dec, n32_mul, n32_div, n32_irm, n32_lit, n32_ix, n32_m1, n32_m2, neg_le0, neg_lt0, neg_lt1, neg_le1, n32_min, n32_max]
  by_cases q : k = 0
  · rw [if_pos q]
  · rw [if_neg q, if_pos (by omega)]
theorem kind_n {x : Int32} (hx : ¬ (0 ≤ x.toInt ∧ x.toInt ≤ 1)) : f_X9_isKind x = some (n32 0) := by
  unfold f_X9_isKind
  rw [if_neg, if_neg]
  · rfl
  · intro q; subst q; exact hx (by decide)
  · intro q; subst q; exact hx (by decide)
def mayP (sz : Nat) (x1 x2 x3 : Int32) : Prop := (0 ≤ x1.toInt ∧ x1.toInt < (sz : Int)) ∧ (0 ≤ x2.toInt ∧ x2.toInt ≤ 1) ∧ (1 ≤ x3.toInt ∧ x3.toInt ≤ 9999)
theorem within_y {x a b : Int32} (hx : a.toInt ≤ x.toInt ∧ x.toInt ≤ b.toInt) : f_X9_within x a b = some (n32 1) := by rw [within_eq, if_pos hx]
theorem within_n {x a b : Int32} (hx : ¬ (a.toInt ≤ x.toInt ∧ x.toInt ≤ b.toInt)) : f_X9_within x a b = some (n32 0) := by rw [within_eq, if_neg hx]
theorem may_y {h : HP} {c sz m k n : Nat} (co : CO h c) (z : h.2.1 c 2 = n32 sz) (hz : sz ≤ 6) (hm : m < sz) (hk : k < 2) (hn : 1 ≤ n) (hn2 : n ≤ 9999) : f_X0_mayMove h c (n32 m) (n32 k) (n32 n) = some (n32 1) := by
  unfold f_X0_mayMove
  rw [gP_p co.1, has_y co z hz hm, bnd_s, if_neg (by decide), kind_y hk, bnd_s, if_neg (by decide), within_y, bnd_s, if_neg (by decide)]
  · rfl
  · rw [n32_int (by omega)]
    exact ⟨by show (1 : Int) ≤ _; omega, by show _ ≤ (9999 : Int); omega⟩
theorem may_n {h : HP} {c sz : Nat} {x1 x2 x3 : Int32} (co : CO h c) (z : h.2.1 c 2 = n32 sz) (hz : sz ≤ 6) (hx : ¬ mayP sz x1 x2 x3) : f_X0_mayMove h c x1 x2 x3 = some (n32 0) := by
  unfold f_X0_mayMove
  rw [gP_p co.1]
  by_cases h1 : 0 ≤ x1.toInt ∧ x1.toInt < (sz : Int)
  · obtain ⟨m, hm, rfl⟩ := n32_of h1.1 h1.2
    rw [has_y co z hz hm, bnd_s, if_neg (by decide)]
    by_cases h2 : 0 ≤ x2.toInt ∧ x2.toInt ≤ 1
    · obtain ⟨k, -, hk, rfl⟩ := n32_of2 (lo := 0) (hi := 1) h2.1 h2.2
      rw [kind_y (by omega), bnd_s, if_neg (by decide), within_n, bnd_s, if_pos (by decide)]
      · rfl
      · exact fun q => hx ⟨h1, h2, q⟩
    · rw [kind_n h2, bnd_s, if_pos (by decide)]
      rfl
  · rw [has_n co z hz h1, bnd_s, if_pos (by decide)]
    rfl
/-! add -/
theorem add_y {h : HP} {c sz m k n v : Nat} (co : CO h c) (z : h.2.1 c 2 = n32 sz) (hz : sz ≤ 6) (hm : m < sz) (hk : k < 2) (hv : h.2.1 (c + 2 + k) m = n32 v) (hn : v + n < 2147483648) : f_X0_add h c (n32 m) (n32 k) (n32 n) = some (n32 (min 99999 (v + n)) - n32 v, setI h (c + 2 + k) m (n32 (min 99999 (v + n)))) := by
  obtain ⟨c0, c1, c2, c3, c4, c5, c6, c7, c8, c9⟩ := co
  unfold f_X0_add
  simp (disch := omega) only [gP_p c0, has_y ⟨c0, c1, c2, c3, c4, c5, c6, c7, c8, c9⟩ z hz hm, bnd_s, kind_y hk, n32_nat, n32_le, n32_lt, n32_eq, n32_add, n32_sub, n32_dec, n32_mul, n32_div, n32_irm, n32_lit, n32_ix, n32_m1, n32_m2, neg_le0, neg_lt0, neg_lt1, neg_le1, n32_min, n32_max, c1, c3, c5, c7, gP_p, ltt_s, hv, sI_eq, sI_ne, sI_J, sI_R, sI_kO, sI_rK, sI_len, sJ_eq, sJ_ne, sJ_I, sJ_kO, sJ_rK, sJ_len, Nat.one_ne_zero, if_false]
theorem add_n {h : HP} {c sz : Nat} {x1 x2 x3 : Int32} (co : CO h c) (z : h.2.1 c 2 = n32 sz) (hz : sz ≤ 6) (hx : ¬ (0 ≤ x1.toInt ∧ x1.toInt < (sz : Int))) : f_X0_add h c x1 x2 x3 = some (0, h) := by
  unfold f_X0_add
  rw [gP_p co.1, has_n co z hz hx, bnd_s, if_pos (by decide)]
