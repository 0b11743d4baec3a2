/-! ===== a coast's methods ===== -/
theorem cpy_i {h : HP} {a b b' i n : Nat} (hn : n < 2147483648) : (cpyI h a b (n32 0) (n32 0) (n32 n)).2.1 b' i = if b' = b ∧ i < n then h.2.1 a i else h.2.1 b' i := by
  unfold cpyI va_up va_cpy
  show (if b' = b then (fun k => if (n32 0).toNatClampNeg ≤ k ∧ k < (n32 0).toNatClampNeg + (n32 n).toNatClampNeg then h.2.1 a ((n32 0).toNatClampNeg + (k - (n32 0).toNatClampNeg)) else h.2.1 b k) else h.2.1 b') i = _
  rw [n32_nat (show 0 < 2147483648 by omega), n32_nat hn]
  by_cases h1 : b' = b
  · subst h1
    simp
  · simp [h1]
theorem cpy_eq {h : HP} {a b i n : Nat} (hi : i < n) (hn : n < 2147483648) : (cpyI h a b (n32 0) (n32 0) (n32 n)).2.1 b i = h.2.1 a i := by rw [cpy_i hn, if_pos ⟨rfl, hi⟩]
theorem cpy_ne {h : HP} {a b b' i n : Nat} (hb : ¬ b' = b) (hn : n < 2147483648) : (cpyI h a b (n32 0) (n32 0) (n32 n)).2.1 b' i = h.2.1 b' i := by rw [cpy_i hn, if_neg (fun q => hb q.1)]
theorem cpy_kO {h : HP} {a b x k : Nat} {s d n : Int32} : kO (cpyI h a b s d n) x k = kO h x k := rfl
theorem cpy_rK {h : HP} {a b x i k : Nat} {s d n : Int32} : rK (cpyI h a b s d n) x i k = rK h x i k := rfl
theorem cpy_len {h : HP} {a b x : Nat} {s d n : Int32} : lenH (cpyI h a b s d n) x = lenH h x := rfl
theorem cpok6 : cpok (n32 0) (n32 0) (n32 6) 6 6 = true := by decide
theorem fr.cpy {R : List Nat} {h h' : HP} (f : fr R h h') {a b n : Nat} (hn : n < 2147483648) (hr : ∀ j, R.contains (reg b j) = true) : fr R h (cpyI h' a b (n32 0) (n32 0) (n32 n)) := by
  refine ⟨f.1, fun c i hb => ⟨?_, (f.2 c i hb).2⟩⟩
  rw [cpy_i hn, if_neg (fun q => by rw [q.1, hr] at hb; cases hb)]
  exact (f.2 c i hb).1
theorem become_y {N : Nat} {h : HP} {x y : Nat} {r : Nat → Nat} (cx : CO h x) (cy : CO h y) (d : x + 6 < y ∨ y + 6 < x) (s : CR h y r) (b : r 27 ≤ 1) : gd (f_X0_become (N + 3) h x y) (fun h' => CR h' x r ∧ h'.2.1 x 2 = h.2.1 y 2 ∧ fr [rc x] h h' ∧ ∀ a j, (a < x ∨ x + 6 < a) → h'.2.1 a j = h.2.1 a j) := by
  have ix := fun i j hi => cx.in1 (i := i) (j := j) hi
  obtain ⟨c0, c1, c2, c3, c4, c5, c6, c7, c8, c9⟩ := cx
  obtain ⟨e0, e1, e2, e3, e4, e5, e6, e7, e8, e9⟩ := cy
  obtain ⟨s0, s1, s2, s3, s4, s5⟩ := s
  have c30 := c3 0 (by omega)
  have c31 := c3 1 (by omega)
  have c40 := c4 0 (by omega)
  have c41 := c4 1 (by omega)
  have c70 := c7 0 (by omega)
  have c71 := c7 1 (by omega)
  have c80 := c8 0 (by omega)
  have c81 := c8 1 (by omega)
  have e30 := e3 0 (by omega)
  have e31 := e3 1 (by omega)
  have e40 := e4 0 (by omega)
  have e41 := e4 1 (by omega)
  have e70 := e7 0 (by omega)
  have e71 := e7 1 (by omega)
  have e80 := e8 0 (by omega)
  have e81 := e8 1 (by omega)
  have hb : r 27 = 0 ∨ r 27 = 1 := by omega
  unfold f_X0_become
  simp (disch := omega) only [lp_s, f_X0_become_B2, gP_t, gd_some, gd_bnd, gd_bnd2, gd_gP, gd_lt, gd_jn, bnd_s, bnd2_s, ltt_s, jn_s, gP_p c0, gP_p e0, n32_nat, n32_le, n32_lt, n32_eq, n32_add, n32_sub, n32_dec, n32_mul, n32_div, n32_irm, n32_lit, n32_oN, n32_ix, n32_m1, n32_m2, neg_le0, neg_lt0, neg_lt1, neg_le1, n32_min, n32_max, c1, c2, c30, c31, c40, c41, c5, c6, c70, c71, c80, c81, e1, e2, e30, e31, e40, e41, e5, e6, e70, e71, e80, e81, sI_eq, sI_ne, sI_J, sI_R, sI_kO, sI_rK, sI_len, sJ_eq, sJ_ne, sJ_I, sJ_kO, sJ_rK, sJ_len, cpy_eq, cpy_ne, cpy_kO, cpy_rK, cpy_len, cpok6, s2, s3, s4, s5, hb, true_and, Nat.add_zero, Nat.zero_add, Nat.reduceAdd, Nat.reduceLT, if_false, if_true]
  refine ⟨⟨fun k m hk hm => ?_, fun k m hk hm => ?_, ?_, ?_, ?_, ?_⟩, ?_, fun a j ha => ?_⟩
  · rcases (show k = 0 ∨ k = 1 by omega) with rfl | rfl
    · simp (disch := omega) only [sI_eq, sI_ne, sI_J, sI_R, sI_kO, sI_rK, sI_len, sJ_eq, sJ_ne, sJ_I, sJ_kO, sJ_rK, sJ_len, cpy_eq, cpy_ne, cpy_kO, cpy_rK, cpy_len, Nat.add_zero]
      exact s0 0 m hk hm
    · simp (disch := omega) only [sI_eq, sI_ne, sI_J, sI_R, sI_kO, sI_rK, sI_len, sJ_eq, sJ_ne, sJ_I, sJ_kO, sJ_rK, sJ_len, cpy_eq, cpy_ne, cpy_kO, cpy_rK, cpy_len]
      exact s0 1 m hk hm
  · rcases (show k = 0 ∨ k = 1 by omega) with rfl | rfl
    · simp (disch := omega) only [sI_eq, sI_ne, sI_J, sI_R, sI_kO, sI_rK, sI_len, sJ_eq, sJ_ne, sJ_I, sJ_kO, sJ_rK, sJ_len, cpy_eq, cpy_ne, cpy_kO, cpy_rK, cpy_len, Nat.add_zero]
      exact s1 0 m hk hm
    · simp (disch := omega) only [sI_eq, sI_ne, sI_J, sI_R, sI_kO, sI_rK, sI_len, sJ_eq, sJ_ne, sJ_I, sJ_kO, sJ_rK, sJ_len, cpy_eq, cpy_ne, cpy_kO, cpy_rK, cpy_len]
      exact s1 1 m hk hm
  · simp (disch := omega) only [sI_eq, sI_ne, sI_J, sI_R, sI_kO, sI_rK, sI_len, sJ_eq, sJ_ne, sJ_I, sJ_kO, sJ_rK, sJ_len, cpy_eq, cpy_ne, cpy_kO, cpy_rK, cpy_len]
  · simp (disch := omega) only [sI_eq, sI_ne, sI_J, sI_R, sI_kO, sI_rK, sI_len, sJ_eq, sJ_ne, sJ_I, sJ_kO, sJ_rK, sJ_len, cpy_eq, cpy_ne, cpy_kO, cpy_rK, cpy_len]
  · simp (disch := omega) only [sI_eq, sI_ne, sI_J, sI_R, sI_kO, sI_rK, sI_len, sJ_eq, sJ_ne, sJ_I, sJ_kO, sJ_rK, sJ_len, cpy_eq, cpy_ne, cpy_kO, cpy_rK, cpy_len]
  · simp (disch := omega) only [sI_eq, sI_ne, sI_J, sI_R, sI_kO, sI_rK, sI_len, sJ_eq, sJ_ne, sJ_I, sJ_kO, sJ_rK, sJ_len, cpy_eq, cpy_ne, cpy_kO, cpy_rK, cpy_len]
  · refine (((((((((fr.rf _ h).cpy (n := 6) (by omega) ?_).cpy (n := 6) (by omega) ?_).cpy (n := 6) (by omega) ?_).cpy (n := 6) (by omega) ?_).sI ?_).sI ?_).sI ?_).sI ?_).sI ?_
    · exact fun j => ix 2 j (by omega)
    · exact fun j => ix 5 j (by omega)
    · exact fun j => ix 3 j (by omega)
    · exact fun j => ix 6 j (by omega)
    all_goals exact ix 0 _ (by omega)
  · simp (disch := omega) only [sI_eq, sI_ne, sI_J, sI_R, sI_kO, sI_rK, sI_len, sJ_eq, sJ_ne, sJ_I, sJ_kO, sJ_rK, sJ_len, cpy_eq, cpy_ne, cpy_kO, cpy_rK, cpy_len]
/-! a fleet -/
def FR (h : HP) (f : Nat) (F : Fle) : Prop := h.2.1 f 2 = n32 F.1 ∧ ∀ i, i < F.1 → h.2.1 (f + 1) i = (if F.2.1 i = 2 then -n32 1 else n32 (F.2.1 i)) ∧ h.2.1 (f + 2) i = n32 (F.2.2 i)
theorem n32_xor (i j : Nat) : n32 i ^^^ n32 j = n32 (i ^^^ j) := by
  apply Int32.toBitVec.inj
  rw [Int32.toBitVec_xor]
  show BitVec.ofNat 32 i ^^^ BitVec.ofNat 32 j = BitVec.ofNat 32 (i ^^^ j)
  rw [BitVec.ofNat_xor]
theorem floorMod_y {i j : Nat} (hi : i < 2147483648) (hj : j < 2147483648) (h0 : 0 < j) : f_J9_floorMod_7cf53 (n32 i) (n32 j) = some (n32 (i % j)) := by
  have hx : i ^^^ j < 2147483648 := Nat.xor_lt_two_pow (n := 31) hi hj
  unfold f_J9_floorMod_7cf53
  rw [gP_p]
  · simp (disch := omega) only [n32_nat, n32_le, n32_lt, n32_eq, n32_add, n32_sub, n32_dec, n32_mul, n32_div, n32_irm, n32_lit, n32_oN, n32_ix, n32_m1, n32_m2, neg_le0, neg_lt0, neg_lt1, neg_le1, n32_min, n32_max, n32_xor, ltt_s, Nat.zero_le, if_true]
  · simp (disch := omega) only [n32_nat, n32_le, n32_lt, n32_eq, n32_add, n32_sub, n32_dec, n32_mul, n32_div, n32_irm, n32_lit, n32_oN, n32_ix, n32_m1, n32_m2, neg_le0, neg_lt0, neg_lt1, neg_le1, n32_min, n32_max]
    omega
theorem atMonth_y {h : HP} {f mo fn : Nat} (fc : FLc h f) (z : h.2.1 f 2 = n32 fn) (h1 : 1 ≤ fn) (h8 : fn ≤ 8) (hm : mo < 2147483648) : f_X1_atMonth h f (n32 mo) = some (n32 (mo % fn)) := by
  unfold f_X1_atMonth
  rw [gP_p fc.1, z, floorMod_y hm (by omega) (by omega), if_pos, bnd_s]
  simp (disch := omega) only [n32_nat, n32_le, n32_lt, n32_eq, n32_add, n32_sub, n32_dec, n32_mul, n32_div, n32_irm, n32_lit, n32_oN, n32_ix, n32_m1, n32_m2, neg_le0, neg_lt0, neg_lt1, neg_le1, n32_min, n32_max]
  omega
theorem land_y {h : HP} {c f sz : Nat} {F : Fle} {r : Nat → Nat} (co : CO h c) (fc : FLc h f) (z : h.2.1 c 2 = n32 sz) (hz : sz ≤ 6) (s : CR h c r) (fs : FR h f F) (fb : FB F) {B : Nat} (rb : RBm B r) (hB : B < 2147483648) :
    gd (f_X0_land h c f) (fun q => q.1 = n32 (mLanded sz F r) ∧ CR q.2 c (mLand sz F r) ∧ fr [rc c] h q.2 ∧ q.2.2.1 c 2 = n32 sz) := by
  obtain ⟨fb1, fb2, fb3⟩ := fb
  obtain ⟨rb1, rb2, rb3, rb4, rb5⟩ := rb
  obtain ⟨fs1, fs2⟩ := fs
  have hi : r 25 % F.1 < F.1 := Nat.mod_lt _ fb1
  obtain ⟨fk, fm⟩ := fs2 _ hi
  have hb := fb3 _ hi
  have am := atMonth_y (mo := r 25) fc fs1 fb1 fb2 (by omega)
  obtain ⟨s0, s1, s2, s3, s4, s5⟩ := id s
  obtain ⟨g0, g1, g2, g3, g4⟩ := fc
  unfold f_X0_land
  simp (disch := omega) only [gd_gP, co.1, g0, true_and, s3, am, bnd_s, s5, z, n32_nat, n32_le, n32_lt, n32_eq, n32_add, n32_sub, n32_dec, n32_mul, n32_div, n32_irm, n32_lit, n32_oN, n32_ix, n32_m1, n32_m2, neg_le0, neg_lt0, neg_lt1, neg_le1, n32_min, n32_max, g1, g2, g3, g4, gP_p]
  by_cases q1 : r 27 = 0
  · rw [if_pos q1]
    by_cases q2 : sz = 0
    · rw [if_pos q2, gd_some, mLanded_n (fun q => by have := q.2.1; omega), mLand_n (fun q => by have := q.2.1; omega)]
      exact ⟨rfl, s, fr.rf _ _, z⟩
    · rw [if_neg q2, fk, fm]
      by_cases q3 : F.2.1 (r 25 % F.1) = 2
      · rw [if_pos q3, if_pos rfl, gd_some, mLanded_n (fun q => by have := q.2.2; omega), mLand_n (fun q => by have := q.2.2; omega)]
        exact ⟨rfl, s, fr.rf _ _, z⟩
      · have hl : lndP sz F r := ⟨q1, by omega, by omega⟩
        have ay := add_y (m := 0) (k := F.2.1 (r 25 % F.1)) (n := F.2.2 (r 25 % F.1)) co z hz (by omega) hl.2.2 (s0 _ 0 hl.2.2 (by omega)) (by have := rb1 (6 * F.2.1 (r 25 % F.1) + 0) (by omega); omega)
        rw [if_neg q3]
        simp (disch := omega) only [n32_nat, n32_le, n32_lt, n32_eq, n32_add, n32_sub, n32_dec, n32_mul, n32_div, n32_irm, n32_lit, n32_oN, n32_ix, n32_m1, n32_m2, neg_le0, neg_lt0, neg_lt1, neg_le1, n32_min, n32_max, if_false, ay, bnd2_s, gd_some]
        rw [mLanded_y hl, mLand_y hl]
        have h3 := rb1 (6 * F.2.1 (r 25 % F.1)) (by omega)
        refine ⟨?_, s.set hl.2.2 (by omega), (fr.rf _ _).sI ?_, by rw [sI_ne (by omega)]; exact z⟩
        · rw [n32_sub (by show r (6 * F.2.1 (r 25 % F.1) + 0) ≤ _; rw [Nat.add_zero]; omega)]
          rfl
        · rw [show c + 2 + F.2.1 (r 25 % F.1) = c + (2 + F.2.1 (r 25 % F.1)) by omega]
          exact co.in1 (by omega)
  · rw [if_neg q1, gd_some, mLanded_n (fun q => q1 q.1), mLand_n (fun q => q1 q.1)]
    exact ⟨rfl, s, fr.rf _ _, z⟩
