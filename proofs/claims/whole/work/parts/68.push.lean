/-! ===== what can be undone: putting by on both sides ===== -/
def nxn (nx : Nat) : Nat := if nx = 14 then 0 else nx + 1
def un (u : Nat) : Nat := min 15 (u + 1)
def PuX (h h' : HP) (nx u sz : Nat) (r : Nat → Nat) : Prop := h'.2.1 26 1 = n32 (nxn nx) ∧ h'.2.1 26 2 = n32 (un u) ∧ CR h' (28 + 7 * nx) r ∧ h'.2.1 (28 + 7 * nx) 2 = n32 sz ∧ ∀ p, p < 15 → p ≠ nx → ∀ i j, i < 7 → h'.2.1 (28 + 7 * p + i) j = h.2.1 (28 + 7 * p + i) j
def PuM (h h' : HP) (u : Nat) (r : Nat → Nat) : Prop := h'.2.1 188 25 = n32 (un u) ∧ (u < 15 → (∀ x, x < 28 * u → h'.2.1 202 x = h.2.1 202 x) ∧ ∀ j, j < 28 → h'.2.1 202 (28 * u + j) = n32 (r j)) ∧ (u = 15 → (∀ x, x < 392 → h'.2.1 202 x = h.2.1 202 (x + 28)) ∧ ∀ j, j < 28 → h'.2.1 202 (392 + j) = n32 (r j))
theorem rp_push {nx u i : Nat} (hn : nx < 15) (hu : u < 15) (hi : i < u) : rp (nxn nx) (un u) i = rp nx u i := by
  unfold rp nxn un
  split <;> omega
theorem rp_last {nx u : Nat} (hn : nx < 15) (hu : u ≤ 15) : rp (nxn nx) (un u) (un u - 1) = nx := by
  unfold rp nxn un
  split <;> omega
theorem rp_full {nx i : Nat} (hn : nx < 15) (hi : i < 14) : rp (nxn nx) 15 i = rp nx 15 (i + 1) := by
  unfold rp nxn
  split <;> omega
theorem rp_ne {nx u i : Nat} (hn : nx < 15) (hu : u < 15) (hi : i < u) : rp nx u i ≠ nx := by
  unfold rp
  omega
theorem rp_ne2 {nx i : Nat} (hn : nx < 15) (hi : i < 14) : rp nx 15 (i + 1) ≠ nx := by
  unfold rp
  omega
theorem pas_push {B B' sz nx u : Nat} {h h1 h2 : HP} {r : Nat → Nat} (hB : B ≤ B') (pn : PaN h nx u) (pe : ∀ i, i < u → ∃ P, PaE B sz nx u h i P) (rb : RBm B' r) (zb : ZB sz r) (x : PuX h h1 nx u sz r) (ex : ∀ a j, reg a j = 6 → h2.2.1 a j = h1.2.1 a j) (em : ∀ j, h1.2.1 202 j = h.2.1 202 j) (m : PuM h1 h2 u r) : Pas B' sz h2 := by
  obtain ⟨p1, p2, p3, p4, p5⟩ := pn
  obtain ⟨x1, x2, x3, x4, x5⟩ := x
  obtain ⟨m1, m2, m3⟩ := m
  have hnx : nxn nx < 15 := by unfold nxn; split <;> omega
  have hun : un u ≤ 15 := by unfold un; omega
  have oldX : ∀ p P, p < 15 → p ≠ nx → CR h (28 + 7 * p) P → h.2.1 (28 + 7 * p) 2 = n32 sz → CR h2 (28 + 7 * p) P ∧ h2.2.1 (28 + 7 * p) 2 = n32 sz := fun p P hp hne c1 c2 => by
    have e : ∀ i j, i < 7 → h2.2.1 (28 + 7 * p + i) j = h.2.1 (28 + 7 * p + i) j := fun i j hi => by
      rw [ex _ _ (by rw [reg_c (by omega), rcp hp hi]), x5 p hp hne i j hi]
    exact ⟨c1.same fun i hi => funext fun j => e i j hi, (e 0 2 (by omega)).trans c2⟩
  have newX : CR h2 (28 + 7 * nx) r ∧ h2.2.1 (28 + 7 * nx) 2 = n32 sz := by
    have e : ∀ i j, i < 7 → h2.2.1 (28 + 7 * nx + i) j = h1.2.1 (28 + 7 * nx + i) j := fun i j hi => ex _ _ (by rw [reg_c (by omega), rcp p2 hi])
    exact ⟨x3.same fun i hi => funext fun j => e i j hi, (e 0 2 (by omega)).trans x4⟩
  refine ⟨nxn nx, un u, ⟨hun, hnx, (ex 26 1 rfl).trans x1, (ex 26 2 rfl).trans x2, m1⟩, fun i hi => ?_⟩
  by_cases hu : u < 15
  · obtain ⟨m4, m5⟩ := m2 hu
    have e : un u = u + 1 := by unfold un; omega
    by_cases hl : i = u
    · subst hl
      have hr : rp (nxn nx) (un i) i = nx := by
        have := rp_last p2 p1
        rw [show un i - 1 = i by omega] at this
        exact this
      refine ⟨r, ?_⟩
      unfold PaE
      rw [hr]
      exact ⟨newX.1, newX.2, m5, rb, zb⟩
    · obtain ⟨P, a1, a2, a3, a4, a5⟩ := pe i (by omega)
      have hr := rp_push p2 hu (show i < u by omega)
      refine ⟨P, ?_⟩
      unfold PaE
      rw [hr]
      obtain ⟨b1, b2⟩ := oldX _ P rp_lt (rp_ne p2 hu (by omega)) a1 a2
      exact ⟨b1, b2, fun j hj => by rw [m4 _ (by omega), em]; exact a3 j hj, a4.mo hB, a5⟩
  · have hu2 : u = 15 := by omega
    subst hu2
    obtain ⟨m4, m5⟩ := m3 rfl
    have e : un 15 = 15 := rfl
    rw [e] at hi ⊢
    by_cases hl : i = 14
    · subst hl
      have hr : rp (nxn nx) 15 14 = nx := rp_last (u := 15) p2 (by omega)
      refine ⟨r, ?_⟩
      unfold PaE
      rw [hr]
      exact ⟨newX.1, newX.2, m5, rb, zb⟩
    · obtain ⟨P, a1, a2, a3, a4, a5⟩ := pe (i + 1) (by omega)
      have hr := rp_full p2 (show i < 14 by omega)
      refine ⟨P, ?_⟩
      unfold PaE
      rw [hr]
      obtain ⟨b1, b2⟩ := oldX _ P rp_lt (rp_ne2 p2 (by omega)) a1 a2
      exact ⟨b1, b2, fun j hj => by rw [m4 _ (by omega), em, show 28 * i + j + 28 = 28 * (i + 1) + j by omega]; exact a3 j hj, a4.mo hB, a5⟩
/-! the program puts by -/
theorem put_x {N : Nat} {b c : Bool} {h : HP} {nx u sz : Nat} {r : Nat → Nat} (s : SH b c h) (hn : nx < 15) (hu : u ≤ 15) (e1 : h.2.1 26 1 = n32 nx) (e2 : h.2.1 26 2 = n32 u) (cr : CR h 12 r) (z : h.2.1 12 2 = n32 sz) (r27 : r 27 ≤ 1) :
    gd (f_X5_put (N + 3) h 26 12) (fun h' => PuX h h' nx u sz r ∧ fr [6] h h') := by
  obtain ⟨k1, k2⟩ := s.past hn
  have hn1 : nx = 14 ∨ ¬ nx = 14 := by omega
  unfold f_X5_put
  simp -implicitDefEqProofs (disch := omega) only [s.root, gP_p, gP_t, bnd_s, bnd2_s, ltt_s, jn_s, n32_nat, n32_le, n32_lt, n32_eq, n32_add, n32_sub, n32_dec, n32_mul, n32_div, n32_irm, n32_lit, n32_oN, n32_ix, n32_m1, n32_m2, neg_le0, neg_lt0, neg_lt1, neg_le1, n32_min, n32_max, if_true, if_false, Nat.one_ne_zero, gd_some, true_or, or_true, false_or, or_false, e1, k1, gd_bnd]
  refine gd_mono (become_y (s.co k2) (s.co (show CL.contains 12 = true by decide)) (by omega) cr r27) ?_
  rintro h1 ⟨c1, c2, c3, c4⟩
  have f1 : fr [6] h h1 := c3.mono (by rw [show rc (28 + 7 * nx) = 6 from rcp (i := 0) hn (by omega)]; rfl)
  have s1 := s.fr f1
  have d1 : h1.2.1 26 1 = n32 nx := by rw [c4 26 1 (by omega)]; exact e1
  have d2 : h1.2.1 26 2 = n32 u := by rw [c4 26 2 (by omega)]; exact e2
  have fin1 : ∀ x y, PuX h (setI (setI h1 26 1 (n32 x)) 26 2 (n32 y)) nx u sz r ↔ x = x ∧ (n32 x = n32 (nxn nx) ∧ n32 y = n32 (un u)) := fun x y => by
    constructor
    · rintro ⟨q1, q2, -, -, -⟩
      rw [sI_ne (by omega), sI_eq] at q1
      rw [sI_eq] at q2
      exact ⟨rfl, q1, q2⟩
    · rintro ⟨-, q1, q2⟩
      refine ⟨by rw [sI_ne (by omega), sI_eq]; exact q1, by rw [sI_eq]; exact q2, ?_, by rw [sI_ne (by omega), sI_ne (by omega), c2]; exact z, fun p hp hpn i j hi => by rw [sI_ne (by omega), sI_ne (by omega)]; exact c4 _ j (by omega)⟩
      exact c1.same fun i hi => funext fun j => by rw [sI_ne (by omega), sI_ne (by omega)]
  rcases hn1 with q | q
  · subst q
    simp -implicitDefEqProofs (disch := omega) only [s1.root, gP_p, gP_t, bnd_s, bnd2_s, ltt_s, jn_s, n32_nat, n32_le, n32_lt, n32_eq, n32_add, n32_sub, n32_dec, n32_mul, n32_div, n32_irm, n32_lit, n32_oN, n32_ix, n32_m1, n32_m2, neg_le0, neg_lt0, neg_lt1, neg_le1, n32_min, n32_max, if_true, if_false, Nat.one_ne_zero, gd_some, true_or, or_true, false_or, or_false, sI_ne, d1, d2]
    exact ⟨(fin1 _ _).mpr ⟨rfl, rfl, rfl⟩, (f1.sI rfl).sI rfl⟩
  · simp -implicitDefEqProofs (disch := omega) only [s1.root, gP_p, gP_t, bnd_s, bnd2_s, ltt_s, jn_s, n32_nat, n32_le, n32_lt, n32_eq, n32_add, n32_sub, n32_dec, n32_mul, n32_div, n32_irm, n32_lit, n32_oN, n32_ix, n32_m1, n32_m2, neg_le0, neg_lt0, neg_lt1, neg_le1, n32_min, n32_max, if_true, if_false, Nat.one_ne_zero, gd_some, true_or, or_true, false_or, or_false, sI_ne, d1, d2, q]
    exact ⟨(fin1 _ _).mpr ⟨rfl, by unfold nxn; rw [if_neg q], by unfold un; rfl⟩, (f1.sI rfl).sI rfl⟩
/-! the reference puts by -/
theorem puts_l {N u : Nat} {b c : Bool} {r : Nat → Nat} (hu : u ≤ 15) (h0 : HP) : ∀ (d i fuel : Nat) (h : HP), i + d = 28 → d < fuel → SH b c h → MR h 193 r → h.2.1 188 25 = n32 u → (∀ x, x < 28 * u → h.2.1 202 x = h0.2.1 202 x) → (∀ j, j < i → h.2.1 202 (28 * u + j) = n32 (r j)) → fr [26] h0 h →
    gd (lp (fun _ _ => none) (f_X10_putsBy_B2 N 188) fuel (n32 i) h) (fun h' => h'.2.1 188 25 = n32 u ∧ (∀ x, x < 28 * u → h'.2.1 202 x = h0.2.1 202 x) ∧ (∀ j, j < 28 → h'.2.1 202 (28 * u + j) = n32 (r j)) ∧ fr [26] h0 h') := by
  intro d
  induction d with
  | zero =>
    intro i fuel h hi hf s m e o n f
    obtain ⟨k, rfl⟩ : ∃ k, fuel = k + 1 := ⟨fuel - 1, by omega⟩
    simp -implicitDefEqProofs (disch := omega) only [lp_s, f_X10_putsBy_B2, gP_p, gP_t, bnd_s, bnd2_s, ltt_s, jn_s, n32_nat, n32_le, n32_lt, n32_eq, n32_add, n32_sub, n32_dec, n32_mul, n32_div, n32_irm, n32_lit, n32_oN, n32_ix, n32_m1, n32_m2, neg_le0, neg_lt0, neg_lt1, neg_le1, n32_min, n32_max, if_true, if_false, Nat.one_ne_zero, gd_some, true_or, or_true, false_or, or_false]
    rw [if_pos (by omega), gd_some]
    exact ⟨e, o, fun j hj => n j (by omega), f⟩
  | succ d ih =>
    intro i fuel h hi hf s m e o n f
    obtain ⟨k, rfl⟩ : ∃ k, fuel = k + 1 := ⟨fuel - 1, by omega⟩
    have mi := m i (by omega)
    have ni : ¬ 28 ≤ i := by omega
    simp -implicitDefEqProofs (disch := omega) only [lp_s, f_X10_putsBy_B2, gP_p, gP_t, bnd_s, bnd2_s, ltt_s, jn_s, n32_nat, n32_le, n32_lt, n32_eq, n32_add, n32_sub, n32_dec, n32_mul, n32_div, n32_irm, n32_lit, n32_oN, n32_ix, n32_m1, n32_m2, neg_le0, neg_lt0, neg_lt1, neg_le1, n32_min, n32_max, if_true, if_false, Nat.one_ne_zero, gd_some, true_or, or_true, false_or, or_false, s.mod, mi, e, ni]
    refine ih (i + 1) k _ (by omega) (by omega) (s.sm ⟨rfl, rfl⟩) (mR_ne m (by omega)) (by rw [sI_ne (by omega)]; exact e) (fun x hx => by rw [sI_ne (by omega)]; exact o x hx) (fun j hj => ?_) (f.sI rfl)
    by_cases q : j = i
    · rw [q, sI_eq]
    · rw [sI_ne (by omega)]
      exact n j (by omega)
theorem puts_m {N u : Nat} {b c : Bool} {r : Nat → Nat} {h : HP} (hN : 28 < N) (hu : u ≤ 15) (s : SH b c h) (m : MR h 193 r) (e : h.2.1 188 25 = n32 u) : gd (f_X10_putsBy N h 188) (fun h' => h'.2.1 188 25 = n32 u ∧ (∀ x, x < 28 * u → h'.2.1 202 x = h.2.1 202 x) ∧ (∀ j, j < 28 → h'.2.1 202 (28 * u + j) = n32 (r j)) ∧ fr [26] h h') := by
  unfold f_X10_putsBy
  rw [gP_p (by simp only [s.mod])]
  exact puts_l hu h 28 0 N h (by omega) hN s m e (fun x hx => rfl) (fun j hj => absurd hj (by omega)) (fr.rf _ _)
theorem adds_l {N : Nat} {b c : Bool} {x1 : Int32} {k : HP → Option (Int32 × HP)} {Q : Int32 × HP → Prop} (h0 : HP) (K : ∀ h', SH b c h' → (∀ x, x < 420 → h'.2.1 202 x = h0.2.1 202 (x + 28)) → h'.2.1 188 25 = h0.2.1 188 25 → fr [26] h0 h' → gd (k h') Q) : ∀ (d i fuel : Nat) (h : HP), i + d = 420 → d < fuel → SH b c h → (∀ x, x < i → h.2.1 202 x = h0.2.1 202 (x + 28)) → (∀ x, i ≤ x → h.2.1 202 x = h0.2.1 202 x) → h.2.1 188 25 = h0.2.1 188 25 → fr [26] h0 h →
    gd (lp (fun _ _ => none) (f_X10_adds_B21 N 188 x1 k) fuel (n32 i) h) Q := by
  intro d
  induction d with
  | zero =>
    intro i fuel h hi hf s o n e f
    obtain ⟨k', rfl⟩ : ∃ k, fuel = k + 1 := ⟨fuel - 1, by omega⟩
    simp -implicitDefEqProofs (disch := omega) only [lp_s, f_X10_adds_B21, gP_p, gP_t, bnd_s, bnd2_s, ltt_s, jn_s, n32_nat, n32_le, n32_lt, n32_eq, n32_add, n32_sub, n32_dec, n32_mul, n32_div, n32_irm, n32_lit, n32_oN, n32_ix, n32_m1, n32_m2, neg_le0, neg_lt0, neg_lt1, neg_le1, n32_min, n32_max, if_true, if_false, Nat.one_ne_zero, gd_some, true_or, or_true, false_or, or_false]
    rw [if_pos (by omega)]
    exact K h s (fun x hx => o x (by omega)) e f
  | succ d ih =>
    intro i fuel h hi hf s o n e f
    obtain ⟨k', rfl⟩ : ∃ k, fuel = k + 1 := ⟨fuel - 1, by omega⟩
    have ni : ¬ 420 ≤ i := by omega
    have v := n (i + 28) (by omega)
    simp -implicitDefEqProofs (disch := omega) only [lp_s, f_X10_adds_B21, gP_p, gP_t, bnd_s, bnd2_s, ltt_s, jn_s, n32_nat, n32_le, n32_lt, n32_eq, n32_add, n32_sub, n32_dec, n32_mul, n32_div, n32_irm, n32_lit, n32_oN, n32_ix, n32_m1, n32_m2, neg_le0, neg_lt0, neg_lt1, neg_le1, n32_min, n32_max, if_true, if_false, Nat.one_ne_zero, gd_some, true_or, or_true, false_or, or_false, s.mod, v, ni]
    refine ih (i + 1) k' _ (by omega) (by omega) (s.sm ⟨rfl, rfl⟩) (fun x hx => ?_) (fun x hx => by rw [sI_ne (by omega)]; exact n x (by omega)) (by rw [sI_ne (by omega)]; exact e) (f.sI rfl)
    by_cases q : x = i
    · rw [q, sI_eq]
    · rw [sI_ne (by omega)]
      exact o x (by omega)
theorem adds_m {u : Nat} {b c : Bool} {r : Nat → Nat} {h : HP} {x1 : Int32} (h0 : HP) (hu : u ≤ 15) (s : SH b c h) (e : h.2.1 188 25 = n32 u) (o : ∀ x, x < 28 * u → h.2.1 202 x = h0.2.1 202 x) (n : ∀ j, j < 28 → h.2.1 202 (28 * u + j) = n32 (r j)) : gd (f_X10_adds 1000 h 188 x1) (fun p => p.1 = x1 ∧ PuM h0 p.2 u r ∧ fr [26] h p.2) := by
  unfold f_X10_adds
  by_cases q : u < 15
  · have q1 : u + 1 ≤ 15 := by omega
    simp -implicitDefEqProofs (disch := omega) only [s.mod, gP_p, gP_t, bnd_s, bnd2_s, ltt_s, jn_s, n32_nat, n32_le, n32_lt, n32_eq, n32_add, n32_sub, n32_dec, n32_mul, n32_div, n32_irm, n32_lit, n32_oN, n32_ix, n32_m1, n32_m2, neg_le0, neg_lt0, neg_lt1, neg_le1, n32_min, n32_max, if_true, if_false, Nat.one_ne_zero, gd_some, true_or, or_true, false_or, or_false, e, sI_eq, q1]
    refine ⟨trivial, ⟨by rw [sI_eq]; unfold un; congr 1; omega, fun _ => ⟨fun x hx => by rw [sI_ne (by omega)]; exact o x hx, fun j hj => by rw [sI_ne (by omega)]; exact n j hj⟩, fun z => absurd z (by omega)⟩, (fr.rf _ _).sI rfl⟩
  · have q1 : ¬ u + 1 ≤ 15 := by omega
    have hu15 : u = 15 := by omega
    subst hu15
    simp -implicitDefEqProofs (disch := omega) only [s.mod, gP_p, gP_t, bnd_s, bnd2_s, ltt_s, jn_s, n32_nat, n32_le, n32_lt, n32_eq, n32_add, n32_sub, n32_dec, n32_mul, n32_div, n32_irm, n32_lit, n32_oN, n32_ix, n32_m1, n32_m2, neg_le0, neg_lt0, neg_lt1, neg_le1, n32_min, n32_max, if_true, if_false, Nat.one_ne_zero, gd_some, true_or, or_true, false_or, or_false, e, sI_eq, q1, Nat.reduceAdd, Nat.reduceLeDiff]
    refine adds_l (b := b) (c := c) (setI h 188 25 (n32 16)) ?_ 420 0 1000 _ (by omega) (by omega) (s.sm ⟨rfl, rfl⟩) (fun x hx => absurd hx (by omega)) (fun x hx => rfl) rfl (fr.rf _ _)
    intro h' s' o' e' f'
    rw [sI_eq] at e'
    simp -implicitDefEqProofs (disch := omega) only [e', gP_p, gP_t, bnd_s, bnd2_s, ltt_s, jn_s, n32_nat, n32_le, n32_lt, n32_eq, n32_add, n32_sub, n32_dec, n32_mul, n32_div, n32_irm, n32_lit, n32_oN, n32_ix, n32_m1, n32_m2, neg_le0, neg_lt0, neg_lt1, neg_le1, n32_min, n32_max, if_true, if_false, Nat.one_ne_zero, gd_some, true_or, or_true, false_or, or_false, Nat.reduceSub]
    refine ⟨trivial, ⟨by rw [sI_eq]; rfl, fun z => absurd z (by omega), fun _ => ⟨fun x hx => ?_, fun j hj => ?_⟩⟩, ?_⟩
    · rw [sI_ne (by omega), o' x (by omega), sI_ne (by omega)]
      exact o (x + 28) (by omega)
    · rw [sI_ne (by omega), o' (392 + j) (by omega), sI_ne (by omega), show 392 + j + 28 = 28 * 15 + j by omega]
      exact n j hj
    · exact (((fr.rf _ _).sI rfl).tr f').sI rfl
