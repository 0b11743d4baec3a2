/-! ===== a rule's text: the program's operators that wait ===== -/
theorem ru_reg (q : Bool) (j : Nat) : ∀ i, i < 6 → [ruq q, ruq q + 1].contains (reg (rur q + i) j) = true := fun i hi => by
  match i, hi with
  | 0, _ => cases q <;> rfl
  | 1, _ => cases q <;> rfl
  | 2, _ => cases q <;> rfl
  | 3, _ => cases q <;> rfl
  | 4, _ => cases q <;> rfl
  | 5, _ => cases q <;> rfl
theorem ru_ne (q : Bool) : rur q + 5 < 188 ∧ 170 < rur q := by cases q <;> decide
theorem zb0 : zb (n32 0) = n32 0 := by decide
theorem zb1 : zb (n32 1) = n32 1 := by decide
def bN (b : Bool) : Nat := if b = true then 1 else 0
/-- the machine's state, held by the program -/
def MH (h : HP) (f : Nat) (s : MS) : Prop := h.2.1 f 5 = n32 (mS s).length ∧ (∀ i, i < (mS s).length → h.2.1 (f + 1) i = n32 ((mS s).getD i 0)) ∧ h.2.1 f 6 = n32 (mW s).length ∧ (∀ i, i < (mW s).length → h.2.1 (f + 2) i = n32 ((mW s).getD ((mW s).length - 1 - i) 0)) ∧ h.2.1 f 7 = n32 (mo s) ∧ (∀ j, j ≤ mo s → h.2.1 (f + 5) j = n32 (bN (mcm s j))) ∧ h.2.1 f 8 = n32 (bN (md s))
def MB (s : MS) : Prop := (mS s).length + (mW s).length ≤ mp s ∧ mo s ≤ 4 ∧ (∀ w, w ∈ mW s → w < 3000) ∧ (∀ w, w ∈ mS s → w < 3000)
theorem rank_v {c : Nat} (hc : c < 3000) : f_X7_rank (n32 c) = some (n32 (rk c)) := by
  unfold f_X7_rank rk
  by_cases q1 : c = 2008
  · rw [if_pos q1]
    simp -implicitDefEqProofs (disch := omega) only [gP_p, gP_t, bnd_s, bnd2_s, ltt_s, jn_s, n32_nat, n32_le, n32_lt, n32_eq, n32_add, n32_sub, n32_dec, n32_mul, n32_div, n32_irm, n32_lit, n32_oN, n32_ix, n32_m1, n32_m2, neg_le0, neg_lt0, neg_lt1, neg_le1, n32_min, n32_max, if_true, if_false, Nat.one_ne_zero, gd_some, true_or, or_true, false_or, or_false, q1]
  · rw [if_neg q1]
    by_cases q2 : c ≤ 2002
    · have q3 : ¬ 2002 < c := by omega
      rw [if_pos q2]
      simp -implicitDefEqProofs (disch := omega) only [gP_p, gP_t, bnd_s, bnd2_s, ltt_s, jn_s, n32_nat, n32_le, n32_lt, n32_eq, n32_add, n32_sub, n32_dec, n32_mul, n32_div, n32_irm, n32_lit, n32_oN, n32_ix, n32_m1, n32_m2, neg_le0, neg_lt0, neg_lt1, neg_le1, n32_min, n32_max, if_true, if_false, Nat.one_ne_zero, gd_some, true_or, or_true, false_or, or_false, q1, q3]
    · have q3 : 2002 < c := by omega
      rw [if_neg q2]
      by_cases q4 : c ≤ 2004
      · have q5 : ¬ 2004 < c := by omega
        rw [if_pos q4]
        simp -implicitDefEqProofs (disch := omega) only [gP_p, gP_t, bnd_s, bnd2_s, ltt_s, jn_s, n32_nat, n32_le, n32_lt, n32_eq, n32_add, n32_sub, n32_dec, n32_mul, n32_div, n32_irm, n32_lit, n32_oN, n32_ix, n32_m1, n32_m2, neg_le0, neg_lt0, neg_lt1, neg_le1, n32_min, n32_max, if_true, if_false, Nat.one_ne_zero, gd_some, true_or, or_true, false_or, or_false, q1, q3, q5]
      · have q5 : 2004 < c := by omega
        rw [if_neg q4]
        by_cases q6 : c = 2007
        · rw [if_pos q6, q6]
          rfl
        · rw [if_neg q6]
          simp -implicitDefEqProofs (disch := omega) only [gP_p, gP_t, bnd_s, bnd2_s, ltt_s, jn_s, n32_nat, n32_le, n32_lt, n32_eq, n32_add, n32_sub, n32_dec, n32_mul, n32_div, n32_irm, n32_lit, n32_oN, n32_ix, n32_m1, n32_m2, neg_le0, neg_lt0, neg_lt1, neg_le1, n32_min, n32_max, if_true, if_false, Nat.one_ne_zero, gd_some, true_or, or_true, false_or, or_false, q1, q3, q5, q6]
theorem step_x {b c q : Bool} {h : HP} {n : Nat} {v : Int32} (s : SH b c h) (z : h.2.1 (rur q) 5 = n32 n) (hn : n < 40) : f_X7_step h (rur q) v = some (setI (setI h (rur q + 1) n v) (rur q) 5 (n32 (n + 1))) := by
  obtain ⟨c0, c1, c2, c3, c4, c5, l1, l2, l3, l4, l5⟩ := s.ruc q
  have e : ¬ 40 ≤ n := by omega
  unfold f_X7_step
  simp -implicitDefEqProofs (disch := omega) only [gP_p, gP_t, bnd_s, bnd2_s, ltt_s, jn_s, n32_nat, n32_le, n32_lt, n32_eq, n32_add, n32_sub, n32_dec, n32_mul, n32_div, n32_irm, n32_lit, n32_oN, n32_ix, n32_m1, n32_m2, neg_le0, neg_lt0, neg_lt1, neg_le1, n32_min, n32_max, if_true, if_false, Nat.one_ne_zero, gd_some, true_or, or_true, false_or, or_false, c0, c1, l1, z, e, sI_eq, sI_ne, sI_J, sI_R, sI_kO, sI_rK, sI_len, sJ_eq, sJ_ne, sJ_I, sJ_kO, sJ_rK, sJ_len]
theorem await_x {b c q : Bool} {h : HP} {n : Nat} {v : Int32} (s : SH b c h) (z : h.2.1 (rur q) 6 = n32 n) (hn : n < 40) : f_X7_await h (rur q) v = some (setI (setI h (rur q + 2) n v) (rur q) 6 (n32 (n + 1))) := by
  obtain ⟨c0, c1, c2, c3, c4, c5, l1, l2, l3, l4, l5⟩ := s.ruc q
  have e : ¬ 40 ≤ n := by omega
  unfold f_X7_await
  simp -implicitDefEqProofs (disch := omega) only [gP_p, gP_t, bnd_s, bnd2_s, ltt_s, jn_s, n32_nat, n32_le, n32_lt, n32_eq, n32_add, n32_sub, n32_dec, n32_mul, n32_div, n32_irm, n32_lit, n32_oN, n32_ix, n32_m1, n32_m2, neg_le0, neg_lt0, neg_lt1, neg_le1, n32_min, n32_max, if_true, if_false, Nat.one_ne_zero, gd_some, true_or, or_true, false_or, or_false, c0, c2, l2, z, e, sI_eq, sI_ne, sI_J, sI_R, sI_kO, sI_rK, sI_len, sJ_eq, sJ_ne, sJ_I, sJ_kO, sJ_rK, sJ_len]
/-- one more step -/
theorem MH.step {h : HP} {f v : Nat} {W S : List Nat} {o p p' : Nat} {cm : Nat → Bool} {d : Bool} (hm : MH h f (W, S, o, cm, d, p)) : MH (setI (setI h (f + 1) S.length (n32 v)) f 5 (n32 (S.length + 1))) f (W, S ++ [v], o, cm, d, p') := by
  obtain ⟨m1, m2, m3, m4, m5, m6, m7⟩ := hm
  refine ⟨by rw [sI_eq]; show _ = n32 (S ++ [v]).length; rw [List.length_append]; rfl, fun i hi => ?_, by rw [sI_ne (by omega), sI_ne (by omega)]; exact m3, fun i hi => by rw [sI_ne (by omega), sI_ne (by omega)]; exact m4 i hi, by rw [sI_ne (by omega), sI_ne (by omega)]; exact m5, fun j hj => by rw [sI_ne (by omega), sI_ne (by omega)]; exact m6 j hj, by rw [sI_ne (by omega), sI_ne (by omega)]; exact m7⟩
  have hi' : i < (S ++ [v]).length := hi
  rw [List.length_append] at hi'
  have hi2 : i < S.length + 1 := hi'
  show (setI (setI h (f + 1) S.length (n32 v)) f 5 (n32 (S.length + 1))).2.1 (f + 1) i = n32 ((S ++ [v]).getD i 0)
  rw [sI_ne (by omega)]
  by_cases q : i = S.length
  · rw [q, sI_eq, List.getD_eq_getElem?_getD, List.getElem?_append_right (Nat.le_refl _), Nat.sub_self]
    rfl
  · rw [sI_ne (by omega), List.getD_eq_getElem?_getD, List.getElem?_append_left (by omega), ← List.getD_eq_getElem?_getD]
    exact m2 i (by show i < S.length; omega)
theorem MH.wait {h : HP} {f v : Nat} {W S : List Nat} {o p p' : Nat} {cm : Nat → Bool} {d : Bool} (hm : MH h f (W, S, o, cm, d, p)) : MH (setI (setI h (f + 2) W.length (n32 v)) f 6 (n32 (W.length + 1))) f (v :: W, S, o, cm, d, p') := by
  obtain ⟨m1, m2, m3, m4, m5, m6, m7⟩ := hm
  refine ⟨by rw [sI_ne (by omega), sI_ne (by omega)]; exact m1, fun i hi => by rw [sI_ne (by omega), sI_ne (by omega)]; exact m2 i hi, by rw [sI_eq]; rfl, fun i hi => ?_, by rw [sI_ne (by omega), sI_ne (by omega)]; exact m5, fun j hj => by rw [sI_ne (by omega), sI_ne (by omega)]; exact m6 j hj, by rw [sI_ne (by omega), sI_ne (by omega)]; exact m7⟩
  have hi2 : i < W.length + 1 := hi
  show (setI (setI h (f + 2) W.length (n32 v)) f 6 (n32 (W.length + 1))).2.1 (f + 2) i = n32 ((v :: W).getD (W.length + 1 - 1 - i) 0)
  rw [sI_ne (by omega)]
  by_cases q : i = W.length
  · rw [q, sI_eq, show W.length + 1 - 1 - W.length = 0 by omega]
    rfl
  · rw [sI_ne (by omega), show W.length + 1 - 1 - i = (W.length - 1 - i) + 1 by omega]
    exact m4 i (by show i < W.length; omega)
theorem MH.pop {h : HP} {f w : Nat} {W S : List Nat} {o p p' : Nat} {cm : Nat → Bool} {d : Bool} (hm : MH h f (w :: W, S, o, cm, d, p)) : MH (setI h f 6 (n32 W.length)) f (W, S, o, cm, d, p') ∧ h.2.1 f 6 = n32 (W.length + 1) ∧ h.2.1 (f + 2) W.length = n32 w := by
  obtain ⟨m1, m2, m3, m4, m5, m6, m7⟩ := hm
  refine ⟨⟨by rw [sI_ne (by omega)]; exact m1, fun i hi => by rw [sI_ne (by omega)]; exact m2 i hi, sI_eq, fun i hi => ?_, by rw [sI_ne (by omega)]; exact m5, fun j hj => by rw [sI_ne (by omega)]; exact m6 j hj, by rw [sI_ne (by omega)]; exact m7⟩, m3, ?_⟩
  · have hi2 : i < W.length := hi
    have := m4 i (by show i < W.length + 1; omega)
    rw [sI_ne (by omega), this]
    show n32 ((w :: W).getD (W.length + 1 - 1 - i) 0) = n32 (W.getD (W.length - 1 - i) 0)
    rw [show W.length + 1 - 1 - i = (W.length - 1 - i) + 1 by omega]
    rfl
  · have := m4 W.length (by show W.length < W.length + 1; omega)
    rw [this]
    show n32 ((w :: W).getD (W.length + 1 - 1 - W.length) 0) = n32 w
    rw [show W.length + 1 - 1 - W.length = 0 by omega]
    rfl
theorem rel_l {N r o p : Nat} {b c q : Bool} {cm : Nat → Bool} {d : Bool} (hr : r < 10) (h0 : HP) : ∀ (W S : List Nat) (fuel : Nat) (h : HP), W.length < fuel → S.length + W.length ≤ 40 → (∀ w, w ∈ W → w < 3000) → SH b c h → MH h (rur q) (W, S, o, cm, d, p) → fr [ruq q, ruq q + 1] h0 h → gd (lp (fun _ => none) (f_X7_release_B0 N (rur q) (n32 r)) fuel h) (fun h' => MH h' (rur q) ((rel r W S).2, (rel r W S).1, o, cm, d, p) ∧ fr [ruq q, ruq q + 1] h0 h') := by
  intro W
  induction W with
  | nil =>
    intro S fuel h hf hl hw s m f
    obtain ⟨k', rfl⟩ : ∃ k, fuel = k + 1 := ⟨fuel - 1, by omega⟩
    have z6 : h.2.1 (rur q) 6 = n32 0 := m.2.2.1
    rw [lp_s, f_X7_release_B0]
    simp -implicitDefEqProofs (disch := omega) only [gP_p, gP_t, bnd_s, bnd2_s, ltt_s, jn_s, n32_nat, n32_le, n32_lt, n32_eq, n32_add, n32_sub, n32_dec, n32_mul, n32_div, n32_irm, n32_lit, n32_oN, n32_ix, n32_m1, n32_m2, neg_le0, neg_lt0, neg_lt1, neg_le1, n32_min, n32_max, if_true, if_false, Nat.one_ne_zero, gd_some, true_or, or_true, false_or, or_false, z6, Nat.le_refl]
    exact ⟨m, f⟩
  | cons w W ih =>
    intro S fuel h hf hl hw s m f
    obtain ⟨k', rfl⟩ : ∃ k, fuel = k + 1 := ⟨fuel - 1, by omega⟩
    have hl' : S.length + (W.length + 1) ≤ 40 := hl
    have hf' : W.length + 1 < k' + 1 := hf
    obtain ⟨c0, c1, c2, c3, c4, c5, l1, l2, l3, l4, l5⟩ := s.ruc q
    obtain ⟨mp', z6, zw⟩ := m.pop (p' := p)
    have hw1 := hw w (List.mem_cons_self ..)
    have ra := rank_v hw1
    have e0 : ¬ W.length + 1 ≤ 0 := by omega
    have rb : rk w < 10 := by unfold rk; split; omega; split; omega; split; omega; split <;> omega
    rw [lp_s, f_X7_release_B0]
    by_cases qr : rk w < r
    · have er : rel r (w :: W) S = (S, w :: W) := if_pos qr
      rw [er]
      simp -implicitDefEqProofs (disch := omega) only [gP_p, gP_t, bnd_s, bnd2_s, ltt_s, jn_s, n32_nat, n32_le, n32_lt, n32_eq, n32_add, n32_sub, n32_dec, n32_mul, n32_div, n32_irm, n32_lit, n32_oN, n32_ix, n32_m1, n32_m2, neg_le0, neg_lt0, neg_lt1, neg_le1, n32_min, n32_max, if_true, if_false, Nat.one_ne_zero, gd_some, true_or, or_true, false_or, or_false, z6, e0, c2, l2, Nat.add_sub_cancel, zw, ra, qr]
      exact ⟨m, f⟩
    · have er : rel r (w :: W) S = rel r W (S ++ [w]) := if_neg qr
      rw [er]
      have f1 : fr [ruq q, ruq q + 1] h (setI h (rur q) 6 (n32 W.length)) := (fr.rf _ _).sI (ru_reg q 6 0 (by omega))
      have s1 := s.fr f1
      have st := step_x (q := q) (v := n32 w) (n := S.length) s1 mp'.1 (by omega)
      have m2 := MH.step (v := w) (p' := p) mp'
      have f2 : fr [ruq q, ruq q + 1] h (setI (setI (setI h (rur q) 6 (n32 W.length)) (rur q + 1) S.length (n32 w)) (rur q) 5 (n32 (S.length + 1))) := (f1.sI (ru_reg q _ 1 (by omega))).sI (ru_reg q 5 0 (by omega))
      have nx := ih (S ++ [w]) k' _ (by omega) (by rw [List.length_append]; show S.length + 1 + W.length ≤ 40; omega) (fun x hx => hw x (List.mem_cons_of_mem _ hx)) (s.fr f2) m2 (f.tr f2)
      have zw' : (setI h (rur q) 6 (n32 W.length)).2.1 (rur q + 2) W.length = n32 w := by rw [sI_ne (by omega)]; exact zw
      simp -implicitDefEqProofs (disch := omega) only [gP_p, gP_t, bnd_s, bnd2_s, ltt_s, jn_s, n32_nat, n32_le, n32_lt, n32_eq, n32_add, n32_sub, n32_dec, n32_mul, n32_div, n32_irm, n32_lit, n32_oN, n32_ix, n32_m1, n32_m2, neg_le0, neg_lt0, neg_lt1, neg_le1, n32_min, n32_max, if_true, if_false, Nat.one_ne_zero, gd_some, true_or, or_true, false_or, or_false, z6, e0, c2, l2, Nat.add_sub_cancel, zw, ra, qr, sI_eq, sI_rK, sI_len, zw', st]
      exact nx
theorem rel_x {N r o p : Nat} {b c q : Bool} {cm : Nat → Bool} {d : Bool} {W S : List Nat} {h : HP} (hN : 50 < N) (hr : r < 10) (hl : S.length + W.length ≤ 40) (hw : ∀ w, w ∈ W → w < 3000) (s : SH b c h) (m : MH h (rur q) (W, S, o, cm, d, p)) : gd (f_X7_release N h (rur q) (n32 r)) (fun h' => MH h' (rur q) ((rel r W S).2, (rel r W S).1, o, cm, d, p) ∧ fr [ruq q, ruq q + 1] h h') := by
  unfold f_X7_release
  rw [gP_p (s.ruc q).1]
  exact rel_l hr h W S N h (by omega) hl hw s m (fr.rf _ _)
theorem rel_b {r : Nat} : ∀ (W S : List Nat), (rel r W S).1.length + (rel r W S).2.length = S.length + W.length ∧ (∀ w, w ∈ (rel r W S).2 → w ∈ W) ∧ (∀ w, w ∈ (rel r W S).1 → w ∈ S ∨ w ∈ W) := by
  intro W
  induction W with
  | nil => intro S; exact ⟨rfl, fun w h => h, fun w h => Or.inl h⟩
  | cons v W ih =>
    intro S
    by_cases q : rk v < r
    · have er : rel r (v :: W) S = (S, v :: W) := if_pos q
      rw [er]
      exact ⟨rfl, fun w h => h, fun w h => Or.inl h⟩
    · have er : rel r (v :: W) S = rel r W (S ++ [v]) := if_neg q
      rw [er]
      obtain ⟨i1, i2, i3⟩ := ih (S ++ [v])
      rw [List.length_append] at i1
      refine ⟨by rw [i1]; show S.length + 1 + W.length = S.length + (W.length + 1); omega, fun w h => List.mem_cons_of_mem _ (i2 w h), fun w h => ?_⟩
      rcases i3 w h with h | h
      · rcases List.mem_append.mp h with h | h
        · exact Or.inl h
        · rw [List.mem_singleton.mp h]; exact Or.inr (List.mem_cons_self ..)
      · exact Or.inr (List.mem_cons_of_mem _ h)
theorem idl_all : (List.range 256).all (fun v => f_J0_indexOf_0f7a4 (SB + 8) (i2c (n32 v)) == some (if lex v < 6 then n32 (lex v) else -n32 1)) = true := by decide +kernel
theorem idl_v {v : Nat} (hv : v < 256) : f_J0_indexOf_0f7a4 (SB + 8) (i2c (n32 v)) = some (if lex v < 6 then n32 (lex v) else -n32 1) := beq_iff_eq.mp (List.all_eq_true.mp idl_all v (List.mem_range.mpr hv))
theorem ido_all : (List.range 256).all (fun v => f_J0_indexOf_0f7a4 (SB + 9) (i2c (n32 v)) == some (if opx v < 7 then n32 (opx v) else -n32 1)) = true := by decide +kernel
theorem ido_v {v : Nat} (hv : v < 256) : f_J0_indexOf_0f7a4 (SB + 9) (i2c (n32 v)) = some (if opx v < 7 then n32 (opx v) else -n32 1) := beq_iff_eq.mp (List.all_eq_true.mp ido_all v (List.mem_range.mpr hv))
theorem MB_p {s : MS} {p : Nat} (h : MB s) (hp : mp s ≤ p) : MB (mW s, mS s, mo s, mcm s, md s, p) := ⟨by have := h.1; show (mS s).length + (mW s).length ≤ p; omega, h.2⟩
/-- what a step does to the cells: used signs, or none -/
def SX (h : HP) (q : Bool) (p : Nat) (R : Option MS) : Int32 × HP → Prop := fun x => fr [ruq q, ruq q + 1] h x.2 ∧ match R with
  | none => x.1 = n32 0
  | some s' => p < mp s' ∧ x.1 = n32 (mp s' - p) ∧ MH x.2 (rur q) s' ∧ MB s'
theorem thing_x {t : Nat → Nat} {N n E o p : Nat} {b c q : Bool} {cm : Nat → Bool} {W S : List Nat} {h : HP} (hN : 50 < N) (s : SH b c h) (tx : TxX h t n) (tb : ∀ i, i < n → t i < 256) (hn : n ≤ 80) (hE : E ≤ n) (hE2 : E ≤ 40) (hp : p < E) (m : MH h (rur q) (W, S, o, cm, true, p)) (mb : MB (W, S, o, cm, true, p)) : gd (f_X7_readThing N h (rur q) 1 (n32 p) (n32 E)) (SX h q p (spT t E (W, S, o, cm, true, p))) := by
  obtain ⟨c0, c1, c2, c3, c4, c5, l1, l2, l3, l4, l5⟩ := s.ruc q
  obtain ⟨b1, b2, b3, b4⟩ := mb
  have b1' : S.length + W.length ≤ p := b1
  have b2' : o ≤ 4 := b2
  obtain ⟨m1, m2, m3, m4, m5, m6, m7⟩ := id m
  have a1 := at_x (p := p) s tx hn (by omega) hE
  rw [if_pos hp] at a1
  have tp := tb p (by omega)
  unfold f_X7_readThing spT
  show gd _ (SX h q p (if t p = 45 then some (2007 :: W, S, o, cm, true, p + 1) else if t p = 40 then (if o < 4 then some (2008 :: W, S, o + 1, cset cm (o + 1) false, true, p + 1) else none) else if lex (t p) < 6 then some (W, S ++ [1000 + lex (t p)], o, cm, false, p + 1) else if 0 < dgN t E 3 p then some (W, S ++ [nm t (dgN t E 3 p) p 0], o, cm, false, p + dgN t E 3 p) else none))
  rw [gP_p c0, gP_p (by simp only [s.root]), a1, bnd_s]
  by_cases q1 : t p = 45
  · rw [if_pos (by rw [q1]; rfl), if_pos q1]
    have aw := await_x (q := q) (v := n32 2007) s m3 (by show W.length < 40; omega)
    have aw' : f_X7_await h (rur q) 2007 = some (setI (setI h (rur q + 2) W.length (n32 2007)) (rur q) 6 (n32 (W.length + 1))) := aw
    rw [aw', bnd_s]
    refine gd_some.mpr ⟨((fr.rf _ _).sI (ru_reg q _ 2 (by omega))).sI (ru_reg q 6 0 (by omega)), by show p < p + 1; omega, by show _ = n32 (p + 1 - p); rw [Nat.add_sub_cancel_left]; rfl, m.wait, by show S.length + (W.length + 1) ≤ p + 1; omega, b2, fun w hw => ?_, b4⟩
    rcases List.mem_cons.mp hw with hw | hw
    · omega
    · exact b3 w hw
  · rw [if_neg (by rw [show (45 : Int32) = n32 45 from rfl, n32_eq (by omega) (by omega)]; exact q1), if_neg q1]
    by_cases q2 : t p = 40
    · rw [if_pos (by rw [q2]; rfl), if_pos q2, gd_bnd2]
      unfold f_X7_open
      rw [gP_p c0]
      by_cases q3 : o < 4
      · rw [if_pos q3]
        have m5' : h.2.1 (rur q) 7 = n32 o := m5
        have fA : fr [ruq q, ruq q + 1] h (setI (setI h (rur q) 7 (n32 (o + 1))) (rur q + 5) (o + 1) (n32 0)) := ((fr.rf _ _).sI (ru_reg q 7 0 (by omega))).sI (ru_reg q _ 5 (by omega))
        have sA := s.fr fA
        have mA : MH (setI (setI h (rur q) 7 (n32 (o + 1))) (rur q + 5) (o + 1) (n32 0)) (rur q) (W, S, o + 1, cset cm (o + 1) false, true, p) := by
          refine ⟨by rw [sI_ne (by omega), sI_ne (by omega)]; exact m1, fun i hi => by rw [sI_ne (by omega), sI_ne (by omega)]; exact m2 i hi, by rw [sI_ne (by omega), sI_ne (by omega)]; exact m3, fun i hi => by rw [sI_ne (by omega), sI_ne (by omega)]; exact m4 i hi, by rw [sI_ne (by omega), sI_eq], fun j hj => ?_, by rw [sI_ne (by omega), sI_ne (by omega)]; exact m7⟩
          have hj' : j ≤ o + 1 := hj
          show _ = n32 (bN (cset cm (o + 1) false j))
          by_cases e : j = o + 1
          · rw [e, sI_eq, cset_eq]; rfl
          · rw [sI_ne (by omega), sI_ne (by omega), cset_ne e]
            exact m6 j (by show j ≤ o; omega)
        have aw := await_x (q := q) (v := n32 2008) sA mA.2.2.1 (by show W.length < 40; omega)
        have m6o : True := trivial
        simp -implicitDefEqProofs (disch := omega) only [gP_p, gP_t, bnd_s, bnd2_s, ltt_s, jn_s, n32_nat, n32_le, n32_lt, n32_eq, n32_add, n32_sub, n32_dec, n32_mul, n32_div, n32_irm, n32_lit, n32_oN, n32_ix, n32_m1, n32_m2, neg_le0, neg_lt0, neg_lt1, neg_le1, n32_min, n32_max, if_true, if_false, Nat.one_ne_zero, gd_some, true_or, or_true, false_or, or_false, m5', q3, c5, l5, sI_eq, sI_ne, sI_J, sI_R, sI_kO, sI_rK, sI_len, sJ_eq, sJ_ne, sJ_I, sJ_kO, sJ_rK, sJ_len, zb0, aw]
        refine ⟨(fA.sI (ru_reg q _ 2 (by omega))).sI (ru_reg q 6 0 (by omega)), by show p < p + 1; omega, by show _ = n32 (p + 1 - p); rw [Nat.add_sub_cancel_left], mA.wait, by show S.length + (W.length + 1) ≤ p + 1; omega, by show o + 1 ≤ 4; omega, fun w hw => ?_, b4⟩
        rcases List.mem_cons.mp hw with hw | hw
        · omega
        · exact b3 w hw
      · rw [if_neg q3]
        have m5' : h.2.1 (rur q) 7 = n32 o := m5
        simp -implicitDefEqProofs (disch := omega) only [gP_p, gP_t, bnd_s, bnd2_s, ltt_s, jn_s, n32_nat, n32_le, n32_lt, n32_eq, n32_add, n32_sub, n32_dec, n32_mul, n32_div, n32_irm, n32_lit, n32_oN, n32_ix, n32_m1, n32_m2, neg_le0, neg_lt0, neg_lt1, neg_le1, n32_min, n32_max, if_true, if_false, Nat.one_ne_zero, gd_some, true_or, or_true, false_or, or_false, m5', q3]
        exact ⟨fr.rf _ _, rfl⟩
    · rw [if_neg (by rw [show (40 : Int32) = n32 40 from rfl, n32_eq (by omega) (by omega)]; exact q2), if_neg q2]
      have il := idl_v tp
      have dx : f_X8_digits N h 1 (n32 p) 3 (n32 E) = some (n32 (dgN t E 3 p)) := dig_x (N := N) (t := t) (p := p) (m := 3) (by omega) s tx tb hn (by omega) (by omega) hE
      have m1' : h.2.1 (rur q) 5 = n32 S.length := m1
      have fin : ∀ (v u : Nat), 0 < u → p + u ≤ E → v < 3000 → gd (bnd (f_X7_step h (rur q) (n32 v)) (fun h13 => some (n32 u, setI h13 (rur q) 8 (n32 0)))) (SX h q p (some (W, S ++ [v], o, cm, false, p + u))) := by
        intro v u hu hpu hv
        have st := step_x (q := q) (v := n32 v) s m1' (by omega)
        rw [st, bnd_s]
        have ms := MH.step (v := v) (p' := p + u) m
        obtain ⟨k1, k2, k3, k4, k5, k6, k7⟩ := ms
        refine gd_some.mpr ⟨(((fr.rf _ _).sI (ru_reg q _ 1 (by omega))).sI (ru_reg q 5 0 (by omega))).sI (ru_reg q 8 0 (by omega)), by show p < p + u; omega, by show _ = n32 (p + u - p); rw [Nat.add_sub_cancel_left], ⟨by rw [sI_ne (by omega)]; exact k1, fun i hi => by rw [sI_ne (by omega)]; exact k2 i hi, by rw [sI_ne (by omega)]; exact k3, fun i hi => by rw [sI_ne (by omega)]; exact k4 i hi, by rw [sI_ne (by omega)]; exact k5, fun j hj => by rw [sI_ne (by omega)]; exact k6 j hj, by rw [sI_eq]; rfl⟩, by show (S ++ [v]).length + W.length ≤ p + u; rw [List.length_append]; show S.length + 1 + W.length ≤ p + u; omega, b2, b3, fun w hw => ?_⟩
        rcases List.mem_append.mp hw with hw | hw
        · exact b4 w hw
        · rw [List.mem_singleton.mp hw]; exact hv
      by_cases q3 : lex (t p) < 6
      · rw [if_pos q3] at il
        rw [if_pos q3]
        have key := fin (1000 + lex (t p)) 1 (by omega) (by omega) (by omega)
        have nl : ¬ n32 (lex (t p)) < n32 0 := by rw [n32_lt (by omega) (by omega)]; omega
        rw [il, bnd_s, dx, bnd_s, jn_s]
        have nl' : ¬ n32 (lex (t p)) < 0 := nl
        simp only [nl', if_false, ltt_s]
        rw [show (1000 : Int32) = n32 1000 from rfl, n32_add]
        exact key
      · rw [if_neg q3] at il
        rw [if_neg q3]
        have lt0 : (-n32 1 : Int32) < 0 := by decide
        rw [il, bnd_s, dx, bnd_s, jn_s]
        simp only [lt0, if_true, ltt_s]
        have d3 := dgN_le (t := t) (E := E) 3 p
        have dE := dgN_E (t := t) (E := E) 3 p (by omega)
        by_cases q4 : 0 < dgN t E 3 p
        · rw [if_pos q4]
          have nx := num_x (N := N) (t := t) (p := p) (k := dgN t E 3 p) (by omega) s tx hn (by omega) (fun i hi => (dgN_d 3 p i hi).2) (by omega)
          have nl := nm_m (t := t) (E := E) (m := 3) (p := p)
          have b3' : 10 ^ 3 = 1000 := rfl
          have key := fin (nm t (dgN t E 3 p) p 0) (dgN t E 3 p) q4 (by omega) (by omega)
          have nd : ¬ n32 (dgN t E 3 p) ≤ 0 := by
            show ¬ n32 (dgN t E 3 p) ≤ n32 0
            rw [n32_le (by omega) (by omega)]; omega
          rw [if_neg nd, nx, bnd_s]
          exact key
        · rw [if_neg q4]
          have nd : n32 (dgN t E 3 p) ≤ 0 := by
            show n32 (dgN t E 3 p) ≤ n32 0
            rw [n32_le (by omega) (by omega)]; omega
          rw [if_pos nd]
          exact gd_some.mpr ⟨fr.rf _ _, rfl⟩
theorem oper_x {t : Nat → Nat} {N o p : Nat} {b c q : Bool} {cm : Nat → Bool} {W S : List Nat} {h : HP} (hN : 50 < N) (s : SH b c h) (tp : t p < 256) (hp : p < 40) (m : MH h (rur q) (W, S, o, cm, false, p)) (mb : MB (W, S, o, cm, false, p)) : gd (f_X7_readOperator N h (rur q) (n32 (t p))) (SX h q p (spO t (W, S, o, cm, false, p))) := by
  obtain ⟨c0, c1, c2, c3, c4, c5, l1, l2, l3, l4, l5⟩ := s.ruc q
  obtain ⟨b1, b2, b3, b4⟩ := mb
  have b1' : S.length + W.length ≤ p := b1
  have b2' : o ≤ 4 := b2
  obtain ⟨m1, m2, m3, m4, m5, m6, m7⟩ := id m
  have m5' : h.2.1 (rur q) 7 = n32 o := m5
  unfold f_X7_readOperator spO
  show gd _ (SX h q p (if t p = 41 then (if o = 0 then none else some ((rel 1 W S).2.tail, (rel 1 W S).1, o - 1, cm, false, p + 1)) else if opx (t p) < 7 then (if opx (t p) ≤ 2 ∧ cm o = true then none else some ((2000 + opx (t p)) :: (rel (rko (opx (t p))) W S).2, (rel (rko (opx (t p))) W S).1, o, if opx (t p) ≤ 2 then cset cm o true else cm, true, p + 1)) else none))
  rw [gP_p c0]
  by_cases q1 : t p = 41
  · rw [if_pos (by rw [q1]; rfl), if_pos q1, gd_bnd2]
    unfold f_X7_shut
    rw [gP_p c0, m5']
    by_cases q2 : o = 0
    · rw [if_pos (by rw [q2]; rfl), if_pos q2]
      exact gd_some.mpr (gd_some.mpr ⟨fr.rf _ _, rfl⟩)
    · rw [if_neg (by rw [show (0 : Int32) = n32 0 from rfl, n32_eq (by omega) (by omega)]; exact q2), if_neg q2, gd_bnd]
      refine gd_mono (rel_x (N := N) (r := 1) (W := W) (S := S) hN (by omega) (by omega) b3 s m) ?_
      rintro h1 ⟨m', f1⟩
      obtain ⟨r1, r2, r3⟩ := rel_b (r := 1) W S
      have f1' : fr [ruq q, ruq q + 1] h h1 := f1
      have z6 : h1.2.1 (rur q) 6 = n32 (rel 1 W S).2.length := m'.2.2.1
      have z7 : h1.2.1 (rur q) 7 = n32 o := m'.2.2.2.2.1
      have mx : f_J9_max_7cf53 (n32 0) (n32 (rel 1 W S).2.length - n32 1) = some (n32 ((rel 1 W S).2.length - 1)) := by
        unfold f_J9_max_7cf53
        cases e : (rel 1 W S).2.length with
        | zero => rfl
        | succ n =>
          rw [e] at r1
          have e3 : n32 (n + 1) - n32 1 = n32 n := n32_sub (by omega)
          rw [e3]
          by_cases e4 : n = 0
          · rw [e4]; rfl
          · rw [if_pos (by rw [n32_lt (by omega) (by omega)]; omega)]
            rfl
      have tl : (rel 1 W S).2.tail.length = (rel 1 W S).2.length - 1 := List.length_tail
      have f2 : fr [ruq q, ruq q + 1] h (setI (setI h1 (rur q) 6 (n32 ((rel 1 W S).2.length - 1))) (rur q) 7 (n32 (o - 1))) := (f1'.sI (ru_reg q 6 0 (by omega))).sI (ru_reg q 7 0 (by omega))
      have mz : MH (setI (setI h1 (rur q) 6 (n32 ((rel 1 W S).2.length - 1))) (rur q) 7 (n32 (o - 1))) (rur q) ((rel 1 W S).2.tail, (rel 1 W S).1, o - 1, cm, false, p + 1) := by
        obtain ⟨k1, k2, k3, k4, k5, k6, k7⟩ := m'
        refine ⟨by rw [sI_ne (by omega), sI_ne (by omega)]; exact k1, fun i hi => by rw [sI_ne (by omega), sI_ne (by omega)]; exact k2 i hi, by rw [sI_ne (by omega), sI_eq, ← tl], fun i hi => ?_, sI_eq, fun j hj => by rw [sI_ne (by omega), sI_ne (by omega)]; exact k6 j (by have : j ≤ o - 1 := hj; show j ≤ o; omega), by rw [sI_ne (by omega), sI_ne (by omega)]; exact k7⟩
        have hi' : i < (rel 1 W S).2.tail.length := hi
        rw [tl] at hi'
        rw [sI_ne (by omega), sI_ne (by omega), k4 i (by show i < (rel 1 W S).2.length; omega)]
        show n32 ((rel 1 W S).2.getD ((rel 1 W S).2.length - 1 - i) 0) = n32 ((rel 1 W S).2.tail.getD ((rel 1 W S).2.tail.length - 1 - i) 0)
        rw [tl]
        generalize (rel 1 W S).2 = X at hi' ⊢
        cases X with
        | nil => exact absurd hi' (by show ¬ i < 0 - 1; omega)
        | cons x X =>
          have hx : i < X.length := hi'
          show n32 ((x :: X).getD (X.length + 1 - 1 - i) 0) = n32 (X.getD (X.length + 1 - 1 - 1 - i) 0)
          rw [show X.length + 1 - 1 - i = (X.length + 1 - 1 - 1 - i) + 1 by omega]
          rfl
      have eo1 : n32 o - 1 = n32 (o - 1) := n32_sub (i := o) (j := 1) (by omega)
      have mx' : f_J9_max_7cf53 0 (n32 (rel 1 W S).2.length - 1) = some (n32 ((rel 1 W S).2.length - 1)) := mx
      rw [z6, mx', bnd_s, ltt_s, sI_ne (by omega), z7, ltt_s, eo1]
      refine gd_some.mpr (gd_some.mpr ⟨f2, by show p < p + 1; omega, by show _ = n32 (p + 1 - p); rw [Nat.add_sub_cancel_left]; rfl, mz, ?_, ?_, fun w hw => ?_, fun w hw => ?_⟩)
      · show (rel 1 W S).1.length + (rel 1 W S).2.tail.length ≤ p + 1
        omega
      · show o - 1 ≤ 4
        omega
      · exact b3 w (r2 w (List.mem_of_mem_tail hw))
      · exact (r3 w hw).elim (b4 w) (b3 w)
  · rw [if_neg (by rw [show (41 : Int32) = n32 41 from rfl, n32_eq (by omega) (by omega)]; exact q1), if_neg q1]
    have io := ido_v tp
    by_cases q2 : opx (t p) < 7
    · rw [if_pos q2] at io
      rw [if_pos q2, io, bnd_s, ltt_s]
      have ev : n32 (opx (t p)) + 2000 = n32 (2000 + opx (t p)) := by rw [show (2000 : Int32) = n32 2000 from rfl, n32_add, Nat.add_comm]
      have ra := rank_v (c := 2000 + opx (t p)) (by omega)
      rw [rk_op q2] at ra
      have rl : rko (opx (t p)) < 10 := by have := rko_le (i := opx (t p)); omega
      rw [ev, if_pos (by show n32 2000 ≤ _; rw [n32_le (by omega) (by omega)]; omega), jn_s]
      have tail : ∀ h1 cm', SH b c h1 → MH h1 (rur q) (W, S, o, cm', false, p) → fr [ruq q, ruq q + 1] h h1 → gd (bnd (f_X7_rank (n32 (2000 + opx (t p)))) (fun v11 => bnd (f_X7_release N h1 (rur q) v11) (fun h14 => bnd (f_X7_await h14 (rur q) (n32 (2000 + opx (t p)))) (fun h18 => lt_ (setI h18 (rur q) 8 1) (fun h22 => some (1, h22)))))) (SX h q p (some ((2000 + opx (t p)) :: (rel (rko (opx (t p))) W S).2, (rel (rko (opx (t p))) W S).1, o, cm', true, p + 1))) := by
        intro h1 cm' s1 mm ff
        rw [ra, bnd_s, gd_bnd]
        refine gd_mono (rel_x (N := N) (r := rko (opx (t p))) (W := W) (S := S) hN rl (by omega) b3 s1 mm) ?_
        rintro h2 ⟨m', f2⟩
        obtain ⟨r1, r2, r3⟩ := rel_b (r := rko (opx (t p))) W S
        have f2' : fr [ruq q, ruq q + 1] h1 h2 := f2
        have s2 := s1.fr f2'
        have aw := await_x (q := q) (v := n32 (2000 + opx (t p))) s2 m'.2.2.1 (by show (rel (rko (opx (t p))) W S).2.length < 40; omega)
        rw [aw, bnd_s, ltt_s]
        obtain ⟨k1, k2, k3, k4, k5, k6, k7⟩ := MH.wait (v := 2000 + opx (t p)) (p' := p + 1) m'
        refine gd_some.mpr ⟨(((ff.tr f2').sI (ru_reg q _ 2 (by omega))).sI (ru_reg q 6 0 (by omega))).sI (ru_reg q 8 0 (by omega)), by show p < p + 1; omega, by show _ = n32 (p + 1 - p); rw [Nat.add_sub_cancel_left]; rfl, ⟨by rw [sI_ne (by omega)]; exact k1, fun i hi => by rw [sI_ne (by omega)]; exact k2 i hi, by rw [sI_ne (by omega)]; exact k3, fun i hi => by rw [sI_ne (by omega)]; exact k4 i hi, by rw [sI_ne (by omega)]; exact k5, fun j hj => by rw [sI_ne (by omega)]; exact k6 j hj, by rw [sI_eq]; rfl⟩, ?_, b2, fun w hw => ?_, fun w hw => (r3 w hw).elim (b4 w) (b3 w)⟩
        · show (rel (rko (opx (t p))) W S).1.length + ((rel (rko (opx (t p))) W S).2.length + 1) ≤ p + 1
          omega
        · rcases List.mem_cons.mp hw with hw | hw
          · omega
          · exact b3 w (r2 w hw)
      by_cases q3 : opx (t p) ≤ 2
      · have n2 : ¬ (2002 : Int32) < n32 (2000 + opx (t p)) := by
          show ¬ n32 2002 < _
          rw [n32_lt (by omega) (by omega)]; omega
        rw [if_neg n2, c5, bnd_s]
        have z5 := m6 o (Nat.le_refl _)
        have z5' : h.2.1 (rur q + 5) o = n32 (bN (cm o)) := z5
        by_cases q4 : cm o = true
        · have nn : opx (t p) ≤ 2 ∧ cm o = true := ⟨q3, q4⟩
          rw [if_pos nn]
          have b1 : bN (cm o) = 1 := if_pos q4
          simp -implicitDefEqProofs (disch := omega) only [gP_p, gP_t, bnd_s, bnd2_s, n32_nat, n32_le, n32_lt, n32_eq, n32_add, n32_sub, n32_dec, n32_mul, n32_div, n32_irm, n32_lit, n32_oN, n32_ix, n32_m1, n32_m2, neg_le0, neg_lt0, neg_lt1, neg_le1, n32_min, n32_max, if_true, if_false, Nat.one_ne_zero, true_or, or_true, false_or, or_false, m5', l5, z5', b1, Nat.one_ne_zero]
          exact gd_some.mpr ⟨fr.rf _ _, rfl⟩
        · have nn : ¬ (opx (t p) ≤ 2 ∧ cm o = true) := fun z => q4 z.2
          rw [if_neg nn, if_pos q3]
          have b0 : bN (cm o) = 0 := if_neg q4
          have fA : fr [ruq q, ruq q + 1] h (setI h (rur q + 5) o (n32 1)) := (fr.rf _ _).sI (ru_reg q _ 5 (by omega))
          have mA : MH (setI h (rur q + 5) o (n32 1)) (rur q) (W, S, o, cset cm o true, false, p) := by
            refine ⟨by rw [sI_ne (by omega)]; exact m1, fun i hi => by rw [sI_ne (by omega)]; exact m2 i hi, by rw [sI_ne (by omega)]; exact m3, fun i hi => by rw [sI_ne (by omega)]; exact m4 i hi, by rw [sI_ne (by omega)]; exact m5, fun j hj => ?_, by rw [sI_ne (by omega)]; exact m7⟩
            have hj' : j ≤ o := hj
            show _ = n32 (bN (cset cm o true j))
            by_cases e : j = o
            · rw [e, sI_eq, cset_eq]; rfl
            · rw [sI_ne (by omega), cset_ne e]
              exact m6 j hj'
          have key := tail _ _ (s.fr fA) mA fA
          simp -implicitDefEqProofs (disch := omega) only [gP_p, gP_t, bnd_s, bnd2_s, n32_nat, n32_le, n32_lt, n32_eq, n32_add, n32_sub, n32_dec, n32_mul, n32_div, n32_irm, n32_lit, n32_oN, n32_ix, n32_m1, n32_m2, neg_le0, neg_lt0, neg_lt1, neg_le1, n32_min, n32_max, if_true, if_false, Nat.one_ne_zero, true_or, or_true, false_or, or_false, m5', l5, z5', b0, c5, zb1, ltt_s]
          simp -implicitDefEqProofs (disch := omega) only [gP_p, gP_t, bnd_s, bnd2_s, n32_nat, n32_le, n32_lt, n32_eq, n32_add, n32_sub, n32_dec, n32_mul, n32_div, n32_irm, n32_lit, n32_oN, n32_ix, n32_m1, n32_m2, neg_le0, neg_lt0, neg_lt1, neg_le1, n32_min, n32_max, if_true, if_false, Nat.one_ne_zero, true_or, or_true, false_or, or_false, ltt_s] at key
          exact key
      · have n2 : (2002 : Int32) < n32 (2000 + opx (t p)) := by
          show n32 2002 < _
          rw [n32_lt (by omega) (by omega)]; omega
        have nn : ¬ (opx (t p) ≤ 2 ∧ cm o = true) := fun z => q3 z.1
        rw [if_pos n2, if_neg nn, if_neg q3]
        exact tail h cm s m (fr.rf _ _)
    · rw [if_neg q2] at io
      rw [if_neg q2, io, bnd_s, ltt_s, if_neg (by decide)]
      exact gd_some.mpr ⟨fr.rf _ _, rfl⟩
