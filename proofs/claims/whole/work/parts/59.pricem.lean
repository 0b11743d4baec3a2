/-! ===== prices in the reference ===== -/
def mc (c : Nat) : Nat := if c = 2007 then 3000 else c
theorem ruled_loop {N : Nat} {b c : Bool} {ask : Nat → Int32} {Lw : List Nat} {k : HP → Option (Int32 × HP)} {Q : Int32 × HP → Prop} (hL : Lw.length ≤ 40) (h0 : HP) {d : Nat} (E : List Int32) (K : ∀ h', SH b c h' → h'.2.1 188 21 = n32 Lw.length → (∀ j, j < 6 → h'.2.1 201 j = ask j) → stk (h'.2.1 200) E → fr [32] h0 h' → gd (k h') Q) :
    ∀ (L1 : List Nat) (i fuel : Nat) (st : List Int32) (h : HP), Lw.drop i = L1 → i ≤ Lw.length → L1.length < fuel → SH b c h → h.2.1 188 21 = n32 Lw.length → (∀ i, i < Lw.length → h.2.1 198 i = n32 (mc (Lw.getD i 0))) → (∀ j, j < 6 → h.2.1 201 j = ask j) → stk (h.2.1 200) st → st.length ≤ i → dep L1 st.length = some d → evS ask L1 st = E → fr [32] h0 h →
    gd (lp (fun _ _ _ => none) (f_X10_ruled_B4 N 188 k) fuel (n32 st.length) (n32 i) h) Q := by
  intro L1
  induction L1 with
  | nil =>
    intro i fuel st h hd hil0 hf s e5 e1 e4 sk hi hdep hev f
    obtain ⟨n, rfl⟩ : ∃ n, fuel = n + 1 := ⟨fuel - 1, by omega⟩
    have hil : Lw.length ≤ i := List.drop_eq_nil_iff.mp hd
    simp -implicitDefEqProofs (disch := omega) only [lp_s, f_X10_ruled_B4, n32_nat, n32_le, n32_lt, n32_eq, n32_add, n32_sub, n32_dec, n32_mul, n32_div, n32_irm, n32_lit, n32_oN, n32_ix, n32_m1, n32_m2, neg_le0, neg_lt0, neg_lt1, neg_le1, n32_min, n32_max, e5]
    rw [if_pos hil]
    have hev' : st = E := hev
    subst hev'
    exact K h s e5 e4 sk f
  | cons c0 L1 ih =>
    intro i fuel st h hd hil0 hf s e5 e1 e4 sk hi hdep hev f
    obtain ⟨n, rfl⟩ : ∃ n, fuel = n + 1 := ⟨fuel - 1, by omega⟩
    obtain ⟨d1, d2, d3⟩ := drop_c hd
    have ec := e1 i d1
    rw [d2] at ec
    unfold dep at hdep
    have hc0 : c0 ≤ 2007 := by
      by_cases q : c0 ≤ 2007
      · exact q
      · rw [if_neg (by omega), if_neg (by omega), if_neg (by omega), if_neg (by omega)] at hdep
        cases hdep
    unfold evS at hev
    have next : ∀ (st2 : List Int32) (p : Nat) (v : Int32), stk (fun j => if j = p then v else h.2.1 200 j) st2 → st2.length ≤ i + 1 → dep L1 st2.length = some d → evS ask L1 st2 = E → gd (lp (fun _ _ _ => none) (f_X10_ruled_B4 N 188 k) n (n32 st2.length) (n32 (i + 1)) (setI h 200 p v)) Q := fun st2 p v s2 l2 dp2 ev2 => by
      refine ih (i + 1) n st2 _ d3 (by omega) (by have : L1.length + 1 < n + 1 := hf; omega) (s.sm ⟨rfl, rfl⟩) (by rw [sI_ne (by omega)]; exact e5) (fun j hj => by rw [sI_ne (by omega)]; exact e1 j hj) (fun j hj => by rw [sI_ne (by omega)]; exact e4 j hj) (fun j hj => ?_) l2 dp2 ev2 (f.sI rfl)
      have e2 : (if j = p then v else h.2.1 200 j) = st2.getD (st2.length - 1 - j) 0 := s2 j hj
      rw [← e2, sI_i]
      by_cases q : j = p
      · rw [if_pos ⟨rfl, q⟩, if_pos q]
      · rw [if_neg (fun z => q z.2), if_neg q]
    have ni : ¬ Lw.length ≤ i := by omega
    by_cases h1 : c0 < 1006
    · rw [if_pos h1] at hdep
      have em : mc c0 = c0 := if_neg (by omega)
      rw [em] at ec
      have n1 : ¬ c0 = 3000 := by omega
      have n2 : c0 < 2000 := by omega
      by_cases h2 : c0 < 1000
      · rw [if_pos h2] at hev
        have goal := next (n32 c0 :: st) st.length (n32 c0) (stk_push sk (if_pos rfl) (fun j hj => if_neg (by omega))) (by show st.length + 1 ≤ i + 1; omega) hdep hev
        have goal' : gd (lp (fun _ _ _ => none) (f_X10_ruled_B4 N 188 k) n (n32 (st.length + 1)) (n32 (i + 1)) (setI h 200 st.length (n32 c0))) Q := goal
        simp -implicitDefEqProofs (disch := omega) only [lp_s, f_X10_ruled_B4, n32_nat, n32_le, n32_lt, n32_eq, n32_add, n32_sub, n32_dec, n32_mul, n32_div, n32_irm, n32_lit, n32_oN, n32_ix, n32_m1, n32_m2, neg_le0, neg_lt0, neg_lt1, neg_le1, n32_min, n32_max, e5, gP_p, gP_t, s.mod, bnd_s, ltt_s, ec, ni, n1, n2, h2, if_false, if_true]
        exact goal'
      · rw [if_neg h2, if_pos (by omega)] at hev
        have e4' := e4 (c0 - 1000) (by omega)
        have goal := next (ask (c0 - 1000) :: st) st.length _ (stk_push sk (if_pos rfl) (fun j hj => if_neg (by omega))) (by show st.length + 1 ≤ i + 1; omega) hdep hev
        have goal' : gd (lp (fun _ _ _ => none) (f_X10_ruled_B4 N 188 k) n (n32 (st.length + 1)) (n32 (i + 1)) (setI h 200 st.length (ask (c0 - 1000)))) Q := goal
        simp -implicitDefEqProofs (disch := omega) only [lp_s, f_X10_ruled_B4, n32_nat, n32_le, n32_lt, n32_eq, n32_add, n32_sub, n32_dec, n32_mul, n32_div, n32_irm, n32_lit, n32_oN, n32_ix, n32_m1, n32_m2, neg_le0, neg_lt0, neg_lt1, neg_le1, n32_min, n32_max, e5, gP_p, gP_t, s.mod, bnd_s, ltt_s, ec, ni, n1, n2, h2, if_false, if_true, e4']
        exact goal'
    · rw [if_neg h1] at hdep
      by_cases h2 : c0 < 2000
      · rw [if_pos h2] at hdep; cases hdep
      · rw [if_neg h2] at hdep
        rw [if_neg (by omega), if_neg h2] at hev
        by_cases h3 : c0 < 2007
        · rw [if_pos h3] at hdep
          have em : mc c0 = c0 := if_neg (by omega)
          rw [em] at ec
          have n1 : ¬ c0 = 3000 := by omega
          match st, sk, hi, hdep, hev, next with
          | [], s, hi, hdep, hev, next => rw [if_neg (by show ¬ 2 ≤ 0; omega)] at hdep; cases hdep
          | [a], s, hi, hdep, hev, next => rw [if_neg (by show ¬ 2 ≤ 1; omega)] at hdep; cases hdep
          | a :: a' :: t, sk, hi, hdep, hev, next =>
            rw [if_pos (by show 2 ≤ t.length + 1 + 1; omega)] at hdep
            have hev2 : evS ask L1 (wk (c0 - 2000) a' a :: t) = E := by
              have : (if c0 = 2007 then evS ask L1 (-a :: a' :: t) else evS ask L1 (wk (c0 - 2000) a' a :: t)) = E := hev
              rw [if_neg (by omega)] at this
              exact this
            have v1 : h.2.1 200 (t.length + 1) = a := stk_top sk
            have v2 : h.2.1 200 t.length = a' := stk_top (stk_tail sk)
            have hi' : t.length + 1 + 1 ≤ i := hi
            have goal := next (wk (c0 - 2000) a' a :: t) t.length _ (stk_push (stk_tail (stk_tail sk)) (if_pos rfl) (fun j hj => if_neg (by omega))) (by show t.length + 1 ≤ i + 1; omega) hdep hev2
            have goal' : gd (lp (fun _ _ _ => none) (f_X10_ruled_B4 N 188 k) n (n32 (t.length + 1)) (n32 (i + 1)) (setI h 200 t.length (wk (c0 - 2000) a' a))) Q := goal
            have p1 : t.length + 2 - 1 = t.length + 1 := by omega
            have p2 : t.length + 1 - 1 = t.length := by omega
            have jn' := worked_y (k := c0 - 2000) (a := a') (b := a) (by omega)
            show gd (lp (fun _ _ _ => none) (f_X10_ruled_B4 N 188 k) (n + 1) (n32 (t.length + 2)) (n32 i) h) Q
            simp -implicitDefEqProofs (disch := omega) only [lp_s, f_X10_ruled_B4, n32_nat, n32_le, n32_lt, n32_eq, n32_add, n32_sub, n32_dec, n32_mul, n32_div, n32_irm, n32_lit, n32_oN, n32_ix, n32_m1, n32_m2, neg_le0, neg_lt0, neg_lt1, neg_le1, n32_min, n32_max, e5, gP_p, gP_t, s.mod, bnd_s, ltt_s, ec, ni, n1, h2, if_false, if_true, p1, p2, v1, v2, jn']
            exact goal'
        · rw [if_neg h3] at hdep
          have h4 : c0 = 2007 := by omega
          subst h4
          have em : mc 2007 = 3000 := if_pos rfl
          rw [em] at ec
          match st, sk, hi, hdep, hev, next with
          | [], s, hi, hdep, hev, next => rw [if_pos rfl, if_neg (by show ¬ 1 ≤ 0; omega)] at hdep; cases hdep
          | a :: t, sk, hi, hdep, hev, next =>
            rw [if_pos rfl, if_pos (by show 1 ≤ t.length + 1; omega)] at hdep
            have hev2 : evS ask L1 (-a :: t) = E := by
              cases t with
              | nil => exact hev
              | cons a' t' => exact hev
            have v1 : h.2.1 200 t.length = a := stk_top sk
            have hi' : t.length + 1 ≤ i := hi
            have goal := next (-a :: t) t.length _ (stk_push (stk_tail sk) (if_pos rfl) (fun j hj => if_neg (by omega))) (by show t.length + 1 ≤ i + 1; omega) hdep hev2
            have goal' : gd (lp (fun _ _ _ => none) (f_X10_ruled_B4 N 188 k) n (n32 (t.length + 1)) (n32 (i + 1)) (setI h 200 t.length (-a))) Q := goal
            have p2 : t.length + 1 - 1 = t.length := by omega
            show gd (lp (fun _ _ _ => none) (f_X10_ruled_B4 N 188 k) (n + 1) (n32 (t.length + 1)) (n32 i) h) Q
            simp -implicitDefEqProofs (disch := omega) only [lp_s, f_X10_ruled_B4, n32_nat, n32_le, n32_lt, n32_eq, n32_add, n32_sub, n32_dec, n32_mul, n32_div, n32_irm, n32_lit, n32_oN, n32_ix, n32_m1, n32_m2, neg_le0, neg_lt0, neg_lt1, neg_le1, n32_min, n32_max, e5, gP_p, gP_t, s.mod, bnd_s, ltt_s, ec, ni, if_false, if_true, p2, v1]
            exact goal'
theorem wf_len {L : List Nat} (w : WF L) : L.length ≠ 0 := by
  intro h
  have : L = [] := List.length_eq_zero_iff.mp h
  subst this
  exact absurd w.1 (by decide)
theorem pr_nil {ask : Nat → Int32} (h : ¬ ask 2 = 0) : pr [] ask = clampN ((n32 2 * ask 0 + ask 1) / ask 2) := by
  unfold pr
  have e : evS ask (Lx []) [] = [wk 6 (wk 3 (wk 5 (ask 0) (n32 2)) (ask 1)) (ask 2)] := rfl
  rw [e]
  have e2 : wk 6 (wk 3 (wk 5 (ask 0) (n32 2)) (ask 1)) (ask 2) = if ask 2 = 0 then 0 else (ask 0 * n32 2 + ask 1) / ask 2 := rfl
  rw [e2, if_neg h, Int32.mul_comm]
  rfl
theorem ruled_m {N : Nat} {b c : Bool} {h : HP} {L : List Nat} {ask : Nat → Int32} (hN : 41 < N) (w : WR L) (s : SH b c h) (ru : RuM h L) (ha : ∀ j, j < 6 → h.2.1 201 j = ask j) (h2 : ¬ ask 2 = 0) :
    gd (f_X10_ruled N h 188) (fun q => (∃ x, q.1 = x ∧ clampN x = pr L ask) ∧ fr [32] h q.2) := by
  obtain ⟨r1, r2⟩ := ru
  unfold f_X10_ruled
  simp -implicitDefEqProofs (disch := omega) only [s.mod, gP_p, gP_t]
  rcases w with rfl | w
  · refine ruled_loop (b := b) (c := c) (ask := ask) (Lw := []) (d := 0) (by decide) h [] ?_ [] 0 N [] h rfl (Nat.le_refl 0) (by show 0 < N; omega) s r1 r2 ha stk_nil (Nat.le_refl 0) rfl rfl (fr.rf _ _)
    intro h' s' e5 e4 sk f
    have a0 := e4 0 (by omega)
    have a1 := e4 1 (by omega)
    have a2 := e4 2 (by omega)
    have e5' : h'.2.1 188 21 = n32 0 := e5
    simp -implicitDefEqProofs (disch := omega) only [e5', s'.mod, gP_p, gP_t, n32_nat, n32_le, n32_lt, n32_eq, n32_add, n32_sub, n32_dec, n32_mul, n32_div, n32_irm, n32_lit, n32_oN, n32_ix, n32_m1, n32_m2, neg_le0, neg_lt0, neg_lt1, neg_le1, n32_min, n32_max, bnd_s, a0, a1, a2, if_true, gd_some]
    have h2' : ¬ ask 2 = n32 0 := h2
    rw [gP_p h2', gd_some]
    exact ⟨⟨_, rfl, (pr_nil h2).symm⟩, f⟩
  · obtain ⟨x, hx⟩ := wf_one (ask := ask) w
    have hl := wf_len w
    have w2 := w.2
    have lx : Lx L = L := by
      cases L with
      | nil => exact absurd rfl hl
      | cons c t => rfl
    refine ruled_loop (b := b) (c := c) (ask := ask) (Lw := L) (d := 1) w.2 h (evS ask L []) ?_ L 0 N [] h rfl (Nat.zero_le _) (by omega) s r1 r2 ha stk_nil (Nat.le_refl 0) w.1 rfl (fr.rf _ _)
    intro h' s' e5 e4 sk f
    rw [hx] at sk
    have v0 : h'.2.1 200 0 = x := stk_top sk
    simp -implicitDefEqProofs (disch := omega) only [e5, s'.mod, gP_p, gP_t, n32_nat, n32_le, n32_lt, n32_eq, n32_add, n32_sub, n32_dec, n32_mul, n32_div, n32_irm, n32_lit, n32_oN, n32_ix, n32_m1, n32_m2, neg_le0, neg_lt0, neg_lt1, neg_le1, n32_min, n32_max, bnd_s, hl, if_false, v0, gd_some]
    refine ⟨⟨x, rfl, ?_⟩, f⟩
    unfold pr
    rw [lx, hx]
    rfl
theorem priceBy_m {N sz m o n mo la : Nat} {b c : Bool} {h : HP} {L : List Nat} {g : Nat → Nat} (hN : 41 < N) (w : WR L) (s : SH b c h) (ru : RuM h L) (hm : m < sz) (hz : sz ≤ 6) (gm : GM h sz g) (gb : GB sz g) (hmo : mo < 2147483648) :
    gd (f_X10_priceBy N h 188 (n32 m) (n32 o) (n32 n) (n32 mo) (n32 la)) (fun q => q.1 = n32 (pr L (askL (n32 o) (n32 n) (n32 (g m)) (n32 m) (n32 (mo % 12)) (n32 la))) ∧ fr [32] h q.2) := by
  have gv := gm m hm
  have gb' := gb m hm
  unfold f_X10_priceBy
  simp -implicitDefEqProofs (disch := omega) only [s.mod, gP_p, gP_t, n32_nat, n32_le, n32_lt, n32_eq, n32_add, n32_sub, n32_dec, n32_mul, n32_div, n32_irm, n32_lit, n32_oN, n32_ix, n32_m1, n32_m2, neg_le0, neg_lt0, neg_lt1, neg_le1, n32_min, n32_max, bnd_s, ltt_s, sI_rK, sI_len, sI_ne, gv, gd_bnd2]
  have f2 : fr [32] h (setI (setI (setI (setI (setI (setI h 201 0 (n32 o)) 201 1 (n32 n)) 201 2 (n32 (g m))) 201 3 (n32 m)) 201 4 (n32 (mo % 12))) 201 5 (n32 la)) := ((((((fr.rf _ _).sI rfl).sI rfl).sI rfl).sI rfl).sI rfl).sI rfl
  refine gd_mono (ruled_m (ask := askL (n32 o) (n32 n) (n32 (g m)) (n32 m) (n32 (mo % 12)) (n32 la)) hN w (s.fr f2) ⟨by rw [f2.I 188 21 rfl]; exact ru.1, fun i hi => by rw [f2.I 198 i rfl]; exact ru.2 i hi⟩ (six_cases (by simp -implicitDefEqProofs (disch := omega) only [sI_ne, sI_eq]; rfl) (by simp -implicitDefEqProofs (disch := omega) only [sI_ne, sI_eq]; rfl) (by simp -implicitDefEqProofs (disch := omega) only [sI_ne, sI_eq]; rfl) (by simp -implicitDefEqProofs (disch := omega) only [sI_ne, sI_eq]; rfl) (by simp -implicitDefEqProofs (disch := omega) only [sI_ne, sI_eq]; rfl) (by rw [sI_eq]; rfl)) ?_) ?_
  · show ¬ n32 (g m) = n32 0
    rw [n32_eq (by omega) (by omega)]
    omega
  · rintro ⟨v, h1⟩ ⟨⟨x, e1, e2⟩, f1⟩
    have e1' : v = x := e1
    subst e1'
    simp -implicitDefEqProofs (disch := omega) only [min_c, bnd_s, max_c, gd_some, e2]
    exact ⟨trivial, f2.tr f1⟩
theorem priceOf_m {N a sz m : Nat} {b c : Bool} {h : HP} {L : List Nat} {g r : Nat → Nat} {B : Nat} (hN : 41 < N) (ha : a = 193 ∨ a = 194) (w : WR L) (s : SH b c h) (ru : RuM h L) (hm : m < sz) (hz : sz ≤ 6) (gm : GM h sz g) (gb : GB sz g) (mr : MR h a r) (rb : RBm B r) (hB : B < 2147483648) :
    gd (f_X10_priceOf N h 188 a (n32 m)) (fun q => q.1 = n32 (prc L g r m) ∧ fr [32] h q.2) := by
  have hka : kO h a 102 = true := by rcases ha with rfl | rfl <;> simp only [s.mod]
  have hla : lenH h a = 28 := by rcases ha with rfl | rfl <;> simp only [s.mod]
  have hmo := rb.2.2.2.2
  have m0 : h.2.1 a m = n32 (r m) := mr m (by omega)
  have m1 : h.2.1 a (6 + m) = n32 (r (6 + m)) := mr (6 + m) (by omega)
  have m2 : h.2.1 a (12 + m) = n32 (r (12 + m)) := mr (12 + m) (by omega)
  have m3 : h.2.1 a (12 + (6 + m)) = n32 (r (18 + m)) := by rw [mr (12 + (6 + m)) (by omega), show 12 + (6 + m) = 18 + m by omega]
  have m4 : h.2.1 a 25 = n32 (r 25) := mr 25 (by omega)
  unfold f_X10_priceOf
  simp -implicitDefEqProofs (disch := omega) only [s.mod, hka, hla, gP_p, gP_t, f_X10_at, n32_nat, n32_le, n32_lt, n32_eq, n32_add, n32_sub, n32_dec, n32_mul, n32_div, n32_irm, n32_lit, n32_oN, n32_ix, n32_m1, n32_m2, neg_le0, neg_lt0, neg_lt1, neg_le1, n32_min, n32_max, bnd_s, Nat.mul_zero, Nat.mul_one, Nat.zero_add, m0, m1, m2, m3, m4, gd_bnd2, gd_some]
  exact priceBy_m hN w s ru hm hz gm gb (by omega)
