/-! ===== prices in the program ===== -/
def askL (o n g d m hh : Int32) : Nat → Int32 := fun j => if j = 0 then o else if j = 1 then n else if j = 2 then g else if j = 3 then d else if j = 4 then m else hh
def WF (L : List Nat) : Prop := dep L 0 = some 1 ∧ L.length ≤ 40
theorem wf_one {ask : Nat → Int32} {L : List Nat} (w : WF L) : ∃ x, evS ask L [] = [x] := by
  have h1 := evS_len (ask := ask) L [] 1 w.1
  match hq : evS ask L [], h1 with
  | [x], _ => exact ⟨x, rfl⟩
theorem six_cases {P : Nat → Prop} (h0 : P 0) (h1 : P 1) (h2 : P 2) (h3 : P 3) (h4 : P 4) (h5 : P 5) : ∀ j, j < 6 → P j := fun j hj => by
  match j, hj with
  | 0, _ => exact h0
  | 1, _ => exact h1
  | 2, _ => exact h2
  | 3, _ => exact h3
  | 4, _ => exact h4
  | 5, _ => exact h5
theorem price7 {N ru : Nat} {h : HP} {Lw : List Nat} {o n g d m hh : Int32} (hN : 41 < N) (w : WF Lw) (hru : ru + 5 < 188) (hrc : rc (ru + 4) = rc (ru + 3)) (c : RUc h ru) (e5 : h.2.1 ru 5 = n32 Lw.length) (e1 : ∀ i, i < Lw.length → h.2.1 (ru + 1) i = n32 (Lw.getD i 0)) :
    gd (f_X7_price N h ru o n g d m hh) (fun q => q.1 = n32 (clampN ((evS (askL o n g d m hh) Lw []).headD 0)) ∧ fr [rc (ru + 3)] h q.2) := by
  obtain ⟨x, hx⟩ := wf_one (ask := askL o n g d m hh) w
  obtain ⟨g0, g1, g2, g3, g4, g5, g6, g7, g8, g9, g10⟩ := id c
  have w1 := w.1
  have w2 := w.2
  have key : ∀ h2 : HP, RUc h2 ru → h2.2.1 ru 5 = n32 Lw.length → (∀ i, i < Lw.length → h2.2.1 (ru + 1) i = n32 (Lw.getD i 0)) → (∀ j, j < 6 → h2.2.1 (ru + 4) j = askL o n g d m hh j) → fr [rc (ru + 3)] h h2 →
      gd (lp (fun _ _ _ => none) (f_X7_price_B51 N ru (fun (h151 : HP) => bnd (rK h151 ru 2 102) (fun t153 => gP (0 < lenH h151 t153) (bnd (f_X9_put (h151.2.1 t153 0) (n32 0) (n32 99999)) (fun v159 => some (v159, h151)))))) N (n32 ([] : List Int32).length) (n32 0) h2) (fun q => q.1 = n32 (clampN ((evS (askL o n g d m hh) Lw []).headD 0)) ∧ fr [rc (ru + 3)] h q.2) := fun h2 c2 a5 a1 a4 f2 => by
    refine price_loop (d := 1) w2 hru h (evS (askL o n g d m hh) Lw []) ?_ Lw 0 N [] h2 rfl (Nat.zero_le _) (by omega) c2 a5 a1 a4 stk_nil (Nat.le_refl 0) w1 rfl f2
    intro h' c' s' f'
    rw [hx] at s' ⊢
    have v0 : h'.2.1 (ru + 3) 0 = x := stk_top s'
    obtain ⟨k0, k1, k2, k3, k4, k5, k6, k7, k8, k9, k10⟩ := c'
    simp -implicitDefEqProofs (disch := omega) only [k3, k8, bnd_s, n32_nat, n32_le, n32_lt, n32_eq, n32_add, n32_sub, n32_dec, n32_mul, n32_div, n32_irm, n32_lit, n32_oN, n32_ix, n32_m1, n32_m2, neg_le0, neg_lt0, neg_lt1, neg_le1, n32_min, n32_max, gP_p, gP_t, v0, put_c, gd_some]
    exact ⟨rfl, f'⟩
  unfold f_X7_price
  simp -implicitDefEqProofs (disch := omega) only [gP_p g0, g4, g9, bnd_s, n32_ix, n32_nat, n32_lit, gP_p, gP_t, ltt_s, sI_rK, sI_len]
  have key2 := key (setI (setI (setI (setI (setI (setI h (ru + 4) 0 o) (ru + 4) 1 n) (ru + 4) 2 g) (ru + 4) 3 d) (ru + 4) 4 m) (ru + 4) 5 hh) (c.sm ⟨rfl, rfl⟩) (by simp -implicitDefEqProofs (disch := omega) only [sI_ne]; exact e5) (fun i hi => by simp -implicitDefEqProofs (disch := omega) only [sI_ne]; exact e1 i hi)
    (six_cases (by simp -implicitDefEqProofs (disch := omega) only [sI_ne, sI_eq]; rfl) (by simp -implicitDefEqProofs (disch := omega) only [sI_ne, sI_eq]; rfl) (by simp -implicitDefEqProofs (disch := omega) only [sI_ne, sI_eq]; rfl) (by simp -implicitDefEqProofs (disch := omega) only [sI_ne, sI_eq]; rfl) (by simp -implicitDefEqProofs (disch := omega) only [sI_ne, sI_eq]; rfl) (by rw [sI_eq]; rfl))
    ((((((( fr.rf _ _).sI (by rw [reg_c (by omega), hrc]; simp)).sI (by rw [reg_c (by omega), hrc]; simp)).sI (by rw [reg_c (by omega), hrc]; simp)).sI (by rw [reg_c (by omega), hrc]; simp)).sI (by rw [reg_c (by omega), hrc]; simp)).sI (by rw [reg_c (by omega), hrc]; simp))
  exact key2
def L0 : List Nat := [1000, 2, 2005, 1001, 2003, 1002, 2006]
def Lx (L : List Nat) : List Nat := match L with
  | [] => L0
  | c :: t => c :: t
/-- a rule as the program holds it, and as the reference does -/
def RuX (h : HP) (ru : Nat) (L : List Nat) : Prop := h.2.1 ru 5 = n32 (Lx L).length ∧ ∀ i, i < (Lx L).length → h.2.1 (ru + 1) i = n32 ((Lx L).getD i 0)
def RuM (h : HP) (L : List Nat) : Prop := h.2.1 188 21 = n32 L.length ∧ ∀ i, i < L.length → h.2.1 198 i = n32 (if L.getD i 0 = 2007 then 3000 else L.getD i 0)
def WR (L : List Nat) : Prop := L = [] ∨ WF L
theorem wr_x {L : List Nat} (w : WR L) : WF (Lx L) := by
  rcases w with rfl | w
  · exact ⟨by decide, by decide⟩
  · cases L with
    | nil => exact absurd w.1 (by decide)
    | cons c t => exact w
def pr (L : List Nat) (ask : Nat → Int32) : Nat := clampN ((evS ask (Lx L) []).headD 0)
def askF (g r : Nat → Nat) (m : Nat) : Nat → Int32 := askL (n32 (r m)) (n32 (r (6 + m))) (n32 (g m)) (n32 m) (n32 (r 25 % 12)) (n32 (r (12 + m) + r (18 + m)))
def prc (L : List Nat) (g r : Nat → Nat) (m : Nat) : Nat := pr L (askF g r m)
theorem prc_le {L : List Nat} {g r : Nat → Nat} {m : Nat} : prc L g r m ≤ 99999 := clampN_le _
theorem prc_ext {L : List Nat} {g r r' : Nat → Nat} {m : Nat} (hm : m < 6) (e : ∀ j, j < 28 → r' j = r j) : prc L g r' m = prc L g r m := by
  unfold prc askF
  rw [e m (by omega), e (6 + m) (by omega), e (12 + m) (by omega), e (18 + m) (by omega), e 25 (by omega)]
def GX (h : HP) (sz : Nat) (g : Nat → Nat) : Prop := ∀ m, m < sz → h.2.1 155 m = n32 (g m)
def GM (h : HP) (sz : Nat) (g : Nat → Nat) : Prop := ∀ m, m < sz → h.2.1 192 m = n32 (g m)
def GB (sz : Nat) (g : Nat → Nat) : Prop := ∀ m, m < sz → 1 ≤ g m ∧ g m ≤ 99
theorem rur_rc (q : Bool) : rur q + 5 < 188 ∧ rc (rur q + 4) = rc (rur q + 3) ∧ rc (rur q + 3) = (match q with | true => 19 | false => 17) ∧ rc (rur q) = (match q with | true => 18 | false => 16) ∧ rc (rur q + 1) = rc (rur q) := by cases q <;> decide
theorem fr_sc {q : Bool} {h h' : HP} (f : fr [rc (rur q + 3)] h h') : fr [17, 19] h h' := f.mono (by cases q <;> decide)
theorem priceBy_x {N cc sz m : Nat} {b c q : Bool} {h : HP} {L : List Nat} {g r : Nat → Nat} {B : Nat} (hN : 41 < N) (w : WR L) (s : SH b c h) (hq : CL.contains cc = true) (z : h.2.1 cc 2 = n32 sz) (hz : sz ≤ 6) (hm : m < sz) (cr : CR h cc r) (rb : RBm B r) (hB : B < 2147483648) (gx : GX h sz g) (ru : RuX h (rur q) L) :
    gd (f_X9_priceBy N h 0 (rur q) cc (n32 m)) (fun p => p.1 = n32 (prc L g r m) ∧ fr [17, 19] h p.2) := by
  have co := s.co hq
  have rcv := s.ruc q
  obtain ⟨c0, c1, c2, c3, c4, c5, c6, c7, c8, c9⟩ := id co
  obtain ⟨s0, s1, s2, s3, s4, s5⟩ := id cr
  have c30 : rK h (cc + 1) 0 102 = some (cc + 2) := c3 0 (by omega)
  have c31 : rK h (cc + 1) 1 102 = some (cc + 2 + 1) := c3 1 (by omega)
  have c40 : rK h (cc + 4) 0 102 = some (cc + 5) := c4 0 (by omega)
  have c41 : rK h (cc + 4) 1 102 = some (cc + 5 + 1) := c4 1 (by omega)
  have c70 : lenH h (cc + 2) = 6 := c7 0 (by omega)
  have c71 := c7 1 (by omega)
  have c80 : lenH h (cc + 5) = 6 := c8 0 (by omega)
  have c81 := c8 1 (by omega)
  have v00 : h.2.1 (cc + 2) m = n32 (r m) := by have := s0 0 m (by omega) (by omega); rw [show 6 * 0 + m = m by omega] at this; exact this
  have v01 : h.2.1 (cc + 2 + 1) m = n32 (r (6 + m)) := s0 1 m (by omega) (by omega)
  have v10 : h.2.1 (cc + 5) m = n32 (r (12 + m)) := by have := s1 0 m (by omega) (by omega); rw [show 6 * 0 + m = m by omega] at this; exact this
  have v11 : h.2.1 (cc + 5 + 1) m = n32 (r (18 + m)) := by have := s1 1 m (by omega) (by omega); rw [show 12 + (6 * 1 + m) = 18 + m by omega] at this; exact this
  have gm := gx m hm
  have hmo := rb.2.2.2.2
  have p7 := price7 (N := N) (o := n32 (r m)) (n := n32 (r (6 + m))) (g := n32 (g m)) (d := n32 m) (m := n32 (r 25 % 12)) (hh := n32 (r (12 + m) + r (18 + m))) hN (wr_x w) (rur_rc q).1 (rur_rc q).2.1 rcv ru.1 ru.2
  have hy := has_y co z hz hm
  unfold f_X9_priceBy
  simp -implicitDefEqProofs (disch := omega) only [gP_p c0, gP_p rcv.1, s.root, gP_p, gP_t, hy, bnd_s, c1, c2, c30, c31, c40, c41, c5, c6, c70, c71, c80, c81, n32_nat, n32_le, n32_lt, n32_eq, n32_add, n32_sub, n32_dec, n32_mul, n32_div, n32_irm, n32_lit, n32_oN, n32_ix, n32_m1, n32_m2, neg_le0, neg_lt0, neg_lt1, neg_le1, n32_min, n32_max, if_false, Nat.one_ne_zero, ltt_s, v00, v01, v10, v11, s3, gm, gd_bnd2, gd_some]
  refine gd_mono p7 ?_
  rintro ⟨v, h1⟩ ⟨e1, f1⟩
  exact ⟨e1, fr_sc f1⟩
theorem priceOf_x {N cc sz m : Nat} {b c : Bool} {h : HP} {L : List Nat} {g r : Nat → Nat} {B : Nat} (hN : 41 < N) (w : WR L) (s : SH b c h) (hq : CL.contains cc = true) (z : h.2.1 cc 2 = n32 sz) (hz : sz ≤ 6) (hm : m < sz) (cr : CR h cc r) (rb : RBm B r) (hB : B < 2147483648) (gx : GX h sz g) (ru : RuX h (rur c) L) :
    gd (f_X9_priceOf N h 0 cc (n32 m)) (fun p => p.1 = n32 (prc L g r m) ∧ fr [17, 19] h p.2) := by
  have co := s.co hq
  unfold f_X9_priceOf
  simp -implicitDefEqProofs (disch := omega) only [gP_p co.1, s.root, gP_p, gP_t, bnd_s, gd_bnd2, gd_some]
  exact priceBy_x hN w s hq z hz hm cr rb hB gx ru
