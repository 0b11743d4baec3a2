/-! ===== questions: both sides' views ===== -/
abbrev Wd : Type := Bool × Bool × Nat × (Nat → Nat) × (Nat → Nat) × Fle × List Nat × Nat
def wsz (w : Wd) : Nat := w.2.2.1
def wr (w : Wd) : Nat → Nat := w.2.2.2.1
def wg (w : Wd) : Nat → Nat := w.2.2.2.2.1
def wF (w : Wd) : Fle := w.2.2.2.2.2.1
def wL (w : Wd) : List Nat := w.2.2.2.2.2.2.1
def wB (w : Wd) : Nat := w.2.2.2.2.2.2.2
def wOK (w : Wd) : Prop := wsz w ≤ 6 ∧ RBm (wB w) (wr w) ∧ ZB (wsz w) (wr w) ∧ GB (wsz w) (wg w) ∧ FB (wF w) ∧ WR (wL w) ∧ wB w ≤ 200000
def XV (w : Wd) (h : HP) : Prop := SH w.1 w.2.1 h ∧ h.2.1 5 2 = n32 (wsz w) ∧ CR h 5 (wr w) ∧ GX h (wsz w) (wg w) ∧ FR h (flr w.1) (wF w) ∧ RuX h (rur w.2.1) (wL w)
def MV (w : Wd) (h : HP) : Prop := SH w.1 w.2.1 h ∧ h.2.1 188 3 = n32 (wsz w) ∧ MR h 193 (wr w) ∧ GM h (wsz w) (wg w) ∧ MF h (wF w) ∧ RuM h (wL w)
noncomputable def wM (w : Wd) (q : Nat → Nat) : Nat → Nat := mMon (wsz w) (wF w) q
noncomputable def wMs (w : Wd) (n : Nat) (q : Nat → Nat) : Nat → Nat := mMons (wsz w) (wF w) n q
def wP (w : Wd) (q : Nat → Nat) (m : Nat) : Nat := prc (wL w) (wg w) q m
def QX : List Nat := [2, 4, 5, 9, 10, 13, 17, 19]
def QM : List Nat := [22, 31, 32, 33, 40, 41, 42, 43, 44, 45, 46, 47, 50]
theorem XV.fr {w : Wd} {h h' : HP} {R : List Nat} (v : XV w h) (f : fr R h h') (d : R.all (fun x => (QX ++ QM).contains x) = true) : XV w h' := by
  have f' := f.mono (R' := QX ++ QM) d
  obtain ⟨v0, v1, v2, v3, v4, v5⟩ := v
  exact ⟨v0.fr f', by rw [f'.ai [3] (by decide) 5 2 rfl]; exact v1, cr_frc v2 rfl (by omega) rc5 f' (by decide), fun m hm => by rw [f'.ai [8] (by decide) 155 m rfl]; exact v3 m hm, v4.fr f' (by cases w.1 <;> decide), v5.fr f' (by cases w.2.1 <;> decide)⟩
theorem MV.fr {w : Wd} {h h' : HP} {R : List Nat} (v : MV w h) (f : fr R h h') (d : R.all (fun x => (QX ++ QM).contains x) = true) : MV w h' := by
  have f' := f.mono (R' := QX ++ QM) d
  obtain ⟨v0, v1, v2, v3, v4, v5⟩ := v
  exact ⟨v0.fr f', by rw [f'.ai [23] (by decide) 188 3 rfl]; exact v1, fun j hj => by rw [f'.ai [30] (by decide) 193 j rfl]; exact v2 j hj, fun m hm => by rw [f'.ai [29] (by decide) 192 m rfl]; exact v3 m hm, v4.fr f' (by decide), v5.fr f' (by decide)⟩
def XT (w : Wd) (l : List Int64) (h0 h : HP) (q : Nat → Nat) (D : Nat) : Prop := XV w h ∧ RowX h l ∧ CR h 19 q ∧ h.2.1 19 2 = n32 (wsz w) ∧ fr QX h0 h ∧ RBm D q
def MT (w : Wd) (l : List Int64) (h0 h : HP) (q : Nat → Nat) (D : Nat) : Prop := MV w h ∧ RowM h l ∧ MR h 194 q ∧ fr QM h0 h ∧ RBm D q
def XA (l' : List Int64) (A : Int32) (h0 : HP) : Int32 × HP → Prop := fun q => q.1 = A ∧ RowX q.2 l' ∧ fr QX h0 q.2
def MA (l' : List Int64) (A : Int32) (h0 : HP) : Int32 × HP → Prop := fun q => q.1 = A ∧ RowM q.2 l' ∧ fr QM h0 q.2
theorem q_op {k : Nat} (hk : k < 512) {fX fM : HP → Option (Int32 × HP)} (H : ∀ w l, wOK w → ∃ A l', (∀ h, XV w h → RowX h l → gd (fX h) (XA l' A h)) ∧ (∀ h, MV w h → RowM h l → gd (fM h) (MA l' A h))) (h : HP) (I : Inv k h) :
    ∃ (v : Int32) (h1 h2 : HP), fX h = some (v, h1) ∧ fM h1 = some (v, h2) ∧ Inv (k + 1) h2 := by
  obtain ⟨b, c, sz, iv⟩ := I
  obtain ⟨a0, a1, a2, a3, a4, a5, a6, a7, a8, a9, a10⟩ := id iv
  obtain ⟨z1, z2, z3⟩ := a1
  obtain ⟨r, r1, r2, r3, r4⟩ := a4
  obtain ⟨g, g1, g2, g3⟩ := a5
  obtain ⟨F, f1, f2, f3⟩ := a6
  obtain ⟨L, l1, l2, l3⟩ := a7
  obtain ⟨l, x1, x2⟩ := a3
  obtain ⟨A, l', e1, e2⟩ := H (b, c, sz, r, g, F, L, 300 * k) l ⟨z1, r3, r4, g3, f3, l3, by show 300 * k ≤ 200000; omega⟩
  obtain ⟨⟨v, h1⟩, q1, q2, q3, q4⟩ := e1 h ⟨a0, z2, r1, g1, f1, l1⟩ x1
  have mv : MV (b, c, sz, r, g, F, L, 300 * k) h := ⟨a0, z3, r2, g2, f2, l2⟩
  obtain ⟨⟨v2, h2⟩, p1, p2, p3, p4⟩ := e2 h1 (mv.fr q4 (by decide)) (x2.fr q4 (by decide))
  have ev : v = A := q2
  have ev2 : v2 = A := p2
  subst ev
  subst ev2
  exact ⟨v2, h1, h2, q1, p1, Iv.up (iv.q1 ((q4.mono (by decide)).tr (p4.mono (by decide))) (q3.fr p4 (by decide)) p3)⟩
theorem isM_y {w : Wd} {h : HP} {m : Nat} (ok : wOK w) (s : SH w.1 w.2.1 h) (z : h.2.1 188 3 = n32 (wsz w)) (hm : m < wsz w) : f_X10_isMarket h 188 (n32 m) = some (n32 1) := by
  have hz := ok.1
  unfold f_X10_isMarket
  rw [gP_p (by simp only [s.mod]), in_eq, z]
  have e1 : (0 : Int64).toInt = 0 := rfl
  rw [if_pos, bnd_s, gP_p]
  · right; rfl
  · rw [Int32.toInt_toInt64, Int32.toInt_toInt64, e1, show (1 : Int32) = n32 1 from rfl, n32_sub (by omega), n32_int (by omega), n32_int (by omega)]
    omega
theorem isM_n {w : Wd} {h : HP} {x : Int32} (ok : wOK w) (s : SH w.1 w.2.1 h) (z : h.2.1 188 3 = n32 (wsz w)) (hx : ¬ (0 ≤ x.toInt ∧ x.toInt < (wsz w : Int))) : f_X10_isMarket h 188 x = some (n32 0) := by
  have hz := ok.1
  unfold f_X10_isMarket
  rw [gP_p (by simp only [s.mod]), in_eq, z]
  have e1 : (0 : Int64).toInt = 0 := rfl
  have e2 : (n32 (wsz w) - 1).toInt = (wsz w : Int) - 1 := by
    rw [Int32.toInt_sub, n32_int (by omega), show (1 : Int32).toInt = 1 from rfl, Int.bmod_eq_of_le (by omega) (by omega)]
  rw [if_neg, bnd_s, gP_p]
  · left; rfl
  · rw [Int32.toInt_toInt64, Int32.toInt_toInt64, e1, e2]
    omega
theorem in_y {x : Int32} {lo hi : Int64} {a b : Int} (ha : lo.toInt = a) (hb : hi.toInt = b) (h : a ≤ x.toInt ∧ x.toInt ≤ b) : f_X10_in x.toInt64 lo hi = some (n32 1) := by
  rw [in_eq, if_pos (by rw [Int32.toInt_toInt64, ha, hb]; exact h)]
theorem in_n {x : Int32} {lo hi : Int64} {a b : Int} (ha : lo.toInt = a) (hb : hi.toInt = b) (h : ¬ (a ≤ x.toInt ∧ x.toInt ≤ b)) : f_X10_in x.toInt64 lo hi = some (n32 0) := by
  rw [in_eq, if_neg (by rw [Int32.toInt_toInt64, ha, hb]; exact h)]
theorem thr0 {w : Wd} {h : HP} {l : List Int64} (v : MV w h) (rm : RowM h l) : MV w (setI h 188 0 (n32 0)) ∧ RowM (setI h 188 0 (n32 0)) l ∧ fr QM h (setI h 188 0 (n32 0)) := by
  have f : fr [50] h (setI h 188 0 (n32 0)) := (fr.rf _ _).sI rfl
  exact ⟨v.fr f (by decide), rm.fr f (by decide), f.mono (by decide)⟩
theorem CL5 : CL.contains 5 = true := by decide
theorem CL19 : CL.contains 19 = true := by decide
theorem hasX_y {w : Wd} {h : HP} {m : Nat} (ok : wOK w) (v : XV w h) (hm : m < wsz w) : f_X0_has h 5 (n32 m) = some (n32 1) := has_y (v.1.co CL5) v.2.1 ok.1 hm
theorem hasX_n {w : Wd} {h : HP} {x : Int32} (ok : wOK w) (v : XV w h) (hx : ¬ (0 ≤ x.toInt ∧ x.toInt < (wsz w : Int))) : f_X0_has h 5 x = some (n32 0) := has_n (v.1.co CL5) v.2.1 ok.1 hx
/-! the trial coast -/
theorem x_become {N : Nat} {w : Wd} {h0 h : HP} {l : List Int64} (ok : wOK w) (v : XV w h) (rx : RowX h l) (f : fr QX h0 h) : gd (f_X0_become (N + 3) h 19 5) (fun h' => XT w l h0 h' (wr w) (wB w)) := by
  refine gd_mono (become_y (v.1.co CL19) (v.1.co CL5) (by omega) v.2.2.1 ok.2.1.2.2.2.1) ?_
  rintro h' ⟨e1, e2, e3, -⟩
  have e3' : fr [5] h h' := e3
  exact ⟨v.fr e3' (by decide), rx.fr e3' (by decide), e1, e2.trans v.2.1, f.tr (e3'.mono (by decide)), ok.2.1⟩
theorem fl_rc (b : Bool) : rc (flr b) ≠ rc 19 ∧ rc (flr b + 1) ≠ rc 19 ∧ rc (flr b + 2) ≠ rc 19 ∧ flr b + 2 < 188 ∧ rc (flr b) ≠ rc 5 ∧ rc (flr b + 1) ≠ rc 5 ∧ rc (flr b + 2) ≠ rc 5 := by cases b <;> decide
theorem x_pass {N n : Nat} {w : Wd} {h0 h : HP} {l : List Int64} {q : Nat → Nat} {D : Nat} (hN : 6 < N) (hn : n < N) (hn2 : n < 1000) (ok : wOK w) (t : XT w l h0 h q D) (hD : D ≤ 300000) : gd (f_X0_pass N h 19 (flr w.1) (n32 n)) (fun p => XT w l h0 p.2 (wMs w n q) (D + n)) := by
  obtain ⟨v, rx, cr, z, f, rb⟩ := t
  obtain ⟨a1, a2, a3, a4, -, -, -⟩ := fl_rc w.1
  refine gd_mono (pass_y hN hn ok.1 ok.2.2.2.2.1 hn2 a1 a2 a3 a4 (v.1.co CL19) (v.1.flc w.1) z cr v.2.2.2.2.1 rb (by omega)) ?_
  rintro ⟨u, h'⟩ ⟨e1, e2, e3, e4⟩
  have e3' : fr [5] h h' := e3
  exact ⟨v.fr e3' (by decide), rx.fr e3' (by decide), e2, e4, f.tr (e3'.mono (by decide)), rb.mons n⟩
theorem x_price {N m : Nat} {w : Wd} {h0 h : HP} {l : List Int64} {q : Nat → Nat} {D : Nat} (hN : 41 < N) (ok : wOK w) (t : XT w l h0 h q D) (hD : D ≤ 400000) (hm : m < wsz w) : gd (f_X9_priceOf N h 0 19 (n32 m)) (fun p => p.1 = n32 (wP w q m) ∧ XT w l h0 p.2 q D) := by
  obtain ⟨v, rx, cr, z, f, rb⟩ := t
  refine gd_mono (priceOf_x hN ok.2.2.2.2.2.1 v.1 CL19 z ok.1 hm cr rb (by omega) v.2.2.2.1 v.2.2.2.2.2) ?_
  rintro ⟨u, h'⟩ ⟨e1, e2⟩
  exact ⟨e1, v.fr e2 (by decide), rx.fr e2 (by decide), cr_frc cr (q := 5) rfl (by omega) (fun i hi => by
    match i, hi with
    | 0, _ => rfl
    | 1, _ => rfl
    | 2, _ => rfl
    | 3, _ => rfl
    | 4, _ => rfl
    | 5, _ => rfl
    | 6, _ => rfl) e2 (by decide), by rw [e2.ai [5] (by decide) 19 2 rfl]; exact z, f.tr (e2.mono (by decide)), rb⟩
theorem x_now {N m : Nat} {w : Wd} {h : HP} (hN : 41 < N) (ok : wOK w) (v : XV w h) (hm : m < wsz w) : gd (f_X9_priceOf N h 0 5 (n32 m)) (fun p => p.1 = n32 (wP w (wr w) m) ∧ fr [17, 19] h p.2) :=
  priceOf_x hN ok.2.2.2.2.2.1 v.1 CL5 v.2.1 ok.1 hm v.2.2.1 ok.2.1 (by have := ok.2.2.2.2.2.2; omega) v.2.2.2.1 v.2.2.2.2.2
theorem x_nowT {N m : Nat} {w : Wd} {h0 h : HP} {l : List Int64} {q : Nat → Nat} {D : Nat} (hN : 41 < N) (ok : wOK w) (t : XT w l h0 h q D) (hm : m < wsz w) : gd (f_X9_priceOf N h 0 5 (n32 m)) (fun p => p.1 = n32 (wP w (wr w) m) ∧ XT w l h0 p.2 q D) := by
  obtain ⟨v, rx, cr, z, f, rb⟩ := t
  refine gd_mono (x_now hN ok v hm) ?_
  rintro ⟨u, h'⟩ ⟨e1, e2⟩
  exact ⟨e1, v.fr e2 (by decide), rx.fr e2 (by decide), cr_frc cr (q := 5) rfl (by omega) (fun i hi => by
    match i, hi with
    | 0, _ => rfl
    | 1, _ => rfl
    | 2, _ => rfl
    | 3, _ => rfl
    | 4, _ => rfl
    | 5, _ => rfl
    | 6, _ => rfl) e2 (by decide), by rw [e2.ai [5] (by decide) 19 2 rfl]; exact z, f.tr (e2.mono (by decide)), rb⟩
theorem x_try {N n : Nat} {w : Wd} {h0 h : HP} {l : List Int64} (hN : 6 < N) (hn : n < N) (hn2 : n < 1000) (ok : wOK w) (v : XV w h) (rx : RowX h l) (f : fr QX h0 h) : gd (f_X9_tryMonths N h 0 (n32 n)) (fun h' => XT w l h0 h' (wMs w n (wr w)) (wB w + n)) := by
  obtain ⟨k, rfl⟩ : ∃ k, N = k + 3 := ⟨N - 3, by omega⟩
  unfold f_X9_tryMonths
  simp -implicitDefEqProofs (disch := omega) only [v.1.root, gP_p, gP_t, bnd_s, gd_bnd, gd_bnd2, gd_some]
  refine gd_mono (x_become ok v rx f) ?_
  rintro h1 t1
  simp -implicitDefEqProofs (disch := omega) only [t1.1.1.root, gP_p, gP_t, bnd_s, gd_bnd2, gd_some]
  refine gd_mono (x_pass hN hn hn2 ok t1 (by have := ok.2.2.2.2.2.2; omega)) ?_
  rintro ⟨u, h2⟩ t2
  exact t2
theorem x_tell1 {w : Wd} {l : List Int64} {h0 h : HP} {q : Nat → Nat} {D : Nat} {v : Int64} (t : XT w l h0 h q D) : gd (f_X6_tell h 3 v) (fun h' => RowX h' [v] ∧ fr QX h0 h') := by
  refine gd_mono (tell1_x t.1.1) ?_
  rintro h' ⟨e1, e2⟩
  exact ⟨e1, t.2.2.2.2.1.tr (e2.mono (by decide))⟩
theorem x_tell2 {w : Wd} {l : List Int64} {h0 h : HP} {q : Nat → Nat} {D : Nat} {v v' : Int64} (t : XT w l h0 h q D) : gd (f_X6_tell_ h 3 v v') (fun h' => RowX h' [v, v'] ∧ XT w [v, v'] h0 h' q D) := by
  obtain ⟨x, rx, cr, z, f, rb⟩ := t
  refine gd_mono (tell2_x x.1) ?_
  rintro h' ⟨e1, e2⟩
  exact ⟨e1, x.fr e2 (by decide), e1, cr_frc cr (q := 5) rfl (by omega) (fun i hi => by
    match i, hi with
    | 0, _ => rfl
    | 1, _ => rfl
    | 2, _ => rfl
    | 3, _ => rfl
    | 4, _ => rfl
    | 5, _ => rfl
    | 6, _ => rfl) e2 (by decide), by rw [e2.ai [5] (by decide) 19 2 rfl]; exact z, f.tr (e2.mono (by decide)), rb⟩
/-! the reference's -/
theorem m_copies {N : Nat} {w : Wd} {h0 h : HP} {l : List Int64} (hN : 28 < N) (ok : wOK w) (v : MV w h) (rm : RowM h l) (f : fr QM h0 h) : gd (f_X10_copies N h 188) (fun h' => MT w l h0 h' (wr w) (wB w)) := by
  refine gd_mono (copies_y hN v.1 v.2.2.1) ?_
  rintro h' ⟨e1, e2⟩
  exact ⟨v.fr e2 (by decide), rm.fr e2 (by decide), e1, f.tr (e2.mono (by decide)), ok.2.1⟩
theorem m_month {N : Nat} {w : Wd} {h0 h : HP} {l : List Int64} {q : Nat → Nat} {D : Nat} (hN : 13 < N) (ok : wOK w) (t : MT w l h0 h q D) (hD : D ≤ 400000) : gd (f_X10_monthGoes N h 188 194) (fun h' => MT w l h0 h' (wM w q) (D + 1)) := by
  obtain ⟨v, rm, mr, f, rb⟩ := t
  refine gd_mono (month_m hN (Or.inr rfl) ok.1 ok.2.2.2.2.1 rb (by omega) v.1 v.2.1 mr v.2.2.2.2.1) ?_
  rintro h' ⟨e1, e2, e3⟩
  have e2' : fr [41, 47, 31] h h' := e2
  exact ⟨v.fr e2' (by decide), rm.fr e2' (by decide), e1, f.tr (e2'.mono (by decide)), rb.mon⟩
theorem m_goes {N n : Nat} {w : Wd} {h0 h : HP} {l : List Int64} {q : Nat → Nat} {D : Nat} (hN : 13 < N) (hn : n < N) (hn2 : n < 1000) (ok : wOK w) (t : MT w l h0 h q D) (hD : D ≤ 400000) : gd (f_X10_goesOn N h 188 194 (n32 n)) (fun h' => MT w l h0 h' (wMs w n q) (D + n)) := by
  obtain ⟨v, rm, mr, f, rb⟩ := t
  refine gd_mono (goes_y hN hn (Or.inr rfl) ok.1 ok.2.2.2.2.1 hn2 rb (by omega) v.1 v.2.1 mr v.2.2.2.2.1) ?_
  rintro h' ⟨e1, e2, e3⟩
  have e2' : fr [41, 47, 31] h h' := e2
  exact ⟨v.fr e2' (by decide), rm.fr e2' (by decide), e1, f.tr (e2'.mono (by decide)), rb.mons n⟩
theorem m_price {N m : Nat} {w : Wd} {h0 h : HP} {l : List Int64} {q : Nat → Nat} {D : Nat} (hN : 41 < N) (ok : wOK w) (t : MT w l h0 h q D) (hD : D ≤ 400000) (hm : m < wsz w) : gd (f_X10_priceOf N h 188 194 (n32 m)) (fun p => p.1 = n32 (wP w q m) ∧ MT w l h0 p.2 q D) := by
  obtain ⟨v, rm, mr, f, rb⟩ := t
  refine gd_mono (priceOf_m hN (Or.inr rfl) ok.2.2.2.2.2.1 v.1 v.2.2.2.2.2 hm ok.1 v.2.2.2.1 ok.2.2.2.1 mr rb (by omega)) ?_
  rintro ⟨u, h'⟩ ⟨e1, e2⟩
  exact ⟨e1, v.fr e2 (by decide), rm.fr e2 (by decide), fun j hj => by rw [e2.ai [31] (by decide) 194 j rfl]; exact mr j hj, f.tr (e2.mono (by decide)), rb⟩
theorem m_now {N m : Nat} {w : Wd} {h : HP} (hN : 41 < N) (ok : wOK w) (v : MV w h) (hm : m < wsz w) : gd (f_X10_priceOf N h 188 193 (n32 m)) (fun p => p.1 = n32 (wP w (wr w) m) ∧ fr [32] h p.2) :=
  priceOf_m hN (Or.inl rfl) ok.2.2.2.2.2.1 v.1 v.2.2.2.2.2 hm ok.1 v.2.2.2.1 ok.2.2.2.1 v.2.2.1 ok.2.1 (by have := ok.2.2.2.2.2.2; omega)
theorem m_nowT {N m : Nat} {w : Wd} {h0 h : HP} {l : List Int64} {q : Nat → Nat} {D : Nat} (hN : 41 < N) (ok : wOK w) (t : MT w l h0 h q D) (hm : m < wsz w) : gd (f_X10_priceOf N h 188 193 (n32 m)) (fun p => p.1 = n32 (wP w (wr w) m) ∧ MT w l h0 p.2 q D) := by
  obtain ⟨v, rm, mr, f, rb⟩ := t
  refine gd_mono (m_now hN ok v hm) ?_
  rintro ⟨u, h'⟩ ⟨e1, e2⟩
  exact ⟨e1, v.fr e2 (by decide), rm.fr e2 (by decide), fun j hj => by rw [e2.ai [31] (by decide) 194 j rfl]; exact mr j hj, f.tr (e2.mono (by decide)), rb⟩
theorem m_told0 {w : Wd} {l : List Int64} {h0 h : HP} {q : Nat → Nat} {D : Nat} (t : MT w l h0 h q D) : MT w [] h0 (setI h 188 1 (n32 0)) q D := by
  obtain ⟨v, rm, mr, f, rb⟩ := t
  obtain ⟨e1, e2⟩ := rowM_0 (h := h)
  exact ⟨v.fr e2 (by decide), e1, fun j hj => by rw [e2.ai [31] (by decide) 194 j rfl]; exact mr j hj, f.tr (e2.mono (by decide)), rb⟩
theorem m_ent {w : Wd} {l : List Int64} {h0 h : HP} {q : Nat → Nat} {D : Nat} {x : Int64} (t : MT w l h0 h q D) (hl : l.length < 6) : gd (f_X10_enters h 188 x) (fun h' => MT w (l ++ [x]) h0 h' q D) := by
  obtain ⟨v, rm, mr, f, rb⟩ := t
  refine gd_mono (ent_m v.1 rm (by omega)) ?_
  rintro h' ⟨e1, e2⟩
  exact ⟨v.fr e2 (by decide), e1, fun j hj => by rw [e2.ai [31] (by decide) 194 j rfl]; exact mr j hj, f.tr (e2.mono (by decide)), rb⟩
