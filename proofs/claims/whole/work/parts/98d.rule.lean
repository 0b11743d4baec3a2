/-! ===== rule ===== -/
theorem spT_E {t : Nat → Nat} {E : Nat} {s s' : MS} (h : spT t E s = some s') (hp : mp s < E) : mp s' ≤ E := by
  unfold spT at h
  by_cases q1 : t (mp s) = 45
  · rw [if_pos q1] at h
    cases h
    exact hp
  · rw [if_neg q1] at h
    by_cases q2 : t (mp s) = 40
    · rw [if_pos q2] at h
      by_cases q3 : mo s < 4
      · rw [if_pos q3] at h
        cases h
        exact hp
      · rw [if_neg q3] at h
        cases h
    · rw [if_neg q2] at h
      by_cases q3 : lex (t (mp s)) < 6
      · rw [if_pos q3] at h
        cases h
        exact hp
      · rw [if_neg q3] at h
        by_cases q4 : 0 < dgN t E 3 (mp s)
        · rw [if_pos q4] at h
          cases h
          exact dgN_E 3 _ (by omega)
        · rw [if_neg q4] at h
          cases h
theorem spO_E {t : Nat → Nat} {E : Nat} {s s' : MS} (h : spO t s = some s') (hp : mp s < E) : mp s' ≤ E := by
  unfold spO at h
  by_cases q1 : t (mp s) = 41
  · rw [if_pos q1] at h
    by_cases q2 : mo s = 0
    · rw [if_pos q2] at h
      cases h
    · rw [if_neg q2] at h
      cases h
      exact hp
  · rw [if_neg q1] at h
    by_cases q2 : opx (t (mp s)) < 7
    · rw [if_pos q2] at h
      by_cases q3 : opx (t (mp s)) ≤ 2 ∧ mcm s (mo s) = true
      · rw [if_pos q3] at h
        cases h
      · rw [if_neg q3] at h
        cases h
        exact hp
    · rw [if_neg q2] at h
      cases h
def RLx (h : HP) (f : Nat) (L : List Nat) : Prop := h.2.1 f 5 = n32 L.length ∧ ∀ i, i < L.length → h.2.1 (f + 1) i = n32 (L.getD i 0)
def rL (R : MRs) : LR := (R.1, R.2.1, 0, fun _ => 0)
def KR (N : Nat) (q : Bool) (E : Nat) (h48 : HP) : Option (Int32 × HP) := if (h48.2.1 (rur q) 8) = 0 then (if 0 < (h48.2.1 (rur q) 7) then some (n32 E, h48) else (if (h48.2.1 1 1) ≤ n32 E then bnd (f_X7_release N h48 (rur q) 1) (fun h53 => some ((-1), h53)) else some (n32 E, h48))) else some (n32 E, h48)
theorem rdr_l {t : Nat → Nat} {N n E : Nat} {b c q : Bool} (hN : 50 < N) (tb : ∀ i, i < n → t i < 256) (hn : n ≤ 80) (hE : E = min n 40) (h0 : HP) (R : MRs) : ∀ (d fuel : Nat) (st : MS) (h : HP), E < mp st + d → d < fuel → mp st ≤ E → SH b c h → TxX h t n → MH h (rur q) st → MB st → fr [ruq q, ruq q + 1] h0 h → mr t E d st = R → gd (lp (fun _ _ => none) (f_X7_read_B52 N (rur q) 1 (n32 E) (KR N q E)) fuel (n32 (mp st)) h) (fun x => x.1 = lnC (rL R) n E ∧ (R.1 = true ∧ n ≤ E → RLx x.2 (rur q) R.2.2) ∧ fr [ruq q, ruq q + 1] h0 x.2) := by
  intro d
  induction d with
  | zero => intro fuel st h h1 h2 h3; omega
  | succ d ih =>
    intro fuel st h hd hf hp s tx m mb f hR
    obtain ⟨k', rfl⟩ : ∃ k, fuel = k + 1 := ⟨fuel - 1, by omega⟩
    obtain ⟨W, S, o, cm, due, p⟩ := st
    have hp' : p ≤ E := hp
    have hd' : E < p + (d + 1) := hd
    obtain ⟨m1, m2, m3, m4, m5, m6, m7⟩ := id m
    have m5' : h.2.1 (rur q) 7 = n32 o := m5
    have m7' : h.2.1 (rur q) 8 = n32 (bN due) := m7
    have t1 := tx.1
    have b2 : o ≤ 4 := mb.2.1
    show gd (lp (fun _ _ => none) (f_X7_read_B52 N (rur q) 1 (n32 E) (KR N q E)) (k' + 1) (n32 p) h) _
    rw [mr_f] at hR
    rw [lp_s, f_X7_read_B52]
    by_cases q1 : E ≤ p
    · have e : p = E := by omega
      rw [if_pos (show E ≤ mp (W, S, o, cm, due, p) from q1)] at hR
      rw [if_pos (by rw [n32_le (by omega) (by omega)]; exact q1)]
      unfold KR
      cases due with
      | true =>
        have hR' : R = (false, E, []) := hR.symm.trans (if_pos (Or.inl rfl))
        subst hR'
        rw [if_neg (by rw [m7']; decide)]
        exact gd_some.mpr ⟨rfl, fun z => absurd z.1 Bool.false_ne_true, f⟩
      | false =>
        rw [if_pos (by rw [m7']; rfl)]
        by_cases q2 : 0 < o
        · have hR' : R = (false, E, []) := hR.symm.trans (if_pos (Or.inr q2))
          subst hR'
          rw [if_pos (by rw [m5']; show n32 0 < n32 o; rw [n32_lt (by omega) (by omega)]; exact q2)]
          exact gd_some.mpr ⟨rfl, fun z => absurd z.1 Bool.false_ne_true, f⟩
        · have hR' : R = (true, E, (rel 1 W S).1) := hR.symm.trans (if_neg (by rintro (z | z); exact Bool.false_ne_true z; exact q2 z))
          subst hR'
          rw [if_neg (by rw [m5']; show ¬ n32 0 < n32 o; rw [n32_lt (by omega) (by omega)]; exact q2)]
          by_cases q3 : n ≤ E
          · rw [if_pos (by rw [t1, n32_le (by omega) (by omega)]; exact q3), gd_bnd]
            have b1 : S.length + W.length ≤ p := mb.1
            refine gd_mono (rel_x (N := N) (r := 1) (W := W) (S := S) hN (by omega) (by omega) mb.2.2.1 s m) ?_
            rintro h1 ⟨m', f1⟩
            exact gd_some.mpr ⟨(lnC_f (r := rL (true, E, (rel 1 W S).1)) ⟨rfl, q3⟩).symm, fun _ => ⟨m'.1, m'.2.1⟩, f.tr f1⟩
          · rw [if_neg (by rw [t1, n32_le (by omega) (by omega)]; exact q3)]
            refine gd_some.mpr ⟨?_, fun z => absurd z.2 q3, f⟩
            show n32 E = if (true : Bool) = true then (if n ≤ E then -n32 1 else n32 E) else n32 E
            rw [if_pos rfl, if_neg q3]
    · have q1' : p < E := by omega
      rw [if_neg (show ¬ E ≤ mp (W, S, o, cm, due, p) from q1)] at hR
      rw [if_neg (by rw [n32_le (by omega) (by omega)]; exact q1), jn_s]
      have cont : ∀ (u : Int32) (h1 : HP), SX h q p (sp t E (W, S, o, cm, due, p)) (u, h1) → gd (if 0 < u then lt_ (n32 p + u) (fun v32 => lp (fun _ _ => none) (f_X7_read_B52 N (rur q) 1 (n32 E) (KR N q E)) k' v32 h1) else some (n32 p, h1)) (fun x => x.1 = lnC (rL R) n E ∧ (R.1 = true ∧ n ≤ E → RLx x.2 (rur q) R.2.2) ∧ fr [ruq q, ruq q + 1] h0 x.2) := by
        intro u h1 sx
        obtain ⟨f1, sx2⟩ := sx
        have f1' : fr [ruq q, ruq q + 1] h h1 := f1
        cases e : sp t E (W, S, o, cm, due, p) with
        | none =>
          rw [e] at sx2 hR
          have u0 : u = n32 0 := sx2
          subst u0
          have hR' : R = (false, p, []) := hR.symm
          subst hR'
          rw [if_neg (by decide)]
          exact gd_some.mpr ⟨rfl, fun z => absurd z.1 Bool.false_ne_true, f.tr f1'⟩
        | some s' =>
          rw [e] at sx2 hR
          obtain ⟨a1, a2, a3, a4⟩ := sx2
          have a2' : u = n32 (mp s' - p) := a2
          subst a2'
          have pE : mp s' ≤ E := by
            cases due with
            | true => rw [sp_d] at e; exact spT_E e q1'
            | false => rw [sp_o] at e; exact spO_E e q1'
          rw [if_pos (by show n32 0 < _; rw [n32_lt (by omega) (by omega)]; omega), ltt_s, n32_add, show p + (mp s' - p) = mp s' by omega]
          exact ih k' s' h1 (by omega) (by omega) pE (s.fr f1') (tx.fr f1' (by cases q <;> decide)) a3 a4 (f.tr f1') hR
      cases due with
      | true =>
        rw [if_neg (by rw [m7']; decide), gd_bnd2]
        refine gd_mono (thing_x (N := N) (E := E) hN s tx tb hn (by omega) (by omega) q1' m mb) ?_
        rintro ⟨u, h1⟩ sx
        rw [← sp_d] at sx
        exact cont u h1 sx
      | false =>
        have a1 := at_x (p := p) (E := E) s tx hn (by omega) (by omega)
        rw [if_pos q1'] at a1
        rw [if_pos (by rw [m7']; rfl), a1, bnd_s, gd_bnd2]
        refine gd_mono (oper_x (N := N) hN s (tb p (by omega)) (by omega) m mb) ?_
        rintro ⟨u, h1⟩ sx
        rw [← sp_o (E := E)] at sx
        exact cont u h1 sx
theorem first_x {b c q : Bool} {h : HP} (s : SH b c h) : gd (f_X7_beFirstRule h (rur q)) (fun h' => RLx h' (rur q) L0 ∧ fr [ruq q, ruq q + 1] h h') := by
  obtain ⟨c0, c1, c2, c3, c4, c5, l1, l2, l3, l4, l5⟩ := s.ruc q
  have ok : cpok 0 0 (n32 7) 7 40 = true := by decide
  unfold f_X7_beFirstRule
  simp -implicitDefEqProofs (disch := omega) only [gP_p, gP_t, bnd_s, ltt_s, c0, sI_rK, c1, sI_len, l1]
  rw [show (7 : Int32) = n32 7 from rfl, sI_eq, gP_p ok]
  refine gd_some.mpr ⟨⟨?_, fun i hi => ?_⟩, ?_⟩
  · show (cpyT (setI h (rur q) 5 (n32 7)) 0 (rur q + 1) 0 0 (n32 7)).2.1 (rur q) 5 = n32 7
    unfold cpyT va_up
    show (if rur q = rur q + 1 then _ else (setI h (rur q) 5 (n32 7)).2.1 (rur q)) 5 = n32 7
    rw [if_neg (by omega), sI_eq]
  · have hi' : i < 7 := hi
    show (cpyT (setI h (rur q) 5 (n32 7)) 0 (rur q + 1) 0 0 (n32 7)).2.1 (rur q + 1) i = n32 (L0.getD i 0)
    unfold cpyT va_up
    show (if rur q + 1 = rur q + 1 then va_cpy (tabv 0) ((setI h (rur q) 5 (n32 7)).2.1 (rur q + 1)) (0 : Int32).toNatClampNeg (0 : Int32).toNatClampNeg (n32 7).toNatClampNeg else _) i = _
    rw [if_pos rfl]
    unfold va_cpy
    rw [show (0 : Int32).toNatClampNeg = 0 from rfl, show (n32 7).toNatClampNeg = 7 from rfl, if_pos (by omega)]
    rcases (show i = 0 ∨ i = 1 ∨ i = 2 ∨ i = 3 ∨ i = 4 ∨ i = 5 ∨ i = 6 by omega) with rfl | rfl | rfl | rfl | rfl | rfl | rfl <;> rfl
  · refine ⟨⟨rfl, rfl⟩, fun a j hr => ⟨?_, rfl⟩⟩
    have na : a ≠ rur q + 1 := fun e => by rw [e, ru_reg q j 1 (by omega)] at hr; cases hr
    have nb : ¬ (a = rur q ∧ j = 5) := fun e => by
      have h5 : [ruq q, ruq q + 1].contains (reg (rur q) j) = true := ru_reg q j 0 (by omega)
      rw [e.1, h5] at hr
      cases hr
    show (cpyT (setI h (rur q) 5 (n32 7)) 0 (rur q + 1) 0 0 (n32 7)).2.1 a j = h.2.1 a j
    unfold cpyT va_up
    show (if a = rur q + 1 then _ else (setI h (rur q) 5 (n32 7)).2.1 a) j = _
    rw [if_neg na, sI_ne nb]
theorem rrd_x {t : Nat → Nat} {N n : Nat} {b c q : Bool} {h : HP} (hN : 90 < N) (s : SH b c h) (tx : TxX h t n) (tb : ∀ i, i < n → t i < 256) (hn : n ≤ 80) : (n = 0 → gd (f_X7_read N h (rur q) 1) (fun x => x.1 = -n32 1 ∧ RLx x.2 (rur q) L0 ∧ fr [ruq q, ruq q + 1] h x.2)) ∧ (n ≠ 0 → ∀ R, Rn t (min n 40) ms0 R → gd (f_X7_read N h (rur q) 1) (fun x => x.1 = lnC (rL R) n (min n 40) ∧ (R.1 = true ∧ n ≤ min n 40 → RLx x.2 (rur q) R.2.2) ∧ fr [ruq q, ruq q + 1] h x.2)) := by
  obtain ⟨c0, c1, c2, c3, c4, c5, l1, l2, l3, l4, l5⟩ := s.ruc q
  have t1 := tx.1
  refine ⟨fun n0 => ?_, fun n0 R hR => ?_⟩
  · unfold f_X7_read
    rw [gP_p c0, gP_p (by simp only [s.root]), t1, if_pos (by rw [n0]; rfl), gd_bnd]
    refine gd_mono (first_x s) ?_
    rintro h1 ⟨a1, a2⟩
    exact gd_some.mpr ⟨rfl, a1, a2⟩
  · have mn : f_J9_min_7cf53 (n32 n) (n32 40) = some (n32 (min n 40)) := by
      unfold f_J9_min_7cf53
      by_cases q : 40 < n
      · rw [if_pos (by rw [n32_lt (by omega) (by omega)]; exact q), show min n 40 = 40 by omega]
      · rw [if_neg (by rw [n32_lt (by omega) (by omega)]; exact q), show min n 40 = n by omega]
    have mn' : f_J9_min_7cf53 (n32 n) 40 = some (n32 (min n 40)) := mn
    have fA : fr [ruq q, ruq q + 1] h (setI (setI (setI (setI (setI h (rur q) 5 (n32 0)) (rur q) 6 (n32 0)) (rur q) 7 (n32 0)) (rur q + 5) 0 (n32 0)) (rur q) 8 (n32 1)) := (((((fr.rf _ _).sI (ru_reg q 5 0 (by omega))).sI (ru_reg q 6 0 (by omega))).sI (ru_reg q 7 0 (by omega))).sI (ru_reg q 0 5 (by omega))).sI (ru_reg q 8 0 (by omega))
    have mA : MH (setI (setI (setI (setI (setI h (rur q) 5 (n32 0)) (rur q) 6 (n32 0)) (rur q) 7 (n32 0)) (rur q + 5) 0 (n32 0)) (rur q) 8 (n32 1)) (rur q) ms0 := by
      refine ⟨?_, fun i hi => absurd hi (Nat.not_lt_zero i), ?_, fun i hi => absurd hi (Nat.not_lt_zero i), ?_, fun j hj => ?_, sI_eq⟩
      · rw [sI_ne (by omega), sI_ne (by omega), sI_ne (by omega), sI_ne (by omega), sI_eq]; rfl
      · rw [sI_ne (by omega), sI_ne (by omega), sI_ne (by omega), sI_eq]; rfl
      · rw [sI_ne (by omega), sI_ne (by omega), sI_eq]; rfl
      · have j0 : j = 0 := Nat.le_zero.mp hj
        rw [j0, sI_ne (by omega), sI_eq]
        rfl
    have key := rdr_l (N := N) (q := q) (t := t) (n := n) (E := min n 40) (by omega) tb hn rfl h R (min n 40 + 1) N ms0 _ (by show min n 40 < 0 + (min n 40 + 1); omega) (by omega) (Nat.zero_le _) (s.fr fA) (tx.fr fA (by cases q <;> decide)) mA ⟨Nat.le_refl _, Nat.zero_le _, fun w hw => absurd hw List.not_mem_nil, fun w hw => absurd hw List.not_mem_nil⟩ fA (hR _ (by show min n 40 < 0 + (min n 40 + 1); omega))
    unfold f_X7_read
    rw [gP_p c0, gP_p (by simp only [s.root]), t1, if_neg (by show ¬ n32 n = n32 0; rw [n32_eq (by omega) (by omega)]; exact n0), mn', bnd_s, ltt_s, ltt_s, ltt_s]
    rw [show rK (setI (setI (setI h (rur q) 5 0) (rur q) 6 0) (rur q) 7 0) (rur q) 4 104 = some (rur q + 5) from c5, bnd_s, gP_p (by rw [sI_len, sI_len, sI_len, l5]; decide), ltt_s, ltt_s]
    exact key
theorem lay_l {N a n : Nat} {b c : Bool} (ha : a = 199 ∨ a = 215) (hn : n ≤ 80) (h0 : HP) : ∀ (d i fuel : Nat) (h : HP), i + d = n → d < fuel → SH b c h → h.2.1 188 21 = n32 n → (∀ j, h.2.1 a j = h0.2.1 a j) → (∀ j, j < i → h.2.1 198 j = h0.2.1 a j) → fr [25] h0 h → gd (lp (fun _ _ => none) (f_X10_laysCode_B7 N 188 a (n32 n)) fuel (n32 i) h) (fun h' => h'.2.1 188 21 = n32 n ∧ (∀ j, j < n → h'.2.1 198 j = h0.2.1 a j) ∧ fr [25] h0 h') := by
  intro d
  induction d with
  | zero =>
    intro i fuel h hi hf s z e1 e2 f
    obtain ⟨k', rfl⟩ : ∃ k, fuel = k + 1 := ⟨fuel - 1, by omega⟩
    have e : i = n := by omega
    subst e
    rw [lp_s, f_X10_laysCode_B7, if_pos (Int32.le_refl _)]
    exact gd_some.mpr ⟨z, e2, f⟩
  | succ d ih =>
    intro i fuel h hi hf s z e1 e2 f
    obtain ⟨k', rfl⟩ : ∃ k, fuel = k + 1 := ⟨fuel - 1, by omega⟩
    have e : ¬ n ≤ i := by omega
    have la : lenH h a = 80 := by rcases ha with rfl | rfl <;> simp only [s.mod]
    have f1 : fr [25] h (setI h 198 i (h.2.1 a i)) := (fr.rf _ _).sI rfl
    have nx := ih (i + 1) k' (setI h 198 i (h.2.1 a i)) (by omega) (by omega) (s.fr f1) (by rw [sI_ne (by omega)]; exact z) (fun j => by rw [sI_ne (by omega)]; exact e1 j) (fun j hj => by
      by_cases q : j = i
      · rw [q, sI_eq]; exact e1 i
      · rw [sI_ne (by omega)]; exact e2 j (by omega)) (f.tr f1)
    rw [lp_s, f_X10_laysCode_B7]
    simp -implicitDefEqProofs (disch := omega) only [gP_p, gP_t, bnd_s, bnd2_s, ltt_s, jn_s, n32_nat, n32_le, n32_lt, n32_eq, n32_add, n32_sub, n32_dec, n32_mul, n32_div, n32_irm, n32_lit, n32_oN, n32_ix, n32_m1, n32_m2, neg_le0, neg_lt0, neg_lt1, neg_le1, n32_min, n32_max, if_true, if_false, Nat.one_ne_zero, gd_some, true_or, or_true, false_or, or_false, e, s.mod, la]
    exact nx
theorem lay_c {N a n : Nat} {b c : Bool} {h : HP} (hN : 80 < N) (ha : a = 199 ∨ a = 215) (hn : n ≤ 80) (s : SH b c h) : gd (f_X10_laysCode N h 188 a (n32 n)) (fun h' => h'.2.1 188 21 = n32 n ∧ (∀ j, j < n → h'.2.1 198 j = h.2.1 a j) ∧ fr [25] h h') := by
  have f1 : fr [25] h (setI h 188 21 (n32 n)) := (fr.rf _ _).sI rfl
  have ka : kO h a 102 = true := by rcases ha with rfl | rfl <;> simp only [s.mod]
  have ea : ∀ j, (setI h 188 21 (n32 n)).2.1 a j = h.2.1 a j := fun j => sI_ne (by omega)
  unfold f_X10_laysCode
  rw [gP_p (by simp only [s.mod]), gP_p ka, ltt_s]
  refine gd_mono (lay_l ha hn (setI h 188 21 (n32 n)) n 0 N (setI h 188 21 (n32 n)) (by omega) (by omega) (s.fr f1) sI_eq (fun _ => rfl) (fun j hj => absurd hj (Nat.not_lt_zero j)) (fr.rf _ _)) ?_
  rintro h' ⟨a1, a2, a3⟩
  exact ⟨a1, fun j hj => (a2 j hj).trans (ea j), f1.tr a3⟩
theorem CD.ru {h h' : HP} {L : List Nat} (cd : CD h L) (e1 : h'.2.1 188 21 = n32 L.length) (e2 : ∀ j, j < L.length → h'.2.1 198 j = h.2.1 199 j) : RuM h' L := ⟨e1, fun i hi => by rw [e2 i hi]; exact cd.2 i hi⟩
/-- the reference reads a whole rule -/
theorem rr_m {t : Nat → Nat} {n : Nat} {b c : Bool} {h : HP} (s : SH b c h) (tm : TxM h t n) (tb : ∀ i, i < n → t i < 256) (hn : n ≤ 80) : (n = 0 → gd (f_X10_readsRule 100 h 188) (fun x => x.1 = n32 0 ∧ CD x.2 [] ∧ TxM x.2 t 0 ∧ fr [21, 40] h x.2)) ∧ (n ≠ 0 → gd (f_X10_readsRule 100 h 188) (fun x => TxM x.2 t 0 ∧ fr [21, 40] h x.2 ∧ ∃ R : MRs, Rn t (min n 40) ms0 R ∧ R.2.1 ≤ min n 40 ∧ ((R.1 = true ∧ n ≤ min n 40 ∧ x.1 = n32 0 ∧ CD x.2 R.2.2 ∧ WF R.2.2) ∨ (¬ (R.1 = true ∧ n ≤ min n 40) ∧ x.1 = -n32 1 - n32 (lnQ (rL R) (min n 40)))))) := by
  refine ⟨fun n0 => ?_, fun n0 => ?_⟩
  · unfold f_X10_readsRule
    rw [gP_p (by simp only [s.mod]), gd_bnd2]
    refine gd_mono (begins_m s tm hn (show 40 ≤ 80 by omega)) ?_
    rintro ⟨u, h1⟩ ⟨e1, e2, e3, e4, e5⟩
    have e1' : u = n32 n := e1
    subst e1'
    have e4' : fr [21, 40] h h1 := e4
    have f1 : fr [40] h1 (setI h1 188 22 (n32 0)) := (fr.rf _ _).sI rfl
    have s1 := (s.fr e4').fr f1
    have r1 : RM (setI h1 188 22 (n32 0)) t (min n 40) 0 := RM.ne (h := h1) e2 (by omega) (by omega) (by omega)
    have fo := fault_m (g := 1) s1 r1 hn (show 40 ≤ 80 by omega) rfl (by omega) (by omega)
    rw [if_pos ⟨rfl, by omega, by omega⟩] at fo
    have fo' : f_X10_faultOf (setI h1 188 22 0) 188 (n32 n) 40 1 = some (n32 0) := fo
    rw [ltt_s, jn_s, jn_s]
    show gd (if n32 n = 0 then bnd (f_X10_faultOf (setI h1 188 22 0) 188 (n32 n) 40 1) (fun v13 => some (v13, setI h1 188 22 0)) else _) _
    rw [if_pos (by rw [n0]; rfl), fo', bnd_s]
    exact gd_some.mpr ⟨rfl, ⟨sI_eq, fun j hj => absurd hj (Nat.not_lt_zero j)⟩, TxM.fr (h := h1) e3 f1 (by decide), e4'.tr (f1.mono (by decide))⟩
  · unfold f_X10_readsRule
    rw [gP_p (by simp only [s.mod]), gd_bnd2]
    refine gd_mono (begins_m s tm hn (show 40 ≤ 80 by omega)) ?_
    rintro ⟨u, h1⟩ ⟨e1, e2, e3, e4, e5⟩
    have e1' : u = n32 n := e1
    subst e1'
    have e4' : fr [21, 40] h h1 := e4
    have f1 : fr [40] h1 (setI h1 188 22 (n32 0)) := (fr.rf _ _).sI rfl
    have s1 := (s.fr e4').fr f1
    have r1 : RM (setI h1 188 22 (n32 0)) t (min n 40) 0 := RM.ne (h := h1) e2 (by omega) (by omega) (by omega)
    have z15 : (setI h1 188 22 (n32 0)).2.1 188 15 = n32 0 := by rw [sI_ne (by omega)]; exact e5
    have cd0 : CD (setI h1 188 22 (n32 0)) [] := ⟨sI_eq, fun j hj => absurd hj (Nat.not_lt_zero j)⟩
    have t1 : TxM (setI h1 188 22 (n32 0)) t 0 := TxM.fr (h := h1) e3 f1 (by decide)
    have fA : fr [21, 40] h (setI h1 188 22 (n32 0)) := e4'.tr (f1.mono (by decide))
    rw [ltt_s, jn_s, jn_s]
    rw [if_neg (by show ¬ n32 n = n32 0; rw [n32_eq (by omega) (by omega)]; exact n0), gd_bnd2]
    refine gd_mono ((desc_m (N := 100) (b := b) (c := c) (by omega) (show min n 40 ≤ 40 by omega) (fun i hi => tb i (by omega)) 100).2 0 0 0 [] (setI h1 188 22 (n32 0)) (by omega) (by omega) ⟨s1, r1, z15, cd0, Nat.le_refl _, Nat.zero_le _⟩ (by omega)) ?_
    rintro ⟨y, h2⟩ ⟨f2, y2⟩
    have f2' : fr [40] (setI h1 188 22 (n32 0)) h2 := f2
    have s2 := s1.fr f2'
    have t2 : TxM h2 t 0 := t1.fr f2' (by decide)
    have fB : fr [21, 40] h h2 := fA.tr (f2'.mono (by decide))
    rcases y2 with ⟨p', L, a1, a2, a3, a4, a5⟩ | ⟨p', m, a1, a2, a3, a4, a5⟩
    · have a1' : y = n32 1 := a1
      subst a1'
      obtain ⟨n1, n2, n3, n4⟩ := a5.1
      have rn := PT_all a5
      have fo := fault_m (g := 1) s2 a2 hn (show 40 ≤ 80 by omega) rfl n2 (by omega)
      have fo' : f_X10_faultOf h2 188 (n32 n) 40 1 = _ := fo
      show gd (if n32 1 = 0 then _ else bnd (f_X10_faultOf h2 188 (n32 n) 40 1) (fun v13 => some (v13, h2))) _
      rw [if_neg (by decide), fo', bnd_s]
      refine gd_some.mpr ⟨t2, fB, _, rn, ?_, ?_⟩
      · by_cases q : p' = min n 40
        · rw [if_pos q]; exact Nat.le_refl _
        · rw [if_neg q]; exact n2
      · by_cases q : p' = min n 40
        · rw [if_pos q]
          by_cases q2 : n ≤ 40
          · refine Or.inl ⟨rfl, by omega, if_pos ⟨rfl, q, q2⟩, a4, ?_, by show L.length ≤ 40; omega⟩
            have := n4 [] 0
            rw [List.append_nil] at this
            exact this
          · refine Or.inr ⟨fun z => q2 (by have := z.2; omega), ?_⟩
            show (if 1 = 1 ∧ p' = min n 40 ∧ n ≤ 40 then n32 0 else -n32 1 - n32 (if 1 = 1 ∧ p' = min n 40 then 40 else p')) = -n32 1 - n32 (min n 40)
            rw [if_neg (fun z => q2 z.2.2), if_pos ⟨rfl, q⟩, show min n 40 = 40 by omega]
        · rw [if_neg q]
          refine Or.inr ⟨fun z => absurd z.1 Bool.false_ne_true, ?_⟩
          show (if 1 = 1 ∧ p' = min n 40 ∧ n ≤ 40 then n32 0 else -n32 1 - n32 (if 1 = 1 ∧ p' = min n 40 then 40 else p')) = -n32 1 - n32 p'
          rw [if_neg (fun z => q z.2.1), if_neg (fun z => q z.2)]
    · have a1' : y = n32 0 := a1
      subst a1'
      have p5 := a5.2.1
      have rn := PF_all a5
      have fo := fault_m (g := 0) s2 a2 hn (show 40 ≤ 80 by omega) rfl p5 (by omega)
      rw [if_neg (fun z => by have := z.1; omega), if_neg (fun z => by have := z.1; omega)] at fo
      have fo' : f_X10_faultOf h2 188 (n32 n) 40 0 = some (-n32 1 - n32 p') := fo
      show gd (if n32 0 = 0 then bnd (f_X10_faultOf h2 188 (n32 n) 40 0) (fun v13 => some (v13, h2)) else _) _
      rw [if_pos (by decide), fo', bnd_s]
      exact gd_some.mpr ⟨t2, fB, (false, p', []), rn, p5, Or.inr ⟨fun z => absurd z.1 Bool.false_ne_true, rfl⟩⟩
abbrev swR (c : Bool) (h : HP) : HP := setR (setR h 0 14 (some (rur (!c)))) 0 15 (some (rur c))
theorem SH.swR {b c : Bool} {h : HP} (s : SH b c h) : SH b (!c) (swR c h) := by
  obtain ⟨e1, e2, e3, e4, e5, e6⟩ := s
  refine ⟨e1, fun e he => ?_, ?_, ?_, ?_, ?_⟩
  · have := List.all_eq_true.mp rt_sw e he
    simp only [Bool.not_eq_true', Bool.and_eq_false_iff, Bool.or_eq_false_iff, beq_eq_false_iff_ne] at this
    rw [sR_R, sR_R, if_neg (by omega), if_neg (by omega)]
    exact e2 e he
  · rw [sR_R, sR_R, if_neg (by omega), if_neg (by omega)]; exact e3
  · rw [sR_R, sR_R, if_neg (by omega), if_neg (by omega)]; exact e4
  · rw [sR_R, sR_R, if_neg (by omega), if_pos ⟨rfl, rfl⟩]
  · rw [sR_R, if_pos ⟨rfl, rfl⟩, Bool.not_not]
theorem ruleX {h : HP} {t : Nat → Nat} {n : Nat} {b c : Bool} {v : Int32} {Lz : List Nat} (s : SH b c h) (rd : gd (f_X7_read 100 h (rur (!c)) 1) (fun x => x.1 = v ∧ (v = -n32 1 → RLx x.2 (rur (!c)) Lz) ∧ fr [ruq (!c), ruq (!c) + 1] h x.2)) :
    (v = -n32 1 → gd (f_X9_rule 100 h 0) (fun p => ∃ g, p.2 = swR c g ∧ p.1 = n32 0 ∧ TxX g t 0 ∧ RLx g (rur (!c)) Lz ∧ fr [ruq (!c), ruq (!c) + 1, 1] h g)) ∧ (v ≠ -n32 1 → gd (f_X9_rule 100 h 0) (fun p => p.1 = -n32 1 - v ∧ TxX p.2 t 0 ∧ fr [ruq (!c), ruq (!c) + 1, 1] h p.2)) := by
  refine ⟨fun hv => ?_, fun hv => ?_⟩
  · unfold f_X9_rule
    simp -implicitDefEqProofs (disch := omega) only [s.root, gP_p, gP_t, bnd_s, bnd2_s, n32_nat, n32_le, n32_lt, n32_eq, n32_add, n32_sub, n32_dec, n32_mul, n32_div, n32_irm, n32_lit, n32_oN, n32_ix, n32_m1, n32_m2, neg_le0, neg_lt0, neg_lt1, neg_le1, n32_min, n32_max, if_true, if_false, Nat.one_ne_zero, true_or, or_true, false_or, or_false, gd_bnd2]
    refine gd_mono rd ?_
    rintro ⟨u, h1⟩ ⟨e1, e2, e3⟩
    have e1' : u = -n32 1 := (show u = v from e1).trans hv
    subst e1'
    have rl := e2 hv
    have e3' : fr [ruq (!c), ruq (!c) + 1] h h1 := e3
    have s1 := s.fr e3'
    have f1 : fr [1] h1 (setI h1 1 1 (n32 0)) := (fr.rf _ _).sI rfl
    have s2 := s1.fr f1
    have hc1 := ru_ne (!c)
    have rl2 : RLx (setI h1 1 1 (n32 0)) (rur (!c)) Lz := ⟨by rw [sI_ne (by omega)]; exact rl.1, fun i hi => by rw [sI_ne (by omega)]; exact rl.2 i hi⟩
    simp -implicitDefEqProofs (disch := omega) only [gP_p, gP_t, bnd_s, bnd2_s, ltt_s, jn_s, n32_nat, n32_le, n32_lt, n32_eq, n32_add, n32_sub, n32_dec, n32_mul, n32_div, n32_irm, n32_lit, n32_oN, n32_ix, n32_m1, n32_m2, neg_le0, neg_lt0, neg_lt1, neg_le1, n32_min, n32_max, if_true, if_false, Nat.one_ne_zero, gd_some, true_or, or_true, false_or, or_false, s1.root, clr_x s1, s2.root]
    exact ⟨_, rfl, trivial, ⟨sI_eq, fun i hi => absurd hi (Nat.not_lt_zero i)⟩, rl2, (e3'.mono (by cases c <;> decide)).tr (f1.mono (by cases c <;> decide))⟩
  · unfold f_X9_rule
    simp -implicitDefEqProofs (disch := omega) only [s.root, gP_p, gP_t, bnd_s, bnd2_s, n32_nat, n32_le, n32_lt, n32_eq, n32_add, n32_sub, n32_dec, n32_mul, n32_div, n32_irm, n32_lit, n32_oN, n32_ix, n32_m1, n32_m2, neg_le0, neg_lt0, neg_lt1, neg_le1, n32_min, n32_max, if_true, if_false, Nat.one_ne_zero, true_or, or_true, false_or, or_false, gd_bnd2]
    refine gd_mono rd ?_
    rintro ⟨u, h1⟩ ⟨e1, e2, e3⟩
    have e1' : u = v := e1
    subst e1'
    have e3' : fr [ruq (!c), ruq (!c) + 1] h h1 := e3
    have s1 := s.fr e3'
    have f1 : fr [1] h1 (setI h1 1 1 (n32 0)) := (fr.rf _ _).sI rfl
    simp -implicitDefEqProofs (disch := omega) only [gP_p, gP_t, bnd_s, bnd2_s, n32_nat, n32_le, n32_lt, n32_eq, n32_add, n32_sub, n32_dec, n32_mul, n32_div, n32_irm, n32_lit, n32_oN, n32_ix, n32_m1, n32_m2, neg_le0, neg_lt0, neg_lt1, neg_le1, n32_min, n32_max, if_true, if_false, Nat.one_ne_zero, true_or, or_true, false_or, or_false, s1.root, clr_x s1]
    rw [if_neg hv]
    exact gd_some.mpr ⟨rfl, ⟨sI_eq, fun i hi => absurd hi (Nat.not_lt_zero i)⟩, (e3'.mono (by cases c <;> decide)).tr (f1.mono (by cases c <;> decide))⟩
theorem lnC_ne {r : LR} {n E : Nat} (hE : r.2.1 ≤ E) (hE2 : E ≤ 1000) (h : ¬ (r.1 = true ∧ n ≤ E)) : lnC r n E ≠ -n32 1 := by
  rw [lnC_q h]
  intro z
  have : lnQ r E ≤ E := by unfold lnQ; split <;> omega
  exact (n32_m1 (by omega) (by omega) (by omega)).mp z
theorem op_rule {k : Nat} (hk : k < 512) : ∀ (h : HP), Inv k h → ∃ (v : Int32) (h1 h2 : HP), f_X9_rule 100 h 0 = some (v, h1) ∧ f_X10_rule 100 h1 188 = some (v, h2) ∧ Inv (k + 1) h2 := by
  intro h I
  obtain ⟨b, c, sz, iv⟩ := I
  obtain ⟨a0, a1, a2, a3, a4, a5, a6, a7, a8, a9, a10⟩ := id iv
  obtain ⟨t, n, hn, tb, tx, tm⟩ := a2
  have f0 : ∀ g, fr [50] g (setI g 188 0 (n32 0)) := fun g => (fr.rf _ _).sI rfl
  have good : ∀ (g : HP) (L : List Nat), WR L → fr [ruq (!c), ruq (!c) + 1, 1] h g → TxX g t 0 → RLx g (rur (!c)) (Lx L) → (∀ g2, SH b (!c) g2 → TxM g2 t n → gd (f_X10_readsRule 100 g2 188) (fun x => x.1 = n32 0 ∧ CD x.2 L ∧ TxM x.2 t 0 ∧ fr [21, 40] g2 x.2)) → ∃ h2, f_X10_rule 100 (swR c g) 188 = some (n32 0, h2) ∧ Inv (k + 1) h2 := by
    intro g L wl x6 x4 x5 rr
    have sg := (a0.fr x6).swR
    have tmg : TxM g t n := tm.fr x6 (by cases c <;> decide)
    have M : gd (f_X10_rule 100 (swR c g) 188) (fun p => p.1 = n32 0 ∧ RuM p.2 L ∧ TxM p.2 t 0 ∧ fr [50, 21, 40, 25] (swR c g) p.2) := by
      unfold f_X10_rule
      rw [gP_p (by simp only [sg.mod]), ltt_s, gd_bnd2]
      refine gd_mono (rr _ (sg.fr (f0 _)) (TxM.fr (h := swR c g) tmg (f0 _) (by decide))) ?_
      rintro ⟨u, h3⟩ ⟨u1, u2, u3, u4⟩
      have u1' : u = n32 0 := u1
      subst u1'
      have u2' : CD h3 L := u2
      have u4' : fr [21, 40] (setI (swR c g) 188 0 (n32 0)) h3 := u4
      have s3 := (sg.fr (f0 _)).fr u4'
      have z22 := u2'.1
      have lL : L.length ≤ 40 := by
        rcases wl with e | e
        · rw [e]; exact Nat.zero_le _
        · exact e.2
      show gd (if n32 0 = 0 then bnd (rK h3 188 20 102) (fun t10 => bnd (f_X10_laysCode 100 h3 188 t10 (h3.2.1 188 22)) (fun h15 => some (n32 0, h15))) else _) _
      rw [if_pos (by decide), show rK h3 188 20 102 = some 199 from by simp only [s3.mod], bnd_s, z22, gd_bnd]
      refine gd_mono (lay_c (N := 100) (by omega) (Or.inl rfl) (by omega) s3) ?_
      rintro h4 ⟨w1, w2, w3⟩
      have w3' : fr [25] h3 h4 := w3
      exact gd_some.mpr ⟨rfl, u2'.ru w1 w2, TxM.fr (h := h3) u3 w3' (by decide), (((f0 _).mono (by decide)).tr (u4'.mono (by decide))).tr (w3'.mono (by decide))⟩
    obtain ⟨⟨v2, h2⟩, y1, y2, y3, y4, y5⟩ := M
    have y2' : v2 = n32 0 := y2
    subst y2'
    have y5' : fr [50, 21, 40, 25] (swR c g) h2 := y5
    have b1 : Siz sz g := a1.fr x6 (by cases c <;> decide)
    have b3 : Row g := a3.fr x6 (by cases c <;> decide)
    have b4 : Coa (300 * k) sz g := a4.fr x6 (by cases c <;> decide)
    have b5 : Goo sz g := a5.fr x6 (by cases c <;> decide)
    have b6 : Flt b g := a6.fr x6 (by cases b <;> cases c <;> decide)
    have b8 : Pas (300 * k) sz g := a8.fr x6 (by cases c <;> decide)
    have b9 : Kep (300 * k) sz g := a9.fr x6 (by cases c <;> decide)
    have b10 : Hea g := a10.fr x6 (by cases c <;> decide)
    have x5' : RuX (swR c g) (rur (!c)) L := x5
    have x4' : TxX (swR c g) t 0 := x4
    exact ⟨h2, y1, Iv.up ⟨sg.fr y5', Siz.fr (h := swR c g) b1 y5' (by decide), ⟨t, 0, by omega, fun i hi => absurd hi (Nat.not_lt_zero i), x4'.fr y5' (by decide), y4⟩, Row.fr (h := swR c g) b3 y5' (by decide), Coa.fr (h := swR c g) b4 y5' (by decide), Goo.fr (h := swR c g) b5 y5' (by decide), Flt.fr (h := swR c g) b6 y5' (by cases b <;> decide), ⟨L, x5'.fr y5' (by cases c <;> decide), y3, wl⟩, Pas.fr (h := swR c g) b8 y5' (by decide), Kep.fr (h := swR c g) b9 y5' (by decide), Hea.fr (h := swR c g) b10 y5' (by decide)⟩⟩
  obtain ⟨X1, X2⟩ := rrd_x (N := 100) (q := !c) (by omega) a0 tx tb hn
  by_cases n0 : n = 0
  · obtain ⟨Y1, -⟩ := ruleX (v := -n32 1) (Lz := L0) (n := n) (t := t) a0 (gd_mono (X1 n0) (fun x hx => ⟨hx.1, fun _ => hx.2.1, hx.2.2⟩))
    obtain ⟨⟨v, h1⟩, x1, g, x2, x3, x4, x5, x6⟩ := Y1 rfl
    have x2' : h1 = swR c g := x2
    have x3' : v = n32 0 := x3
    subst x2'
    subst x3'
    obtain ⟨h2, y1, y2⟩ := good g [] (Or.inl rfl) x6 x4 x5 (fun g2 s2 t2 => (rr_m s2 t2 tb hn).1 n0)
    exact ⟨_, _, h2, x1, y1, y2⟩
  · obtain ⟨⟨v0, h0'⟩, -, -, -, R, rn, rE, alt⟩ := (rr_m a0 tm tb hn).2 n0
    by_cases q : R.1 = true ∧ n ≤ min n 40
    · have wf : WF R.2.2 := by
        rcases alt with e | e
        · exact e.2.2.2.2
        · exact absurd q e.1
      have lx : Lx R.2.2 = R.2.2 := by
        generalize R.2.2 = X at wf ⊢
        cases X with
        | nil => exact absurd wf.1 (by decide)
        | cons x X => rfl
      obtain ⟨Y1, -⟩ := ruleX (v := lnC (rL R) n (min n 40)) (Lz := R.2.2) (n := n) (t := t) a0 (gd_mono (X2 n0 R rn) (fun x hx => ⟨hx.1, fun _ => hx.2.1 q, hx.2.2⟩))
      obtain ⟨⟨v, h1⟩, x1, g, x2, x3, x4, x5, x6⟩ := Y1 (lnC_f (r := rL R) q)
      have x2' : h1 = swR c g := x2
      have x3' : v = n32 0 := x3
      subst x2'
      subst x3'
      obtain ⟨h2, y1, y2⟩ := good g R.2.2 (Or.inr wf) x6 x4 (by rw [lx]; exact x5) (fun g2 s2 t2 => gd_mono ((rr_m s2 t2 tb hn).2 n0) (fun x hx => by
        obtain ⟨w1, w2, R', rn', rE', alt'⟩ := hx
        have eR : R' = R := (rn' (min n 40 + 1) (by show min n 40 < 0 + (min n 40 + 1); omega)).symm.trans (rn _ (by show min n 40 < 0 + (min n 40 + 1); omega))
        subst eR
        rcases alt' with e | e
        · exact ⟨e.2.2.1, e.2.2.2.1, w1, w2⟩
        · exact absurd q e.1))
      exact ⟨_, _, h2, x1, y1, y2⟩
    · obtain ⟨-, Y2⟩ := ruleX (v := lnC (rL R) n (min n 40)) (Lz := R.2.2) (n := n) (t := t) a0 (gd_mono (X2 n0 R rn) (fun x hx => ⟨hx.1, fun z => absurd z (lnC_ne rE (by omega) q), hx.2.2⟩))
      obtain ⟨⟨v, h1⟩, x1, x2, x3, x4⟩ := Y2 (lnC_ne rE (by omega) q)
      have x4' : fr [ruq (!c), ruq (!c) + 1, 1] h h1 := x4
      have x2' : v = -n32 1 - lnC (rL R) n (min n 40) := x2
      rw [lnC_q q] at x2'
      have s1 := a0.fr x4'
      have M : gd (f_X10_rule 100 h1 188) (fun p => p.1 = v ∧ TxM p.2 t 0 ∧ fr [50, 21, 40] h1 p.2) := by
        unfold f_X10_rule
        rw [gP_p (by simp only [s1.mod]), ltt_s, gd_bnd2]
        refine gd_mono ((rr_m (s1.fr (f0 _)) ((tm.fr x4' (by cases c <;> decide)).fr (f0 _) (by decide)) tb hn).2 n0) ?_
        rintro ⟨u, h3⟩ ⟨w1, w2, R', rn', rE', alt'⟩
        have eR : R' = R := (rn' (min n 40 + 1) (by show min n 40 < 0 + (min n 40 + 1); omega)).symm.trans (rn _ (by show min n 40 < 0 + (min n 40 + 1); omega))
        subst eR
        have w2' : fr [21, 40] (setI h1 188 0 (n32 0)) h3 := w2
        rcases alt' with e | e
        · exact absurd ⟨e.1, e.2.1⟩ q
        · have u1 : u = -n32 1 - n32 (lnQ (rL R') (min n 40)) := e.2
          have lq : lnQ (rL R') (min n 40) ≤ 40 := by unfold lnQ; split; omega; show R'.2.1 ≤ 40; omega
          have nz : ¬ u = 0 := fun z => by
            have := flt_neg (q := lnQ (rL R') (min n 40)) (by omega)
            rw [← u1, z] at this
            exact this (Int32.le_refl _)
          show gd (if u = 0 then _ else some (u, h3)) _
          rw [if_neg nz]
          exact gd_some.mpr ⟨u1.trans x2'.symm, w1, ((f0 _).mono (by decide)).tr (w2'.mono (by decide))⟩
      obtain ⟨⟨v2, h2⟩, y1, y2, y3, y4⟩ := M
      have y2' : v2 = v := y2
      subst y2'
      have fA : fr [ruq (!c), ruq (!c) + 1, 1, 50, 21, 40] h h2 := (x4'.mono (by cases c <;> decide)).tr (y4.mono (by cases c <;> decide))
      exact ⟨v2, h1, h2, x1, y1, Iv.up ⟨a0.fr fA, a1.fr fA (by cases c <;> decide), ⟨t, 0, by omega, fun i hi => absurd hi (Nat.not_lt_zero i), TxX.fr x3 y4 (by decide), y3⟩, a3.fr fA (by cases c <;> decide), a4.fr fA (by cases c <;> decide), a5.fr fA (by cases c <;> decide), a6.fr fA (by cases b <;> cases c <;> decide), a7.fr fA (by cases c <;> decide), a8.fr fA (by cases c <;> decide), a9.fr fA (by cases c <;> decide), a10.fr fA (by cases c <;> decide)⟩⟩
