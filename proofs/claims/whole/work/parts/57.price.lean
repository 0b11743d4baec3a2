/-! ===== prices ===== -/
def wk (op : Nat) (a b : Int32) : Int32 := if op = 0 then (if b ≤ a then 0 else 1) else if op = 1 then (if a ≤ b then 0 else 1) else if op = 2 then (if a = b then 1 else 0) else if op = 3 then a + b else if op = 4 then a - b else if op = 5 then a * b else if b = 0 then 0 else a / b
def evS (ask : Nat → Int32) : List Nat → List Int32 → List Int32
  | [], st => st
  | c :: L, st => if c < 1000 then evS ask L (n32 c :: st) else if c < 2000 then evS ask L (ask (c - 1000) :: st) else match st with
    | [] => evS ask L []
    | a :: t => if c = 2007 then evS ask L (-a :: t) else match t with
      | [] => evS ask L [a]
      | a' :: t' => evS ask L (wk (c - 2000) a' a :: t')
def dep : List Nat → Nat → Option Nat
  | [], d => some d
  | c :: L, d => if c < 1006 then dep L (d + 1) else if c < 2000 then none else if c < 2007 then (if 2 ≤ d then dep L (d - 1) else none) else if c = 2007 then (if 1 ≤ d then dep L d else none) else none
theorem evS_len {ask : Nat → Int32} : ∀ (L : List Nat) (st : List Int32) (d : Nat), dep L st.length = some d → (evS ask L st).length = d := by
  intro L
  induction L with
  | nil => intro st d h; exact Option.some.inj h
  | cons c L ih =>
    intro st d h
    unfold dep at h
    unfold evS
    by_cases h1 : c < 1006
    · rw [if_pos h1] at h
      by_cases h2 : c < 1000
      · rw [if_pos h2]; exact ih _ _ h
      · rw [if_neg h2, if_pos (by omega)]; exact ih _ _ h
    · rw [if_neg h1] at h
      by_cases h2 : c < 2000
      · rw [if_pos h2] at h; cases h
      · rw [if_neg h2] at h
        rw [if_neg (by omega), if_neg h2]
        by_cases h3 : c < 2007
        · rw [if_pos h3] at h
          match st, h with
          | [], h => rw [if_neg (by show ¬ 2 ≤ 0; omega)] at h; cases h
          | [a], h => rw [if_neg (by show ¬ 2 ≤ 1; omega)] at h; cases h
          | a :: a' :: t, h =>
            rw [if_pos (by show 2 ≤ t.length + 1 + 1; omega)] at h
            show (if c = 2007 then evS ask L (-a :: a' :: t) else evS ask L (wk (c - 2000) a' a :: t)).length = d
            rw [if_neg (by omega)]
            exact ih _ _ h
        · rw [if_neg h3] at h
          by_cases h4 : c = 2007
          · rw [if_pos h4] at h
            match st, h with
            | [], h => rw [if_neg (by show ¬ 1 ≤ 0; omega)] at h; cases h
            | a :: t, h =>
              rw [if_pos (by show 1 ≤ t.length + 1; omega)] at h
              show (if c = 2007 then evS ask L (-a :: t) else _).length = d
              rw [if_pos h4]
              exact ih _ _ h
          · rw [if_neg h4] at h; cases h
/-- a stack in a row of cells -/
def stk (V : Nat → Int32) (st : List Int32) : Prop := ∀ j, j < st.length → V j = st.getD (st.length - 1 - j) 0
theorem stk_nil {V : Nat → Int32} : stk V [] := fun j hj => absurd hj (Nat.not_lt_zero j)
theorem stk_top {V : Nat → Int32} {a : Int32} {t : List Int32} (s : stk V (a :: t)) : V t.length = a := by
  have := s t.length (by show t.length < t.length + 1; omega)
  rw [this]
  show (a :: t).getD (t.length + 1 - 1 - t.length) 0 = a
  rw [show t.length + 1 - 1 - t.length = 0 by omega]
  rfl
theorem stk_tail {V : Nat → Int32} {a : Int32} {t : List Int32} (s : stk V (a :: t)) : stk V t := fun j hj => by
  have := s j (by show j < t.length + 1; omega)
  rw [this]
  show (a :: t).getD (t.length + 1 - 1 - j) 0 = _
  rw [show t.length + 1 - 1 - j = (t.length - 1 - j) + 1 by omega]
  rfl
theorem stk_push {V V' : Nat → Int32} {a : Int32} {t : List Int32} (s : stk V t) (h1 : V' t.length = a) (h2 : ∀ j, j < t.length → V' j = V j) : stk V' (a :: t) := fun j hj => by
  have hj' : j < t.length + 1 := hj
  by_cases q : j = t.length
  · subst q
    rw [h1]
    show a = (a :: t).getD (t.length + 1 - 1 - t.length) 0
    rw [show t.length + 1 - 1 - t.length = 0 by omega]
    rfl
  · rw [h2 j (by omega), s j (by omega)]
    show _ = (a :: t).getD (t.length + 1 - 1 - j) 0
    rw [show t.length + 1 - 1 - j = (t.length - 1 - j) + 1 by omega]
    rfl
def clampN (x : Int32) : Nat := (max 0 (min 99999 x.toInt)).toNat
theorem clampN_le (x : Int32) : clampN x ≤ 99999 := by unfold clampN; omega
theorem n32_toInt {x : Int32} {n : Nat} (h : x.toInt = (n : Int)) : x = n32 n := by
  apply Int32.toInt.inj
  have := x.toInt_lt
  rw [h, n32_int (by omega)]
theorem min_c (x : Int32) : f_J9_min_7cf53 (n32 99999) x = some (if x.toInt < 99999 then x else n32 99999) := by
  unfold f_J9_min_7cf53
  simp only [Int32.lt_iff_toInt_lt, n32_int (show 99999 < 2147483648 by omega)]
  by_cases q : x.toInt < 99999
  · rw [if_pos q, if_pos (show x.toInt < ((99999 : Nat) : Int) from q)]
  · rw [if_neg q, if_neg (show ¬ x.toInt < ((99999 : Nat) : Int) from q)]
theorem max_c (x : Int32) : f_J9_max_7cf53 (n32 0) (if x.toInt < 99999 then x else n32 99999) = some (n32 (clampN x)) := by
  unfold f_J9_max_7cf53 clampN
  by_cases q : x.toInt < 99999
  · rw [if_pos q]
    simp only [Int32.lt_iff_toInt_lt, n32_int (show 0 < 2147483648 by omega)]
    by_cases q2 : ((0 : Nat) : Int) < x.toInt
    · rw [if_pos q2]
      congr 1
      exact n32_toInt (by omega)
    · rw [if_neg q2]
      congr 2
      omega
  · rw [if_neg q]
    simp (disch := omega) only [n32_nat, n32_le, n32_lt, n32_eq, n32_add, n32_sub, n32_dec, n32_mul, n32_div, n32_irm, n32_lit, n32_oN, n32_ix, n32_m1, n32_m2, neg_le0, neg_lt0, neg_lt1, neg_le1, n32_min, n32_max]
    rw [if_pos (by omega)]
    congr 2
    omega
theorem put_c (x : Int32) : f_X9_put x (n32 0) (n32 99999) = some (n32 (clampN x)) := by
  unfold f_X9_put
  rw [min_c, bnd_s, max_c, bnd_s]
theorem joined_y {c : Nat} {a b : Int32} (h1 : 2000 ≤ c) (h2 : c < 2007) : f_X7_joined (n32 c) a b = some (wk (c - 2000) a b) := by
  obtain ⟨k, rfl⟩ : ∃ k, c = 2000 + k := ⟨c - 2000, by omega⟩
  rw [show 2000 + k - 2000 = k by omega]
  unfold f_X7_joined wk
  have hk : k = 0 ∨ k = 1 ∨ k = 2 ∨ k = 3 ∨ k = 4 ∨ k = 5 ∨ k = 6 := by omega
  rcases hk with rfl | rfl | rfl | rfl | rfl | rfl | rfl
  · simp (disch := omega) only [n32_lit, n32_eq, if_true]; split <;> rfl
  · simp (disch := omega) only [n32_lit, n32_eq, if_true, if_false, Nat.reduceAdd, Nat.reduceEqDiff, Nat.one_ne_zero]; split <;> rfl
  · simp (disch := omega) only [n32_lit, n32_eq, if_true, if_false, Nat.reduceAdd, Nat.reduceEqDiff]; split <;> rfl
  · rfl
  · rfl
  · rfl
  · show (if b = 0 then some 0 else gP (¬ b = 0) (some (a / b))) = some (if b = 0 then 0 else a / b)
    by_cases q : b = 0
    · rw [if_pos q, if_pos q]
    · rw [if_neg q, if_neg q, gP_p q]
theorem worked_y {k : Nat} {a b : Int32} (h2 : k < 7) : f_X10_worked (n32 k) a b = some (wk k a b) := by
  unfold f_X10_worked wk
  have hk : k = 0 ∨ k = 1 ∨ k = 2 ∨ k = 3 ∨ k = 4 ∨ k = 5 ∨ k = 6 := by omega
  rcases hk with rfl | rfl | rfl | rfl | rfl | rfl | rfl
  · simp (disch := omega) only [n32_lit, n32_eq, if_true, jn_s, f_X10_flag]; split <;> rfl
  · simp (disch := omega) only [n32_lit, n32_eq, if_true, if_false, Nat.reduceEqDiff, Nat.one_ne_zero, jn_s, f_X10_flag]; split <;> rfl
  · simp (disch := omega) only [n32_lit, n32_eq, if_true, if_false, Nat.reduceEqDiff, jn_s, f_X10_flag]; split <;> rfl
  · rfl
  · rfl
  · rfl
  · show (if b = 0 then some 0 else gP (¬ b = 0) (some (a / b))) = some (if b = 0 then 0 else a / b)
    by_cases q : b = 0
    · rw [if_pos q, if_pos q]
    · rw [if_neg q, if_neg q, gP_p q]
theorem drop_c {L t : List Nat} {c i : Nat} (h : L.drop i = c :: t) : i < L.length ∧ L.getD i 0 = c ∧ L.drop (i + 1) = t := by
  have h1 : i < L.length := by
    have := congrArg List.length h
    rw [List.length_drop, List.length_cons] at this
    omega
  refine ⟨h1, ?_, ?_⟩
  · rw [List.getD_eq_getElem?_getD, ← List.head?_drop, h]
    rfl
  · rw [← List.tail_drop, h]
    rfl
/-! the stack's loop in the program -/
theorem price_loop {N ru : Nat} {ask : Nat → Int32} {Lw : List Nat} {k : HP → Option (Int32 × HP)} {Q : Int32 × HP → Prop} (hL : Lw.length ≤ 40) (hru : ru + 5 < 188) (h0 : HP) {d : Nat} (E : List Int32) (K : ∀ h', RUc h' ru → stk (h'.2.1 (ru + 3)) E → fr [rc (ru + 3)] h0 h' → gd (k h') Q) :
    ∀ (L1 : List Nat) (i fuel : Nat) (st : List Int32) (h : HP), Lw.drop i = L1 → i ≤ Lw.length → L1.length < fuel → RUc h ru → h.2.1 ru 5 = n32 Lw.length → (∀ i, i < Lw.length → h.2.1 (ru + 1) i = n32 (Lw.getD i 0)) → (∀ j, j < 6 → h.2.1 (ru + 4) j = ask j) → stk (h.2.1 (ru + 3)) st → st.length ≤ i → dep L1 st.length = some d → evS ask L1 st = E → fr [rc (ru + 3)] h0 h →
    gd (lp (fun _ _ _ => none) (f_X7_price_B51 N ru k) fuel (n32 st.length) (n32 i) h) Q := by
  intro L1
  induction L1 with
  | nil =>
    intro i fuel st h hd hil0 hf c e5 e1 e4 s hi hdep hev f
    obtain ⟨n, rfl⟩ : ∃ n, fuel = n + 1 := ⟨fuel - 1, by omega⟩
    have hil : Lw.length ≤ i := List.drop_eq_nil_iff.mp hd
    simp -implicitDefEqProofs (disch := omega) only [lp_s, f_X7_price_B51, n32_nat, n32_le, n32_lt, n32_eq, n32_add, n32_sub, n32_dec, n32_mul, n32_div, n32_irm, n32_lit, n32_oN, n32_ix, n32_m1, n32_m2, neg_le0, neg_lt0, neg_lt1, neg_le1, n32_min, n32_max, e5]
    rw [if_pos hil]
    have hev' : st = E := hev
    subst hev'
    exact K h c s f
  | cons c0 L1 ih =>
    intro i fuel st h hd hil0 hf c e5 e1 e4 s hi hdep hev f
    obtain ⟨n, rfl⟩ : ∃ n, fuel = n + 1 := ⟨fuel - 1, by omega⟩
    obtain ⟨d1, d2, d3⟩ := drop_c hd
    have ec := e1 i d1
    rw [d2] at ec
    obtain ⟨g0, g1, g2, g3, g4, g5, g6, g7, g8, g9, g10⟩ := id c
    unfold dep at hdep
    have hc0 : c0 ≤ 2007 := by
      by_cases q : c0 ≤ 2007
      · exact q
      · rw [if_neg (by omega), if_neg (by omega), if_neg (by omega), if_neg (by omega)] at hdep
        cases hdep
    unfold evS at hev
    have next : ∀ (st2 : List Int32) (p : Nat) (v : Int32), stk (fun j => if j = p then v else h.2.1 (ru + 3) j) st2 → st2.length ≤ i + 1 → dep L1 st2.length = some d → evS ask L1 st2 = E → gd (lp (fun _ _ _ => none) (f_X7_price_B51 N ru k) n (n32 st2.length) (n32 (i + 1)) (setI h (ru + 3) p v)) Q := fun st2 p v s2 l2 dp2 ev2 => by
      refine ih (i + 1) n st2 _ d3 (by omega) (by have : L1.length + 1 < n + 1 := hf; omega) (c.sm ⟨rfl, rfl⟩) (by rw [sI_ne (by omega)]; exact e5) (fun j hj => by rw [sI_ne (by omega)]; exact e1 j hj) (fun j hj => by rw [sI_ne (by omega)]; exact e4 j hj) (fun j hj => ?_) l2 dp2 ev2 (f.sI (by rw [reg_c (by omega)]; simp))
      have e2 : (if j = p then v else h.2.1 (ru + 3) j) = st2.getD (st2.length - 1 - j) 0 := s2 j hj
      rw [← e2, sI_i]
      by_cases q : j = p
      · rw [if_pos ⟨rfl, q⟩, if_pos q]
      · rw [if_neg (fun z => q z.2), if_neg q]
    have ni : ¬ Lw.length ≤ i := by omega
    by_cases h1 : c0 < 1006
    · rw [if_pos h1] at hdep
      have n2 : ¬ 2000 ≤ c0 := by omega
      have n3 : ¬ 40 ≤ st.length := by omega
      by_cases h2 : c0 < 1000
      · rw [if_pos h2] at hev
        have n4 : ¬ 1000 ≤ c0 := by omega
        have goal := next (n32 c0 :: st) st.length (n32 c0) (stk_push s (if_pos rfl) (fun j hj => if_neg (by omega))) (by show st.length + 1 ≤ i + 1; omega) hdep hev
        have goal' : gd (lp (fun _ _ _ => none) (f_X7_price_B51 N ru k) n (n32 (st.length + 1)) (n32 (i + 1)) (setI h (ru + 3) st.length (n32 c0))) Q := goal
        simp -implicitDefEqProofs (disch := omega) only [lp_s, f_X7_price_B51, n32_nat, n32_le, n32_lt, n32_eq, n32_add, n32_sub, n32_dec, n32_mul, n32_div, n32_irm, n32_lit, n32_oN, n32_ix, n32_m1, n32_m2, neg_le0, neg_lt0, neg_lt1, neg_le1, n32_min, n32_max, e5, gP_p, g1, g3, g4, g6, g8, g9, bnd_s, jn_s, ltt_s, ec, ni, n2, n3, n4, if_false]
        exact goal'
      · rw [if_neg h2, if_pos (by omega)] at hev
        have n4 : 1000 ≤ c0 := by omega
        have e4' := e4 (c0 - 1000) (by omega)
        have goal := next (ask (c0 - 1000) :: st) st.length _ (stk_push s (if_pos rfl) (fun j hj => if_neg (by omega))) (by show st.length + 1 ≤ i + 1; omega) hdep hev
        have goal' : gd (lp (fun _ _ _ => none) (f_X7_price_B51 N ru k) n (n32 (st.length + 1)) (n32 (i + 1)) (setI h (ru + 3) st.length (ask (c0 - 1000)))) Q := goal
        simp -implicitDefEqProofs (disch := omega) only [lp_s, f_X7_price_B51, n32_nat, n32_le, n32_lt, n32_eq, n32_add, n32_sub, n32_dec, n32_mul, n32_div, n32_irm, n32_lit, n32_oN, n32_ix, n32_m1, n32_m2, neg_le0, neg_lt0, neg_lt1, neg_le1, n32_min, n32_max, e5, gP_p, g1, g3, g4, g6, g8, g9, bnd_s, jn_s, ltt_s, ec, ni, n2, n3, n4, if_false, if_true, e4']
        exact goal'
    · rw [if_neg h1] at hdep
      by_cases h2 : c0 < 2000
      · rw [if_pos h2] at hdep; cases hdep
      · rw [if_neg h2] at hdep
        rw [if_neg (by omega), if_neg h2] at hev
        have n2 : 2000 ≤ c0 := by omega
        by_cases h3 : c0 < 2007
        · rw [if_pos h3] at hdep
          have n4 : ¬ c0 = 2007 := by omega
          match st, s, hi, hdep, hev, next with
          | [], s, hi, hdep, hev, next => rw [if_neg (by show ¬ 2 ≤ 0; omega)] at hdep; cases hdep
          | [a], s, hi, hdep, hev, next => rw [if_neg (by show ¬ 2 ≤ 1; omega)] at hdep; cases hdep
          | a :: a' :: t, s, hi, hdep, hev, next =>
            rw [if_pos (by show 2 ≤ t.length + 1 + 1; omega)] at hdep
            have hev2 : evS ask L1 (wk (c0 - 2000) a' a :: t) = E := by
              have : (if c0 = 2007 then evS ask L1 (-a :: a' :: t) else evS ask L1 (wk (c0 - 2000) a' a :: t)) = E := hev
              rw [if_neg (by omega)] at this
              exact this
            have v1 : h.2.1 (ru + 3) (t.length + 1) = a := stk_top s
            have v2 : h.2.1 (ru + 3) t.length = a' := stk_top (stk_tail s)
            have hi' : t.length + 1 + 1 ≤ i := hi
            have goal := next (wk (c0 - 2000) a' a :: t) t.length _ (stk_push (stk_tail (stk_tail s)) (if_pos rfl) (fun j hj => if_neg (by omega))) (by show t.length + 1 ≤ i + 1; omega) hdep hev2
            have goal' : gd (lp (fun _ _ _ => none) (f_X7_price_B51 N ru k) n (n32 (t.length + 1)) (n32 (i + 1)) (setI h (ru + 3) t.length (wk (c0 - 2000) a' a))) Q := goal
            have n5 : ¬ t.length + 2 < 2 := by omega
            have p1 : t.length + 2 - 1 = t.length + 1 := by omega
            have p2 : t.length + 1 - 1 = t.length := by omega
            have jn' := joined_y (a := a') (b := a) n2 h3
            show gd (lp (fun _ _ _ => none) (f_X7_price_B51 N ru k) (n + 1) (n32 (t.length + 2)) (n32 i) h) Q
            simp -implicitDefEqProofs (disch := omega) only [lp_s, f_X7_price_B51, n32_nat, n32_le, n32_lt, n32_eq, n32_add, n32_sub, n32_dec, n32_mul, n32_div, n32_irm, n32_lit, n32_oN, n32_ix, n32_m1, n32_m2, neg_le0, neg_lt0, neg_lt1, neg_le1, n32_min, n32_max, e5, gP_p, g1, g3, g4, g6, g8, g9, bnd_s, jn_s, ltt_s, ec, ni, n2, n4, n5, if_false, if_true, p1, p2, v1, v2, jn']
            exact goal'
        · rw [if_neg h3] at hdep
          have h4 : c0 = 2007 := by omega
          subst h4
          match st, s, hi, hdep, hev, next with
          | [], s, hi, hdep, hev, next => rw [if_pos rfl, if_neg (by show ¬ 1 ≤ 0; omega)] at hdep; cases hdep
          | a :: t, s, hi, hdep, hev, next =>
            rw [if_pos rfl, if_pos (by show 1 ≤ t.length + 1; omega)] at hdep
            have hev2 : evS ask L1 (-a :: t) = E := by
              cases t with
              | nil => exact hev
              | cons a' t' => exact hev
            have v1 : h.2.1 (ru + 3) t.length = a := stk_top s
            have hi' : t.length + 1 ≤ i := hi
            have goal := next (-a :: t) t.length _ (stk_push (stk_tail s) (if_pos rfl) (fun j hj => if_neg (by omega))) (by show t.length + 1 ≤ i + 1; omega) hdep hev2
            have goal' : gd (lp (fun _ _ _ => none) (f_X7_price_B51 N ru k) n (n32 (t.length + 1)) (n32 (i + 1)) (setI h (ru + 3) t.length (-a))) Q := goal
            have n5 : ¬ t.length + 1 < 1 := by omega
            have p2 : t.length + 1 - 1 = t.length := by omega
            show gd (lp (fun _ _ _ => none) (f_X7_price_B51 N ru k) (n + 1) (n32 (t.length + 1)) (n32 i) h) Q
            simp -implicitDefEqProofs (disch := omega) only [lp_s, f_X7_price_B51, n32_nat, n32_le, n32_lt, n32_eq, n32_add, n32_sub, n32_dec, n32_mul, n32_div, n32_irm, n32_lit, n32_oN, n32_ix, n32_m1, n32_m2, neg_le0, neg_lt0, neg_lt1, neg_le1, n32_min, n32_max, e5, gP_p, g1, g3, g4, g6, g8, g9, bnd_s, jn_s, ltt_s, ec, ni, n5, if_false, if_true, p2, v1, Nat.reduceLeDiff]
            exact goal'
