/-! ===== sheet ===== -/
def clp (x : Int32) : Nat := (max 1 (min 99 x.toInt)).toNat
theorem clp_b (x : Int32) : 1 ≤ clp x ∧ clp x ≤ 99 := by unfold clp; omega
theorem min_p (x : Int32) : f_J9_min_7cf53 (n32 99) x = some (if x.toInt < 99 then x else n32 99) := by
  unfold f_J9_min_7cf53
  simp only [Int32.lt_iff_toInt_lt, n32_int (show 99 < 2147483648 by omega)]
  by_cases q : x.toInt < 99
  · rw [if_pos q, if_pos (show x.toInt < ((99 : Nat) : Int) from q)]
  · rw [if_neg q, if_neg (show ¬ x.toInt < ((99 : Nat) : Int) from q)]
theorem max_p (x : Int32) : f_J9_max_7cf53 (n32 1) (if x.toInt < 99 then x else n32 99) = some (n32 (clp x)) := by
  unfold f_J9_max_7cf53 clp
  by_cases q : x.toInt < 99
  · rw [if_pos q]
    simp only [Int32.lt_iff_toInt_lt, n32_int (show 1 < 2147483648 by omega)]
    by_cases q2 : ((1 : Nat) : Int) < x.toInt
    · rw [if_pos q2]
      congr 1
      exact n32_toInt (by omega)
    · rw [if_neg q2]
      congr 2
      omega
  · rw [if_neg q]
    simp (disch := omega) only [n32_nat, n32_le, n32_lt, n32_eq, n32_add, n32_sub, n32_dec, n32_mul, n32_div, n32_irm, n32_lit, n32_oN, n32_ix, n32_m1, n32_m2, neg_le0, neg_lt0, neg_lt1, neg_le1, n32_min, n32_max]
    rw [if_pos (by omega)]
    congr 2
    omega
theorem put_p (x : Int32) : f_X9_put x (n32 1) (n32 99) = some (n32 (clp x)) := by
  unfold f_X9_put
  rw [min_p, bnd_s, max_p, bnd_s]
def asK (k e : Int32) : Int32 := if k = 0 then i2b e else if k = 1 then i2s e else e
theorem asK_e (k e : Int32) : f_X9_asKind k e = some (asK k e) := by
  unfold f_X9_asKind asK
  by_cases q : k = 0
  · rw [if_pos q, if_pos q]
  · rw [if_neg q, if_neg q]
    by_cases q2 : k = 1
    · rw [if_pos q2, if_pos q2]
    · rw [if_neg q2, if_neg q2]
abbrev SFt : Type := Int32 × (Nat → Nat)
def sv (k : Int32) (n i : Nat) (e : Int32) : Nat := if i < n then clp (asK k e) else 1
theorem sv_b {k : Int32} {n i : Nat} {e : Int32} : 1 ≤ sv k n i e ∧ sv k n i e ≤ 99 := by
  unfold sv
  split
  · exact clp_b _
  · omega
def sF (k st : Int32) (n : Nat) : Nat → Nat → Int32 → Int32 → (Nat → Nat) → SFt
  | 0, _, _, a, g => (a, g)
  | d + 1, i, e, a, g => sF k st n d (i + 1) (e + st) (a + n32 (sv k n i e)) (up g i (sv k n i e))
theorem sF_b {k st : Int32} {n : Nat} : ∀ d i e a g, (∀ m, m < i → 1 ≤ g m ∧ g m ≤ 99) → GB (i + d) (sF k st n d i e a g).2 := by
  intro d
  induction d with
  | zero => intro i e a g h m hm; exact h m hm
  | succ d ih =>
    intro i e a g h
    have := ih (i + 1) (e + st) (a + n32 (sv k n i e)) (up g i (sv k n i e)) (fun m hm => by
      by_cases q : m = i
      · rw [q, up_eq]; exact sv_b
      · rw [up_ne q]; exact h m (by omega))
    rw [show i + 1 + d = i + (d + 1) by omega] at this
    exact this
theorem fil_x {k st : Int32} {n sz : Nat} {b c : Bool} (hz : sz ≤ 6) (hn : n ≤ 6) (h0 : HP) : ∀ (d i fuel : Nat) (e a : Int32) (g : Nat → Nat) (h : HP), i + d = sz → d < fuel → SH b c h → h.2.1 5 2 = n32 sz → (∀ m, m < i → h.2.1 155 m = n32 (g m)) → fr [8] h0 h → gd (lp (fun _ _ _ _ => none) (f_X9_fillGoods_B9 200 0 k (n32 n) st) fuel a e (n32 i) h) (fun p => p.1 = (sF k st n d i e a g).1 ∧ GX p.2 sz (sF k st n d i e a g).2 ∧ fr [8] h0 p.2) := by
  intro d
  induction d with
  | zero =>
    intro i fuel e a g h hi hf s z gx f
    obtain ⟨k', rfl⟩ : ∃ k, fuel = k + 1 := ⟨fuel - 1, by omega⟩
    have ei : i = sz := by omega
    subst ei
    rw [lp_s, f_X9_fillGoods_B9]
    simp -implicitDefEqProofs (disch := omega) only [gP_p, gP_t, bnd_s, bnd2_s, ltt_s, jn_s, n32_nat, n32_le, n32_lt, n32_eq, n32_add, n32_sub, n32_dec, n32_mul, n32_div, n32_irm, n32_lit, n32_oN, n32_ix, n32_m1, n32_m2, neg_le0, neg_lt0, neg_lt1, neg_le1, n32_min, n32_max, if_true, if_false, Nat.one_ne_zero, gd_some, true_or, or_true, false_or, or_false, s.root, z, Nat.le_refl]
    exact ⟨rfl, gx, f⟩
  | succ d ih =>
    intro i fuel e a g h hi hf s z gx f
    obtain ⟨k', rfl⟩ : ∃ k, fuel = k + 1 := ⟨fuel - 1, by omega⟩
    have ei : ¬ sz ≤ i := by omega
    have sb := sv_b (k := k) (n := n) (i := i) (e := e)
    have f1 : fr [8] h (setI h 155 i (n32 (sv k n i e))) := (fr.rf _ _).sI rfl
    have nx := ih (i + 1) k' (e + st) (a + n32 (sv k n i e)) (up g i (sv k n i e)) (setI h 155 i (n32 (sv k n i e))) (by omega) (by omega) (s.fr f1) (by rw [sI_ne (by omega)]; exact z) (fun m hm => by
      by_cases q : m = i
      · rw [q, sI_eq, up_eq]
      · rw [sI_ne (by omega), up_ne q]; exact gx m (by omega)) (f.tr f1)
    rw [lp_s, f_X9_fillGoods_B9]
    by_cases q : n ≤ i
    · have es : sv k n i e = 1 := if_neg (by omega)
      rw [es] at nx
      simp -implicitDefEqProofs (disch := omega) only [gP_p, gP_t, bnd_s, bnd2_s, n32_nat, n32_le, n32_lt, n32_eq, n32_add, n32_sub, n32_dec, n32_mul, n32_div, n32_irm, n32_lit, n32_oN, n32_ix, n32_m1, n32_m2, neg_le0, neg_lt0, neg_lt1, neg_le1, n32_min, n32_max, if_true, if_false, Nat.one_ne_zero, true_or, or_true, false_or, or_false, s.root, z, ei, q]
      simp -implicitDefEqProofs (disch := omega) only [gP_p, gP_t, bnd_s, bnd2_s, ltt_s, jn_s, n32_nat, n32_le, n32_lt, n32_eq, n32_add, n32_sub, n32_dec, n32_mul, n32_div, n32_irm, n32_lit, n32_oN, n32_ix, n32_m1, n32_m2, neg_le0, neg_lt0, neg_lt1, neg_le1, n32_min, n32_max, if_true, if_false, Nat.one_ne_zero, gd_some, true_or, or_true, false_or, or_false, s.root, sI_eq, sI_ne, sI_J, sI_R, sI_kO, sI_rK, sI_len, sJ_eq, sJ_ne, sJ_I, sJ_kO, sJ_rK, sJ_len]
      have st' : sF k st n (d + 1) i e a g = sF k st n d (i + 1) (e + st) (a + n32 1) (up g i 1) := by
        show sF k st n d (i + 1) (e + st) (a + n32 (sv k n i e)) (up g i (sv k n i e)) = _
        rw [es]
      rw [st']
      exact nx
    · have es : sv k n i e = clp (asK k e) := if_pos (by omega)
      rw [es] at nx
      simp -implicitDefEqProofs (disch := omega) only [gP_p, gP_t, bnd_s, bnd2_s, n32_nat, n32_le, n32_lt, n32_eq, n32_add, n32_sub, n32_dec, n32_mul, n32_div, n32_irm, n32_lit, n32_oN, n32_ix, n32_m1, n32_m2, neg_le0, neg_lt0, neg_lt1, neg_le1, n32_min, n32_max, if_true, if_false, Nat.one_ne_zero, true_or, or_true, false_or, or_false, s.root, z, ei, q, asK_e, put_p]
      simp -implicitDefEqProofs (disch := omega) only [gP_p, gP_t, bnd_s, bnd2_s, ltt_s, jn_s, n32_nat, n32_le, n32_lt, n32_eq, n32_add, n32_sub, n32_dec, n32_mul, n32_div, n32_irm, n32_lit, n32_oN, n32_ix, n32_m1, n32_m2, neg_le0, neg_lt0, neg_lt1, neg_le1, n32_min, n32_max, if_true, if_false, Nat.one_ne_zero, gd_some, true_or, or_true, false_or, or_false, s.root, sI_eq, sI_ne, sI_J, sI_R, sI_kO, sI_rK, sI_len, sJ_eq, sJ_ne, sJ_I, sJ_kO, sJ_rK, sJ_len]
      have st' : sF k st n (d + 1) i e a g = sF k st n d (i + 1) (e + st) (a + n32 (clp (asK k e))) (up g i (clp (asK k e))) := by
        show sF k st n d (i + 1) (e + st) (a + n32 (sv k n i e)) (up g i (sv k n i e)) = _
        rw [es]
      rw [st']
      exact nx
theorem b46_e {k st x2 a e : Int32} {i : Nat} {h : HP} {K : Int32 → HP → Option (Int32 × HP)} {rc : Int32 → Int32 → Int32 → HP → Option (Int32 × HP)} : f_X10_sheet_B46 200 188 k x2 st K rc a e (n32 i) h = (if (h.2.1 188 3) ≤ n32 i then K a h else bnd (rK h 188 8 102) (fun t13 => jn (fun (y19 : Int32) => gP (ixd (n32 i) (lenH h t13) = true) (lt_ (setI h t13 (n32 i).toNatClampNeg y19) (fun h21 => bnd (rK h21 188 8 102) (fun t24 => gP (ixd (n32 i) (lenH h21 t24) = true) (lt_ ((a + (h21.2.1 t24 (n32 i).toNatClampNeg))) (fun v30 => lt_ ((e + st)) (fun v32 => lt_ (n32 i + 1) (fun v34 => rc v30 v32 v34 h21)))))))) (fun k18 => jn (k18 1) (fun k36 => (if k = 3 then k36 else (if n32 i < x2 then bnd (f_J9_min_7cf53 99 (asK k e)) (fun v39 => bnd (f_J9_max_7cf53 1 v39) (fun v42 => k18 v42)) else k36)))))) := by
  unfold f_X10_sheet_B46 asK
  by_cases q : k = 0
  · simp only [q, if_true, jn]
  · by_cases q2 : k = 1
    · simp only [q2, show ¬ (1 : Int32) = 0 by decide, if_true, if_false, jn]
    · simp only [q, q2, if_false, jn]
theorem fil_m {k st x2 : Int32} {n sz : Nat} {b c : Bool} {K : Int32 → HP → Option (Int32 × HP)} {Q : Int32 × HP → Prop} (hz : sz ≤ 6) (hc : ∀ i, i < 6 → ((¬ k = 3 ∧ n32 i < x2) ↔ i < n)) (h0 : HP) (R : SFt) (KK : ∀ h', SH b c h' → GM h' sz R.2 → fr [29] h0 h' → gd (K R.1 h') Q) : ∀ (d i fuel : Nat) (e a : Int32) (g : Nat → Nat) (h : HP), i + d = sz → d < fuel → SH b c h → h.2.1 188 3 = n32 sz → (∀ m, m < i → h.2.1 192 m = n32 (g m)) → fr [29] h0 h → sF k st n d i e a g = R → gd (lp (fun _ _ _ _ => none) (f_X10_sheet_B46 200 188 k x2 st K) fuel a e (n32 i) h) Q := by
  intro d
  induction d with
  | zero =>
    intro i fuel e a g h hi hf s z gm f hR
    obtain ⟨k', rfl⟩ : ∃ k, fuel = k + 1 := ⟨fuel - 1, by omega⟩
    have ei : i = sz := by omega
    subst ei
    have hR' : (a, g) = R := hR
    subst hR'
    rw [lp_s, b46_e, z, if_pos (Int32.le_refl _)]
    exact KK h s gm f
  | succ d ih =>
    intro i fuel e a g h hi hf s z gm f hR
    obtain ⟨k', rfl⟩ : ∃ k, fuel = k + 1 := ⟨fuel - 1, by omega⟩
    have ei : ¬ sz ≤ i := by omega
    have sb := sv_b (k := k) (n := n) (i := i) (e := e)
    have f1 : fr [29] h (setI h 192 i (n32 (sv k n i e))) := (fr.rf _ _).sI rfl
    have nx := ih (i + 1) k' (e + st) (a + n32 (sv k n i e)) (up g i (sv k n i e)) (setI h 192 i (n32 (sv k n i e))) (by omega) (by omega) (s.fr f1) (by rw [sI_ne (by omega)]; exact z) (fun m hm => by
      by_cases q : m = i
      · rw [q, sI_eq, up_eq]
      · rw [sI_ne (by omega), up_ne q]; exact gm m (by omega)) (f.tr f1) hR
    have hci := hc i (by omega)
    have tail : ∀ y, y = n32 (sv k n i e) → gd (gP (ixd (n32 i) (lenH h 192) = true) (lt_ (setI h 192 (n32 i).toNatClampNeg y) (fun h21 => bnd (rK h21 188 8 102) (fun t24 => gP (ixd (n32 i) (lenH h21 t24) = true) (lt_ ((a + (h21.2.1 t24 (n32 i).toNatClampNeg))) (fun v30 => lt_ ((e + st)) (fun v32 => lt_ (n32 i + 1) (fun v34 => lp (fun _ _ _ _ => none) (f_X10_sheet_B46 200 188 k x2 st K) k' v30 v32 v34 h21)))))))) Q := by
      intro y hy
      rw [hy]
      simp -implicitDefEqProofs (disch := omega) only [gP_p, gP_t, bnd_s, bnd2_s, ltt_s, jn_s, n32_nat, n32_le, n32_lt, n32_eq, n32_add, n32_sub, n32_dec, n32_mul, n32_div, n32_irm, n32_lit, n32_oN, n32_ix, n32_m1, n32_m2, neg_le0, neg_lt0, neg_lt1, neg_le1, n32_min, n32_max, if_true, if_false, Nat.one_ne_zero, gd_some, true_or, or_true, false_or, or_false, s.mod, sI_eq, sI_ne, sI_J, sI_R, sI_kO, sI_rK, sI_len, sJ_eq, sJ_ne, sJ_I, sJ_kO, sJ_rK, sJ_len]
      exact nx
    rw [lp_s, b46_e, z, if_neg (by rw [n32_le (by omega) (by omega)]; exact ei), show rK h 188 8 102 = some 192 from by simp only [s.mod], bnd_s, jn_s, jn_s]
    by_cases q3 : k = 3
    · have es : sv k n i e = 1 := if_neg (fun w => (hci.mpr w).1 q3)
      rw [if_pos q3]
      exact tail _ (by rw [es]; rfl)
    · rw [if_neg q3]
      by_cases q : n32 i < x2
      · have es : sv k n i e = clp (asK k e) := if_pos (hci.mp ⟨q3, q⟩)
        have m1 : f_J9_min_7cf53 99 (asK k e) = _ := min_p (asK k e)
        have m2 : f_J9_max_7cf53 1 (if (asK k e).toInt < 99 then asK k e else n32 99) = _ := max_p (asK k e)
        rw [if_pos q, m1, bnd_s, m2, bnd_s]
        exact tail _ (by rw [es])
      · have es : sv k n i e = 1 := if_neg (fun w => q (hci.mpr w).2)
        rw [if_neg q]
        exact tail _ (by rw [es]; rfl)
theorem Iv.go {B : Nat} {b c : Bool} {sz : Nat} {h h' : HP} (s : Iv B b c sz h) (f : fr [8, 29, 50] h h') (go : Goo sz h') : Iv B b c sz h' := by
  obtain ⟨a0, a1, a2, a3, a4, a5, a6, a7, a8, a9, a10⟩ := s
  exact ⟨a0.fr f, a1.fr f (by decide), a2.fr f (by decide), a3.fr f (by decide), a4.fr f (by decide), go, a6.fr f (by cases b <;> decide), a7.fr f (by cases c <;> decide), a8.fr f (by decide), a9.fr f (by decide), a10.fr f (by decide)⟩
theorem op_sheet {k : Nat} (hk : k < 512) : ∀ (h : HP) (a1 a2 a3 a4 : Int32), Inv k h → ∃ (v : Int32) (h1 h2 : HP), f_X9_sheet 200 h 0 a1 a2 a3 a4 = some (v, h1) ∧ f_X10_sheet 200 h1 188 a1 a2 a3 a4 = some (v, h2) ∧ Inv (k + 1) h2 := by
  intro h x1 x2 x3 x4 I
  have both : ∀ n, n ≤ 6 → (∀ i, i < 6 → ((¬ x1 = 3 ∧ n32 i < x2) ↔ i < n)) → ∃ (v : Int32) (h1 h2 : HP), f_X9_fillGoods 200 h 0 x1 (n32 n) x3 x4 = some (v, h1) ∧ lp (fun _ _ _ _ => none) (f_X10_sheet_B46 200 188 x1 x2 x4 (fun (x47 : Int32) (h48 : HP) => (if x1 = 3 then some ((-3), h48) else some (x47, h48)))) 200 0 x3 0 (setI h1 188 0 (n32 0)) = some (if x1 = 3 then -3 else v, h2) ∧ kO h1 188 10 = true ∧ Inv (k + 1) h2 := by
    intro n hn hc
    obtain ⟨b, c, sz, iv⟩ := I
    obtain ⟨a0, a1, a2, a3, a4, a5, a6, a7, a8, a9, a10⟩ := id iv
    obtain ⟨z1, z2, z3⟩ := a1
    obtain ⟨⟨v, h1⟩, e1, e2, e3, e4⟩ := fil_x (k := x1) (st := x4) (n := n) z1 hn h sz 0 200 x3 (n32 0) (fun _ => 1) h (by omega) (by omega) a0 z2 (fun m hm => absurd hm (Nat.not_lt_zero m)) (fr.rf _ _)
    have e4' : fr [8] h h1 := e4
    have f0 : fr [50] h1 (setI h1 188 0 (n32 0)) := (fr.rf _ _).sI rfl
    have fA : fr [8, 29, 50] h (setI h1 188 0 (n32 0)) := (e4'.mono (by decide)).tr (f0.mono (by decide))
    obtain ⟨⟨v2, h2⟩, t1, t2, t3, t4⟩ := fil_m (k := x1) (st := x4) (x2 := x2) (n := n) (K := fun (x47 : Int32) (h48 : HP) => (if x1 = 3 then some ((-3), h48) else some (x47, h48))) (Q := fun p => p.1 = (if x1 = 3 then -3 else v) ∧ GM p.2 sz (sF x1 x4 n sz 0 x3 (n32 0) (fun _ => 1)).2 ∧ fr [29] (setI h1 188 0 (n32 0)) p.2) z1 hc (setI h1 188 0 (n32 0)) _ (fun h' s' gm' f' => by
      have ev : v = (sF x1 x4 n sz 0 x3 (n32 0) (fun _ => 1)).1 := e2
      rw [← ev]
      by_cases q : x1 = 3
      · rw [if_pos q, if_pos q]
        exact gd_some.mpr ⟨rfl, gm', f'⟩
      · rw [if_neg q, if_neg q]
        exact gd_some.mpr ⟨rfl, gm', f'⟩) sz 0 200 x3 (n32 0) (fun _ => 1) (setI h1 188 0 (n32 0)) (by omega) (by omega) (a0.fr fA) (by rw [fA.ai [23] (by decide) 188 3 rfl]; exact z3) (fun m hm => absurd hm (Nat.not_lt_zero m)) (fr.rf _ _) rfl
    have t2' : v2 = (if x1 = 3 then -3 else v) := t2
    have t4' : fr [29] (setI h1 188 0 (n32 0)) h2 := t4
    have fB : fr [29, 50] h1 h2 := (f0.mono (by decide)).tr (t4'.mono (by decide))
    have gb := sF_b (k := x1) (st := x4) (n := n) sz 0 x3 (n32 0) (fun _ => 1) (fun m hm => absurd hm (Nat.not_lt_zero m))
    rw [Nat.zero_add] at gb
    have e3' : GX h1 sz (sF x1 x4 n sz 0 x3 (n32 0) (fun _ => 1)).2 := e3
    refine ⟨v, h1, h2, ?_, ?_, by simp only [(a0.fr e4').mod], Iv.up (iv.go (fA.tr (t4'.mono (by decide))) ⟨_, fun m hm => by rw [fB.ai [8] (by decide) 155 m rfl]; exact e3' m hm, t3, gb⟩)⟩
    · unfold f_X9_fillGoods
      rw [gP_p (by simp only [a0.root])]
      exact e1
    · rw [← t2']
      exact t1
  have no : ∀ v, (∀ b c, SH b c h → f_X9_sheet 200 h 0 x1 x2 x3 x4 = some (v, h)) → (∀ b c, SH b c h → f_X10_sheet 200 h 188 x1 x2 x3 x4 = some (v, setI h 188 0 (n32 0))) → ∃ (v : Int32) (h1 h2 : HP), f_X9_sheet 200 h 0 x1 x2 x3 x4 = some (v, h1) ∧ f_X10_sheet 200 h1 188 x1 x2 x3 x4 = some (v, h2) ∧ Inv (k + 1) h2 := fun v X M => n_op (v := v) (fX := fun h => f_X9_sheet 200 h 0 x1 x2 x3 x4) (fM := fun h => f_X10_sheet 200 h 188 x1 x2 x3 x4) I X M
  have r0 : ∀ h b c, SH b c h → kO h 0 9 = true := fun h b c s => by simp only [s.root]
  have m0 : ∀ h b c, SH b c h → kO h 188 10 = true := fun h b c s => by simp only [s.mod]
  by_cases q1 : 0 ≤ x1.toInt ∧ x1.toInt ≤ 3
  · have w1 : f_X9_within x1 0 3 = some (n32 1) := within_y q1
    have i1 : f_X10_in x1.toInt64 0 3 = some (n32 1) := in_y rfl rfl q1
    by_cases q2 : x2 ≤ 6
    · by_cases q3 : x1 = 3
      · obtain ⟨v, h1, h2, y1, y2, km, y3⟩ := both 0 (by omega) (fun i hi => ⟨fun z => absurd q3 z.1, fun z => absurd z (Nat.not_lt_zero i)⟩)
        have I2 := I
        obtain ⟨b, c, sz, iv⟩ := I2
        rw [if_pos q3] at y2
        refine ⟨-3, h1, h2, ?_, ?_, y3⟩
        · unfold f_X9_sheet
          have y1' : f_X9_fillGoods 200 h 0 x1 0 x3 x4 = some (v, h1) := y1
          rw [gP_p (r0 h b c iv.1), w1, bnd_s, if_neg (by decide), if_pos q2, if_pos q3, y1', bnd2_s]
        · unfold f_X10_sheet
          rw [gP_p km, ltt_s, i1, bnd_s, if_neg (by decide), if_pos q2, jn_s, if_pos q3]
          exact y2
      · by_cases q4 : 0 ≤ x2
        · have q2' : x2.toInt ≤ 6 := Int32.le_iff_toInt_le.mp q2
          have q4' : 0 ≤ x2.toInt := Int32.le_iff_toInt_le.mp q4
          obtain ⟨n, -, hn, rfl⟩ := n32_of2 (lo := 0) (hi := 6) q4' q2'
          obtain ⟨v, h1, h2, y1, y2, km, y3⟩ := both n hn (fun i hi => ⟨fun z => by have := z.2; rw [n32_lt (by omega) (by omega)] at this; exact this, fun z => ⟨q3, by rw [n32_lt (by omega) (by omega)]; exact z⟩⟩)
          have I2 := I
          obtain ⟨b, c, sz, iv⟩ := I2
          rw [if_neg q3] at y2
          refine ⟨v, h1, h2, ?_, ?_, y3⟩
          · unfold f_X9_sheet
            rw [gP_p (r0 h b c iv.1), w1, bnd_s, if_neg (by decide), if_pos q2, if_neg q3, if_pos q4, y1, bnd2_s]
          · unfold f_X10_sheet
            rw [gP_p km, ltt_s, i1, bnd_s, if_neg (by decide), if_pos q2, jn_s, if_neg q3, if_pos q4]
            exact y2
        · refine no (-2) (fun b c s => ?_) (fun b c s => ?_)
          · unfold f_X9_sheet
            rw [gP_p (r0 h b c s), w1, bnd_s, if_neg (by decide), if_pos q2, if_neg q3, if_neg q4]
          · unfold f_X10_sheet
            rw [gP_p (m0 h b c s), ltt_s, i1, bnd_s, if_neg (by decide), if_pos q2, jn_s, if_neg q3, if_neg q4]
            rfl
    · refine no (-1) (fun b c s => ?_) (fun b c s => ?_)
      · unfold f_X9_sheet
        rw [gP_p (r0 h b c s), w1, bnd_s, if_neg (by decide), if_neg q2]
      · unfold f_X10_sheet
        rw [gP_p (m0 h b c s), ltt_s, i1, bnd_s, if_neg (by decide), if_neg q2]
        rfl
  · have w1 : f_X9_within x1 0 3 = some (n32 0) := within_n q1
    have i1 : f_X10_in x1.toInt64 0 3 = some (n32 0) := in_n rfl rfl q1
    refine no (-1) (fun b c s => ?_) (fun b c s => ?_)
    · unfold f_X9_sheet
      rw [gP_p (r0 h b c s), w1, bnd_s, if_pos (by decide)]
    · unfold f_X10_sheet
      rw [gP_p (m0 h b c s), ltt_s, i1, bnd_s, if_pos (by decide)]
      rfl
