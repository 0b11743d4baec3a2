/-! ===== law ===== -/
def sL (L : List Nat) (g r : Nat → Nat) : Nat → Nat → Nat → Nat
  | 0, _, a => a
  | d + 1, m, a => sL L g r d (m + 1) (a + prc L g r m)
theorem law_l {t r g : Nat → Nat} {n sz B : Nat} {b c : Bool} {L L2 : List Nat} {k : Int32 → Int32 → HP → Option (Int32 × HP)} {Q : Int32 × HP → Prop} (hz : sz ≤ 6) (w : WR L) (w2 : WR L2) (rb : RBm B r) (hB : B < 2147483648) (h0 : HP) (A C : Nat) (K : ∀ h', SH b c h' → TxX h' t n → fr [17, 19] h0 h' → gd (k (n32 A) (n32 C) h') Q) : ∀ (d m fuel a e : Nat) (h : HP), m + d = sz → d < fuel → SH b c h → TxX h t n → h.2.1 5 2 = n32 sz → CR h 5 r → GX h sz g → RuX h (rur c) L → RuX h (rur (!c)) L2 → fr [17, 19] h0 h → sL L2 g r d m a = A → sL L g r d m e = C → gd (lp (fun _ _ _ _ => none) (f_X9_law_B37 100 0 k) fuel (n32 a) (n32 e) (n32 m) h) Q := by
  intro d
  induction d with
  | zero =>
    intro m fuel a e h hm hf s tx z cr gx ru ru2 f hA hC
    obtain ⟨k', rfl⟩ : ∃ k, fuel = k + 1 := ⟨fuel - 1, by omega⟩
    have em : sz ≤ m := by omega
    have hA' : a = A := hA
    have hC' : e = C := hC
    subst hA'
    subst hC'
    rw [lp_s, f_X9_law_B37]
    simp -implicitDefEqProofs (disch := omega) only [gP_p, gP_t, bnd_s, bnd2_s, ltt_s, jn_s, n32_nat, n32_le, n32_lt, n32_eq, n32_add, n32_sub, n32_dec, n32_mul, n32_div, n32_irm, n32_lit, n32_oN, n32_ix, n32_m1, n32_m2, neg_le0, neg_lt0, neg_lt1, neg_le1, n32_min, n32_max, if_true, if_false, Nat.one_ne_zero, gd_some, true_or, or_true, false_or, or_false, s.root, z, em]
    exact K h s tx f
  | succ d ih =>
    intro m fuel a e h hm hf s tx z cr gx ru ru2 f hA hC
    obtain ⟨k', rfl⟩ : ∃ k, fuel = k + 1 := ⟨fuel - 1, by omega⟩
    have em : ¬ sz ≤ m := by omega
    rw [lp_s, f_X9_law_B37]
    simp -implicitDefEqProofs (disch := omega) only [gP_p, gP_t, bnd_s, bnd2_s, n32_nat, n32_le, n32_lt, n32_eq, n32_add, n32_sub, n32_dec, n32_mul, n32_div, n32_irm, n32_lit, n32_oN, n32_ix, n32_m1, n32_m2, neg_le0, neg_lt0, neg_lt1, neg_le1, n32_min, n32_max, if_true, if_false, Nat.one_ne_zero, true_or, or_true, false_or, or_false, s.root, z, em, gd_bnd2]
    refine gd_mono (priceBy_x (N := 100) (q := !c) (by omega) w2 s CL5 z hz (by omega) cr rb hB gx ru2) ?_
    rintro ⟨u, h1⟩ ⟨u1, u2⟩
    have u1' : u = n32 (prc L2 g r m) := u1
    subst u1'
    have u2' : fr [17, 19] h h1 := u2
    have s1 := s.fr u2'
    simp -implicitDefEqProofs (disch := omega) only [ltt_s, gP_p, gP_t, bnd_s, bnd2_s, n32_nat, n32_le, n32_lt, n32_eq, n32_add, n32_sub, n32_dec, n32_mul, n32_div, n32_irm, n32_lit, n32_oN, n32_ix, n32_m1, n32_m2, neg_le0, neg_lt0, neg_lt1, neg_le1, n32_min, n32_max, if_true, if_false, Nat.one_ne_zero, true_or, or_true, false_or, or_false, s1.root, gd_bnd2]
    refine gd_mono (priceOf_x (N := 100) (by omega) w s1 CL5 (by rw [u2'.ai [3] (by decide) 5 2 rfl]; exact z) hz (show m < sz by omega) (cr_frc cr rfl (by omega) rc5 u2' (by decide)) rb hB (fun m hm => by rw [u2'.ai [8] (by decide) 155 m rfl]; exact gx m hm) (ru.fr u2' (by cases c <;> decide))) ?_
    rintro ⟨x, h2⟩ ⟨x1, x2⟩
    have x1' : x = n32 (prc L g r m) := x1
    subst x1'
    have x2' : fr [17, 19] h1 h2 := x2
    have f2 : fr [17, 19] h h2 := u2'.tr x2'
    have nx := ih (m + 1) k' (a + prc L2 g r m) (e + prc L g r m) h2 (by omega) (by omega) (s.fr f2) (tx.fr f2 (by decide)) (by rw [f2.ai [3] (by decide) 5 2 rfl]; exact z) (cr_frc cr rfl (by omega) rc5 f2 (by decide)) (fun m hm => by rw [f2.ai [8] (by decide) 155 m rfl]; exact gx m hm) (ru.fr f2 (by cases c <;> decide)) (ru2.fr f2 (by cases c <;> decide)) (f.tr f2) hA hC
    simp -implicitDefEqProofs (disch := omega) only [ltt_s, n32_nat, n32_le, n32_lt, n32_eq, n32_add, n32_sub, n32_dec, n32_mul, n32_div, n32_irm, n32_lit, n32_oN, n32_ix, n32_m1, n32_m2, neg_le0, neg_lt0, neg_lt1, neg_le1, n32_min, n32_max]
    exact nx
theorem all_l {r g : Nat → Nat} {sz B : Nat} {b c : Bool} {L : List Nat} (hz : sz ≤ 6) (w : WR L) (rb : RBm B r) (hB : B < 2147483648) (gb : GB sz g) (h0 : HP) : ∀ (d m fuel a : Nat) (h : HP), m + d = sz → d < fuel → SH b c h → h.2.1 188 3 = n32 sz → MR h 193 r → GM h sz g → RuM h L → fr [32] h0 h → gd (lp (fun _ _ _ => none) (f_X10_priceAll_B4 100 188) fuel (n32 a) (n32 m) h) (fun x => x.1 = n32 (sL L g r d m a) ∧ fr [32] h0 x.2) := by
  intro d
  induction d with
  | zero =>
    intro m fuel a h hm hf s z mr gm ru f
    obtain ⟨k', rfl⟩ : ∃ k, fuel = k + 1 := ⟨fuel - 1, by omega⟩
    have em : sz ≤ m := by omega
    rw [lp_s, f_X10_priceAll_B4]
    simp -implicitDefEqProofs (disch := omega) only [gP_p, gP_t, bnd_s, bnd2_s, ltt_s, jn_s, n32_nat, n32_le, n32_lt, n32_eq, n32_add, n32_sub, n32_dec, n32_mul, n32_div, n32_irm, n32_lit, n32_oN, n32_ix, n32_m1, n32_m2, neg_le0, neg_lt0, neg_lt1, neg_le1, n32_min, n32_max, if_true, if_false, Nat.one_ne_zero, gd_some, true_or, or_true, false_or, or_false, s.mod, z, em]
    exact ⟨rfl, f⟩
  | succ d ih =>
    intro m fuel a h hm hf s z mr gm ru f
    obtain ⟨k', rfl⟩ : ∃ k, fuel = k + 1 := ⟨fuel - 1, by omega⟩
    have em : ¬ sz ≤ m := by omega
    rw [lp_s, f_X10_priceAll_B4]
    simp -implicitDefEqProofs (disch := omega) only [gP_p, gP_t, bnd_s, bnd2_s, n32_nat, n32_le, n32_lt, n32_eq, n32_add, n32_sub, n32_dec, n32_mul, n32_div, n32_irm, n32_lit, n32_oN, n32_ix, n32_m1, n32_m2, neg_le0, neg_lt0, neg_lt1, neg_le1, n32_min, n32_max, if_true, if_false, Nat.one_ne_zero, true_or, or_true, false_or, or_false, s.mod, z, em, gd_bnd2]
    refine gd_mono (priceOf_m (N := 100) (by omega) (Or.inl rfl) w s ru (show m < sz by omega) hz gm gb mr rb hB) ?_
    rintro ⟨u, h1⟩ ⟨u1, u2⟩
    have u1' : u = n32 (prc L g r m) := u1
    subst u1'
    have u2' : fr [32] h h1 := u2
    have nx := ih (m + 1) k' (a + prc L g r m) h1 (by omega) (by omega) (s.fr u2') (by rw [u2'.ai [23] (by decide) 188 3 rfl]; exact z) (fun j hj => by rw [u2'.ai [30] (by decide) 193 j rfl]; exact mr j hj) (fun m hm => by rw [u2'.ai [29] (by decide) 192 m rfl]; exact gm m hm) (ru.fr u2' (by decide)) (f.tr u2')
    simp -implicitDefEqProofs (disch := omega) only [ltt_s, n32_nat, n32_le, n32_lt, n32_eq, n32_add, n32_sub, n32_dec, n32_mul, n32_div, n32_irm, n32_lit, n32_oN, n32_ix, n32_m1, n32_m2, neg_le0, neg_lt0, neg_lt1, neg_le1, n32_min, n32_max]
    exact nx
theorem all_m {r g : Nat → Nat} {sz B : Nat} {b c : Bool} {L : List Nat} {h : HP} (hz : sz ≤ 6) (w : WR L) (rb : RBm B r) (hB : B < 2147483648) (gb : GB sz g) (s : SH b c h) (z : h.2.1 188 3 = n32 sz) (mr : MR h 193 r) (gm : GM h sz g) (ru : RuM h L) : gd (f_X10_priceAll 100 h 188) (fun x => x.1 = n32 (sL L g r sz 0 0) ∧ fr [32] h x.2) := by
  unfold f_X10_priceAll
  rw [gP_p (by simp only [s.mod])]
  exact all_l hz w rb hB gb h sz 0 100 0 h (by omega) (by omega) s z mr gm ru (fr.rf _ _)
theorem cpy_l {n : Nat} {b c : Bool} {x2 x3 : Int32} {k : HP → Option (Int32 × HP)} {Q : Int32 × HP → Prop} (hn : n ≤ 80) (h0 : HP) (K : ∀ h', SH b c h' → (∀ j, j < n → h'.2.1 215 j = h0.2.1 198 j) → fr [46] h0 h' → gd (k h') Q) : ∀ (d i fuel : Nat) (h : HP), i + d = n → d < fuel → SH b c h → h.2.1 188 21 = n32 n → (∀ j, j < i → h.2.1 215 j = h0.2.1 198 j) → fr [46] h0 h → gd (lp (fun _ _ => none) (f_X10_law_B35 100 188 x2 x3 k) fuel (n32 i) h) Q := by
  intro d
  induction d with
  | zero =>
    intro i fuel h hi hf s z e f
    obtain ⟨k', rfl⟩ : ∃ k, fuel = k + 1 := ⟨fuel - 1, by omega⟩
    have ei : i = n := by omega
    subst ei
    rw [lp_s, f_X10_law_B35, z, if_pos (Int32.le_refl _)]
    exact K h s e f
  | succ d ih =>
    intro i fuel h hi hf s z e f
    obtain ⟨k', rfl⟩ : ∃ k, fuel = k + 1 := ⟨fuel - 1, by omega⟩
    have ei : ¬ n ≤ i := by omega
    have f1 : fr [46] h (setI h 215 i (h.2.1 198 i)) := (fr.rf _ _).sI rfl
    have nx := ih (i + 1) k' (setI h 215 i (h.2.1 198 i)) (by omega) (by omega) (s.fr f1) (by rw [sI_ne (by omega)]; exact z) (fun j hj => by
      by_cases q : j = i
      · rw [q, sI_eq]; exact f.ai [25] (by decide) 198 i rfl
      · rw [sI_ne (by omega)]; exact e j (by omega)) (f.tr f1)
    rw [lp_s, f_X10_law_B35]
    simp -implicitDefEqProofs (disch := omega) only [gP_p, gP_t, bnd_s, bnd2_s, ltt_s, jn_s, n32_nat, n32_le, n32_lt, n32_eq, n32_add, n32_sub, n32_dec, n32_mul, n32_div, n32_irm, n32_lit, n32_oN, n32_ix, n32_m1, n32_m2, neg_le0, neg_lt0, neg_lt1, neg_le1, n32_min, n32_max, if_true, if_false, Nat.one_ne_zero, gd_some, true_or, or_true, false_or, or_false, z, ei, s.mod]
    exact nx
theorem lq_all : (List.range 41).all (fun q => decide ((-n32 1 - n32 q + n32 1) - n32 1000000 = -n32 1000000 - n32 q)) = true := by decide +kernel
theorem lq_v {q : Nat} (h : q ≤ 40) : (-n32 1 - n32 q + n32 1) - n32 1000000 = -n32 1000000 - n32 q := of_decide_eq_true (List.all_eq_true.mp lq_all q (List.mem_range.mpr (by omega)))
theorem lawX {h : HP} {t r g : Nat → Nat} {n sz B : Nat} {b c : Bool} {v : Int32} {L L2 : List Nat} (s : SH b c h) (hz : sz ≤ 6) (z : h.2.1 5 2 = n32 sz) (cr : CR h 5 r) (gx : GX h sz g) (rb : RBm B r) (hB : B < 2147483648) (w : WR L) (ru : RuX h (rur c) L) (rd : gd (f_X7_read 100 h (rur (!c)) 1) (fun x => x.1 = v ∧ (v = -n32 1 → WR L2 ∧ RLx x.2 (rur (!c)) (Lx L2)) ∧ fr [ruq (!c), ruq (!c) + 1] h x.2)) :
    (v = -n32 1 → gd (f_X9_law 100 h 0) (fun p => p.1 = n32 (sL L2 g r sz 0 0) - n32 (sL L g r sz 0 0) ∧ RowX p.2 [(n32 (sL L2 g r sz 0 0)).toInt64, (n32 (sL L g r sz 0 0)).toInt64] ∧ TxX p.2 t 0 ∧ fr [ruq (!c), 17, 19, 1, 2] h p.2)) ∧ (v ≠ -n32 1 → gd (f_X9_law 100 h 0) (fun p => p.1 = -n32 1000000 - v ∧ TxX p.2 t 0 ∧ fr [ruq (!c), 17, 19, 1] h p.2)) := by
  have hc1 := ru_ne (!c)
  refine ⟨fun hv => ?_, fun hv => ?_⟩
  · unfold f_X9_law
    simp -implicitDefEqProofs (disch := omega) only [s.root, gP_p, gP_t, bnd_s, bnd2_s, n32_nat, n32_le, n32_lt, n32_eq, n32_add, n32_sub, n32_dec, n32_mul, n32_div, n32_irm, n32_lit, n32_oN, n32_ix, n32_m1, n32_m2, neg_le0, neg_lt0, neg_lt1, neg_le1, n32_min, n32_max, if_true, if_false, Nat.one_ne_zero, true_or, or_true, false_or, or_false, gd_bnd2]
    refine gd_mono rd ?_
    rintro ⟨u, h1⟩ ⟨e1, e2, e3⟩
    have e1' : u = -n32 1 := (show u = v from e1).trans hv
    subst e1'
    obtain ⟨w2, rl⟩ := e2 hv
    have e3' : fr [ruq (!c), ruq (!c) + 1] h h1 := e3
    have s1 := s.fr e3'
    have f1 : fr [1] h1 (setI h1 1 1 (n32 0)) := (fr.rf _ _).sI rfl
    have s2 := s1.fr f1
    have fA : fr [ruq (!c), 17, 19, 1, 2] h (setI h1 1 1 (n32 0)) := (e3'.mono (by cases c <;> decide)).tr (f1.mono (by cases c <;> decide))
    have rl2 : RuX (setI h1 1 1 (n32 0)) (rur (!c)) L2 := ⟨by rw [sI_ne (by omega)]; exact rl.1, fun i hi => by rw [sI_ne (by omega)]; exact rl.2 i hi⟩
    have t2 : TxX (setI h1 1 1 (n32 0)) t 0 := ⟨sI_eq, fun i hi => absurd hi (Nat.not_lt_zero i)⟩
    have key := law_l (t := t) (n := 0) (b := b) (c := c) (k := fun (x63 : Int32) (x64 : Int32) (h65 : HP) => bnd (rK h65 0 1 6) (fun t67 => bnd (f_X6_tell_ h65 t67 (x63.toInt64) (x64.toInt64)) (fun h72 => some ((x63 - x64), h72)))) (Q := fun p => p.1 = n32 (sL L2 g r sz 0 0) - n32 (sL L g r sz 0 0) ∧ RowX p.2 [(n32 (sL L2 g r sz 0 0)).toInt64, (n32 (sL L g r sz 0 0)).toInt64] ∧ TxX p.2 t 0 ∧ fr [ruq (!c), 17, 19, 1, 2] h p.2) hz w w2 rb hB (setI h1 1 1 (n32 0)) _ _ (fun h3 s3 t3 f3 => by
      rw [show rK h3 0 1 6 = some 3 from by simp only [s3.root], bnd_s, gd_bnd]
      refine gd_mono (tell2_x s3) ?_
      rintro h4 ⟨x1, x2⟩
      exact gd_some.mpr ⟨rfl, x1, t3.fr x2 (by decide), (fA.tr (f3.mono (by cases c <;> decide))).tr (x2.mono (by cases c <;> decide))⟩) sz 0 100 0 0 (setI h1 1 1 (n32 0)) (by omega) (by omega) s2 t2 (by rw [fA.ai [3] (by cases c <;> decide) 5 2 rfl]; exact z) (cr_frc cr rfl (by omega) rc5 fA (by cases c <;> decide)) (fun m hm => by rw [fA.ai [8] (by cases c <;> decide) 155 m rfl]; exact gx m hm) (ru.fr fA (by cases c <;> decide)) rl2 (fr.rf _ _) rfl rfl
    simp -implicitDefEqProofs (disch := omega) only [gP_p, gP_t, bnd_s, bnd2_s, n32_nat, n32_le, n32_lt, n32_eq, n32_add, n32_sub, n32_dec, n32_mul, n32_div, n32_irm, n32_lit, n32_oN, n32_ix, n32_m1, n32_m2, neg_le0, neg_lt0, neg_lt1, neg_le1, n32_min, n32_max, if_true, if_false, Nat.one_ne_zero, true_or, or_true, false_or, or_false, s1.root, clr_x s1]
    exact key
  · unfold f_X9_law
    simp -implicitDefEqProofs (disch := omega) only [s.root, gP_p, gP_t, bnd_s, bnd2_s, n32_nat, n32_le, n32_lt, n32_eq, n32_add, n32_sub, n32_dec, n32_mul, n32_div, n32_irm, n32_lit, n32_oN, n32_ix, n32_m1, n32_m2, neg_le0, neg_lt0, neg_lt1, neg_le1, n32_min, n32_max, if_true, if_false, Nat.one_ne_zero, true_or, or_true, false_or, or_false, gd_bnd2]
    refine gd_mono rd ?_
    rintro ⟨u, h1⟩ ⟨e1, e2, e3⟩
    have e1' : u = v := e1
    subst e1'
    have e3' : fr [ruq (!c), ruq (!c) + 1] h h1 := e3
    have s1 := s.fr e3'
    have f1 : fr [1] h1 (setI h1 1 1 (n32 0)) := (fr.rf _ _).sI rfl
    simp -implicitDefEqProofs (disch := omega) only [gP_p, gP_t, bnd_s, bnd2_s, n32_nat, n32_le, n32_lt, n32_eq, n32_add, n32_sub, n32_dec, n32_mul, n32_div, n32_irm, n32_lit, n32_oN, n32_ix, n32_m1, n32_m2, neg_le0, neg_lt0, neg_lt1, neg_le1, n32_min, n32_max, if_true, if_false, Nat.one_ne_zero, true_or, or_true, false_or, or_false, s1.root, clr_x s1]
    rw [if_neg hv]
    exact gd_some.mpr ⟨rfl, ⟨sI_eq, fun i hi => absurd hi (Nat.not_lt_zero i)⟩, (e3'.mono (by cases c <;> decide)).tr (f1.mono (by cases c <;> decide))⟩
theorem lawM {h : HP} {t r g : Nat → Nat} {n sz B : Nat} {b c : Bool} {L L2 : List Nat} (s : SH b c h) (hz : sz ≤ 6) (z : h.2.1 188 3 = n32 sz) (mr : MR h 193 r) (gm : GM h sz g) (gb : GB sz g) (rb : RBm B r) (hB : B < 2147483648) (w : WR L) (w2 : WR L2) (ru : RuM h L) (rr : gd (f_X10_readsRule 100 (setI h 188 0 (n32 0)) 188) (fun x => x.1 = n32 0 ∧ CD x.2 L2 ∧ TxM x.2 t 0 ∧ fr [21, 40] (setI h 188 0 (n32 0)) x.2)) : gd (f_X10_law 100 h 188) (fun p => p.1 = n32 (sL L2 g r sz 0 0) - n32 (sL L g r sz 0 0) ∧ RowM p.2 [(n32 (sL L2 g r sz 0 0)).toInt64, (n32 (sL L g r sz 0 0)).toInt64] ∧ TxM p.2 t 0 ∧ RuM p.2 L ∧ fr [50, 21, 40, 32, 46, 25, 22] h p.2) := by
  have wl : ∀ {X : List Nat}, WR X → X.length ≤ 40 := fun e => e.elim (fun e => by rw [e]; exact Nat.zero_le _) (fun e => e.2)
  have l1 := wl w
  have l2 := wl w2
  have f0 : fr [50] h (setI h 188 0 (n32 0)) := (fr.rf _ _).sI rfl
  unfold f_X10_law
  rw [gP_p (by simp only [s.mod]), ltt_s, gd_bnd2]
  refine gd_mono rr ?_
  rintro ⟨u, h1⟩ ⟨a1, a2, a3, a4⟩
  have a1' : u = n32 0 := a1
  subst a1'
  have a2' : CD h1 L2 := a2
  have a3' : TxM h1 t 0 := a3
  have a4' : fr [21, 40] (setI h 188 0 (n32 0)) h1 := a4
  have f1 : fr [50, 21, 40] h h1 := (f0.mono (by decide)).tr (a4'.mono (by decide))
  have s1 := s.fr f1
  have pri : ∀ h', fr [50, 21, 40, 32, 46, 25, 22] h h' → ∀ X, WR X → RuM h' X → gd (f_X10_priceAll 100 h' 188) (fun x => x.1 = n32 (sL X g r sz 0 0) ∧ fr [32] h' x.2) := fun h' f' X wx rx => all_m hz wx rb hB gb (s.fr f') (by rw [f'.ai [23] (by decide) 188 3 rfl]; exact z) (fun j hj => by rw [f'.ai [30] (by decide) 193 j rfl]; exact mr j hj) (fun m hm => by rw [f'.ai [29] (by decide) 192 m rfl]; exact gm m hm) rx
  have ru1 := ru.fr f1 (by decide)
  show gd (if 0 ≤ n32 0 then _ else _) _
  rw [if_pos (by decide), gd_bnd2]
  refine gd_mono (pri h1 (f1.mono (by decide)) L w ru1) ?_
  rintro ⟨x, h2⟩ ⟨b1, b2⟩
  have b1' : x = n32 (sL L g r sz 0 0) := b1
  subst b1'
  have b2' : fr [32] h1 h2 := b2
  have f2 : fr [50, 21, 40, 32] h h2 := (f1.mono (by decide)).tr (b2'.mono (by decide))
  have s2 := s.fr f2
  have ru2 := ru.fr f2 (by decide)
  have z21 := ru2.1
  show gd (lt_ (h2.2.1 188 21) _) _
  rw [ltt_s, z21]
  refine cpy_l (n := L.length) (b := b) (c := c) (by omega) h2 (fun h3 s3 e3 f3 => ?_) L.length 0 100 h2 (by omega) (by omega) s2 z21 (fun j hj => absurd hj (Nat.not_lt_zero j)) (fr.rf _ _)
  have f23 : fr [32, 46] h1 h3 := (b2'.mono (by decide)).tr (f3.mono (by decide))
  have fA : fr [50, 21, 40, 32, 46] h h3 := (f2.mono (by decide)).tr (f3.mono (by decide))
  have cd3 : CD h3 L2 := ⟨by rw [f23.ai [40] (by decide) 188 22 rfl]; exact a2'.1, fun j hj => by rw [f23.ai [40] (by decide) 199 j rfl]; exact a2'.2 j hj⟩
  have z22 := cd3.1
  rw [show rK h3 188 20 102 = some 199 from by simp only [s3.mod], bnd_s, z22, gd_bnd]
  refine gd_mono (lay_c (N := 100) (by omega) (Or.inl rfl) (by omega) s3) ?_
  rintro h4 ⟨c1, c2, c3⟩
  have c3' : fr [25] h3 h4 := c3
  have fB : fr [50, 21, 40, 32, 46, 25] h h4 := (fA.mono (by decide)).tr (c3'.mono (by decide))
  rw [gd_bnd2]
  refine gd_mono (pri h4 (fB.mono (by decide)) L2 w2 (cd3.ru c1 c2)) ?_
  rintro ⟨y, h5⟩ ⟨d1, d2⟩
  have d1' : y = n32 (sL L2 g r sz 0 0) := d1
  subst d1'
  have d2' : fr [32] h4 h5 := d2
  have fC : fr [50, 21, 40, 32, 46, 25] h h5 := fB.tr (d2'.mono (by decide))
  have s5 := s.fr fC
  have f35 : fr [25, 32] h3 h5 := (c3'.mono (by decide)).tr (d2'.mono (by decide))
  show gd (bnd (rK h5 188 43 102) _) _
  rw [show rK h5 188 43 102 = some 215 from by simp only [s5.mod], bnd_s, gd_bnd]
  refine gd_mono (lay_c (N := 100) (by omega) (Or.inr rfl) (show L.length ≤ 80 by omega) s5) ?_
  rintro h6 ⟨g1, g2, g3⟩
  have g3' : fr [25] h5 h6 := g3
  have fD : fr [50, 21, 40, 32, 46, 25] h h6 := fC.tr (g3'.mono (by decide))
  have s6 := s.fr fD
  have ru6 : RuM h6 L := ⟨g1, fun i hi => by
    rw [g2 i hi, f35.ai [46] (by decide) 215 i rfl, e3 i hi]
    exact ru2.2 i hi⟩
  have f16 : fr [32, 46, 25] h1 h6 := ((f23.mono (by decide)).tr (f35.mono (by decide))).tr (g3'.mono (by decide))
  rw [ltt_s, gd_bnd]
  obtain ⟨m0, m2⟩ := rowM_0 (h := h6)
  refine gd_mono (ent_m (s6.fr m2) m0 (by decide)) ?_
  rintro h7 ⟨r7, f7⟩
  rw [gd_bnd]
  refine gd_mono (ent_m ((s6.fr m2).fr f7) r7 (by show 1 < 24; omega)) ?_
  rintro h8 ⟨r8, f8⟩
  have f68 : fr [22] h6 h8 := (m2.tr f7).tr f8
  exact gd_some.mpr ⟨rfl, r8, (a3'.fr f16 (by decide)).fr f68 (by decide), ru6.fr f68 (by decide), (fD.mono (by decide)).tr (f68.mono (by decide))⟩
theorem op_law {k : Nat} (hk : k < 512) : ∀ (h : HP), Inv k h → ∃ (v : Int32) (h1 h2 : HP), f_X9_law 100 h 0 = some (v, h1) ∧ f_X10_law 100 h1 188 = some (v, h2) ∧ Inv (k + 1) h2 := by
  intro h I
  obtain ⟨b, c, sz, iv⟩ := I
  obtain ⟨a0, a1, a2, a3, a4, a5, a6, a7, a8, a9, a10⟩ := id iv
  obtain ⟨z1, z2, z3⟩ := id a1
  obtain ⟨t, n, hn, tb, tx, tm⟩ := a2
  obtain ⟨r, r1, r2, r3, r4⟩ := id a4
  obtain ⟨g, g1, g2, g3⟩ := id a5
  obtain ⟨L, l1, l2, l3⟩ := id a7
  have f0 : ∀ g, fr [50] g (setI g 188 0 (n32 0)) := fun g => (fr.rf _ _).sI rfl
  have good : ∀ (h1 : HP) (L2 : List Nat) (v : Int32), WR L2 → v = n32 (sL L2 g r sz 0 0) - n32 (sL L g r sz 0 0) → RowX h1 [(n32 (sL L2 g r sz 0 0)).toInt64, (n32 (sL L g r sz 0 0)).toInt64] → TxX h1 t 0 → fr [ruq (!c), 17, 19, 1, 2] h h1 → (∀ g2, SH b c g2 → TxM g2 t n → gd (f_X10_readsRule 100 g2 188) (fun x => x.1 = n32 0 ∧ CD x.2 L2 ∧ TxM x.2 t 0 ∧ fr [21, 40] g2 x.2)) → ∃ h2, f_X10_law 100 h1 188 = some (v, h2) ∧ Inv (k + 1) h2 := by
    intro h1 L2 v w2 ev rx t1 f1 rr
    have s1 := a0.fr f1
    have tm1 := tm.fr f1 (by cases c <;> decide)
    obtain ⟨⟨v2, h2⟩, y1, y2, y3, y4, y5, y6⟩ := lawM (t := t) (n := n) (B := 300 * k) s1 z1 (by rw [f1.ai [23] (by cases c <;> decide) 188 3 rfl]; exact z3) (fun j hj => by rw [f1.ai [30] (by cases c <;> decide) 193 j rfl]; exact r2 j hj) (fun m hm => by rw [f1.ai [29] (by cases c <;> decide) 192 m rfl]; exact g2 m hm) g3 r3 (by omega) l3 w2 (l2.fr f1 (by cases c <;> decide)) (rr _ (s1.fr (f0 _)) (tm1.fr (f0 _) (by decide)))
    have y6' : fr [50, 21, 40, 32, 46, 25, 22] h1 h2 := y6
    have e2 : v2 = v := y2.trans ev.symm
    subst e2
    have fA : fr [ruq (!c), 17, 19, 1, 2, 50, 21, 40, 32, 46, 25, 22] h h2 := (f1.mono (by cases c <;> decide)).tr (y6'.mono (by cases c <;> decide))
    exact ⟨h2, y1, Iv.up ⟨a0.fr fA, a1.fr fA (by cases c <;> decide), ⟨t, 0, by omega, fun i hi => absurd hi (Nat.not_lt_zero i), t1.fr y6' (by decide), y4⟩, ⟨_, rx.fr y6' (by decide), y3⟩, a4.fr fA (by cases c <;> decide), a5.fr fA (by cases c <;> decide), a6.fr fA (by cases b <;> cases c <;> decide), ⟨L, l1.fr fA (by cases c <;> decide), y5, l3⟩, a8.fr fA (by cases c <;> decide), a9.fr fA (by cases c <;> decide), a10.fr fA (by cases c <;> decide)⟩⟩
  obtain ⟨X1, X2⟩ := rrd_x (N := 100) (q := !c) (by omega) a0 tx tb hn
  by_cases n0 : n = 0
  · obtain ⟨Y1, -⟩ := lawX (v := -n32 1) (L2 := []) (n := n) (t := t) (B := 300 * k) a0 z1 z2 r1 g1 r3 (by omega) l3 l1 (gd_mono (X1 n0) (fun x hx => ⟨hx.1, fun _ => ⟨Or.inl rfl, hx.2.1⟩, hx.2.2⟩))
    obtain ⟨⟨v, h1⟩, x1, x2, x3, x4, x5⟩ := Y1 rfl
    obtain ⟨h2, y1, y2⟩ := good h1 [] v (Or.inl rfl) x2 x3 x4 x5 (fun g2 s2 t2 => (rr_m s2 t2 tb hn).1 n0)
    exact ⟨_, _, h2, x1, y1, y2⟩
  · obtain ⟨⟨v0, h0'⟩, -, -, -, R, rn, rE, alt⟩ := (rr_m a0 tm tb hn).2 n0
    by_cases q : R.1 = true ∧ n ≤ min n 40
    · have wf : WF R.2.2 := by
        rcases alt with e | e
        · exact e.2.2.2.2
        · exact absurd q e.1
      have lx : Lx R.2.2 = R.2.2 := by
        generalize R.2.2 = X at wf ⊢
        cases X with
        | nil => exact absurd wf.1 (by decide)
        | cons x X => rfl
      obtain ⟨Y1, -⟩ := lawX (v := lnC (rL R) n (min n 40)) (L2 := R.2.2) (n := n) (t := t) (B := 300 * k) a0 z1 z2 r1 g1 r3 (by omega) l3 l1 (gd_mono (X2 n0 R rn) (fun x hx => ⟨hx.1, fun _ => ⟨Or.inr wf, by rw [lx]; exact hx.2.1 q⟩, hx.2.2⟩))
      obtain ⟨⟨v, h1⟩, x1, x2, x3, x4, x5⟩ := Y1 (lnC_f (r := rL R) q)
      obtain ⟨h2, y1, y2⟩ := good h1 R.2.2 v (Or.inr wf) x2 x3 x4 x5 (fun g2 s2 t2 => gd_mono ((rr_m s2 t2 tb hn).2 n0) (fun x hx => by
        obtain ⟨w1, w2, R', rn', rE', alt'⟩ := hx
        have eR : R' = R := (rn' (min n 40 + 1) (by show min n 40 < 0 + (min n 40 + 1); omega)).symm.trans (rn _ (by show min n 40 < 0 + (min n 40 + 1); omega))
        subst eR
        rcases alt' with e | e
        · exact ⟨e.2.2.1, e.2.2.2.1, w1, w2⟩
        · exact absurd q e.1))
      exact ⟨_, _, h2, x1, y1, y2⟩
    · obtain ⟨-, Y2⟩ := lawX (v := lnC (rL R) n (min n 40)) (L2 := R.2.2) (n := n) (t := t) (B := 300 * k) a0 z1 z2 r1 g1 r3 (by omega) l3 l1 (gd_mono (X2 n0 R rn) (fun x hx => ⟨hx.1, fun z => absurd z (lnC_ne rE (by omega) q), hx.2.2⟩))
      obtain ⟨⟨v, h1⟩, x1, x2, x3, x4⟩ := Y2 (lnC_ne rE (by omega) q)
      have x4' : fr [ruq (!c), 17, 19, 1] h h1 := x4
      have x2' : v = -n32 1000000 - lnC (rL R) n (min n 40) := x2
      rw [lnC_q q] at x2'
      have s1 := a0.fr x4'
      have M : gd (f_X10_law 100 h1 188) (fun p => p.1 = v ∧ TxM p.2 t 0 ∧ fr [50, 21, 40] h1 p.2) := by
        unfold f_X10_law
        rw [gP_p (by simp only [s1.mod]), ltt_s, gd_bnd2]
        refine gd_mono ((rr_m (s1.fr (f0 _)) ((tm.fr x4' (by cases c <;> decide)).fr (f0 _) (by decide)) tb hn).2 n0) ?_
        rintro ⟨u, h3⟩ ⟨w1, w2, R', rn', rE', alt'⟩
        have eR : R' = R := (rn' (min n 40 + 1) (by show min n 40 < 0 + (min n 40 + 1); omega)).symm.trans (rn _ (by show min n 40 < 0 + (min n 40 + 1); omega))
        subst eR
        have w2' : fr [21, 40] (setI h1 188 0 (n32 0)) h3 := w2
        rcases alt' with e | e
        · exact absurd ⟨e.1, e.2.1⟩ q
        · have u1 : u = -n32 1 - n32 (lnQ (rL R') (min n 40)) := e.2
          have lq : lnQ (rL R') (min n 40) ≤ 40 := by unfold lnQ; split; omega; show R'.2.1 ≤ 40; omega
          have nz : ¬ 0 ≤ u := by rw [u1]; exact flt_neg (by omega)
          show gd (if 0 ≤ u then _ else some ((u + 1) - 1000000, h3)) _
          rw [if_neg nz]
          refine gd_some.mpr ⟨?_, w1, ((f0 _).mono (by decide)).tr (w2'.mono (by decide))⟩
          rw [x2', u1]
          exact lq_v lq
      obtain ⟨⟨v2, h2⟩, y1, y2, y3, y4⟩ := M
      have y2' : v2 = v := y2
      subst y2'
      have y4' : fr [50, 21, 40] h1 h2 := y4
      have fA : fr [ruq (!c), 17, 19, 1, 50, 21, 40] h h2 := (x4'.mono (by cases c <;> decide)).tr (y4'.mono (by cases c <;> decide))
      exact ⟨v2, h1, h2, x1, y1, Iv.up ⟨a0.fr fA, a1.fr fA (by cases c <;> decide), ⟨t, 0, by omega, fun i hi => absurd hi (Nat.not_lt_zero i), TxX.fr x3 y4' (by decide), y3⟩, a3.fr fA (by cases c <;> decide), a4.fr fA (by cases c <;> decide), a5.fr fA (by cases c <;> decide), a6.fr fA (by cases b <;> cases c <;> decide), a7.fr fA (by cases c <;> decide), a8.fr fA (by cases c <;> decide), a9.fr fA (by cases c <;> decide), a10.fr fA (by cases c <;> decide)⟩⟩
