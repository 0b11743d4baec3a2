/-! ===== months, as numbers ===== -/
abbrev Fle : Type := Nat × (Nat → Nat) × (Nat → Nat)
def FB (F : Fle) : Prop := 1 ≤ F.1 ∧ F.1 ≤ 8 ∧ (∀ i, i < F.1 → F.2.1 i ≤ 2 ∧ F.2.2 i ≤ 9990)
def lndP (sz : Nat) (F : Fle) (r : Nat → Nat) : Prop := r 27 = 0 ∧ 0 < sz ∧ F.2.1 (r 25 % F.1) < 2
def lndJ (F : Fle) (r : Nat → Nat) : Nat := 6 * F.2.1 (r 25 % F.1)
def lndV (F : Fle) (r : Nat → Nat) : Nat := min 99999 (r (lndJ F r) + F.2.2 (r 25 % F.1))
noncomputable def mLand (sz : Nat) (F : Fle) (r : Nat → Nat) : Nat → Nat := by
  classical
  exact if lndP sz F r then up r (lndJ F r) (lndV F r) else r
noncomputable def mLanded (sz : Nat) (F : Fle) (r : Nat → Nat) : Nat := by
  classical
  exact if lndP sz F r then lndV F r - r (lndJ F r) else 0
theorem mLand_y {sz : Nat} {F : Fle} {r : Nat → Nat} (h : lndP sz F r) : mLand sz F r = up r (lndJ F r) (lndV F r) := by unfold mLand; exact if_pos h
theorem mLand_n {sz : Nat} {F : Fle} {r : Nat → Nat} (h : ¬ lndP sz F r) : mLand sz F r = r := by unfold mLand; exact if_neg h
theorem mLanded_y {sz : Nat} {F : Fle} {r : Nat → Nat} (h : lndP sz F r) : mLanded sz F r = lndV F r - r (lndJ F r) := by unfold mLanded; exact if_pos h
theorem mLanded_n {sz : Nat} {F : Fle} {r : Nat → Nat} (h : ¬ lndP sz F r) : mLanded sz F r = 0 := by unfold mLanded; exact if_neg h
def flw (sz : Nat) (r : Nat → Nat) (j : Nat) : Nat := if j % 6 + 1 < sz then r j * r 24 / 10 else 0
def fin (sz : Nat) (r : Nat → Nat) (j : Nat) : Nat := min 99999 (r j - flw sz r j + (if j % 6 = 0 then 0 else flw sz r (j - 1)))
def mDr (sz k : Nat) (r : Nat → Nat) : Nat → Nat := fun j => if 6 * k ≤ j ∧ j < 6 * k + 6 then fin sz r j else r j
noncomputable def mMon (sz : Nat) (F : Fle) (r : Nat → Nat) : Nat → Nat := up (mDr sz 1 (mDr sz 0 (mLand sz F r))) 25 (r 25 + 1)
noncomputable def mMons (sz : Nat) (F : Fle) : Nat → (Nat → Nat) → Nat → Nat
  | 0, r => r
  | n + 1, r => mMons sz F n (mMon sz F r)
noncomputable def mLds (sz : Nat) (F : Fle) : Nat → (Nat → Nat) → Nat
  | 0, _ => 0
  | n + 1, r => mLanded sz F r + mLds sz F n (mMon sz F r)
theorem flw_le {sz : Nat} {r : Nat → Nat} {j : Nat} (h : r 24 ≤ 9) : flw sz r j ≤ r j := by
  unfold flw
  split
  · have h1 : r j * r 24 ≤ r j * 9 := Nat.mul_le_mul_left _ h
    omega
  · omega
theorem fin_le {sz : Nat} {r : Nat → Nat} {j : Nat} : fin sz r j ≤ 99999 := Nat.min_le_left _ _
def RBm (B : Nat) (r : Nat → Nat) : Prop := (∀ j, j < 24 → r j ≤ 99999) ∧ r 24 ≤ 9 ∧ r 26 ≤ 999999 ∧ r 27 ≤ 1 ∧ r 25 ≤ B
def ZB (sz : Nat) (r : Nat → Nat) : Prop := ∀ k m, k < 2 → sz ≤ m → m < 6 → r (6 * k + m) = 0 ∧ r (12 + (6 * k + m)) = 0
theorem RBm.ext {B : Nat} {r r' : Nat → Nat} (s : RBm B r) (e : ∀ j, j < 28 → r' j = r j) : RBm B r' := by
  obtain ⟨a, b, c, d, f⟩ := s
  refine ⟨fun j hj => by rw [e j (by omega)]; exact a j hj, by rw [e _ (by omega)]; exact b, by rw [e _ (by omega)]; exact c, by rw [e _ (by omega)]; exact d, by rw [e _ (by omega)]; exact f⟩
theorem RBm.mo {B B' : Nat} {r : Nat → Nat} (s : RBm B r) (h : B ≤ B') : RBm B' r := ⟨s.1, s.2.1, s.2.2.1, s.2.2.2.1, by have := s.2.2.2.2; omega⟩
theorem ZB.ext {sz : Nat} {r r' : Nat → Nat} (s : ZB sz r) (e : ∀ j, j < 28 → r' j = r j) : ZB sz r' := by
  intro k m hk h1 h2
  rw [e _ (by omega), e _ (by omega)]
  exact s k m hk h1 h2
theorem RBm.land {B sz : Nat} {F : Fle} {r : Nat → Nat} (s : RBm B r) : RBm B (mLand sz F r) := by
  by_cases q : lndP sz F r
  · rw [mLand_y q]
    obtain ⟨a, b, c, d, f⟩ := s
    have hj : lndJ F r < 12 := by unfold lndJ; have := q.2.2; omega
    refine ⟨fun j hj => ?_, ?_, ?_, ?_, ?_⟩
    · by_cases e : j = lndJ F r
      · rw [e, up_eq]; exact Nat.min_le_left _ _
      · rw [up_ne e]; exact a j hj
    all_goals (rw [up_ne (by omega)]; assumption)
  · rw [mLand_n q]; exact s
theorem ZB.land {sz : Nat} {F : Fle} {r : Nat → Nat} (s : ZB sz r) : ZB sz (mLand sz F r) := by
  by_cases q : lndP sz F r
  · rw [mLand_y q]
    have hj : lndJ F r = 6 * F.2.1 (r 25 % F.1) := rfl
    have h2 := q.2.2
    have h3 := q.2.1
    intro k m hk h1 h2
    rw [up_ne (by omega), up_ne (by omega)]
    exact s k m hk h1 h2
  · rw [mLand_n q]; exact s
theorem RBm.dr {B sz k : Nat} {r : Nat → Nat} (s : RBm B r) (hk : k < 2) : RBm B (mDr sz k r) := by
  obtain ⟨a, b, c, d, f⟩ := s
  refine ⟨fun j hj => ?_, ?_, ?_, ?_, ?_⟩
  · unfold mDr
    split
    · exact fin_le
    · exact a j hj
  all_goals (unfold mDr; rw [if_neg (by omega)]; assumption)
theorem fin_hi {sz : Nat} {r : Nat → Nat} {j : Nat} (h : r j = 0) (hj : sz ≤ j % 6) : fin sz r j = 0 := by
  unfold fin
  rw [h]
  have h1 : (if j % 6 = 0 then 0 else flw sz r (j - 1)) = 0 := by
    split
    · rfl
    · unfold flw
      rw [if_neg (by omega)]
  rw [h1]
  omega
theorem ZB.dr {sz k : Nat} {r : Nat → Nat} (s : ZB sz r) (hk : k < 2) : ZB sz (mDr sz k r) := by
  intro k' m hk' h1 h2
  have h3 := s k' m hk' h1 h2
  refine ⟨?_, ?_⟩
  · unfold mDr
    split
    · exact fin_hi h3.1 (by omega)
    · exact h3.1
  · unfold mDr
    rw [if_neg (by omega)]
    exact h3.2
theorem RBm.mon {B sz : Nat} {F : Fle} {r : Nat → Nat} (s : RBm B r) : RBm (B + 1) (mMon sz F r) := by
  have h1 := s.2.2.2.2
  have s2 : RBm B (mDr sz 1 (mDr sz 0 (mLand sz F r))) := (s.land.dr (by omega)).dr (by omega)
  obtain ⟨a, b, c, d, f⟩ := s2
  unfold mMon
  refine ⟨fun j hj => ?_, ?_, ?_, ?_, ?_⟩
  · rw [up_ne (by omega)]; exact a j hj
  · rw [up_ne (by omega)]; exact b
  · rw [up_ne (by omega)]; exact c
  · rw [up_ne (by omega)]; exact d
  · rw [up_eq]; omega
theorem ZB.mon {sz : Nat} {F : Fle} {r : Nat → Nat} (s : ZB sz r) : ZB sz (mMon sz F r) := by
  have s2 : ZB sz (mDr sz 1 (mDr sz 0 (mLand sz F r))) := (s.land.dr (by omega)).dr (by omega)
  intro k m hk h1 h2
  unfold mMon
  rw [up_ne (by omega), up_ne (by omega)]
  exact s2 k m hk h1 h2
theorem RBm.mons {sz : Nat} {F : Fle} (n : Nat) : ∀ {B : Nat} {r : Nat → Nat}, RBm B r → RBm (B + n) (mMons sz F n r) := by
  induction n with
  | zero => exact fun s => s
  | succ n ih =>
    intro B r s
    have := ih (s.mon (sz := sz) (F := F))
    rw [show B + (n + 1) = B + 1 + n by omega]
    exact this
theorem ZB.mons {sz : Nat} {F : Fle} (n : Nat) : ∀ {r : Nat → Nat}, ZB sz r → ZB sz (mMons sz F n r) := by
  induction n with
  | zero => exact fun s => s
  | succ n ih =>
    intro r s
    exact ih (s.mon (sz := sz) (F := F))
theorem mMons_s {sz : Nat} {F : Fle} (n : Nat) : ∀ {r : Nat → Nat}, mMons sz F (n + 1) r = mMon sz F (mMons sz F n r) := by
  induction n with
  | zero => intro r; rfl
  | succ n ih =>
    intro r
    show mMons sz F (n + 1) (mMon sz F r) = _
    rw [ih]
    rfl
theorem land_le {sz : Nat} {F : Fle} {r : Nat → Nat} (f : FB F) : mLanded sz F r ≤ 9990 := by
  by_cases q : lndP sz F r
  · rw [mLanded_y q]
    have h1 := (f.2.2 (r 25 % F.1) (Nat.mod_lt _ f.1)).2
    unfold lndV
    omega
  · rw [mLanded_n q]; omega
theorem lds_le {sz : Nat} {F : Fle} (f : FB F) (n : Nat) : ∀ {r : Nat → Nat}, mLds sz F n r ≤ 9990 * n := by
  induction n with
  | zero => intro r; exact Nat.le_refl _
  | succ n ih =>
    intro r
    have h1 := land_le (sz := sz) (r := r) f
    have h2 := ih (r := mMon sz F r)
    show mLanded sz F r + _ ≤ _
    omega
/-- a drift under way: market t has given, those behind it are done -/
def dRow (sz k : Nat) (r : Nat → Nat) (t : Nat) : Nat → Nat := fun j => if 6 * k ≤ j ∧ j < 6 * k + 6 then (if 6 * k + t < j then fin sz r j else if j = 6 * k + t then r j - flw sz r j else r j) else r j
theorem dRow_0 {sz k : Nat} {r : Nat → Nat} (a : ∀ j, j < 24 → r j ≤ 99999) (hk : k < 2) (j : Nat) : dRow sz k r 0 j = mDr sz k r j := by
  unfold dRow mDr
  split
  · rename_i h1
    split
    · rfl
    · rw [if_pos (by omega)]
      have h2 : j = 6 * k := by omega
      subst h2
      unfold fin
      rw [if_pos (by omega)]
      have := a (6 * k) (by omega)
      omega
  · rfl
theorem dRow_hi {sz k : Nat} {r : Nat → Nat} (a : ∀ j, j < 24 → r j ≤ 99999) (hk : k < 2) (h1 : 1 ≤ sz) (j : Nat) : dRow sz k r (sz - 1) j = r j := by
  unfold dRow
  split
  · rename_i h2
    have h3 := a j (by omega)
    split
    · have h4 : flw sz r j = 0 := by unfold flw; rw [if_neg (by omega)]
      have h5 : flw sz r (j - 1) = 0 := by unfold flw; rw [if_neg (by omega)]
      unfold fin
      rw [h4, h5]
      split <;> omega
    · split
      · rename_i h4
        have h5 : flw sz r j = 0 := by unfold flw; rw [if_neg (by omega)]
        rw [h5]
        omega
      · rfl
  · rfl
theorem mDr_0 {k : Nat} {r : Nat → Nat} (a : ∀ j, j < 24 → r j ≤ 99999) (hk : k < 2) (j : Nat) : mDr 0 k r j = r j := by
  unfold mDr
  split
  · have h3 := a j (by omega)
    have h4 : ∀ i, flw 0 r i = 0 := fun i => by unfold flw; rw [if_neg (by omega)]
    unfold fin
    rw [h4, h4]
    split <;> omega
  · rfl
theorem dRow_s {sz k : Nat} {r : Nat → Nat} {t : Nat} (hk : k < 2) (ht : t + 1 < sz) (hz : sz ≤ 6) (j : Nat) : up (up (dRow sz k r (t + 1)) (6 * k + t) (r (6 * k + t) - flw sz r (6 * k + t))) (6 * k + (t + 1)) (min 99999 (r (6 * k + (t + 1)) - flw sz r (6 * k + (t + 1)) + flw sz r (6 * k + t))) j = dRow sz k r t j := by
  by_cases h1 : j = 6 * k + (t + 1)
  · subst h1
    rw [up_eq]
    unfold dRow
    rw [if_pos (by omega), if_pos (by omega)]
    unfold fin
    rw [if_neg (by omega)]
    rfl
  · rw [up_ne h1]
    by_cases h2 : j = 6 * k + t
    · subst h2
      rw [up_eq]
      unfold dRow
      rw [if_pos (by omega), if_neg (by omega), if_pos rfl]
    · rw [up_ne h2]
      unfold dRow
      split
      · by_cases h3 : 6 * k + (t + 1) < j
        · rw [if_pos h3, if_pos (by omega)]
        · rw [if_neg h3, if_neg (by omega)]
      · rfl
