/-! ===== layer 2: words ===== -/
def gd {α : Type} (o : Option α) (Q : α → Prop) : Prop := ∃ a, o = some a ∧ Q a
theorem gd_some {α : Type} {a : α} {Q : α → Prop} : gd (some a) Q ↔ Q a := ⟨fun ⟨b, h1, h2⟩ => (by cases h1; exact h2), fun h => ⟨a, rfl, h⟩⟩
theorem gd_bnd {α β : Type} {o : Option α} {f : α → Option β} {Q : β → Prop} : gd (bnd o f) Q ↔ gd o (fun a => gd (f a) Q) := by
  cases o with
  | none => exact ⟨fun ⟨b, h1, _⟩ => (by cases h1), fun ⟨b, h1, _⟩ => (by cases h1)⟩
  | some a => exact ⟨fun h => ⟨a, rfl, h⟩, fun ⟨b, h1, h2⟩ => (by cases h1; exact h2)⟩
theorem gd_bnd2 {α β : Type} {o : Option (α × HP)} {f : α → HP → Option β} {Q : β → Prop} : gd (bnd2 o f) Q ↔ gd o (fun q => gd (f q.1 q.2) Q) := by
  cases o with
  | none => exact ⟨fun ⟨b, h1, _⟩ => (by cases h1), fun ⟨b, h1, _⟩ => (by cases h1)⟩
  | some a => exact ⟨fun h => ⟨a, rfl, h⟩, fun ⟨b, h1, h2⟩ => (by cases h1; exact h2)⟩
theorem gd_gP {β : Type} {c : Prop} [Decidable c] {o : Option β} {Q : β → Prop} : gd (gP c o) Q ↔ c ∧ gd o Q := by
  unfold gP
  by_cases hc : c
  · rw [if_pos hc]; exact ⟨fun h => ⟨hc, h⟩, fun h => h.2⟩
  · rw [if_neg hc]; exact ⟨fun ⟨b, h1, _⟩ => (by cases h1), fun h => absurd h.1 hc⟩
theorem gd_lt {α β : Type} {a : α} {f : α → Option β} {Q : β → Prop} : gd (lt_ a f) Q ↔ gd (f a) Q := Iff.rfl
theorem gd_jn {K β : Type} {k : K} {f : K → Option β} {Q : β → Prop} : gd (jn k f) Q ↔ gd (f k) Q := Iff.rfl
theorem gd_mono {α : Type} {o : Option α} {P Q : α → Prop} (h : gd o P) (k : ∀ a, P a → Q a) : gd o Q := by
  obtain ⟨a, h1, h2⟩ := h
  exact ⟨a, h1, k a h2⟩
theorem gd_of {α : Type} {o : Option α} {a : α} {Q : α → Prop} (h : o = some a) (q : Q a) : gd o Q := ⟨a, h, q⟩
theorem bnd_s {α β : Type} {a : α} {f : α → Option β} : bnd (some a) f = f a := rfl
theorem bnd2_s {α β : Type} {a : α × HP} {f : α → HP → Option β} : bnd2 (some a) f = f a.1 a.2 := rfl
theorem gP_t {β : Type} {o : Option β} : gP True o = o := by unfold gP; exact if_pos trivial
theorem gP_p {β : Type} {c : Prop} [Decidable c] {o : Option β} (h : c) : gP c o = o := by unfold gP; exact if_pos h
theorem ltt_s {α β : Type} {a : α} {f : α → β} : lt_ a f = f a := rfl
theorem jn_s {K R : Type} {k : K} {f : K → R} : jn k f = f k := rfl
theorem lp_s {K : Type} {z : K} {b : K → K} {n : Nat} : lp z b (n + 1) = b (lp z b n) := rfl
/-! numbers -/
def n32 (n : Nat) : Int32 := Int32.ofNat n
theorem n32_nat {i : Nat} (h : i < 2147483648) : (n32 i).toNatClampNeg = i := Int32.toNatClampNeg_ofNat_of_lt h
theorem n32_int {i : Nat} (h : i < 2147483648) : (n32 i).toInt = (i : Int) := Int32.toInt_ofNat_of_lt h
theorem n32_le {i j : Nat} (hi : i < 2147483648) (hj : j < 2147483648) : (n32 i ≤ n32 j) = (i ≤ j) := propext (Int32.ofNat_le_iff_le hi hj)
theorem n32_lt {i j : Nat} (hi : i < 2147483648) (hj : j < 2147483648) : (n32 i < n32 j) = (i < j) := propext (Int32.ofNat_lt_iff_lt hi hj)
theorem n32_eq {i j : Nat} (hi : i < 2147483648) (hj : j < 2147483648) : (n32 i = n32 j) = (i = j) := propext ⟨fun h => by rw [← n32_nat hi, ← n32_nat hj, h], fun h => by rw [h]⟩
theorem n32_add (i j : Nat) : n32 i + n32 j = n32 (i + j) := (Int32.ofNat_add i j).symm
theorem n32_mul (i j : Nat) : n32 i * n32 j = n32 (i * j) := (Int32.ofNat_mul i j).symm
theorem n32_sub {i j : Nat} (h : j ≤ i) : n32 i - n32 j = n32 (i - j) := (Int32.ofNat_sub i j h).symm
theorem n32_dec {i j : Nat} (h : j ≤ i) : n32 i + -n32 j = n32 (i - j) := by rw [← n32_sub h, Int32.sub_eq_add_neg]
theorem n32_div {i j : Nat} (hi : i < 2147483648) (hj : j < 2147483648) : n32 i / n32 j = n32 (i / j) := (Int32.ofNat_div hi hj).symm
theorem n32_irm {i j : Nat} (hi : i < 2147483648) (hj : j < 2147483648) : irm (n32 i) (n32 j) = n32 (i % j) := by
  unfold irm
  rw [n32_div hi hj, n32_mul, n32_sub (by rw [Nat.mul_comm]; exact Nat.mul_div_le i j)]
  congr 1
  have := Nat.div_add_mod i j
  rw [Nat.mul_comm (i / j) j]
  omega
theorem n32_lit (n : Nat) : (@OfNat.ofNat Int32 n Int32.instOfNat) = n32 (@OfNat.ofNat Nat n (instOfNatNat n)) := id rfl
theorem n32_oN (n : Nat) : Int32.ofNat n = n32 n := id rfl
theorem n32_m1 {i j : Nat} (hi : i < 2147483648) (hj : 0 < j) (hj2 : j < 2147483648) : (n32 i = -n32 j) = False := by
  refine eq_false (fun h => ?_)
  have h1 : (n32 i).toInt = (-n32 j).toInt := by rw [h]
  rw [Int32.toInt_neg, n32_int hi, n32_int hj2, Int.bmod_eq_of_le (by omega) (by omega)] at h1
  omega
theorem n32_m2 {i j : Nat} (hi : i < 2147483648) (hj : 0 < j) (hj2 : j < 2147483648) : (-n32 j = n32 i) = False := by
  exact eq_false (fun h => (n32_m1 hi hj hj2).mp h.symm)
theorem neg_int {j : Nat} (hj2 : j < 2147483648) : (-n32 j).toInt = -(j : Int) := by rw [Int32.toInt_neg, n32_int hj2, Int.bmod_eq_of_le (by omega) (by omega)]
theorem neg_le0 {i j : Nat} (hi : i < 2147483648) (hj : j < 2147483648) : (n32 i ≤ -n32 j) = (i = 0 ∧ j = 0) := by
  rw [Int32.le_iff_toInt_le, n32_int hi, neg_int hj]
  exact propext ⟨fun h => by omega, fun h => by omega⟩
theorem neg_lt0 {i j : Nat} (hi : i < 2147483648) (hj : j < 2147483648) : (-n32 j < n32 i) = (0 < i + j) := by
  rw [Int32.lt_iff_toInt_lt, n32_int hi, neg_int hj]
  exact propext ⟨fun h => by omega, fun h => by omega⟩
theorem neg_lt1 {i j : Nat} (hi : i < 2147483648) (hj : j < 2147483648) : (n32 i < -n32 j) = False := by
  rw [Int32.lt_iff_toInt_lt, n32_int hi, neg_int hj]
  exact eq_false (fun h => by omega)
theorem neg_le1 {i j : Nat} (hi : i < 2147483648) (hj : j < 2147483648) : (-n32 j ≤ n32 i) = True := by
  rw [Int32.le_iff_toInt_le, n32_int hi, neg_int hj]
  exact eq_true (by omega)
theorem n32_ix {i n : Nat} (hi : i < 2147483648) : (ixd (n32 i) n = true) = (i < n) := by
  unfold ixd
  rw [n32_int hi]
  simp only [Bool.and_eq_true, decide_eq_true_eq]
  exact propext ⟨fun h => by omega, fun h => by omega⟩
theorem n32_of {x : Int32} {n : Nat} (h0 : 0 ≤ x.toInt) (h1 : x.toInt < (n : Int)) : ∃ i : Nat, i < n ∧ x = n32 i := by
  refine ⟨x.toNatClampNeg, ?_, (Int32.ofNat_toNatClampNeg x ?_).symm⟩
  · show x.toInt.toNat < n
    omega
  · rw [Int32.le_iff_toInt_le]
    exact h0
theorem n32_of2 {x : Int32} {lo hi : Nat} (h0 : (lo : Int) ≤ x.toInt) (h1 : x.toInt ≤ (hi : Int)) : ∃ i : Nat, lo ≤ i ∧ i ≤ hi ∧ x = n32 i := by
  obtain ⟨i, h2, h3⟩ := n32_of (x := x) (n := hi + 1) (by omega) (by omega)
  refine ⟨i, ?_, by omega, h3⟩
  have h4 := x.toInt_lt
  by_cases h5 : i < 2147483648
  · rw [h3, n32_int h5] at h0
    omega
  · omega
theorem n32_min {i j : Nat} (hi : i < 2147483648) (hj : j < 2147483648) : f_J9_min_7cf53 (n32 i) (n32 j) = some (n32 (min i j)) := by
  unfold f_J9_min_7cf53
  simp only [n32_lt hj hi]
  split
  · rw [Nat.min_eq_right (by omega)]
  · rw [Nat.min_eq_left (by omega)]
theorem n32_max {i j : Nat} (hi : i < 2147483648) (hj : j < 2147483648) : f_J9_max_7cf53 (n32 i) (n32 j) = some (n32 (max i j)) := by
  unfold f_J9_max_7cf53
  simp only [n32_lt hi hj]
  split
  · rw [Nat.max_eq_right (by omega)]
  · rw [Nat.max_eq_left (by omega)]
theorem within_eq (x a b : Int32) : f_X9_within x a b = some (if a.toInt ≤ x.toInt ∧ x.toInt ≤ b.toInt then n32 1 else n32 0) := by
  unfold f_X9_within
  simp only [Int32.lt_iff_toInt_lt]
  by_cases h1 : x.toInt < a.toInt
  · rw [if_pos h1, if_neg (by omega)]; rfl
  · rw [if_neg h1]
    by_cases h2 : b.toInt < x.toInt
    · rw [if_pos h2, if_neg (by omega)]; rfl
    · rw [if_neg h2, if_pos (by omega)]; rfl
theorem in_eq (x a b : Int64) : f_X10_in x a b = some (if a.toInt ≤ x.toInt ∧ x.toInt ≤ b.toInt then n32 1 else n32 0) := by
  unfold f_X10_in lg_cmp
  simp only [gt_iff_lt, Int64.lt_iff_toInt_lt, ← Int64.toInt_inj]
  by_cases h1 : x.toInt < a.toInt
  · rw [if_neg (show ¬ a.toInt < x.toInt by omega), if_neg (show ¬ x.toInt = a.toInt by omega), if_pos (by decide), if_neg (by omega)]; rfl
  · rw [if_neg (show ¬ (if a.toInt < x.toInt then (1 : Int32) else if x.toInt = a.toInt then 0 else -1) < 0 by
      by_cases h2 : a.toInt < x.toInt
      · rw [if_pos h2]; decide
      · rw [if_neg h2, if_pos (by omega)]; decide)]
    by_cases h2 : b.toInt < x.toInt
    · rw [if_pos h2, if_pos (by decide), if_neg (by omega)]; rfl
    · rw [if_neg h2]
      by_cases h3 : x.toInt = b.toInt
      · rw [if_pos h3, if_neg (by decide), if_pos (by omega)]; rfl
      · rw [if_neg h3, if_neg (by decide), if_pos (by omega)]; rfl
theorem l64 (n : Nat) (h : n < 2147483648) : (@OfNat.ofNat Int64 n Int64.instOfNat).toInt = (n : Int) := by
  show (Int64.ofNat n).toInt = _
  exact Int64.toInt_ofNat_of_lt (by omega)
/-! writing and reading -/
theorem sI_i {h : HP} {a j b i : Nat} {v : Int32} : (setI h a j v).2.1 b i = if b = a ∧ i = j then v else h.2.1 b i := by
  unfold setI va_up
  show (if b = a then (fun k => if k = j then v else h.2.1 a k) else h.2.1 b) i = _
  by_cases h1 : b = a
  · subst h1
    simp
  · simp [h1]
theorem sI_eq {h : HP} {a j : Nat} {v : Int32} : (setI h a j v).2.1 a j = v := by rw [sI_i, if_pos ⟨rfl, rfl⟩]
theorem sI_ne {h : HP} {a j b i : Nat} {v : Int32} (hn : ¬ (b = a ∧ i = j)) : (setI h a j v).2.1 b i = h.2.1 b i := by rw [sI_i, if_neg hn]
theorem sI_s {h : HP} {a j : Nat} {v : Int32} : (setI h a j v).1 = h.1 := rfl
theorem sI_J {h : HP} {a j : Nat} {v : Int32} : (setI h a j v).2.2.1 = h.2.2.1 := rfl
theorem sI_R {h : HP} {a j : Nat} {v : Int32} : (setI h a j v).2.2.2 = h.2.2.2 := rfl
theorem sI_kO {h : HP} {a j b k : Nat} {v : Int32} : kO (setI h a j v) b k = kO h b k := rfl
theorem sI_rK {h : HP} {a j b i k : Nat} {v : Int32} : rK (setI h a j v) b i k = rK h b i k := rfl
theorem sI_len {h : HP} {a j b : Nat} {v : Int32} : lenH (setI h a j v) b = lenH h b := rfl
theorem sJ_i {h : HP} {a j b i : Nat} {v : Int64} : (setJ h a j v).2.2.1 b i = if b = a ∧ i = j then v else h.2.2.1 b i := by
  unfold setJ va_up
  show (if b = a then (fun k => if k = j then v else h.2.2.1 a k) else h.2.2.1 b) i = _
  by_cases h1 : b = a
  · subst h1
    simp
  · simp [h1]
theorem sJ_eq {h : HP} {a j : Nat} {v : Int64} : (setJ h a j v).2.2.1 a j = v := by rw [sJ_i, if_pos ⟨rfl, rfl⟩]
theorem sJ_ne {h : HP} {a j b i : Nat} {v : Int64} (hn : ¬ (b = a ∧ i = j)) : (setJ h a j v).2.2.1 b i = h.2.2.1 b i := by rw [sJ_i, if_neg hn]
theorem sJ_I {h : HP} {a j : Nat} {v : Int64} : (setJ h a j v).2.1 = h.2.1 := rfl
theorem sJ_kO {h : HP} {a j b k : Nat} {v : Int64} : kO (setJ h a j v) b k = kO h b k := rfl
theorem sJ_rK {h : HP} {a j b i k : Nat} {v : Int64} : rK (setJ h a j v) b i k = rK h b i k := rfl
theorem sJ_len {h : HP} {a j b : Nat} {v : Int64} : lenH (setJ h a j v) b = lenH h b := rfl
/-- of one shape and one set of references -/
def sm (h h' : HP) : Prop := h'.1 = h.1 ∧ h'.2.2.2 = h.2.2.2
theorem sm_kO {h h' : HP} (s : sm h h') {b k : Nat} : kO h' b k = kO h b k := by unfold kO; rw [s.1]
theorem sm_len {h h' : HP} (s : sm h h') {b : Nat} : lenH h' b = lenH h b := by unfold lenH; rw [s.1]
theorem sm_rK {h h' : HP} (s : sm h h') {b i k : Nat} : rK h' b i k = rK h b i k := by
  unfold rK
  rw [s.2]
  simp only [sm_kO s]
/-! regions -/
def rs (j : Nat) : Nat := if j = 0 then 50 else if j = 1 then 22 else if j = 3 then 23 else if j = 4 then 27 else if j = 5 then 24 else if j = 12 then 21 else if j = 21 then 25 else if j = 25 then 26 else if j = 27 then 41 else if j = 37 then 42 else if j = 39 then 28 else if j = 44 then 43 else 40
def rc (a : Nat) : Nat := if a < 1 then 0 else if a < 3 then 1 else if a < 5 then 2 else if a < 12 then 3 else if a < 19 then 4 else if a < 26 then 5 else if a < 133 then 6 else if a < 155 then 7 else if a < 156 then 8 else if a < 163 then 9 else if a < 165 then 10 else if a < 168 then 11 else if a < 169 then 12 else if a < 170 then 13 else if a < 173 then 14 else if a < 176 then 15 else if a < 178 then 16 else if a < 182 then 17 else if a < 184 then 18 else if a < 188 then 19 else if a < 190 then 22 else if a < 192 then 24 else if a < 193 then 29 else if a < 194 then 30 else if a < 195 then 31 else if a < 196 then 21 else if a < 198 then 40 else if a < 199 then 25 else if a < 200 then 40 else if a < 202 then 32 else if a < 203 then 26 else if a < 204 then 47 else if a < 208 then 33 else if a < 211 then 42 else if a < 212 then 44 else if a < 214 then 28 else if a < 215 then 45 else if a < 216 then 46 else if a < 219 then 27 else 60
def reg (a j : Nat) : Nat := if a = 188 then rs j else rc a
theorem reg_c {a j : Nat} (h : a ≠ 188) : reg a j = rc a := if_neg h
/-- only these regions may have changed -/
def fr (R : List Nat) (h h' : HP) : Prop := sm h h' ∧ ∀ a j, R.contains (reg a j) = false → h'.2.1 a j = h.2.1 a j ∧ h'.2.2.1 a j = h.2.2.1 a j
theorem fr.rf (R : List Nat) (h : HP) : fr R h h := ⟨⟨rfl, rfl⟩, fun _ _ _ => ⟨rfl, rfl⟩⟩
theorem fr.mono {R R' : List Nat} {h h' : HP} (f : fr R h h') (s : R.all (fun x => R'.contains x) = true) : fr R' h h' := by
  refine ⟨f.1, fun a j hr => f.2 a j ?_⟩
  cases hc : R.contains (reg a j) with
  | false => rfl
  | true =>
    have h1 := List.all_eq_true.mp s (reg a j) (by simpa using hc)
    rw [hr] at h1
    cases h1
theorem fr.tr {R : List Nat} {h h1 h2 : HP} (f : fr R h h1) (g : fr R h1 h2) : fr R h h2 := by
  refine ⟨⟨g.1.1.trans f.1.1, g.1.2.trans f.1.2⟩, fun a j hr => ⟨?_, ?_⟩⟩
  · rw [(g.2 a j hr).1, (f.2 a j hr).1]
  · rw [(g.2 a j hr).2, (f.2 a j hr).2]
theorem fr.I {R : List Nat} {h h' : HP} (f : fr R h h') (a j : Nat) (hr : R.contains (reg a j) = false) : h'.2.1 a j = h.2.1 a j := (f.2 a j hr).1
theorem fr.J {R : List Nat} {h h' : HP} (f : fr R h h') (a j : Nat) (hr : R.contains (reg a j) = false) : h'.2.2.1 a j = h.2.2.1 a j := (f.2 a j hr).2
theorem fr.sI {R : List Nat} {h h' : HP} (f : fr R h h') {a j : Nat} {v : Int32} (hr : R.contains (reg a j) = true) : fr R h (setI h' a j v) := by
  refine ⟨f.1, fun b i hb => ⟨?_, (f.2 b i hb).2⟩⟩
  rw [sI_ne (fun q => by rw [q.1, q.2, hr] at hb; cases hb)]
  exact (f.2 b i hb).1
theorem fr.sJ {R : List Nat} {h h' : HP} (f : fr R h h') {a j : Nat} {v : Int64} (hr : R.contains (reg a j) = true) : fr R h (setJ h' a j v) := by
  refine ⟨f.1, fun b i hb => ⟨(f.2 b i hb).1, ?_⟩⟩
  rw [sJ_ne (fun q => by rw [q.1, q.2, hr] at hb; cases hb)]
  exact (f.2 b i hb).2
