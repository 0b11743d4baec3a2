/-! ===== the words of the functions that the methods are ===== -/
def bnd {α β : Type} (o : Option α) (f : α → Option β) : Option β := match o with
  | some a => f a
  | none => none
theorem bnd_some {α β : Type} {o : Option α} {f : α → Option β} {r : β} (h : bnd o f = some r) : ∃ a, o = some a ∧ f a = some r := by
  cases o with
  | none => cases h
  | some a => exact ⟨a, rfl, h⟩
def bnd2 {α β : Type} (o : Option (α × HP)) (f : α → HP → Option β) : Option β := match o with
  | some q => f q.1 q.2
  | none => none
theorem bnd2_some {α β : Type} {o : Option (α × HP)} {f : α → HP → Option β} {r : β} (h : bnd2 o f = some r) : ∃ (a : α) (h1 : HP), o = some (a, h1) ∧ f a h1 = some r := by
  cases o with
  | none => cases h
  | some a => exact ⟨a.1, a.2, rfl, h⟩
def gP {β : Type} (c : Prop) [Decidable c] (o : Option β) : Option β := if c then o else none
theorem gP_some {β : Type} {c : Prop} [Decidable c] {o : Option β} {r : β} (h : gP c o = some r) : c ∧ o = some r := by
  unfold gP at h
  by_cases hc : c
  · rw [if_pos hc] at h; exact ⟨hc, h⟩
  · rw [if_neg hc] at h; cases h
def lt_ {α β : Type} (a : α) (f : α → β) : β := f a
theorem lt_some {α β : Type} {a : α} {f : α → β} {r : β} (h : lt_ a f = r) : ∃ v, v = a ∧ f v = r := ⟨a, rfl, h⟩
theorem ite_t {β : Type} {c : Prop} [Decidable c] {a b r : β} (hc : c) (h : (if c then a else b) = r) : a = r := by rw [if_pos hc] at h; exact h
theorem ite_f {β : Type} {c : Prop} [Decidable c] {a b r : β} (hc : ¬ c) (h : (if c then a else b) = r) : b = r := by rw [if_neg hc] at h; exact h
def jn {K R : Type} (rest : K) (body : K → R) : R := body rest
theorem jn0_some {R : Type} {rest : R} {body : R → R} {r : R} (h : jn rest body = r) : ∃ k, k = rest ∧ body k = r := ⟨rest, rfl, h⟩
theorem jn1_some {A R : Type} {rest : A → R} {body : (A → R) → R} {r : R} (h : jn rest body = r) : ∃ k, (∀ a, k a = rest a) ∧ body k = r := ⟨rest, fun _ => rfl, h⟩
theorem jn2_some {A B R : Type} {rest : A → B → R} {body : (A → B → R) → R} {r : R} (h : jn rest body = r) : ∃ k, (∀ a b, k a b = rest a b) ∧ body k = r := ⟨rest, fun _ _ => rfl, h⟩
theorem jn3_some {A B C R : Type} {rest : A → B → C → R} {body : (A → B → C → R) → R} {r : R} (h : jn rest body = r) : ∃ k, (∀ a b c, k a b c = rest a b c) ∧ body k = r := ⟨rest, fun _ _ _ => rfl, h⟩
theorem jn4_some {A B C D R : Type} {rest : A → B → C → D → R} {body : (A → B → C → D → R) → R} {r : R} (h : jn rest body = r) : ∃ k, (∀ a b c d, k a b c d = rest a b c d) ∧ body k = r := ⟨rest, fun _ _ _ _ => rfl, h⟩
theorem jn5_some {A B C D E R : Type} {rest : A → B → C → D → E → R} {body : (A → B → C → D → E → R) → R} {r : R} (h : jn rest body = r) : ∃ k, (∀ a b c d e, k a b c d e = rest a b c d e) ∧ body k = r := ⟨rest, fun _ _ _ _ _ => rfl, h⟩
def lp {K : Type} (z : K) (b : K → K) : Nat → K
  | 0 => z
  | n + 1 => b (lp z b n)
def lenH (h : HP) (a : Nat) : Nat := match h.1[a]? with
  | some q => q.2
  | none => 0
def kO (h : HP) (a k : Nat) : Bool := match h.1[a]? with
  | some q => q.1 == k
  | none => false
def rK (h : HP) (a j k : Nat) : Option Nat := match h.2.2.2 a j with
  | some t => if kO h t k = true then some t else none
  | none => none
def ixd (i : Int32) (n : Nat) : Bool := decide (0 ≤ i.toInt) && decide (i.toInt < n)
def zb (v : Int32) : Int32 := vp_nar .boolean v
def cb (v : Int32) : Int32 := vp_nar .char v
theorem kO_some {h : HP} {a k : Nat} (e : kO h a k = true) : ∃ n, h.1[a]? = some (k, n) := by
  unfold kO at e
  cases hq : h.1[a]? with
  | none => rw [hq] at e; cases e
  | some q =>
    rw [hq] at e
    obtain ⟨q1, q2⟩ := q
    have e1 : q1 = k := by simpa using e
    exact ⟨q2, by rw [e1]⟩
theorem rK_some {h : HP} {a j k t : Nat} (e : rK h a j k = some t) : h.2.2.2 a j = some t ∧ ∃ n, h.1[t]? = some (k, n) := by
  unfold rK at e
  cases hq : h.2.2.2 a j with
  | none => rw [hq] at e; cases e
  | some q =>
    rw [hq] at e
    by_cases hc : kO h q k = true
    · have e2 : some q = some t := (if_pos hc).symm.trans e
      cases e2
      exact ⟨rfl, kO_some hc⟩
    · exact absurd ((if_neg hc).symm.trans e) (by simp)
theorem len_of {h : HP} {a k n : Nat} (fa : h.1[a]? = some (k, n)) : lenH h a = n := by unfold lenH; rw [fa]
theorem ix_of {h : HP} {a k n : Nat} {i : Int32} (fa : h.1[a]? = some (k, n)) (hi : ixd i (lenH h a) = true) : vp_in i n := by
  rw [len_of fa] at hi
  unfold ixd at hi
  simp only [Bool.and_eq_true, decide_eq_true_eq] at hi
  exact vp_in_iff.mpr hi
theorem sh_of {h h0 : HP} {a : Nat} {q : Nat × Nat} (e : h.1 = h0.1) (ha : h0.1[a]? = some q) : h.1[a]? = some q := by rw [e]; exact ha
/-! what a method answers -/
def QI (v : Int32) (h1 : HP) : Option Value → HP → Prop := fun r h' => r = some (.int v) ∧ h' = h1
def QJ (v : Int64) (h1 : HP) : Option Value → HP → Prop := fun r h' => r = some (.long v) ∧ h' = h1
def QR (v : Nat) (h1 : HP) : Option Value → HP → Prop := fun r h' => r = some (.ref v) ∧ h' = h1
def QV (h1 : HP) : Option Value → HP → Prop := fun r h' => r = none ∧ h' = h1
theorem re2I {e : Int32} {h : HP} {rr : Int32 × HP} (hq : some (e, h) = some rr) : QI rr.1 rr.2 (some (.int e)) h := by cases hq; exact ⟨rfl, rfl⟩
theorem re1I {e rv : Int32} {h : HP} (hq : some e = some rv) : QI rv h (some (.int e)) h := by cases hq; exact ⟨rfl, rfl⟩
theorem re2J {e : Int64} {h : HP} {rr : Int64 × HP} (hq : some (e, h) = some rr) : QJ rr.1 rr.2 (some (.long e)) h := by cases hq; exact ⟨rfl, rfl⟩
theorem re1J {e rv : Int64} {h : HP} (hq : some e = some rv) : QJ rv h (some (.long e)) h := by cases hq; exact ⟨rfl, rfl⟩
theorem re1R {e rv : Nat} {h : HP} (hq : some e = some rv) : QR rv h (some (.ref e)) h := by cases hq; exact ⟨rfl, rfl⟩
theorem re2R {e : Nat} {h : HP} {rr : Nat × HP} (hq : some (e, h) = some rr) : QR rr.1 rr.2 (some (.ref e)) h := by cases hq; exact ⟨rfl, rfl⟩
theorem reV {h rh : HP} (hq : some h = some rh) : QV rh none h := by cases hq; exact ⟨rfl, rfl⟩
theorem nb_z {v : Int32} (h : v = 0 ∨ v = 1) : narrow .boolean (.int v) = .int v := by rcases h with rfl | rfl <;> rfl
section Nm
variable {x : Cx} {pc : Nat} {L L' : List (Nat × Value)} {st : List Value} {h : HP}
theorem wp_nmI {v e : Int32} (ev : v = e) (kk : wp x pc L (.int v :: st) h) : wp x pc L (.int e :: st) h := by subst ev; exact kk
theorem wp_nmJ {v e : Int64} (ev : v = e) (kk : wp x pc L (.long v :: st) h) : wp x pc L (.long e :: st) h := by subst ev; exact kk
theorem wp_nmH {v e : HP} (ev : v = e) (kk : wp x pc L st v) : wp x pc L st e := by subst ev; exact kk
theorem wp_sub (is : List Nat) (hs : lv_pick L is = L') (kk : wp x pc L' st h) : wp x pc L st h := by
  obtain ⟨p, l, e, R, s, m, args, below, meth, c, fin, D, cA, A, ad, kc, ks⟩ := x
  intro H locs ls hP hD hS hl
  refine kk H locs ls hP hD hS (lv_sub hl is ?_)
  subst hs
  show lv_pick (L.map _) is = (lv_pick L is).map _
  unfold lv_pick
  rw [List.map_filterMap]
  congr 1
  funext k
  simp
end Nm
section CallsF
variable {x : Cx} {cc : ByteArray} {own : String} {nL f pc : Nat} {L : List (Nat × Value)} {st rest : List Value} {h h1 : HP} {y : MethodName} {cy : ByteArray} {nLy fy index n : Nat} {ret : Option FieldType} {As : List Value}
theorem wp_callVI (ok : Okx x cc own nL f) {ci k a : Nat} {T : u_T} {M : Nat} {v : Int32} (hm : Mt (cxl x) y cy nLy ret fy (.ref a :: As) h (QI v h1)) (my : MyV y cy nLy ret) (hlink : Cond.methodLink own index y ∈ gw) (hd : (parseMethodDescriptor y.desc).map (fun d => d.parameters.length) = some n) (hf : fy + 1 ≤ f) (hnL : Nat.ble nLy 21 = true)
    (hc : vwCl[ci]? = some (y.cls, T, M)) (h100 : ci < 100) (ha : h.1[a]? = some (ci, k)) (hn : As.length = n) (hst : st = As.reverse ++ .ref a :: rest) (hr : Nat.ble (rest.map fun v => v.category).sum 8 = true) (d : decode cc pc = .ok (.invokevirtual index, 3))
    (kk : h1.1 = h.1 → wp x (pc + 3) L (.int v :: rest) h1) : wp x pc L st h :=
  wp_callV ok hm my hlink hd hf hnL hc h100 ha hn hst hr d (fun r h' hQ e => by obtain ⟨rfl, rfl⟩ := hQ; exact kk e)
theorem wp_callSI (ok : Okx x cc own nL f) {v : Int32} (hm : Mt (cxl x) y cy nLy ret fy As h (QI v h1)) (my : MyS y cy nLy ret) (hlink : Cond.methodLink own index y ∈ gw) (hd : (parseMethodDescriptor y.desc).map (fun d => d.parameters.length) = some n) (hf : fy + 1 ≤ f) (hnL : Nat.ble nLy 21 = true)
    (hn : As.length = n) (hst : st = As.reverse ++ rest) (hr : Nat.ble (rest.map fun v => v.category).sum 8 = true) (d : decode cc pc = .ok (.invokestatic index, 3))
    (kk : h1.1 = h.1 → wp x (pc + 3) L (.int v :: rest) h1) : wp x pc L st h :=
  wp_callS ok hm my hlink hd hf hnL hn hst hr d (fun r h' hQ e => by obtain ⟨rfl, rfl⟩ := hQ; exact kk e)
theorem wp_callNI (ok : Okx x cc own nL f) {v : Int32} {host : String} (hm : Mt (cxl x) y cy nLy ret fy As h (QI v h1)) (my : MyS y cy nLy ret) (hlink : (own, index, y, host) ∈ nestM) (hd : (parseMethodDescriptor y.desc).map (fun d => d.parameters.length) = some n) (hf : fy + 1 ≤ f) (hnL : Nat.ble nLy 21 = true)
    (hn : As.length = n) (hst : st = As.reverse ++ rest) (hr : Nat.ble (rest.map fun v => v.category).sum 8 = true) (d : decode cc pc = .ok (.invokestatic index, 3))
    (kk : h1.1 = h.1 → wp x (pc + 3) L (.int v :: rest) h1) : wp x pc L st h :=
  wp_callN ok hm my hlink hd hf hnL hn hst hr d (fun r h' hQ e => by obtain ⟨rfl, rfl⟩ := hQ; exact kk e)
theorem wp_callVJ (ok : Okx x cc own nL f) {ci k a : Nat} {T : u_T} {M : Nat} {v : Int64} (hm : Mt (cxl x) y cy nLy ret fy (.ref a :: As) h (QJ v h1)) (my : MyV y cy nLy ret) (hlink : Cond.methodLink own index y ∈ gw) (hd : (parseMethodDescriptor y.desc).map (fun d => d.parameters.length) = some n) (hf : fy + 1 ≤ f) (hnL : Nat.ble nLy 21 = true)
    (hc : vwCl[ci]? = some (y.cls, T, M)) (h100 : ci < 100) (ha : h.1[a]? = some (ci, k)) (hn : As.length = n) (hst : st = As.reverse ++ .ref a :: rest) (hr : Nat.ble (rest.map fun v => v.category).sum 8 = true) (d : decode cc pc = .ok (.invokevirtual index, 3))
    (kk : h1.1 = h.1 → wp x (pc + 3) L (.long v :: rest) h1) : wp x pc L st h :=
  wp_callV ok hm my hlink hd hf hnL hc h100 ha hn hst hr d (fun r h' hQ e => by obtain ⟨rfl, rfl⟩ := hQ; exact kk e)
theorem wp_callSJ (ok : Okx x cc own nL f) {v : Int64} (hm : Mt (cxl x) y cy nLy ret fy As h (QJ v h1)) (my : MyS y cy nLy ret) (hlink : Cond.methodLink own index y ∈ gw) (hd : (parseMethodDescriptor y.desc).map (fun d => d.parameters.length) = some n) (hf : fy + 1 ≤ f) (hnL : Nat.ble nLy 21 = true)
    (hn : As.length = n) (hst : st = As.reverse ++ rest) (hr : Nat.ble (rest.map fun v => v.category).sum 8 = true) (d : decode cc pc = .ok (.invokestatic index, 3))
    (kk : h1.1 = h.1 → wp x (pc + 3) L (.long v :: rest) h1) : wp x pc L st h :=
  wp_callS ok hm my hlink hd hf hnL hn hst hr d (fun r h' hQ e => by obtain ⟨rfl, rfl⟩ := hQ; exact kk e)
theorem wp_callNJ (ok : Okx x cc own nL f) {v : Int64} {host : String} (hm : Mt (cxl x) y cy nLy ret fy As h (QJ v h1)) (my : MyS y cy nLy ret) (hlink : (own, index, y, host) ∈ nestM) (hd : (parseMethodDescriptor y.desc).map (fun d => d.parameters.length) = some n) (hf : fy + 1 ≤ f) (hnL : Nat.ble nLy 21 = true)
    (hn : As.length = n) (hst : st = As.reverse ++ rest) (hr : Nat.ble (rest.map fun v => v.category).sum 8 = true) (d : decode cc pc = .ok (.invokestatic index, 3))
    (kk : h1.1 = h.1 → wp x (pc + 3) L (.long v :: rest) h1) : wp x pc L st h :=
  wp_callN ok hm my hlink hd hf hnL hn hst hr d (fun r h' hQ e => by obtain ⟨rfl, rfl⟩ := hQ; exact kk e)
theorem wp_callVR (ok : Okx x cc own nL f) {ci k a : Nat} {T : u_T} {M : Nat} {v : Nat} (hm : Mt (cxl x) y cy nLy ret fy (.ref a :: As) h (QR v h1)) (my : MyV y cy nLy ret) (hlink : Cond.methodLink own index y ∈ gw) (hd : (parseMethodDescriptor y.desc).map (fun d => d.parameters.length) = some n) (hf : fy + 1 ≤ f) (hnL : Nat.ble nLy 21 = true)
    (hc : vwCl[ci]? = some (y.cls, T, M)) (h100 : ci < 100) (ha : h.1[a]? = some (ci, k)) (hn : As.length = n) (hst : st = As.reverse ++ .ref a :: rest) (hr : Nat.ble (rest.map fun v => v.category).sum 8 = true) (d : decode cc pc = .ok (.invokevirtual index, 3))
    (kk : h1.1 = h.1 → wp x (pc + 3) L (.ref v :: rest) h1) : wp x pc L st h :=
  wp_callV ok hm my hlink hd hf hnL hc h100 ha hn hst hr d (fun r h' hQ e => by obtain ⟨rfl, rfl⟩ := hQ; exact kk e)
theorem wp_callSR (ok : Okx x cc own nL f) {v : Nat} (hm : Mt (cxl x) y cy nLy ret fy As h (QR v h1)) (my : MyS y cy nLy ret) (hlink : Cond.methodLink own index y ∈ gw) (hd : (parseMethodDescriptor y.desc).map (fun d => d.parameters.length) = some n) (hf : fy + 1 ≤ f) (hnL : Nat.ble nLy 21 = true)
    (hn : As.length = n) (hst : st = As.reverse ++ rest) (hr : Nat.ble (rest.map fun v => v.category).sum 8 = true) (d : decode cc pc = .ok (.invokestatic index, 3))
    (kk : h1.1 = h.1 → wp x (pc + 3) L (.ref v :: rest) h1) : wp x pc L st h :=
  wp_callS ok hm my hlink hd hf hnL hn hst hr d (fun r h' hQ e => by obtain ⟨rfl, rfl⟩ := hQ; exact kk e)
theorem wp_callNR (ok : Okx x cc own nL f) {v : Nat} {host : String} (hm : Mt (cxl x) y cy nLy ret fy As h (QR v h1)) (my : MyS y cy nLy ret) (hlink : (own, index, y, host) ∈ nestM) (hd : (parseMethodDescriptor y.desc).map (fun d => d.parameters.length) = some n) (hf : fy + 1 ≤ f) (hnL : Nat.ble nLy 21 = true)
    (hn : As.length = n) (hst : st = As.reverse ++ rest) (hr : Nat.ble (rest.map fun v => v.category).sum 8 = true) (d : decode cc pc = .ok (.invokestatic index, 3))
    (kk : h1.1 = h.1 → wp x (pc + 3) L (.ref v :: rest) h1) : wp x pc L st h :=
  wp_callN ok hm my hlink hd hf hnL hn hst hr d (fun r h' hQ e => by obtain ⟨rfl, rfl⟩ := hQ; exact kk e)
theorem wp_callVV (ok : Okx x cc own nL f) {ci k a : Nat} {T : u_T} {M : Nat} (hm : Mt (cxl x) y cy nLy ret fy (.ref a :: As) h (QV h1)) (my : MyV y cy nLy ret) (hlink : Cond.methodLink own index y ∈ gw) (hd : (parseMethodDescriptor y.desc).map (fun d => d.parameters.length) = some n) (hf : fy + 1 ≤ f) (hnL : Nat.ble nLy 21 = true)
    (hc : vwCl[ci]? = some (y.cls, T, M)) (h100 : ci < 100) (ha : h.1[a]? = some (ci, k)) (hn : As.length = n) (hst : st = As.reverse ++ .ref a :: rest) (hr : Nat.ble (rest.map fun v => v.category).sum 8 = true) (d : decode cc pc = .ok (.invokevirtual index, 3))
    (kk : h1.1 = h.1 → wp x (pc + 3) L (rest) h1) : wp x pc L st h :=
  wp_callV ok hm my hlink hd hf hnL hc h100 ha hn hst hr d (fun r h' hQ e => by obtain ⟨rfl, rfl⟩ := hQ; exact kk e)
theorem wp_callSV (ok : Okx x cc own nL f) (hm : Mt (cxl x) y cy nLy ret fy As h (QV h1)) (my : MyS y cy nLy ret) (hlink : Cond.methodLink own index y ∈ gw) (hd : (parseMethodDescriptor y.desc).map (fun d => d.parameters.length) = some n) (hf : fy + 1 ≤ f) (hnL : Nat.ble nLy 21 = true)
    (hn : As.length = n) (hst : st = As.reverse ++ rest) (hr : Nat.ble (rest.map fun v => v.category).sum 8 = true) (d : decode cc pc = .ok (.invokestatic index, 3))
    (kk : h1.1 = h.1 → wp x (pc + 3) L (rest) h1) : wp x pc L st h :=
  wp_callS ok hm my hlink hd hf hnL hn hst hr d (fun r h' hQ e => by obtain ⟨rfl, rfl⟩ := hQ; exact kk e)
theorem wp_callNV (ok : Okx x cc own nL f) {host : String} (hm : Mt (cxl x) y cy nLy ret fy As h (QV h1)) (my : MyS y cy nLy ret) (hlink : (own, index, y, host) ∈ nestM) (hd : (parseMethodDescriptor y.desc).map (fun d => d.parameters.length) = some n) (hf : fy + 1 ≤ f) (hnL : Nat.ble nLy 21 = true)
    (hn : As.length = n) (hst : st = As.reverse ++ rest) (hr : Nat.ble (rest.map fun v => v.category).sum 8 = true) (d : decode cc pc = .ok (.invokestatic index, 3))
    (kk : h1.1 = h.1 → wp x (pc + 3) L (rest) h1) : wp x pc L st h :=
  wp_callN ok hm my hlink hd hf hnL hn hst hr d (fun r h' hQ e => by obtain ⟨rfl, rfl⟩ := hQ; exact kk e)
end CallsF
