/-! ===== a rule's text: by operators that wait, and by descent ===== -/
def opL : List Nat := [60, 62, 61, 43, 45, 42, 47]
def leL : List Nat := [111, 110, 103, 100, 109, 104]
abbrev opx (s : Nat) : Nat := fi opL s
abbrev lex (s : Nat) : Nat := fi leL s
def rko (i : Nat) : Nat := if i ≤ 2 then 1 else if i ≤ 4 then 2 else 3
def rk (c : Nat) : Nat := if c = 2008 then 0 else if c ≤ 2002 then 1 else if c ≤ 2004 then 2 else if c = 2007 then 4 else 3
theorem rk_op {i : Nat} (h : i < 7) : rk (2000 + i) = rko i := by
  rcases (show i = 0 ∨ i = 1 ∨ i = 2 ∨ i = 3 ∨ i = 4 ∨ i = 5 ∨ i = 6 by omega) with rfl | rfl | rfl | rfl | rfl | rfl | rfl <;> rfl
def rel (r : Nat) : List Nat → List Nat → List Nat × List Nat
  | [], S => (S, [])
  | w :: W, S => if rk w < r then (S, w :: W) else rel r W (S ++ [w])
theorem rel_app {r : Nat} : ∀ (V W S : List Nat), (∀ v, v ∈ V → r ≤ rk v) → (∀ w W', W = w :: W' → rk w < r) → rel r (V ++ W) S = (S ++ V, W) := by
  intro V
  induction V with
  | nil =>
    intro W S hv hw
    cases W with
    | nil => simp [rel]
    | cons w W' =>
      show (if rk w < r then (S, w :: W') else rel r W' (S ++ [w])) = _
      rw [if_pos (hw w W' rfl), List.append_nil]
  | cons v V ih =>
    intro W S hv hw
    have h1 := hv v (List.mem_cons_self ..)
    show (if rk v < r then (S, v :: (V ++ W)) else rel r (V ++ W) (S ++ [v])) = _
    rw [if_neg (by omega), ih W (S ++ [v]) (fun x hx => hv x (List.mem_cons_of_mem _ hx)) hw, List.append_assoc]
    rfl
def cset (c : Nat → Bool) (j : Nat) (v : Bool) : Nat → Bool := fun i => if i = j then v else c i
theorem cset_eq {c : Nat → Bool} {j : Nat} {v : Bool} : cset c j v j = v := if_pos rfl
theorem cset_ne {c : Nat → Bool} {i j : Nat} {v : Bool} (h : i ≠ j) : cset c j v i = c i := if_neg h
abbrev MS : Type := List Nat × List Nat × Nat × (Nat → Bool) × Bool × Nat
abbrev mW (s : MS) : List Nat := s.1
abbrev mS (s : MS) : List Nat := s.2.1
abbrev mo (s : MS) : Nat := s.2.2.1
abbrev mcm (s : MS) : Nat → Bool := s.2.2.2.1
abbrev md (s : MS) : Bool := s.2.2.2.2.1
abbrev mp (s : MS) : Nat := s.2.2.2.2.2
def spT (t : Nat → Nat) (E : Nat) (s : MS) : Option MS := if t (mp s) = 45 then some (2007 :: mW s, mS s, mo s, mcm s, true, mp s + 1) else if t (mp s) = 40 then (if mo s < 4 then some (2008 :: mW s, mS s, mo s + 1, cset (mcm s) (mo s + 1) false, true, mp s + 1) else none) else if lex (t (mp s)) < 6 then some (mW s, mS s ++ [1000 + lex (t (mp s))], mo s, mcm s, false, mp s + 1) else if 0 < dgN t E 3 (mp s) then some (mW s, mS s ++ [nm t (dgN t E 3 (mp s)) (mp s) 0], mo s, mcm s, false, mp s + dgN t E 3 (mp s)) else none
def spO (t : Nat → Nat) (s : MS) : Option MS := if t (mp s) = 41 then (if mo s = 0 then none else some ((rel 1 (mW s) (mS s)).2.tail, (rel 1 (mW s) (mS s)).1, mo s - 1, mcm s, false, mp s + 1)) else if opx (t (mp s)) < 7 then (if opx (t (mp s)) ≤ 2 ∧ mcm s (mo s) = true then none else some ((2000 + opx (t (mp s))) :: (rel (rko (opx (t (mp s)))) (mW s) (mS s)).2, (rel (rko (opx (t (mp s)))) (mW s) (mS s)).1, mo s, if opx (t (mp s)) ≤ 2 then cset (mcm s) (mo s) true else mcm s, true, mp s + 1)) else none
def sp (t : Nat → Nat) (E : Nat) (s : MS) : Option MS := if md s = true then spT t E s else spO t s
abbrev MRs : Type := Bool × Nat × List Nat
def mfin (E : Nat) (s : MS) : MRs := if md s = true ∨ 0 < mo s then (false, E, []) else (true, E, (rel 1 (mW s) (mS s)).1)
def mr (t : Nat → Nat) (E : Nat) : Nat → MS → MRs
  | 0, _ => (false, 0, [])
  | d + 1, s => if E ≤ mp s then mfin E s else match sp t E s with
    | none => (false, mp s, [])
    | some s' => mr t E d s'
theorem mr_f {t : Nat → Nat} {E d : Nat} {s : MS} : mr t E (d + 1) s = if E ≤ mp s then mfin E s else match sp t E s with
    | none => (false, mp s, [])
    | some s' => mr t E d s' := rfl
def Rn (t : Nat → Nat) (E : Nat) (s : MS) (R : MRs) : Prop := ∀ d, E < mp s + d → mr t E d s = R
theorem Rn_s {t : Nat → Nat} {E : Nat} {s s' : MS} {R : MRs} (h1 : mp s < E) (h2 : sp t E s = some s') (h3 : mp s < mp s') (h : Rn t E s' R) : Rn t E s R := by
  intro d hd
  obtain ⟨d', rfl⟩ : ∃ k, d = k + 1 := ⟨d - 1, by omega⟩
  rw [mr_f, if_neg (by omega), h2]
  exact h d' (by omega)
theorem Rn_f {t : Nat → Nat} {E : Nat} {s : MS} (h1 : mp s < E) (h2 : sp t E s = none) : Rn t E s (false, mp s, []) := by
  intro d hd
  obtain ⟨d', rfl⟩ : ∃ k, d = k + 1 := ⟨d - 1, by omega⟩
  rw [mr_f, if_neg (by omega), h2]
theorem Rn_e {t : Nat → Nat} {E : Nat} {s : MS} (h1 : mp s = E) : Rn t E s (mfin E s) := by
  intro d hd
  obtain ⟨d', rfl⟩ : ∃ k, d = k + 1 := ⟨d - 1, by omega⟩
  rw [mr_f, if_pos (by omega)]
def CW (k : Nat) (W : List Nat) : Prop := k = 3 ∨ ∀ w W', W = w :: W' → rk w ≤ k
def DP (L : List Nat) : Prop := ∀ M d, dep (L ++ M) d = dep M (d + 1)
def EX (t : Nat → Nat) (E k p : Nat) (c : Bool) : Prop := p < E → opx (t p) < 7 → rko (opx (t p)) ≤ k ∨ (k = 0 ∧ opx (t p) ≤ 2 ∧ c = true)
/-- refused -/
def PF (t : Nat → Nat) (E k o p p' : Nat) : Prop := p ≤ p' ∧ p' ≤ E ∧ ∀ W S cm, CW k W → (k = 0 → cm o = false) → Rn t E (W, S, o, cm, true, p) (false, p', [])
def PN (E p p' : Nat) (L : List Nat) : Prop := p < p' ∧ p' ≤ E ∧ L.length ≤ p' - p ∧ DP L
/-- read -/
def PTx (t : Nat → Nat) (E k o p p' : Nat) (L : List Nat) : Prop := PN E p p' L ∧ ∀ W S cm R, CW k W → (k = 0 → cm o = false) → (∀ V S' cm', (∀ v, v ∈ V → k < rk v) → S' ++ V = S ++ L → (∀ j, j < o → cm' j = cm j) → (0 < k → cm' o = cm o) → EX t E k p' (cm' o) → Rn t E (V ++ W, S', o, cm', false, p') R) → Rn t E (W, S, o, cm, true, p) R
/-- read up to an operator of order k -/
def PA (t : Nat → Nat) (E k o p p' : Nat) (L : List Nat) : Prop := PN E p p' L ∧ ∀ W S cm R, CW k W → (k = 0 → cm o = false) → (∀ V S' cm', (∀ v, v ∈ V → k < rk v) → S' ++ V = S ++ L → (∀ j, j < o → cm' j = cm j) → cm' o = cm o → EX t E (k + 1) p' true → Rn t E (V ++ W, S', o, cm', false, p') R) → Rn t E (W, S, o, cm, true, p) R
theorem DP_1 {c : Nat} (h : c < 1006) : DP [c] := fun M d => by
  show (if c < 1006 then dep M (d + 1) else _) = _
  exact if_pos h
theorem DP_n {L : List Nat} (h : DP L) : DP (L ++ [2007]) := fun M d => by
  rw [List.append_assoc, h]
  show (if 2007 < 1006 then _ else if 2007 < 2000 then none else if 2007 < 2007 then _ else if 2007 = 2007 then (if 1 ≤ d + 1 then dep M (d + 1) else none) else none) = _
  rw [if_neg (by omega), if_neg (by omega), if_neg (by omega), if_pos rfl, if_pos (by omega)]
theorem DP_o {L L2 : List Nat} {i : Nat} (h : DP L) (h2 : DP L2) (hi : i < 7) : DP (L ++ L2 ++ [2000 + i]) := fun M d => by
  rw [List.append_assoc, List.append_assoc, h, h2]
  show (if 2000 + i < 1006 then _ else if 2000 + i < 2000 then none else if 2000 + i < 2007 then (if 2 ≤ d + 1 + 1 then dep M (d + 1 + 1 - 1) else none) else _) = _
  rw [if_neg (by omega), if_neg (by omega), if_pos (by omega), if_pos (by omega)]
  rfl
theorem sp_d {t : Nat → Nat} {E : Nat} {W S : List Nat} {o p : Nat} {cm : Nat → Bool} : sp t E (W, S, o, cm, true, p) = spT t E (W, S, o, cm, true, p) := if_pos rfl
theorem sp_o {t : Nat → Nat} {E : Nat} {W S : List Nat} {o p : Nat} {cm : Nat → Bool} : sp t E (W, S, o, cm, false, p) = spO t (W, S, o, cm, false, p) := if_neg Bool.false_ne_true
theorem P_neg_f {t : Nat → Nat} {E o p p' : Nat} (hp : p < E) (ht : t p = 45) (h : PF t E 3 o (p + 1) p') : PF t E 3 o p p' := by
  obtain ⟨h1, h2, h3⟩ := h
  refine ⟨by omega, h2, fun W S cm _ _ => ?_⟩
  refine Rn_s (s' := (2007 :: W, S, o, cm, true, p + 1)) hp ?_ (by show p < p + 1; omega) (h3 _ _ _ (Or.inl rfl) (fun z => by omega))
  rw [sp_d]
  exact if_pos ht
theorem P_neg_t {t : Nat → Nat} {E o p p' : Nat} {L : List Nat} (hp : p < E) (ht : t p = 45) (h : PTx t E 3 o (p + 1) p' L) : PTx t E 3 o p p' (L ++ [2007]) := by
  obtain ⟨⟨n1, n2, n3, n4⟩, h3⟩ := h
  refine ⟨⟨by omega, n2, by rw [List.length_append]; show L.length + 1 ≤ _; omega, DP_n n4⟩, fun W S cm R _ _ K => ?_⟩
  refine Rn_s (s' := (2007 :: W, S, o, cm, true, p + 1)) hp ?_ (by show p < p + 1; omega) (h3 _ _ _ _ (Or.inl rfl) (fun z => by omega) (fun V S' cm' a1 a2 a3 a4 a5 => ?_))
  · rw [sp_d]
    exact if_pos ht
  · have := K (V ++ [2007]) S' cm' (fun v hv => by
      rcases List.mem_append.mp hv with hv | hv
      · exact a1 v hv
      · rw [List.mem_singleton.mp hv]; decide) (by rw [← List.append_assoc, a2, List.append_assoc]) a3 a4 a5
    rw [List.append_assoc] at this
    exact this
theorem ltr_all : (List.range 256).all (fun v => Nat.ble 6 (lex v) || (v != 45 && v != 40 && !(Nat.ble 48 v && Nat.ble v 57))) = true := by decide +kernel
theorem ltr_v {v : Nat} (hv : v < 256) (h : lex v < 6) : v ≠ 45 ∧ v ≠ 40 ∧ ¬ (48 ≤ v ∧ v ≤ 57) := by
  have h1 := List.all_eq_true.mp ltr_all v (List.mem_range.mpr hv)
  rw [Bool.or_eq_true, Nat.ble_eq] at h1
  have h2 := h1.resolve_left (by omega)
  simp only [Bool.and_eq_true, bne_iff_ne, Bool.not_eq_true', Bool.and_eq_false_iff] at h2
  refine ⟨h2.1.1, h2.1.2, fun z => ?_⟩
  rcases h2.2 with e | e
  · have := Nat.ble_eq.mpr z.1; rw [e] at this; cases this
  · have := Nat.ble_eq.mpr z.2; rw [e] at this; cases this
theorem op_all : (List.range 256).all (fun v => Nat.ble 7 (opx v) || (v != 41)) = true := by decide +kernel
theorem op_v {v : Nat} (hv : v < 256) (h : opx v < 7) : v ≠ 41 := by
  have h1 := List.all_eq_true.mp op_all v (List.mem_range.mpr hv)
  rw [Bool.or_eq_true, Nat.ble_eq] at h1
  exact bne_iff_ne.mp (h1.resolve_left (by omega))
theorem rko_le {i : Nat} : rko i ≤ 3 := by unfold rko; split; omega; split <;> omega
theorem rko_ge {i : Nat} : 1 ≤ rko i := by unfold rko; split; omega; split <;> omega
theorem EX3 {t : Nat → Nat} {E p : Nat} {c : Bool} : EX t E 3 p c := fun _ _ => Or.inl rko_le
theorem P_let {t : Nat → Nat} {E o p : Nat} (tb : ∀ i, i < E → t i < 256) (hp : p < E) (h : lex (t p) < 6) : PTx t E 3 o p (p + 1) [1000 + lex (t p)] := by
  obtain ⟨g1, g2, g3⟩ := ltr_v (tb p hp) h
  refine ⟨⟨by omega, by omega, by show 1 ≤ _; omega, DP_1 (by omega)⟩, fun W S cm R _ _ K => ?_⟩
  refine Rn_s (s' := (W, S ++ [1000 + lex (t p)], o, cm, false, p + 1)) hp ?_ (by show p < p + 1; omega) (K [] _ cm (fun v hv => absurd hv List.not_mem_nil) (List.append_nil _) (fun _ _ => rfl) (fun _ => rfl) EX3)
  rw [sp_d]
  show (if t p = 45 then _ else if t p = 40 then _ else if lex (t p) < 6 then _ else _) = _
  rw [if_neg g1, if_neg g2, if_pos h]
theorem P_num {t : Nat → Nat} {E o p : Nat} (tb : ∀ i, i < E → t i < 256) (hp : p < E) (h : 0 < dgN t E 3 p) : PTx t E 3 o p (p + dgN t E 3 p) [nm t (dgN t E 3 p) p 0] := by
  have d0 := (dgN_d (t := t) (E := E) 3 p 0 h).2
  rw [Nat.add_zero] at d0
  have dE := dgN_E (t := t) (E := E) 3 p (by omega)
  have nb := nm_m (t := t) (E := E) (m := 3) (p := p)
  have b3 : 10 ^ 3 = 1000 := rfl
  have nl : ¬ lex (t p) < 6 := fun z => (ltr_v (tb p hp) z).2.2 d0
  refine ⟨⟨by omega, dE, by show 1 ≤ _; omega, DP_1 (by omega)⟩, fun W S cm R _ _ K => ?_⟩
  refine Rn_s (s' := (W, S ++ [nm t (dgN t E 3 p) p 0], o, cm, false, p + dgN t E 3 p)) hp ?_ (by show p < p + dgN t E 3 p; omega) (K [] _ cm (fun v hv => absurd hv List.not_mem_nil) (List.append_nil _) (fun _ _ => rfl) (fun _ => rfl) EX3)
  rw [sp_d]
  show (if t p = 45 then _ else if t p = 40 then _ else if lex (t p) < 6 then _ else if 0 < dgN t E 3 p then _ else _) = _
  rw [if_neg (by omega), if_neg (by omega), if_neg nl, if_pos h]
theorem P_bad {t : Nat → Nat} {E o p : Nat} (hpE : p ≤ E) (h1 : ¬ (p < E ∧ t p = 45)) (h2 : ¬ (p < E ∧ t p = 40) ∨ o = 4) (h3 : ¬ (p < E ∧ lex (t p) < 6)) (h4 : dgN t E 3 p = 0) : PF t E 3 o p p := by
  refine ⟨Nat.le_refl _, hpE, fun W S cm _ _ => ?_⟩
  by_cases q : p < E
  · refine Rn_f (s := (W, S, o, cm, true, p)) q ?_
    rw [sp_d]
    show (if t p = 45 then _ else if t p = 40 then (if o < 4 then _ else none) else if lex (t p) < 6 then _ else if 0 < dgN t E 3 p then _ else none) = none
    rw [if_neg (fun z => h1 ⟨q, z⟩)]
    by_cases q4 : t p = 40
    · rw [if_pos q4]
      rcases h2 with h2 | h2
      · exact absurd ⟨q, q4⟩ h2
      · rw [if_neg (by omega)]
    · rw [if_neg q4, if_neg (fun z => h3 ⟨q, z⟩), if_neg (by omega)]
  · have e : p = E := by omega
    have := Rn_e (t := t) (E := E) (s := (W, S, o, cm, true, p)) e
    rw [← e] at this ⊢
    exact this
theorem P_op_f {t : Nat → Nat} {E o p p1 : Nat} (hp : p < E) (ht : t p = 40) (ho : o < 4) (h : PF t E 0 (o + 1) (p + 1) p1) : PF t E 3 o p p1 := by
  obtain ⟨h1, h2, h3⟩ := h
  refine ⟨by omega, h2, fun W S cm _ _ => ?_⟩
  refine Rn_s (s' := (2008 :: W, S, o + 1, cset cm (o + 1) false, true, p + 1)) hp ?_ (by show p < p + 1; omega) (h3 _ _ _ (Or.inr (fun w W' e => by cases e; decide)) (fun _ => cset_eq))
  rw [sp_d]
  show (if t p = 45 then _ else if t p = 40 then (if o < 4 then _ else none) else _) = _
  rw [if_neg (by omega), if_pos ht, if_pos ho]
theorem P_op_e {t : Nat → Nat} {E o p p1 : Nat} {L : List Nat} (hp : p < E) (ht : t p = 40) (ho : o < 4) (h : PTx t E 0 (o + 1) (p + 1) p1 L) (hc : ¬ (p1 < E ∧ t p1 = 41)) : PF t E 3 o p p1 := by
  obtain ⟨⟨n1, n2, n3, n4⟩, h3⟩ := h
  refine ⟨by omega, n2, fun W S cm _ _ => ?_⟩
  refine Rn_s (s' := (2008 :: W, S, o + 1, cset cm (o + 1) false, true, p + 1)) hp ?_ (by show p < p + 1; omega) (h3 _ _ _ _ (Or.inr (fun w W' e => by cases e; decide)) (fun _ => cset_eq) (fun V S' cm' a1 a2 a3 a4 a5 => ?_))
  · rw [sp_d]
    show (if t p = 45 then _ else if t p = 40 then (if o < 4 then _ else none) else _) = _
    rw [if_neg (by omega), if_pos ht, if_pos ho]
  · by_cases q : p1 < E
    · refine Rn_f (s := (V ++ 2008 :: W, S', o + 1, cm', false, p1)) q ?_
      rw [sp_o]
      show (if t p1 = 41 then _ else if opx (t p1) < 7 then (if opx (t p1) ≤ 2 ∧ cm' (o + 1) = true then none else _) else none) = none
      rw [if_neg (fun z => hc ⟨q, z⟩)]
      by_cases q2 : opx (t p1) < 7
      · rw [if_pos q2]
        rcases a5 q q2 with e | e
        · have := rko_ge (i := opx (t p1)); omega
        · rw [if_pos ⟨e.2.1, e.2.2⟩]
      · rw [if_neg q2]
    · have e : p1 = E := by omega
      have := Rn_e (t := t) (E := E) (s := (V ++ 2008 :: W, S', o + 1, cm', false, p1)) e
      have ef : mfin E (V ++ 2008 :: W, S', o + 1, cm', false, p1) = (false, E, []) := if_pos (Or.inr (by show 0 < o + 1; omega))
      rw [ef, ← e] at this
      rw [← e]
      exact this
theorem P_op_t {t : Nat → Nat} {E o p p1 : Nat} {L : List Nat} (hp : p < E) (ht : t p = 40) (ho : o < 4) (h : PTx t E 0 (o + 1) (p + 1) p1 L) (hc : p1 < E ∧ t p1 = 41) : PTx t E 3 o p (p1 + 1) L := by
  obtain ⟨⟨n1, n2, n3, n4⟩, h3⟩ := h
  refine ⟨⟨by omega, by omega, by omega, n4⟩, fun W S cm R _ _ K => ?_⟩
  refine Rn_s (s' := (2008 :: W, S, o + 1, cset cm (o + 1) false, true, p + 1)) hp ?_ (by show p < p + 1; omega) (h3 _ _ _ _ (Or.inr (fun w W' e => by cases e; decide)) (fun _ => cset_eq) (fun V S' cm' a1 a2 a3 a4 a5 => ?_))
  · rw [sp_d]
    show (if t p = 45 then _ else if t p = 40 then (if o < 4 then _ else none) else _) = _
    rw [if_neg (by omega), if_pos ht, if_pos ho]
  · have re := rel_app (r := 1) V (2008 :: W) S' (fun v hv => by have := a1 v hv; omega) (fun w W' e => by cases e; decide)
    refine Rn_s (s := (V ++ 2008 :: W, S', o + 1, cm', false, p1)) (s' := (W, S' ++ V, o, cm', false, p1 + 1)) hc.1 ?_ (by show p1 < p1 + 1; omega) (K [] _ cm' (fun v hv => absurd hv List.not_mem_nil) (by rw [List.append_nil]; exact a2) (fun j hj => by rw [a3 j (by omega), cset_ne (by omega)]) (fun _ => by rw [a3 o (by omega), cset_ne (by omega)]) EX3)
    rw [sp_o]
    show (if t p1 = 41 then (if o + 1 = 0 then none else some ((rel 1 (V ++ 2008 :: W) S').2.tail, (rel 1 (V ++ 2008 :: W) S').1, o + 1 - 1, cm', false, p1 + 1)) else _) = _
    rw [if_pos hc.2, if_neg (by omega), re]
    rfl
theorem CWs {k : Nat} {W : List Nat} (hk : k < 3) (h : CW k W) : CW (k + 1) W := h.elim (fun e => by omega) (fun e => Or.inr (fun w W' z => by have := e w W' z; omega))
theorem PA_st {t : Nat → Nat} {E k o p p1 : Nat} {L : List Nat} (hk : k < 3) (h : PTx t E (k + 1) o p p1 L) : PA t E k o p p1 L := by
  obtain ⟨n, h3⟩ := h
  refine ⟨n, fun W S cm R c1 c2 K => h3 W S cm R (CWs hk c1) (fun z => by omega) (fun V S' cm' a1 a2 a3 a4 a5 => K V S' cm' (fun v hv => by have := a1 v hv; omega) a2 a3 (a4 (by omega)) (fun z1 z2 => Or.inl ((a5 z1 z2).elim id (fun w => by have := w.1; omega))))⟩
theorem PF_st {t : Nat → Nat} {E k o p p1 : Nat} (hk : k < 3) (h : PF t E (k + 1) o p p1) : PF t E k o p p1 := by
  obtain ⟨n1, n2, h3⟩ := h
  exact ⟨n1, n2, fun W S cm c1 c2 => h3 W S cm (CWs hk c1) (fun z => by omega)⟩
/-- one step over an operator of order k -/
theorem PA_op {t : Nat → Nat} {E k o p1 : Nat} {W V S' : List Nat} {cm' : Nat → Bool} {R : MRs} (tb : ∀ i, i < E → t i < 256) (hk : k < 3) (hp : p1 < E) (hi : opx (t p1) < 7) (hr : rko (opx (t p1)) = k + 1) (hc : k = 0 → cm' o = false) (c1 : CW k W) (a1 : ∀ v, v ∈ V → k < rk v) (H : Rn t E ((2000 + opx (t p1)) :: W, S' ++ V, o, if opx (t p1) ≤ 2 then cset cm' o true else cm', true, p1 + 1) R) : Rn t E (V ++ W, S', o, cm', false, p1) R := by
  have re := rel_app (r := k + 1) V W S' (fun v hv => by have := a1 v hv; omega) (fun w W' e => (c1.elim (fun z => by omega) (fun z => by have := z w W' e; omega)))
  refine Rn_s (s := (V ++ W, S', o, cm', false, p1)) hp ?_ (by show p1 < p1 + 1; omega) H
  rw [sp_o]
  show (if t p1 = 41 then _ else if opx (t p1) < 7 then (if opx (t p1) ≤ 2 ∧ cm' o = true then none else some ((2000 + opx (t p1)) :: (rel (rko (opx (t p1))) (V ++ W) S').2, (rel (rko (opx (t p1))) (V ++ W) S').1, o, if opx (t p1) ≤ 2 then cset cm' o true else cm', true, p1 + 1)) else none) = _
  have nc : ¬ (opx (t p1) ≤ 2 ∧ cm' o = true) := fun z => by
    have e1 : rko (opx (t p1)) = 1 := if_pos z.1
    have := hc (by omega)
    rw [this] at z
    exact Bool.false_ne_true z.2
  rw [if_neg (op_v (tb p1 hp) hi), if_pos hi, if_neg nc, hr, re]
theorem rko_2 {i : Nat} (h : rko i ≠ 1) : ¬ i ≤ 2 := fun z => h (if_pos z)
theorem PA_more {t : Nat → Nat} {E k o p p1 p2 : Nat} {L L2 : List Nat} (tb : ∀ i, i < E → t i < 256) (hk0 : 0 < k) (hk : k < 3) (h : PA t E k o p p1 L) (hp : p1 < E) (hi : opx (t p1) < 7) (hr : rko (opx (t p1)) = k + 1) (h2 : PTx t E (k + 1) o (p1 + 1) p2 L2) : PA t E k o p p2 (L ++ L2 ++ [2000 + opx (t p1)]) := by
  obtain ⟨⟨n1, n2, n3, n4⟩, h3⟩ := h
  obtain ⟨⟨m1, m2, m3, m4⟩, h4⟩ := h2
  refine ⟨⟨by omega, m2, by rw [List.length_append, List.length_append]; show L.length + L2.length + 1 ≤ _; omega, DP_o n4 m4 hi⟩, fun W S cm R c1 c2 K => h3 W S cm R c1 c2 (fun V S' cm' a1 a2 a3 a4 a5 => ?_)⟩
  refine PA_op tb hk hp hi hr (fun z => by omega) c1 a1 ?_
  rw [if_neg (rko_2 (by omega))]
  refine h4 _ _ cm' R (Or.inr (fun w W' e => by cases e; rw [rk_op hi]; omega)) (fun z => by omega) (fun V2 S2 cm2 b1 b2 b3 b4 b5 => ?_)
  have key := K (V2 ++ [2000 + opx (t p1)]) S2 cm2 (fun v hv => by
    rcases List.mem_append.mp hv with hv | hv
    · have := b1 v hv; omega
    · rw [List.mem_singleton.mp hv, rk_op hi]; omega) (by rw [← List.append_assoc, b2, a2, List.append_assoc S, List.append_assoc]) (fun j hj => (b3 j hj).trans (a3 j hj)) ((b4 (by omega)).trans a4) (fun z1 z2 => Or.inl ((b5 z1 z2).elim id (fun w => by have := w.1; omega)))
  rw [List.append_assoc] at key
  exact key
theorem PA_fail {t : Nat → Nat} {E k o p p1 p2 : Nat} {L : List Nat} (tb : ∀ i, i < E → t i < 256) (hk : k < 3) (h : PA t E k o p p1 L) (hp : p1 < E) (hi : opx (t p1) < 7) (hr : rko (opx (t p1)) = k + 1) (h2 : PF t E (k + 1) o (p1 + 1) p2) : PF t E k o p p2 := by
  obtain ⟨⟨n1, n2, n3, n4⟩, h3⟩ := h
  obtain ⟨m1, m2, h4⟩ := h2
  refine ⟨by omega, m2, fun W S cm c1 c2 => h3 W S cm _ c1 c2 (fun V S' cm' a1 a2 a3 a4 a5 => ?_)⟩
  exact PA_op tb hk hp hi hr (fun z => by rw [a4]; exact c2 z) c1 a1 (h4 _ _ _ (Or.inr (fun w W' e => by cases e; rw [rk_op hi]; omega)) (fun z => by omega))
theorem PA_end {t : Nat → Nat} {E k o p p1 : Nat} {L : List Nat} (hk : k < 3) (h : PA t E k o p p1 L) (hn : p1 < E → opx (t p1) < 7 → rko (opx (t p1)) ≠ k + 1) : PTx t E k o p p1 L := by
  obtain ⟨n, h3⟩ := h
  exact ⟨n, fun W S cm R c1 c2 K => h3 W S cm R c1 c2 (fun V S' cm' a1 a2 a3 a4 a5 => K V S' cm' a1 a2 a3 (fun _ => a4) (fun z1 z2 => Or.inl ((a5 z1 z2).elim (fun w => by have := hn z1 z2; omega) (fun w => by have := w.1; omega))))⟩
theorem PA_cmp {t : Nat → Nat} {E o p p1 p2 : Nat} {L L2 : List Nat} (tb : ∀ i, i < E → t i < 256) (h : PA t E 0 o p p1 L) (hp : p1 < E) (hi : opx (t p1) < 7) (hr : rko (opx (t p1)) = 1) (h2 : PTx t E 1 o (p1 + 1) p2 L2) : PTx t E 0 o p p2 (L ++ L2 ++ [2000 + opx (t p1)]) := by
  obtain ⟨⟨n1, n2, n3, n4⟩, h3⟩ := h
  obtain ⟨⟨m1, m2, m3, m4⟩, h4⟩ := h2
  have i2 : opx (t p1) ≤ 2 := by
    unfold rko at hr
    by_cases q : opx (t p1) ≤ 2
    · exact q
    · rw [if_neg q] at hr
      by_cases q2 : opx (t p1) ≤ 4
      · rw [if_pos q2] at hr; omega
      · rw [if_neg q2] at hr; omega
  refine ⟨⟨by omega, m2, by rw [List.length_append, List.length_append]; show L.length + L2.length + 1 ≤ _; omega, DP_o n4 m4 hi⟩, fun W S cm R c1 c2 K => h3 W S cm R c1 c2 (fun V S' cm' a1 a2 a3 a4 a5 => ?_)⟩
  refine PA_op tb (by omega) hp hi hr (fun z => by rw [a4]; exact c2 z) c1 a1 ?_
  rw [if_pos i2]
  refine h4 _ _ _ R (Or.inr (fun w W' e => by cases e; rw [rk_op hi]; omega)) (fun z => by omega) (fun V2 S2 cm2 b1 b2 b3 b4 b5 => ?_)
  have c' : cm2 o = true := (b4 (by omega)).trans cset_eq
  have key := K (V2 ++ [2000 + opx (t p1)]) S2 cm2 (fun v hv => by
    rcases List.mem_append.mp hv with hv | hv
    · have := b1 v hv; omega
    · rw [List.mem_singleton.mp hv, rk_op hi]; omega) (by rw [← List.append_assoc, b2, a2, List.append_assoc S, List.append_assoc]) (fun j hj => by rw [b3 j hj, cset_ne (by omega), a3 j hj]) (fun z => by omega) (fun z1 z2 => by
    have i3 : rko (opx (t p2)) ≤ 1 := (b5 z1 z2).elim id (fun w => by have := w.1; omega)
    have i4 : opx (t p2) ≤ 2 := by
      unfold rko at i3
      by_cases q : opx (t p2) ≤ 2
      · exact q
      · rw [if_neg q] at i3
        by_cases q2 : opx (t p2) ≤ 4
        · rw [if_pos q2] at i3; omega
        · rw [if_neg q2] at i3; omega
    exact Or.inr ⟨rfl, i4, c'⟩)
  rw [List.append_assoc] at key
  exact key
/-- the whole text -/
def ms0 : MS := ([], [], 0, fun _ => false, true, 0)
theorem PF_all {t : Nat → Nat} {E p' : Nat} (h : PF t E 0 0 0 p') : Rn t E ms0 (false, p', []) := h.2.2 _ _ _ (Or.inr (fun w W' e => by cases e)) (fun _ => rfl)
theorem PT_all {t : Nat → Nat} {E p' : Nat} {L : List Nat} (h : PTx t E 0 0 0 p' L) : Rn t E ms0 (if p' = E then (true, E, L) else (false, p', [])) := by
  obtain ⟨⟨n1, n2, n3, n4⟩, h3⟩ := h
  refine h3 _ _ _ _ (Or.inr (fun w W' e => by cases e)) (fun _ => rfl) (fun V S' cm' a1 a2 a3 a4 a5 => ?_)
  rw [List.append_nil]
  by_cases q : p' = E
  · rw [if_pos q]
    have := Rn_e (t := t) (E := E) (s := (V, S', 0, cm', false, p')) q
    have re := rel_app (r := 1) V [] S' (fun v hv => by have := a1 v hv; omega) (fun w W' e => by cases e)
    rw [List.append_nil] at re
    have ef : mfin E (V, S', 0, cm', false, p') = (true, E, L) := by
      unfold mfin
      rw [if_neg (by show ¬ (false = true ∨ 0 < 0); rintro (z | z); exact Bool.false_ne_true z; omega)]
      show (true, E, (rel 1 V S').1) = _
      rw [re]
      show (true, E, S' ++ V) = _
      rw [a2]
      rfl
    rw [ef] at this
    exact this
  · rw [if_neg q]
    have hp : p' < E := by omega
    refine Rn_f (s := (V, S', 0, cm', false, p')) hp ?_
    rw [sp_o]
    show (if t p' = 41 then (if 0 = 0 then none else _) else if opx (t p') < 7 then (if opx (t p') ≤ 2 ∧ cm' 0 = true then none else _) else none) = none
    by_cases q1 : t p' = 41
    · rw [if_pos q1, if_pos rfl]
    · rw [if_neg q1]
      by_cases q2 : opx (t p') < 7
      · rw [if_pos q2]
        rcases a5 hp q2 with e | e
        · have := rko_ge (i := opx (t p')); omega
        · rw [if_pos ⟨e.2.1, e.2.2⟩]
      · rw [if_neg q2]
