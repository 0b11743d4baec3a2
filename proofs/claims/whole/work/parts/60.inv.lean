/-! ===== what holds between the calls ===== -/
theorem fr.at {R dp : List Nat} {h h' : HP} (f : fr R h h') (d : dp.all (fun x => !R.contains x) = true) (a j : Nat) (m : dp.contains (reg a j) = true) : h'.2.1 a j = h.2.1 a j ∧ h'.2.2.1 a j = h.2.2.1 a j := by
  refine f.2 a j ?_
  have h1 := List.all_eq_true.mp d (reg a j) (by simpa using m)
  simpa using h1
theorem fr.ai {R : List Nat} (dp : List Nat) {h h' : HP} (f : fr R h h') (d : dp.all (fun x => !R.contains x) = true) (a j : Nat) (m : dp.contains (reg a j) = true) : h'.2.1 a j = h.2.1 a j := (f.at d a j m).1
theorem fr.aj {R : List Nat} (dp : List Nat) {h h' : HP} (f : fr R h h') (d : dp.all (fun x => !R.contains x) = true) (a j : Nat) (m : dp.contains (reg a j) = true) : h'.2.2.1 a j = h.2.2.1 a j := (f.at d a j m).2
/-- THE TEXT -/
def TxX (h : HP) (t : Nat → Nat) (n : Nat) : Prop := h.2.1 1 1 = n32 n ∧ ∀ i, i < n → h.2.1 2 i = n32 (t i)
def TxM (h : HP) (t : Nat → Nat) (n : Nat) : Prop := h.2.1 188 12 = n32 n ∧ ∀ i, i < n → h.2.1 195 i = n32 (t i)
def Txt (h : HP) : Prop := ∃ t n, n ≤ 80 ∧ (∀ i, i < n → t i < 256) ∧ TxX h t n ∧ TxM h t n
theorem TxX.fr {h h' : HP} {t : Nat → Nat} {n : Nat} {R : List Nat} (s : TxX h t n) (f : fr R h h') (d : [1].all (fun x => !R.contains x) = true) : TxX h' t n := ⟨by rw [f.ai [1] d 1 1 rfl]; exact s.1, fun i hi => by rw [f.ai [1] d 2 i rfl]; exact s.2 i hi⟩
theorem TxM.fr {h h' : HP} {t : Nat → Nat} {n : Nat} {R : List Nat} (s : TxM h t n) (f : fr R h h') (d : [21].all (fun x => !R.contains x) = true) : TxM h' t n := ⟨by rw [f.ai [21] d 188 12 rfl]; exact s.1, fun i hi => by rw [f.ai [21] d 195 i rfl]; exact s.2 i hi⟩
theorem all2 {a b : Nat} {R : List Nat} (d : [a, b].all (fun x => !R.contains x) = true) : [a].all (fun x => !R.contains x) = true ∧ [b].all (fun x => !R.contains x) = true := by
  simp only [List.all_cons, List.all_nil, Bool.and_true, Bool.and_eq_true] at d ⊢
  exact d
theorem Txt.fr {h h' : HP} {R : List Nat} (s : Txt h) (f : fr R h h') (d : [1, 21].all (fun x => !R.contains x) = true) : Txt h' := by
  obtain ⟨t, n, h1, h2, h3, h4⟩ := s
  exact ⟨t, n, h1, h2, h3.fr f (all2 d).1, h4.fr f (all2 d).2⟩
/-- THE ROW -/
def RowX (h : HP) (l : List Int64) : Prop := l.length ≤ 6 ∧ h.2.1 3 1 = n32 l.length ∧ ∀ i, i < l.length → h.2.2.1 4 i = l.getD i 0
def RowM (h : HP) (l : List Int64) : Prop := h.2.1 188 1 = n32 l.length ∧ ∀ i, i < l.length → h.2.2.1 189 i = l.getD i 0
def Row (h : HP) : Prop := ∃ l, RowX h l ∧ RowM h l
theorem RowX.fr {h h' : HP} {l : List Int64} {R : List Nat} (s : RowX h l) (f : fr R h h') (d : [2].all (fun x => !R.contains x) = true) : RowX h' l := ⟨s.1, by rw [f.ai [2] d 3 1 rfl]; exact s.2.1, fun i hi => by rw [f.aj [2] d 4 i rfl]; exact s.2.2 i hi⟩
theorem RowM.fr {h h' : HP} {l : List Int64} {R : List Nat} (s : RowM h l) (f : fr R h h') (d : [22].all (fun x => !R.contains x) = true) : RowM h' l := ⟨by rw [f.ai [22] d 188 1 rfl]; exact s.1, fun i hi => by rw [f.aj [22] d 189 i rfl]; exact s.2 i hi⟩
theorem Row.fr {h h' : HP} {R : List Nat} (s : Row h) (f : fr R h h') (d : [2, 22].all (fun x => !R.contains x) = true) : Row h' := by
  obtain ⟨l, h1, h2⟩ := s
  exact ⟨l, h1.fr f (all2 d).1, h2.fr f (all2 d).2⟩
def Siz (sz : Nat) (h : HP) : Prop := sz ≤ 6 ∧ h.2.1 5 2 = n32 sz ∧ h.2.1 188 3 = n32 sz
theorem Siz.fr {sz : Nat} {h h' : HP} {R : List Nat} (s : Siz sz h) (f : fr R h h') (d : [3, 23].all (fun x => !R.contains x) = true) : Siz sz h' := ⟨s.1, by rw [f.ai [3] (all2 d).1 5 2 rfl]; exact s.2.1, by rw [f.ai [23] (all2 d).2 188 3 rfl]; exact s.2.2⟩
theorem cr_frc {h h' : HP} {c q : Nat} {r : Nat → Nat} {R : List Nat} (s : CR h c r) (hq : rc c = q) (hc : c + 6 < 188) (hr : ∀ i, i < 7 → rc (c + i) = rc c) (f : fr R h h') (d : [q].all (fun x => !R.contains x) = true) : CR h' c r :=
  s.same fun i hi => funext fun j => f.ai [q] d (c + i) j (by rw [reg_c (by omega), hr i hi, hq]; simp)
theorem rc5 : ∀ i, i < 7 → rc (5 + i) = rc 5 := fun i hi => by
  match i, hi with
  | 0, _ => rfl
  | 1, _ => rfl
  | 2, _ => rfl
  | 3, _ => rfl
  | 4, _ => rfl
  | 5, _ => rfl
  | 6, _ => rfl
/-- the coast now -/
def Coa (B sz : Nat) (h : HP) : Prop := ∃ r, CR h 5 r ∧ MR h 193 r ∧ RBm B r ∧ ZB sz r
theorem Coa.fr {B sz : Nat} {h h' : HP} {R : List Nat} (s : Coa B sz h) (f : fr R h h') (d : [3, 30].all (fun x => !R.contains x) = true) : Coa B sz h' := by
  obtain ⟨r, h1, h2, h3, h4⟩ := s
  exact ⟨r, cr_frc h1 rfl (by omega) rc5 f (all2 d).1, fun j hj => by rw [f.ai [30] (all2 d).2 193 j rfl]; exact h2 j hj, h3, h4⟩
theorem Coa.mo {B B' sz : Nat} {h : HP} (s : Coa B sz h) (hB : B ≤ B') : Coa B' sz h := by
  obtain ⟨r, h1, h2, h3, h4⟩ := s
  exact ⟨r, h1, h2, h3.mo hB, h4⟩
def Goo (sz : Nat) (h : HP) : Prop := ∃ g, GX h sz g ∧ GM h sz g ∧ GB sz g
theorem Goo.fr {sz : Nat} {h h' : HP} {R : List Nat} (s : Goo sz h) (f : fr R h h') (d : [8, 29].all (fun x => !R.contains x) = true) : Goo sz h' := by
  obtain ⟨g, h1, h2, h3⟩ := s
  exact ⟨g, fun m hm => by rw [f.ai [8] (all2 d).1 155 m rfl]; exact h1 m hm, fun m hm => by rw [f.ai [29] (all2 d).2 192 m rfl]; exact h2 m hm, h3⟩
def flq (b : Bool) : Nat := match b with
  | true => 15
  | false => 14
def ruq (c : Bool) : Nat := match c with
  | true => 18
  | false => 16
def Flt (b : Bool) (h : HP) : Prop := ∃ F, FR h (flr b) F ∧ MF h F ∧ FB F
theorem FR.fr {b : Bool} {F : Fle} {h h' : HP} {R : List Nat} (s : FR h (flr b) F) (f : fr R h h') (d : [flq b].all (fun x => !R.contains x) = true) : FR h' (flr b) F := by
  have e : ∀ i j, i < 3 → h'.2.1 (flr b + i) j = h.2.1 (flr b + i) j := fun i j hi => f.ai [flq b] d _ j (by
    match i, hi with
    | 0, _ => cases b <;> rfl
    | 1, _ => cases b <;> rfl
    | 2, _ => cases b <;> rfl)
  exact ⟨by rw [show h'.2.1 (flr b) 2 = _ from e 0 2 (by omega)]; exact s.1, fun i hi => by rw [e 1 i (by omega), e 2 i (by omega)]; exact s.2 i hi⟩
theorem MF.fr {F : Fle} {h h' : HP} {R : List Nat} (s : MF h F) (f : fr R h h') (d : [24].all (fun x => !R.contains x) = true) : MF h' F :=
  ⟨by rw [f.ai [24] d 188 5 rfl]; exact s.1, fun i hi => by rw [f.ai [24] d 190 i rfl, f.ai [24] d 191 i rfl]; exact s.2 i hi⟩
theorem Flt.fr {b : Bool} {h h' : HP} {R : List Nat} (s : Flt b h) (f : fr R h h') (d : [flq b, 24].all (fun x => !R.contains x) = true) : Flt b h' := by
  obtain ⟨F, h1, h2, h3⟩ := s
  exact ⟨F, h1.fr f (all2 d).1, h2.fr f (all2 d).2, h3⟩
def Rul (c : Bool) (h : HP) : Prop := ∃ L, RuX h (rur c) L ∧ RuM h L ∧ WR L
theorem RuX.fr {c : Bool} {L : List Nat} {h h' : HP} {R : List Nat} (s : RuX h (rur c) L) (f : fr R h h') (d : [ruq c].all (fun x => !R.contains x) = true) : RuX h' (rur c) L := by
  have e : ∀ i j, i < 2 → h'.2.1 (rur c + i) j = h.2.1 (rur c + i) j := fun i j hi => f.ai [ruq c] d _ j (by
    match i, hi with
    | 0, _ => cases c <;> rfl
    | 1, _ => cases c <;> rfl)
  exact ⟨by rw [show h'.2.1 (rur c) 5 = _ from e 0 5 (by omega)]; exact s.1, fun i hi => by rw [e 1 i (by omega)]; exact s.2 i hi⟩
theorem RuM.fr {L : List Nat} {h h' : HP} {R : List Nat} (s : RuM h L) (f : fr R h h') (d : [25].all (fun x => !R.contains x) = true) : RuM h' L :=
  ⟨by rw [f.ai [25] d 188 21 rfl]; exact s.1, fun i hi => by rw [f.ai [25] d 198 i rfl]; exact s.2 i hi⟩
theorem Rul.fr {c : Bool} {h h' : HP} {R : List Nat} (s : Rul c h) (f : fr R h h') (d : [ruq c, 25].all (fun x => !R.contains x) = true) : Rul c h' := by
  obtain ⟨L, h1, h2, h3⟩ := s
  exact ⟨L, h1.fr f (all2 d).1, h2.fr f (all2 d).2, h3⟩
/-- what can be undone: the i-th (the oldest first) lies in the ring at .. -/
def rp (nx u i : Nat) : Nat := (nx + 15 - u + i) % 15
def PaE (B sz nx u : Nat) (h : HP) (i : Nat) (P : Nat → Nat) : Prop := CR h (28 + 7 * rp nx u i) P ∧ h.2.1 (28 + 7 * rp nx u i) 2 = n32 sz ∧ (∀ j, j < 28 → h.2.1 202 (28 * i + j) = n32 (P j)) ∧ RBm B P ∧ ZB sz P
def PaN (h : HP) (nx u : Nat) : Prop := u ≤ 15 ∧ nx < 15 ∧ h.2.1 26 1 = n32 nx ∧ h.2.1 26 2 = n32 u ∧ h.2.1 188 25 = n32 u
def Pas (B sz : Nat) (h : HP) : Prop := ∃ nx u, PaN h nx u ∧ ∀ i, i < u → ∃ P, PaE B sz nx u h i P
theorem rp_lt {nx u i : Nat} : rp nx u i < 15 := Nat.mod_lt _ (by omega)
theorem rcp {p i : Nat} (hp : p < 15) (hi : i < 7) : rc (28 + 7 * p + i) = 6 := by
  unfold rc
  rw [if_neg (by omega), if_neg (by omega), if_neg (by omega), if_neg (by omega), if_neg (by omega), if_neg (by omega), if_pos (by omega)]
theorem rck {p i : Nat} (hp : p < 3) (hi : i < 7) : rc (134 + 7 * p + i) = 7 := by
  unfold rc
  rw [if_neg (by omega), if_neg (by omega), if_neg (by omega), if_neg (by omega), if_neg (by omega), if_neg (by omega), if_neg (by omega), if_pos (by omega)]
theorem PaE.fr {B sz nx u i : Nat} {P : Nat → Nat} {h h' : HP} {R : List Nat} (s : PaE B sz nx u h i P) (f : fr R h h') (d : [6, 26].all (fun x => !R.contains x) = true) : PaE B sz nx u h' i P := by
  obtain ⟨h1, h2, h3, h4, h5⟩ := s
  have hp : rp nx u i < 15 := rp_lt
  refine ⟨cr_frc h1 (q := 6) (rcp (i := 0) hp (by omega)) (by omega) (fun i hi => by rw [rcp hp hi]; exact (rcp (i := 0) hp (by omega)).symm) f (all2 d).1, ?_, fun j hj => ?_, h4, h5⟩
  · rw [f.ai [6] (all2 d).1 _ 2 (by rw [reg_c (by omega), show rc (28 + 7 * rp nx u i) = 6 from rcp (i := 0) hp (by omega)]; rfl)]; exact h2
  · rw [f.ai [26] (all2 d).2 202 _ rfl]; exact h3 j hj
theorem Pas.fr {B sz : Nat} {h h' : HP} {R : List Nat} (s : Pas B sz h) (f : fr R h h') (d : [6, 26].all (fun x => !R.contains x) = true) : Pas B sz h' := by
  obtain ⟨nx, u, ⟨h1, h2, h3, h4, h5⟩, h6⟩ := s
  refine ⟨nx, u, ⟨h1, h2, ?_, ?_, ?_⟩, fun i hi => ?_⟩
  · rw [f.ai [6] (all2 d).1 26 1 rfl]; exact h3
  · rw [f.ai [6] (all2 d).1 26 2 rfl]; exact h4
  · rw [f.ai [26] (all2 d).2 188 25 rfl]; exact h5
  · obtain ⟨P, hP⟩ := h6 i hi
    exact ⟨P, hP.fr f d⟩
theorem Pas.mo {B B' sz : Nat} {h : HP} (s : Pas B sz h) (hB : B ≤ B') : Pas B' sz h := by
  obtain ⟨nx, u, h1, h6⟩ := s
  refine ⟨nx, u, h1, fun i hi => ?_⟩
  obtain ⟨P, a1, a2, a3, a4, a5⟩ := h6 i hi
  exact ⟨P, a1, a2, a3, a4.mo hB, a5⟩
/-- what is kept -/
def KeE (B sz ch : Nat) (h : HP) (i : Nat) : Prop := (h.2.1 216 i = n32 0 ∧ h.2.1 (134 + 7 * i) 2 = -n32 1) ∨ (h.2.1 216 i = n32 1 ∧ ∃ P ks kc, CR h (134 + 7 * i) P ∧ h.2.1 (134 + 7 * i) 2 = n32 ks ∧ h.2.1 217 i = n32 kc ∧ (∀ j, j < 28 → h.2.1 218 (28 * i + j) = n32 (P j)) ∧ RBm B P ∧ ZB ks P ∧ ks ≤ sz ∧ kc ≤ ch ∧ (kc = ch ↔ ks = sz))
def Kep (B sz : Nat) (h : HP) : Prop := ∃ ch, ch ≤ sz ∧ h.2.1 188 4 = n32 ch ∧ ∀ i, i < 3 → KeE B sz ch h i
theorem KeE.fr {B sz ch i : Nat} {h h' : HP} {R : List Nat} (hi : i < 3) (s : KeE B sz ch h i) (f : fr R h h') (d : [7, 27].all (fun x => !R.contains x) = true) : KeE B sz ch h' i := by
  have e1 : h'.2.1 (134 + 7 * i) 2 = h.2.1 (134 + 7 * i) 2 := f.ai [7] (all2 d).1 _ 2 (by rw [reg_c (by omega), show rc (134 + 7 * i) = 7 from rck (i := 0) hi (by omega)]; rfl)
  have e2 : h'.2.1 216 i = h.2.1 216 i := f.ai [27] (all2 d).2 216 i rfl
  have e3 : h'.2.1 217 i = h.2.1 217 i := f.ai [27] (all2 d).2 217 i rfl
  rcases s with ⟨s1, s2⟩ | ⟨s1, P, ks, kc, s2, s3, s4, s5, s6⟩
  · exact Or.inl ⟨e2.trans s1, e1.trans s2⟩
  · refine Or.inr ⟨e2.trans s1, P, ks, kc, cr_frc s2 (q := 7) (rck (i := 0) hi (by omega)) (by omega) (fun i' hi' => by rw [rck hi hi']; exact (rck (i := 0) hi (by omega)).symm) f (all2 d).1, e1.trans s3, e3.trans s4, fun j hj => ?_, s6⟩
    rw [f.ai [27] (all2 d).2 218 _ rfl]; exact s5 j hj
theorem Kep.fr {B sz : Nat} {h h' : HP} {R : List Nat} (s : Kep B sz h) (f : fr R h h') (d : [7, 27].all (fun x => !R.contains x) = true) : Kep B sz h' := by
  obtain ⟨ch, h1, h2, h3⟩ := s
  exact ⟨ch, h1, by rw [f.ai [27] (all2 d).2 188 4 rfl]; exact h2, fun i hi => (h3 i hi).fr hi f d⟩
theorem Kep.mo {B B' sz : Nat} {h : HP} (s : Kep B sz h) (hB : B ≤ B') : Kep B' sz h := by
  obtain ⟨ch, h1, h2, h3⟩ := s
  refine ⟨ch, h1, h2, fun i hi => ?_⟩
  rcases h3 i hi with h4 | ⟨s1, P, ks, kc, s2, s3, s4, s5, s6, s7⟩
  · exact Or.inl h4
  · exact Or.inr ⟨s1, P, ks, kc, s2, s3, s4, s5, s6.mo hB, s7⟩
/-- what was heard -/
def HeX (h : HP) (n : Nat) (A O : Nat → Nat) : Prop := h.2.1 165 3 = n32 n ∧ (∀ i, i < n → h.2.1 166 i = n32 (A i) ∧ h.2.1 167 i = n32 (O i)) ∧ h.2.1 168 0 = n32 0
def HeM (h : HP) (n : Nat) (A O : Nat → Nat) : Prop := h.2.1 188 39 = n32 n ∧ (∀ i, i < n → h.2.1 212 i = n32 (A i) ∧ h.2.1 213 i = n32 (O i))
def Hea (h : HP) : Prop := ∃ n A O, n ≤ 8 ∧ (∀ i, i < n → 2 ≤ A i ∧ A i ≤ 40 ∧ O i < A i) ∧ HeX h n A O ∧ HeM h n A O
theorem all3 {a b c : Nat} {R : List Nat} (d : [a, b, c].all (fun x => !R.contains x) = true) : [a].all (fun x => !R.contains x) = true ∧ [b].all (fun x => !R.contains x) = true ∧ [c].all (fun x => !R.contains x) = true := by
  simp only [List.all_cons, List.all_nil, Bool.and_true, Bool.and_eq_true] at d ⊢
  exact d
theorem HeX.fr {n : Nat} {A O : Nat → Nat} {h h' : HP} {R : List Nat} (s : HeX h n A O) (f : fr R h h') (d : [11, 12].all (fun x => !R.contains x) = true) : HeX h' n A O :=
  ⟨by rw [f.ai [11] (all2 d).1 165 3 rfl]; exact s.1, fun i hi => by rw [f.ai [11] (all2 d).1 166 i rfl, f.ai [11] (all2 d).1 167 i rfl]; exact s.2.1 i hi, by rw [f.ai [12] (all2 d).2 168 0 rfl]; exact s.2.2⟩
theorem HeM.fr {n : Nat} {A O : Nat → Nat} {h h' : HP} {R : List Nat} (s : HeM h n A O) (f : fr R h h') (d : [28].all (fun x => !R.contains x) = true) : HeM h' n A O :=
  ⟨by rw [f.ai [28] d 188 39 rfl]; exact s.1, fun i hi => by rw [f.ai [28] d 212 i rfl, f.ai [28] d 213 i rfl]; exact s.2 i hi⟩
theorem Hea.fr {h h' : HP} {R : List Nat} (s : Hea h) (f : fr R h h') (d : [11, 12, 28].all (fun x => !R.contains x) = true) : Hea h' := by
  obtain ⟨n, A, O, h1, h2, h3, h4⟩ := s
  have d3 := all3 d
  refine ⟨n, A, O, h1, h2, h3.fr f ?_, h4.fr f d3.2.2⟩
  simp only [List.all_cons, List.all_nil, Bool.and_true, Bool.and_eq_true] at d3 ⊢
  exact ⟨d3.1, d3.2.1⟩
def Iv (B : Nat) (b c : Bool) (sz : Nat) (h : HP) : Prop := SH b c h ∧ Siz sz h ∧ Txt h ∧ Row h ∧ Coa B sz h ∧ Goo sz h ∧ Flt b h ∧ Rul c h ∧ Pas B sz h ∧ Kep B sz h ∧ Hea h
def Inv (k : Nat) (h : HP) : Prop := ∃ b c sz, Iv (300 * k) b c sz h
theorem Inv.mo {k : Nat} {h : HP} (s : Inv k h) : Inv (k + 1) h := by
  obtain ⟨b, c, sz, a0, a1, a2, a3, a4, a5, a6, a7, a8, a9, a10⟩ := s
  exact ⟨b, c, sz, a0, a1, a2, a3, a4.mo (by omega), a5, a6, a7, a8.mo (by omega), a9.mo (by omega), a10⟩
/-- questions: nothing but THE ROW and what is written over -/
theorem Iv.q0 {B : Nat} {b c : Bool} {sz : Nat} {h h' : HP} (s : Iv B b c sz h) (f : fr [4, 5, 9, 10, 13, 17, 19, 31, 32, 33, 40, 41, 42, 43, 44, 45, 46, 47, 50] h h') : Iv B b c sz h' := by
  obtain ⟨a0, a1, a2, a3, a4, a5, a6, a7, a8, a9, a10⟩ := s
  exact ⟨a0.fr f, a1.fr f (by decide), a2.fr f (by decide), a3.fr f (by decide), a4.fr f (by decide), a5.fr f (by decide), a6.fr f (by cases b <;> decide), a7.fr f (by cases c <;> decide), a8.fr f (by decide), a9.fr f (by decide), a10.fr f (by decide)⟩
theorem Iv.q1 {B : Nat} {b c : Bool} {sz : Nat} {h h' : HP} (s : Iv B b c sz h) (f : fr [2, 22, 4, 5, 9, 10, 13, 17, 19, 31, 32, 33, 40, 41, 42, 43, 44, 45, 46, 47, 50] h h') {l : List Int64} (rx : RowX h' l) (rm : RowM h' l) : Iv B b c sz h' := by
  obtain ⟨a0, a1, a2, a3, a4, a5, a6, a7, a8, a9, a10⟩ := s
  exact ⟨a0.fr f, a1.fr f (by decide), a2.fr f (by decide), ⟨l, rx, rm⟩, a4.fr f (by decide), a5.fr f (by decide), a6.fr f (by cases b <;> decide), a7.fr f (by cases c <;> decide), a8.fr f (by decide), a9.fr f (by decide), a10.fr f (by decide)⟩
theorem Iv.up {k : Nat} {b c : Bool} {sz : Nat} {h : HP} (s : Iv (300 * k) b c sz h) : Inv (k + 1) h := Inv.mo ⟨b, c, sz, s⟩
/-! the row's writers -/
theorem rowX_0 {b c : Bool} {h : HP} (s : SH b c h) : f_X6_clear h 3 = some (setI h 3 1 (n32 0)) ∧ RowX (setI h 3 1 (n32 0)) [] ∧ fr [2] h (setI h 3 1 (n32 0)) := by
  refine ⟨?_, ⟨Nat.zero_le _, by rw [sI_eq]; rfl, fun i hi => absurd hi (Nat.not_lt_zero i)⟩, (fr.rf _ _).sI rfl⟩
  unfold f_X6_clear
  simp -implicitDefEqProofs (disch := omega) only [s.root, gP_p, gP_t, ltt_s, n32_nat, n32_le, n32_lt, n32_eq, n32_add, n32_sub, n32_dec, n32_mul, n32_div, n32_irm, n32_lit, n32_oN, n32_ix, n32_m1, n32_m2, neg_le0, neg_lt0, neg_lt1, neg_le1, n32_min, n32_max]
theorem rowX_a {b c : Bool} {h : HP} {l : List Int64} {v : Int64} (s : SH b c h) (rx : RowX h l) (hl : l.length < 6) : gd (f_X6_add h 3 v) (fun h' => RowX h' (l ++ [v]) ∧ fr [2] h h') := by
  obtain ⟨r0, r1, r2⟩ := rx
  have n1 : ¬ 6 ≤ l.length := by omega
  unfold f_X6_add
  simp -implicitDefEqProofs (disch := omega) only [s.root, gP_p, gP_t, ltt_s, bnd_s, n32_nat, n32_le, n32_lt, n32_eq, n32_add, n32_sub, n32_dec, n32_mul, n32_div, n32_irm, n32_lit, n32_oN, n32_ix, n32_m1, n32_m2, neg_le0, neg_lt0, neg_lt1, neg_le1, n32_min, n32_max, r1, n1, if_false, sJ_I, gd_some]
  refine ⟨⟨by rw [List.length_append]; show l.length + 1 ≤ 6; omega, by rw [sI_eq, List.length_append]; rfl, fun i hi => ?_⟩, ((fr.rf _ _).sJ rfl).sI rfl⟩
  rw [List.length_append] at hi
  have hi' : i < l.length + 1 := hi
  rw [sI_J, sJ_i]
  by_cases q : i = l.length
  · rw [if_pos ⟨rfl, q⟩, q]
    simp
  · rw [if_neg (fun z => q z.2), r2 i (by omega)]
    rw [List.getD_eq_getElem?_getD, List.getD_eq_getElem?_getD, List.getElem?_append_left (by omega)]
theorem tell1_x {b c : Bool} {h : HP} {v : Int64} (s : SH b c h) : gd (f_X6_tell h 3 v) (fun h' => RowX h' [v] ∧ fr [2] h h') := by
  obtain ⟨-, r0, f0⟩ := rowX_0 s
  unfold f_X6_tell
  simp -implicitDefEqProofs (disch := omega) only [s.root, gP_p, gP_t, ltt_s, n32_nat, n32_le, n32_lt, n32_eq, n32_add, n32_sub, n32_dec, n32_mul, n32_div, n32_irm, n32_lit, n32_oN, n32_ix, n32_m1, n32_m2, neg_le0, neg_lt0, neg_lt1, neg_le1, n32_min, n32_max, gd_bnd, gd_some]
  refine gd_mono (rowX_a (s.fr f0) r0 (by show 0 < 6; omega)) ?_
  rintro h' ⟨h1, h2⟩
  exact ⟨h1, f0.tr h2⟩
theorem tell2_x {b c : Bool} {h : HP} {v w : Int64} (s : SH b c h) : gd (f_X6_tell_ h 3 v w) (fun h' => RowX h' [v, w] ∧ fr [2] h h') := by
  obtain ⟨-, r0, f0⟩ := rowX_0 s
  unfold f_X6_tell_
  simp -implicitDefEqProofs (disch := omega) only [s.root, gP_p, gP_t, ltt_s, n32_nat, n32_le, n32_lt, n32_eq, n32_add, n32_sub, n32_dec, n32_mul, n32_div, n32_irm, n32_lit, n32_oN, n32_ix, n32_m1, n32_m2, neg_le0, neg_lt0, neg_lt1, neg_le1, n32_min, n32_max, gd_bnd, gd_some]
  refine gd_mono (rowX_a (s.fr f0) r0 (by show 0 < 6; omega)) ?_
  rintro h' ⟨h1, h2⟩
  refine gd_mono (rowX_a ((s.fr f0).fr h2) h1 (by show 1 < 6; omega)) ?_
  rintro h3 ⟨g1, g2⟩
  exact ⟨g1, (f0.tr h2).tr g2⟩
theorem rowM_0 {h : HP} : RowM (setI h 188 1 (n32 0)) [] ∧ fr [22] h (setI h 188 1 (n32 0)) := ⟨⟨by rw [sI_eq]; rfl, fun i hi => absurd hi (Nat.not_lt_zero i)⟩, (fr.rf _ _).sI rfl⟩
theorem ent_m {b c : Bool} {h : HP} {l : List Int64} {v : Int64} (s : SH b c h) (rm : RowM h l) (hl : l.length < 24) : gd (f_X10_enters h 188 v) (fun h' => RowM h' (l ++ [v]) ∧ fr [22] h h') := by
  obtain ⟨r1, r2⟩ := rm
  unfold f_X10_enters
  simp -implicitDefEqProofs (disch := omega) only [s.mod, gP_p, gP_t, ltt_s, bnd_s, n32_nat, n32_le, n32_lt, n32_eq, n32_add, n32_sub, n32_dec, n32_mul, n32_div, n32_irm, n32_lit, n32_oN, n32_ix, n32_m1, n32_m2, neg_le0, neg_lt0, neg_lt1, neg_le1, n32_min, n32_max, r1, sJ_I, gd_some]
  refine ⟨⟨by rw [sI_eq, List.length_append]; rfl, fun i hi => ?_⟩, ((fr.rf _ _).sJ rfl).sI rfl⟩
  rw [List.length_append] at hi
  have hi' : i < l.length + 1 := hi
  rw [sI_J, sJ_i]
  by_cases q : i = l.length
  · rw [if_pos ⟨rfl, q⟩, q]
    simp
  · rw [if_neg (fun z => q z.2), r2 i (by omega)]
    rw [List.getD_eq_getElem?_getD, List.getD_eq_getElem?_getD, List.getElem?_append_left (by omega)]
